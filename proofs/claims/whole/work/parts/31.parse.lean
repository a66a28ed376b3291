/-! THE TEXT read as ORDERS -/
theorem t_dn_f {tx : Int → Int} {tl i : Int} : ∀ j : Int, 0 ≤ j → j < t_dn tx tl i → t_f tx tl (i + j) := by
  intro j j0 j1
  unfold t_dn at j1
  split at j1
  · rename_i g0
    split at j1
    · rename_i g1
      split at j1
      · rename_i g2
        have : j = 0 ∨ j = 1 ∨ j = 2 := by omega
        rcases this with e | e | e
        · rw [e, Int.add_zero]; exact g0
        · rw [e]; exact g1
        · rw [e]; exact g2
      · have : j = 0 ∨ j = 1 := by omega
        rcases this with e | e
        · rw [e, Int.add_zero]; exact g0
        · rw [e]; exact g1
    · rw [show j = 0 by omega, Int.add_zero]; exact g0
  · exfalso; omega
theorem t_pv_bd {tx : Int → Int} {tl i : Int} : ∀ {k : Nat}, (∀ j : Int, 0 ≤ j → j < k → t_f tx tl (i + j)) → 0 ≤ t_pv tx tl i k ∧ t_pv tx tl i k < 10 ^ k
  | 0, _ => by show 0 ≤ (0 : Int) ∧ (0 : Int) < 1; omega
  | k + 1, h => by
    have ih := t_pv_bd (k := k) (fun j j0 j1 => h j j0 (by omega))
    have hk := h k (by omega) (by omega)
    unfold t_f at hk
    show 0 ≤ 10 * t_pv tx tl i k + t_b tx tl (i + k) - 48 ∧ 10 * t_pv tx tl i k + t_b tx tl (i + k) - 48 < 10 ^ (k + 1)
    rw [Int.pow_succ]
    omega
theorem t_nv_bd {tx : Int → Int} {tl sg i : Int} (h : i ≤ tl) : -999 ≤ t_nv tx tl sg i ∧ t_nv tx tl sg i ≤ 999 ∧ (sg ≠ 1 → 0 ≤ t_nv tx tl sg i) := by
  have h1 := t_mi_bd (sg := sg) h (tx := tx)
  have h2 := t_dn_bd h1.2 (tx := tx)
  have h3 := t_pv_bd (tx := tx) (tl := tl) (i := i + t_mi tx tl sg i) (k := (t_dn tx tl (i + t_mi tx tl sg i)).toNat) (fun j j0 j1 => t_dn_f j j0 (by omega))
  have h4 : (10 : Int) ^ (t_dn tx tl (i + t_mi tx tl sg i)).toNat ≤ 1000 := by
    have : (t_dn tx tl (i + t_mi tx tl sg i)).toNat = 0 ∨ (t_dn tx tl (i + t_mi tx tl sg i)).toNat = 1 ∨ (t_dn tx tl (i + t_mi tx tl sg i)).toNat = 2 ∨ (t_dn tx tl (i + t_mi tx tl sg i)).toNat = 3 := by omega
    rcases this with e | e | e | e <;> rw [e] <;> decide
  have h5 : sg ≠ 1 → t_mi tx tl sg i = 0 := fun q => by unfold t_mi; rw [if_neg (fun z => q z.1)]
  unfold t_nv
  split
  · rename_i g
    refine ⟨by omega, by omega, fun q => ?_⟩
    have := h5 q
    omega
  · exact ⟨by omega, by omega, fun _ => by omega⟩
theorem t_ns_R {tx : Int → Int} {tl : Int} {sg : Int → Int} {i : Int} (h : i ≤ tl) : ∀ {k : Nat} (j : Int), -999 ≤ (t_ns tx tl sg i k).2.2 j ∧ (t_ns tx tl sg i k).2.2 j ≤ 999 ∧ (sg j ≠ 1 → 0 ≤ (t_ns tx tl sg i k).2.2 j)
  | 0, j => by show -999 ≤ (0 : Int) ∧ (0 : Int) ≤ 999 ∧ (_ → 0 ≤ (0 : Int)); exact ⟨by omega, by omega, fun _ => by omega⟩
  | k + 1, j => by
    have ih := t_ns_R (sg := sg) (tx := tx) h (k := k) j
    have hb := t_ns_bd (sg := sg) (tx := tx) h (k := k)
    unfold t_ns
    split
    · show -999 ≤ fc_set _ _ _ j ∧ fc_set _ _ _ j ≤ 999 ∧ (_ → 0 ≤ fc_set _ _ _ j)
      unfold fc_set
      have h1 := t_sk_bd (tx := tx) hb.2.1
      have h2 := t_nv_bd (tx := tx) (sg := sg k) h1.2.1
      by_cases q : j = k
      · rw [if_pos q, q]; exact h2
      · rw [if_neg q]; exact ih
    · exact ih
theorem t_cnt_lt {tx : Int → Int} {tl m i : Int} (h : 0 ≤ t_cnt (t_b tx tl i) m) : i < tl := t_b_lt (tx := tx) (fun q => by rw [q] at h; revert h; unfold t_cnt; simp)
theorem t_oN_R {tx : Int → Int} {tl m i : Int} (h : 0 ≤ t_cnt (t_b tx tl i) m) (j : Int) : -999 ≤ (t_oN tx tl m i).2.2 j ∧ (t_oN tx tl m i).2.2 j ≤ 999 ∧ (t_sg (t_b tx tl i) j ≠ 1 → 0 ≤ (t_oN tx tl m i).2.2 j) := by
  have := t_cnt_lt h
  exact t_ns_R (by omega) j
theorem t_cnt_bd {c m : Int} (hm : 2 ≤ m ∧ m ≤ 5) : -1 ≤ t_cnt c m ∧ t_cnt c m ≤ 5 := by
  unfold t_cnt
  split
  · omega
  · split
    · omega
    · split
      · omega
      · split
        · omega
        · split <;> omega
/-- an ORDER's bounds -/
theorem t_ord_bd {tx : Int → Int} {tl m i : Int} (hi0 : 0 ≤ i) (hi : i ≤ tl) (hm : 2 ≤ m ∧ m ≤ 5) : ((t_ord tx tl m i).1 = 1 → 0 ≤ t_cnt (t_b tx tl i) m ∧ (t_oN tx tl m i).1 = 1 ∧ i + 2 + t_cnt (t_b tx tl i) m ≤ (t_ord tx tl m i).2.1 ∧ (t_ord tx tl m i).2.1 ≤ tl ∧ 2 ≤ (t_ord tx tl m i).2.2 ∧ (t_ord tx tl m i).2.2 ≤ 5) ∧ 0 ≤ (t_ord tx tl m i).2.1 := by
  unfold t_ord
  split
  · exact ⟨fun h => by simp at h, hi0⟩
  · rename_i g0
    have hlt := t_cnt_lt (tx := tx) (tl := tl) (m := m) (i := i) (by omega)
    have hb := t_ns_bd (tx := tx) (tl := tl) (sg := t_sg (t_b tx tl i)) (i := i + 1) (by omega) (k := (t_cnt (t_b tx tl i) m).toNat)
    have e : t_ns tx tl (t_sg (t_b tx tl i)) (i + 1) (t_cnt (t_b tx tl i) m).toNat = t_oN tx tl m i := rfl
    rw [e] at hb
    split
    · exact ⟨fun h => by simp at h, by show 0 ≤ (t_oN tx tl m i).2.1; omega⟩
    · rename_i g1
      have g1 : (t_oN tx tl m i).1 = 1 := by omega
      have hs1 := t_sk_bd (tx := tx) (tl := tl) (i := i + 1) (by omega)
      split
      · exact ⟨fun h => by simp at h, by show 0 ≤ t_sk _ _ _; omega⟩
      · rename_i g2
        have hs := t_sk_bd (tx := tx) (tl := tl) (i := (t_oN tx tl m i).2.1) (by omega)
        split
        · exact ⟨fun h => by simp at h, by show 0 ≤ t_sk _ _ _; omega⟩
        · rename_i g3
          have h59 : t_sk tx tl (t_oN tx tl m i).2.1 < tl := t_b_lt (tx := tx) (fun q => g3 (by rw [q]; decide))
          have h4 := hb.2.2.2 g1
          refine ⟨fun _ => ⟨by omega, g1, by show i + 2 + _ ≤ t_sk _ _ _ + 1; omega, by show t_sk _ _ _ + 1 ≤ tl; omega, ?_⟩, by show 0 ≤ t_sk _ _ _ + 1; omega⟩
          show 2 ≤ (if t_b tx tl i = 110 then (t_oN tx tl m i).2.2 0 else m) ∧ (if t_b tx tl i = 110 then (t_oN tx tl m i).2.2 0 else m) ≤ 5
          split
          · rename_i g4
            apply Classical.byContradiction
            intro z
            exact g2 ⟨g4, z⟩
          · exact hm
/-- what parseOrder does -/
def k_po (A : Nat → Int → Int) (F : Nat → Nat → Int) (tx : Int → Int) (tl : Int) (it : Int → Int) (ic dn oc i pt : Int) : Option fc_AV → (Nat → Int → Int) → (Nat → Nat → Int) → Prop := fun r A' F' => r = none ∧ k_tf A F A' F' ∧
  ((t_ord tx tl pt i).1 = 1 → ∃ it' : Int → Int, k_T A' F' tx tl it' (ic + 1 + t_cnt (t_b tx tl i) pt) dn (oc + 1) (t_ord tx tl pt i).2.1 (-1) (t_ord tx tl pt i).2.2 ∧ (∀ j : Int, 0 ≤ j → j < ic → it' j = it j) ∧ it' ic = t_b tx tl i ∧ ∀ k : Int, 0 ≤ k → k < t_cnt (t_b tx tl i) pt → it' (ic + 1 + k) = (t_oN tx tl pt i).2.2 k) ∧
  ((t_ord tx tl pt i).1 ≠ 1 → ∃ (it' : Int → Int) (ic' at' pt' : Int), k_T A' F' tx tl it' ic' dn oc at' (t_ord tx tl pt i).2.1 pt' ∧ 0 ≤ at' ∧ at' ≤ tl)
section PARSE
variable {A : Nat → Int → Int} {F : Nat → Nat → Int} {tx : Int → Int} {tl : Int} {it : Int → Int} {ic dn oc i fl pt : Int}
theorem c_parseOrder (K : k_T A F tx tl it ic dn oc i (-1) pt) (h0 : 0 ≤ i) (h1 : i ≤ tl) (hic : 0 ≤ ic) (hoc : 0 ≤ oc) (hio : ic + oc ≤ i) (hz : oc = 0 → ic = 0) (hm : 2 ≤ pt ∧ pt ≤ 5) : fh_E mX5_parseOrder 3 [vR 139] A F (k_po A F tx tl it ic dn oc i pt) := by
  have htl := K.1.2.2.1
  have hb := t_b_R K h0
  have hcb := t_cnt_bd (c := t_b tx tl i) hm
  refine fh_E.of mi_X5_parseOrder (Nat.le_of_ble_eq_true rfl) ?_
  intro X C T
  refine fc_aload_n C dX5_parseOrder_0 rfl rfl ?_
  refine fh_callV (y := mX5_byteHere) C dX5_parseOrder_1 ml_X5_46 mi_X5_byteHere im_X5_byteHere se_X5_byteHere (c_byteHere K h0 h1) rfl rfl (by decide) rfl (Nat.le_of_ble_eq_true rfl) (Nat.zero_le _) (Nat.zero_le _) rfl ?_
  refine fc_istore_n C dX5_parseOrder_4 rfl (by decide) ?_
  refine fc_aload_n C dX5_parseOrder_5 rfl rfl ?_
  refine fc_iload_n C dX5_parseOrder_6 rfl rfl ?_
  refine fh_callV (y := mX5_numbersOf) C dX5_parseOrder_7 ml_X5_50 mi_X5_numbersOf im_X5_numbersOf se_X5_numbersOf (c_numbersOf K hb) rfl rfl (by decide) rfl (Nat.le_of_ble_eq_true rfl) (Nat.zero_le _) (Nat.zero_le _) rfl ?_
  refine fc_istore_n C dX5_parseOrder_10 rfl (by decide) ?_
  refine fc_iload_n C dX5_parseOrder_11 rfl rfl ?_
  refine fc_if_ge (tgt := 24) C dX5_parseOrder_12 (by decide) (fc_Rm (by omega)) (fun c12 => ?_) (fun c12 => ?_)
  · have hlt := t_cnt_lt (tx := tx) (tl := tl) (m := pt) (i := i) (by omega)
    have e6 := K.2.2.2.2.1
    have hic2 : ic < 120 := by omega
    have K1 := K.at_ (i + 1)
    refine fc_aload_n C dX5_parseOrder_24 rfl rfl ?_
    refine fc_dup C dX5_parseOrder_25 rfl ?_
    refine fh_getf C dX5_parseOrder_26 fl_X5_31 rfl rfl ?_
    refine fc_iconst C dX5_parseOrder_29 ?_
    refine fc_iadd C dX5_parseOrder_30 ?_
    refine fh_putf _ C dX5_parseOrder_31 fl_X5_31 rfl (Nat.le_of_ble_eq_true rfl) rfl rfl ?_
    rw [e6]
    refine fc_aload_n C dX5_parseOrder_34 rfl rfl ?_
    refine fc_iload_n C dX5_parseOrder_35 rfl rfl ?_
    refine fh_callVE (y := mX5_addItem) C dX5_parseOrder_36 ml_X5_54 mi_X5_addItem im_X5_addItem se_X5_addItem (c_addItem K1 hic hic2) rfl rfl (by decide) rfl (Nat.le_of_ble_eq_true rfl) (Nat.zero_le _) (Nat.zero_le _) rfl ?_
    rintro r A1 F1 ⟨rfl, K2, fr2⟩
    have fr2 : k_tf A F A1 F1 := (k_tf.rf.up 6 _).tr fr2
    refine fc_eq (st' := []) rfl rfl ?_
    -- a fault: all is over
    have over : ∀ (A3 : Nat → Int → Int) (F3 : Nat → Nat → Int) (it3 : Int → Int) (ic3 at3 fl3 pt3 : Int) (ls : List (Option fc_AV)), k_T A3 F3 tx tl it3 ic3 dn oc at3 fl3 pt3 → k_tf A F A3 F3 → 0 ≤ at3 → at3 ≤ tl → (t_ord tx tl pt i).1 ≠ 1 → fl3 = (t_ord tx tl pt i).2.1 → 0 ≤ fl3 → fl3 ≤ 200 → fc_W X 0 0 159 (fc_H A3 F3) 126 (some (vR 139) :: ls) [] := by
      intro A3 F3 it3 ic3 at3 fl3 pt3 ls K3 fr3 a0 a1 ho hf f0 f1
      have e7 := K3.2.2.2.2.2.1
      refine fc_aload_n C dX5_parseOrder_126 rfl rfl ?_
      refine fh_getf C dX5_parseOrder_127 fl_X5_34 rfl rfl ?_
      refine fc_iconst C dX5_parseOrder_130 ?_
      refine fc_icmp_ne (tgt := 138) C dX5_parseOrder_131 (by decide) (fc_Rm (by omega)) (fc_Rm (by omega)) (fun c131 => ?_) (fun c131 => ?_)
      · exact fh_vretE C T dX5_parseOrder_138 ⟨rfl, fr3, fun q => absurd q ho, fun _ => ⟨it3, ic3, at3, pt3, by rw [← hf]; exact K3, a0, a1⟩⟩
      · exfalso; omega
    -- all numbers stand
    have done : ∀ (A3 : Nat → Int → Int) (F3 : Nat → Nat → Int) (it3 : Int → Int) (pt3 : Int) (ls : List (Option fc_AV)), k_T A3 F3 tx tl it3 (ic + 1 + t_cnt (t_b tx tl i) pt) dn oc (t_oN tx tl pt i).2.1 (-1) pt3 → k_tf A F A3 F3 → (t_oN tx tl pt i).1 = 1 → ¬ (t_b tx tl i = 110 ∧ ¬ (2 ≤ (t_oN tx tl pt i).2.2 0 ∧ (t_oN tx tl pt i).2.2 0 ≤ 5)) → pt3 = (if t_b tx tl i = 110 then (t_oN tx tl pt i).2.2 0 else pt) → (∀ j : Int, 0 ≤ j → j < ic → it3 j = it j) → it3 ic = t_b tx tl i → (∀ k : Int, 0 ≤ k → k < t_cnt (t_b tx tl i) pt → it3 (ic + 1 + k) = (t_oN tx tl pt i).2.2 k) → fc_W X 0 0 159 (fc_H A3 F3) 126 (some (vR 139) :: ls) [] := by
      intro A3 F3 it3 pt3 ls K3 fr3 g1 g2 ep i1 i2 i3
      have e7 := K3.2.2.2.2.2.1
      have hN := t_oN_bd (tx := tx) (tl := tl) (m := pt) (i := i) (by omega)
      have hs := t_sk_bd (tx := tx) hN.2
      refine fc_aload_n C dX5_parseOrder_126 rfl rfl ?_
      refine fh_getf C dX5_parseOrder_127 fl_X5_34 rfl rfl ?_
      refine fc_iconst C dX5_parseOrder_130 ?_
      refine fc_icmp_ne (tgt := 138) C dX5_parseOrder_131 (by decide) (fc_Rm (by omega)) (fc_Rm (by omega)) (fun c131 => ?_) (fun c131 => ?_)
      · exfalso; omega
      · refine fc_aload_n C dX5_parseOrder_134 rfl rfl ?_
        refine fh_callVE (y := mX5_endOrder) C dX5_parseOrder_135 ml_X5_66 mi_X5_endOrder im_X5_endOrder se_X5_endOrder (c_endOrder K3 (by omega) hN.2) rfl rfl (by decide) rfl (Nat.le_of_ble_eq_true rfl) (Nat.zero_le _) (Nat.zero_le _) rfl ?_
        rintro r A4 F4 ⟨rfl, K4, fr4⟩
        refine fc_eq (st' := []) rfl rfl ?_
        refine fh_vretE C T dX5_parseOrder_138 ⟨rfl, fr3.tr fr4, fun q => ?_, fun q => ?_⟩
        · have q59 : t_b tx tl (t_sk tx tl (t_oN tx tl pt i).2.1) = 59 := by
            apply Classical.byContradiction
            intro z
            unfold t_ord at q
            rw [if_neg (by omega), if_neg (by omega), if_neg g2, if_pos z] at q
            simp at q
          have eo : t_ord tx tl pt i = (1, t_sk tx tl (t_oN tx tl pt i).2.1 + 1, pt3) := by
            unfold t_ord
            rw [if_neg (by omega), if_neg (by omega), if_neg g2, if_neg (fun z => z q59), ep]
          rw [if_pos q59, if_pos q59, if_pos q59] at K4
          refine ⟨it3, ?_, i1, i2, i3⟩
          rw [eo]
          exact K4
        · have q59 : ¬ t_b tx tl (t_sk tx tl (t_oN tx tl pt i).2.1) = 59 := by
            intro z
            apply q
            unfold t_ord
            rw [if_neg (by omega), if_neg (by omega), if_neg g2, if_neg (fun y => y z)]
          have eo : t_ord tx tl pt i = (0, t_sk tx tl (t_oN tx tl pt i).2.1, pt) := by
            unfold t_ord
            rw [if_neg (by omega), if_neg (by omega), if_neg g2, if_pos q59]
          rw [if_neg q59, if_neg q59, if_neg q59] at K4
          refine ⟨it3, ic + 1 + t_cnt (t_b tx tl i) pt, t_sk tx tl (t_oN tx tl pt i).2.1, pt3, ?_, by omega, hs.2.1⟩
          rw [eo]
          exact K4
    have loop : ∀ (m : Nat) (k : Int) (A3 : Nat → Int → Int) (F3 : Nat → Nat → Int) (it3 : Int → Int) (y1 y2 : Option fc_AV), 0 ≤ k → k ≤ t_cnt (t_b tx tl i) pt → t_cnt (t_b tx tl i) pt - k < m → (t_b tx tl i = 110 → k = 0) → (t_ns tx tl (t_sg (t_b tx tl i)) (i + 1) k.toNat).1 = 1 → k_T A3 F3 tx tl it3 (ic + 1 + k) dn oc (t_ns tx tl (t_sg (t_b tx tl i)) (i + 1) k.toNat).2.1 (-1) pt → k_tf A F A3 F3 → (∀ j : Int, 0 ≤ j → j < ic → it3 j = it j) → it3 ic = t_b tx tl i → (∀ j : Int, 0 ≤ j → j < k → it3 (ic + 1 + j) = (t_ns tx tl (t_sg (t_b tx tl i)) (i + 1) k.toNat).2.2 j) → fc_W X 0 0 159 (fc_H A3 F3) 41 [some (vR 139), some (vI (t_b tx tl i)), some (vI (t_cnt (t_b tx tl i) pt)), some (vI k), y1, y2] [] := by
      intro m
      induction m with
      | zero => intro k A3 F3 it3 y1 y2 q0 q1 q2; exfalso; omega
      | succ m ih =>
        intro k A3 F3 it3 y1 y2 q0 q1 q2 q3 g1 K3 fr3 i1 i2 i3
        have hns := t_ns_bd (tx := tx) (tl := tl) (sg := t_sg (t_b tx tl i)) (i := i + 1) (by omega) (k := k.toNat)
        have hpos := hns.2.2.2 g1
        refine fc_iload_n C dX5_parseOrder_41 rfl rfl ?_
        refine fc_iload_n C dX5_parseOrder_42 rfl rfl ?_
        refine fc_icmp_ge (tgt := 126) C dX5_parseOrder_43 (by decide) (fc_Rm (by omega)) (fc_Rm (by omega)) (fun c43 => ?_) (fun c43 => ?_)
        · have ek : k = t_cnt (t_b tx tl i) pt := by omega
          subst ek
          have n110 : t_b tx tl i ≠ 110 := fun z => by
            have := q3 z
            rw [z] at this
            revert this
            unfold t_cnt
            simp
          exact done A3 F3 it3 pt _ K3 fr3 g1 (fun z => n110 z.1) (by rw [if_neg n110]) i1 i2 i3
        · have e7 := K3.2.2.2.2.2.1
          refine fc_aload_n C dX5_parseOrder_46 rfl rfl ?_
          refine fh_getf C dX5_parseOrder_47 fl_X5_34 rfl rfl ?_
          refine fc_iconst C dX5_parseOrder_50 ?_
          refine fc_icmp_ne (tgt := 126) C dX5_parseOrder_51 (by decide) (fc_Rm (by omega)) (fc_Rm (by omega)) (fun c51 => ?_) (fun c51 => ?_)
          · exfalso; omega
          · have hs := t_sk_bd (tx := tx) hns.2.1
            refine fc_aload_n C dX5_parseOrder_54 rfl rfl ?_
            refine fh_callVE (y := mX5_skipBlanks) C dX5_parseOrder_55 ml_X5_40 mi_X5_skipBlanks im_X5_skipBlanks se_X5_skipBlanks (c_skipBlanks K3 (by omega) hns.2.1) rfl rfl (by decide) rfl (Nat.le_of_ble_eq_true rfl) (Nat.zero_le _) (Nat.zero_le _) rfl ?_
            rintro r A4 F4 ⟨rfl, K4, fr4⟩
            refine fc_eq (st' := []) rfl rfl ?_
            have e64 := K4.2.2.2.2.1
            have hsg : t_sg (t_b tx tl i) k = 0 ∨ t_sg (t_b tx tl i) k = 1 := by unfold t_sg; split <;> omega
            -- from the number on
            have num : fc_W X 0 0 159 (fc_H A4 F4) 87 [some (vR 139), some (vI (t_b tx tl i)), some (vI (t_cnt (t_b tx tl i) pt)), some (vI k), some (vI (F4 139 6)), y2] [vI (t_sg (t_b tx tl i) k), vR 139] := by
              rw [e64]
              have hnp := t_np_bd (tx := tx) (sg := t_sg (t_b tx tl i) k) hs.2.1
              have hnv := t_nv_bd (tx := tx) (sg := t_sg (t_b tx tl i) k) hs.2.1
              have ekk : ((k.toNat : Nat) : Int) = k := Int.toNat_of_nonneg q0
              have ek1 : (k + 1).toNat = k.toNat + 1 := by omega
              have estep : t_ns tx tl (t_sg (t_b tx tl i)) (i + 1) (k + 1).toNat = (t_no tx tl (t_sg (t_b tx tl i) k) (t_sk tx tl (t_ns tx tl (t_sg (t_b tx tl i)) (i + 1) k.toNat).2.1), t_np tx tl (t_sg (t_b tx tl i) k) (t_sk tx tl (t_ns tx tl (t_sg (t_b tx tl i)) (i + 1) k.toNat).2.1), fc_set (t_ns tx tl (t_sg (t_b tx tl i)) (i + 1) k.toNat).2.2 k (t_nv tx tl (t_sg (t_b tx tl i) k) (t_sk tx tl (t_ns tx tl (t_sg (t_b tx tl i)) (i + 1) k.toNat).2.1))) := by
                rw [ek1]
                show (if _ then _ else _) = _
                rw [if_pos g1, ekk]
              refine fh_callVE (y := mX5_parseNumber) C dX5_parseOrder_87 ml_X5_58 mi_X5_parseNumber im_X5_parseNumber se_X5_parseNumber (c_parseNumber K4 (by omega) hs.2.1 hsg) rfl rfl (by decide) rfl (Nat.le_of_ble_eq_true rfl) (Nat.zero_le _) (Nat.zero_le _) rfl ?_
              rintro r A5 F5 ⟨rfl, K5, fr5⟩
              refine fc_eq (st' := [vI (t_nv tx tl (t_sg (t_b tx tl i) k) (t_sk tx tl (t_ns tx tl (t_sg (t_b tx tl i)) (i + 1) k.toNat).2.1))]) rfl rfl ?_
              have hic5 : ic + 1 + k < 120 := by
                by_cases z : oc = 0
                · have := hz z; omega
                · omega
              refine fc_istore C dX5_parseOrder_90 (by decide) ?_
              refine fc_aload_n C dX5_parseOrder_92 rfl rfl ?_
              refine fc_iload C dX5_parseOrder_93 rfl ?_
              refine fh_callVE (y := mX5_addItem) C dX5_parseOrder_95 ml_X5_54 mi_X5_addItem im_X5_addItem se_X5_addItem (c_addItem K5 (by omega) hic5) rfl rfl (by decide) rfl (Nat.le_of_ble_eq_true rfl) (Nat.zero_le _) (Nat.zero_le _) rfl ?_
              rintro r A6 F6 ⟨rfl, K6, fr6⟩
              refine fc_eq (st' := []) rfl rfl ?_
              have fr : k_tf A F A6 F6 := ((fr3.tr fr4).tr fr5).tr fr6
              have e76 := K6.2.2.2.2.2.1
              have hno := t_no_01 (tx := tx) (tl := tl) (sg := t_sg (t_b tx tl i) k) (i := t_sk tx tl (t_ns tx tl (t_sg (t_b tx tl i)) (i + 1) k.toNat).2.1)
              have j1 : ∀ j : Int, 0 ≤ j → j < ic → fc_set it3 (ic + 1 + k) (t_nv tx tl (t_sg (t_b tx tl i) k) (t_sk tx tl (t_ns tx tl (t_sg (t_b tx tl i)) (i + 1) k.toNat).2.1)) j = it j := fun j a b => by unfold fc_set; rw [if_neg (by omega)]; exact i1 j a b
              have j2 : fc_set it3 (ic + 1 + k) (t_nv tx tl (t_sg (t_b tx tl i) k) (t_sk tx tl (t_ns tx tl (t_sg (t_b tx tl i)) (i + 1) k.toNat).2.1)) ic = t_b tx tl i := by unfold fc_set; rw [if_neg (by omega)]; exact i2
              have j3 : ∀ j : Int, 0 ≤ j → j < k + 1 → fc_set it3 (ic + 1 + k) (t_nv tx tl (t_sg (t_b tx tl i) k) (t_sk tx tl (t_ns tx tl (t_sg (t_b tx tl i)) (i + 1) k.toNat).2.1)) (ic + 1 + j) = (t_ns tx tl (t_sg (t_b tx tl i)) (i + 1) (k + 1).toNat).2.2 j := fun j a b => by
                rw [estep]
                show _ = fc_set _ k _ j
                unfold fc_set
                by_cases z : j = k
                · rw [if_pos (by omega), if_pos z]
                · rw [if_neg (by omega), if_neg z]; exact i3 j a (by omega)
              -- a number that is none
              have none1 : t_no tx tl (t_sg (t_b tx tl i) k) (t_sk tx tl (t_ns tx tl (t_sg (t_b tx tl i)) (i + 1) k.toNat).2.1) ≠ 1 → (t_ord tx tl pt i).1 ≠ 1 ∧ (t_ord tx tl pt i).2.1 = t_np tx tl (t_sg (t_b tx tl i) k) (t_sk tx tl (t_ns tx tl (t_sg (t_b tx tl i)) (i + 1) k.toNat).2.1) := by
                intro z
                have stay : ∀ d : Nat, t_ns tx tl (t_sg (t_b tx tl i)) (i + 1) ((k + 1).toNat + d) = t_ns tx tl (t_sg (t_b tx tl i)) (i + 1) (k + 1).toNat := by
                  intro d
                  induction d with
                  | zero => rfl
                  | succ d ihd =>
                    have e : t_ns tx tl (t_sg (t_b tx tl i)) (i + 1) ((k + 1).toNat + d + 1) = t_ns tx tl (t_sg (t_b tx tl i)) (i + 1) ((k + 1).toNat + d) := if_neg (by rw [ihd, estep]; exact z)
                    exact e.trans ihd
                have eN : t_oN tx tl pt i = t_ns tx tl (t_sg (t_b tx tl i)) (i + 1) (k + 1).toNat := by
                  have := stay ((t_cnt (t_b tx tl i) pt).toNat - (k + 1).toNat)
                  rw [show (k + 1).toNat + ((t_cnt (t_b tx tl i) pt).toNat - (k + 1).toNat) = (t_cnt (t_b tx tl i) pt).toNat by omega] at this
                  exact this
                have eo : t_ord tx tl pt i = (0, (t_oN tx tl pt i).2.1, pt) := by
                  unfold t_ord
                  rw [if_neg (by omega), if_pos (by rw [eN, estep]; exact z)]
                rw [eo]
                refine ⟨by simp, ?_⟩
                show (t_oN tx tl pt i).2.1 = _
                rw [eN, estep]
              -- back at the head of the loop, with a fault
              have bad : ∀ (A7 : Nat → Int → Int) (F7 : Nat → Nat → Int) (ic7 at7 fl7 pt7 : Int) (it7 : Int → Int) (z1 z2 : Option fc_AV), k_T A7 F7 tx tl it7 ic7 dn oc at7 fl7 pt7 → k_tf A F A7 F7 → 0 ≤ at7 → at7 ≤ tl → (t_ord tx tl pt i).1 ≠ 1 → fl7 = (t_ord tx tl pt i).2.1 → 0 ≤ fl7 → fl7 ≤ 200 → fc_W X 0 0 159 (fc_H A7 F7) 120 [some (vR 139), some (vI (t_b tx tl i)), some (vI (t_cnt (t_b tx tl i) pt)), some (vI k), z1, z2] [] := by
                intro A7 F7 ic7 at7 fl7 pt7 it7 z1 z2 K7 fr7 a0 a1 ho hf f0 f1
                have e77 := K7.2.2.2.2.2.1
                refine fc_iinc C dX5_parseOrder_120 rfl (by decide) ?_
                refine fc_goto (tgt := 41) C dX5_parseOrder_123 (by decide) ?_
                refine fc_iload_n C dX5_parseOrder_41 rfl rfl ?_
                refine fc_iload_n C dX5_parseOrder_42 rfl rfl ?_
                refine fc_icmp_ge (tgt := 126) C dX5_parseOrder_43 (by decide) (fc_Rm (by omega)) (fc_Rm (by omega)) (fun d43 => ?_) (fun d43 => ?_)
                · exact over A7 F7 it7 ic7 at7 fl7 pt7 _ K7 fr7 a0 a1 ho hf f0 f1
                · refine fc_aload_n C dX5_parseOrder_46 rfl rfl ?_
                  refine fh_getf C dX5_parseOrder_47 fl_X5_34 rfl rfl ?_
                  refine fc_iconst C dX5_parseOrder_50 ?_
                  refine fc_icmp_ne (tgt := 126) C dX5_parseOrder_51 (by decide) (fc_Rm (by omega)) (fc_Rm (by omega)) (fun d51 => ?_) (fun d51 => ?_)
                  · exact over A7 F7 it7 ic7 at7 fl7 pt7 _ K7 fr7 a0 a1 ho hf f0 f1
                  · exfalso; omega
              by_cases z : t_no tx tl (t_sg (t_b tx tl i) k) (t_sk tx tl (t_ns tx tl (t_sg (t_b tx tl i)) (i + 1) k.toNat).2.1) = 1
              · rw [if_pos z] at K6 e76
                refine fc_iload_n C dX5_parseOrder_98 rfl rfl ?_
                refine fc_bipush C dX5_parseOrder_99 (by decide) ?_
                refine fc_icmp_ne (tgt := 120) C dX5_parseOrder_101 (by decide) (fc_Rm (by omega)) (fc_Rm (by omega)) (fun c101 => ?_) (fun c101 => ?_)
                · refine fc_iinc C dX5_parseOrder_120 rfl (by decide) ?_
                  refine fc_goto (tgt := 41) C dX5_parseOrder_123 (by decide) ?_
                  exact ih (k + 1) A6 F6 _ _ _ (by omega) (by omega) (by omega) (fun q => absurd q c101) (by rw [estep]; exact z) (by rw [estep]; rw [show ic + 1 + (k + 1) = ic + 1 + k + 1 by omega]; exact K6) fr j1 j2 j3
                · have c101 : t_b tx tl i = 110 := by omega
                  have ek : k = 0 := q3 c101
                  have ec : t_cnt (t_b tx tl i) pt = 1 := by rw [c101]; unfold t_cnt; simp
                  subst ek
                  have eN : t_oN tx tl pt i = t_ns tx tl (t_sg (t_b tx tl i)) (i + 1) (0 + 1 : Int).toNat := by unfold t_oN; rw [ec]; rfl
                  have eN0 : (t_oN tx tl pt i).2.2 0 = t_nv tx tl (t_sg (t_b tx tl i) 0) (t_sk tx tl (i + 1)) := by
                    rw [eN, estep]
                    have hs0 : ∀ (f : Int → Int) (x : Int), fc_set f 0 x 0 = x := fun f x => by unfold fc_set; rw [if_pos rfl]
                    exact hs0 (t_ns tx tl (t_sg (t_b tx tl i)) (i + 1) (Int.toNat 0)).2.2 _
                  refine fc_aload_n C dX5_parseOrder_104 rfl rfl ?_
                  refine fh_getf C dX5_parseOrder_105 fl_X5_34 rfl rfl ?_
                  refine fc_iconst C dX5_parseOrder_108 ?_
                  refine fc_icmp_ne (tgt := 120) C dX5_parseOrder_109 (by decide) (fc_Rm (by omega)) (fc_Rm (by omega)) (fun c109 => ?_) (fun c109 => ?_)
                  · exfalso; omega
                  · refine fc_aload_n C dX5_parseOrder_112 rfl rfl ?_
                    refine fc_iload C dX5_parseOrder_113 rfl ?_
                    refine fc_iload C dX5_parseOrder_115 rfl ?_
                    refine fh_callVE (y := mX5_takePoints) C dX5_parseOrder_117 ml_X5_62 mi_X5_takePoints im_X5_takePoints se_X5_takePoints (c_takePoints K6 (fc_Rm (by omega))) rfl rfl (by decide) rfl (Nat.le_of_ble_eq_true rfl) (Nat.zero_le _) (Nat.zero_le _) rfl ?_
                    rintro r A7 F7 ⟨rfl, rfl, K7, fr7⟩
                    refine fc_eq (st' := []) rfl rfl ?_
                    have e0 : (t_ns tx tl (t_sg (t_b tx tl i)) (i + 1) (0 : Int).toNat).2.1 = i + 1 := rfl
                    rw [e0] at K7 hs hnp
                    by_cases z2 : 2 ≤ (t_oN tx tl pt i).2.2 0 ∧ (t_oN tx tl pt i).2.2 0 ≤ 5
                    · have z3 := z2
                      rw [eN0] at z3
                      rw [if_pos z3, if_pos z3] at K7
                      have e77 := K7.2.2.2.2.2.1
                      refine fc_iinc C dX5_parseOrder_120 rfl (by decide) ?_
                      refine fc_goto (tgt := 41) C dX5_parseOrder_123 (by decide) ?_
                      refine fc_iload_n C dX5_parseOrder_41 rfl rfl ?_
                      refine fc_iload_n C dX5_parseOrder_42 rfl rfl ?_
                      refine fc_icmp_ge (tgt := 126) C dX5_parseOrder_43 (by decide) (fc_Rm (by omega)) (fc_Rm (by omega)) (fun d43 => ?_) (fun d43 => ?_)
                      · refine done A7 F7 _ _ _ ?_ (fr.tr fr7) (by rw [eN, estep]; exact z) (fun y => y.2 z2) (by rw [if_pos c101, eN0]) j1 j2 (fun j a b => by rw [eN]; exact j3 j a (by omega))
                        rw [eN, estep, ec]
                        rw [Int.add_zero ] at K7 ⊢
                        exact K7
                      · exfalso; omega
                    · have z3 := z2
                      rw [eN0] at z3
                      rw [if_neg z3, if_neg z3] at K7
                      have eo : t_ord tx tl pt i = (0, t_sk tx tl (i + 1), pt) := by
                        unfold t_ord
                        rw [if_neg (by omega), if_neg (by rw [eN, estep]; exact fun y => y z), if_pos ⟨c101, z2⟩]
                      exact bad A7 F7 _ _ _ _ _ _ _ K7 (fr.tr fr7) (by omega) (by omega) (by rw [eo]; simp) (by rw [eo]) (by omega) (by omega)
              · rw [if_neg z] at K6 e76
                have hn1 := none1 z
                refine fc_iload_n C dX5_parseOrder_98 rfl rfl ?_
                refine fc_bipush C dX5_parseOrder_99 (by decide) ?_
                refine fc_icmp_ne (tgt := 120) C dX5_parseOrder_101 (by decide) (fc_Rm (by omega)) (fc_Rm (by omega)) (fun c101 => ?_) (fun c101 => ?_)
                · exact bad A6 F6 _ _ _ _ _ _ _ K6 fr (by omega) (by omega) hn1.1 hn1.2.symm (by omega) (by omega)
                · refine fc_aload_n C dX5_parseOrder_104 rfl rfl ?_
                  refine fh_getf C dX5_parseOrder_105 fl_X5_34 rfl rfl ?_
                  refine fc_iconst C dX5_parseOrder_108 ?_
                  refine fc_icmp_ne (tgt := 120) C dX5_parseOrder_109 (by decide) (fc_Rm (by omega)) (fc_Rm (by omega)) (fun c109 => ?_) (fun c109 => ?_)
                  · exact bad A6 F6 _ _ _ _ _ _ _ K6 fr (by omega) (by omega) hn1.1 hn1.2.symm (by omega) (by omega)
                  · exfalso; omega
            refine fc_aload_n C dX5_parseOrder_58 rfl rfl ?_
            refine fh_getf C dX5_parseOrder_59 fl_X5_31 rfl rfl ?_
            refine fc_istore C dX5_parseOrder_62 (by decide) ?_
            refine fc_aload_n C dX5_parseOrder_64 rfl rfl ?_
            refine fc_iload_n C dX5_parseOrder_65 rfl rfl ?_
            refine fc_bipush C dX5_parseOrder_66 (by decide) ?_
            refine fc_icmp_eq (tgt := 82) C dX5_parseOrder_68 (by decide) (fc_Rm (by omega)) (fc_Rm (by omega)) (fun c68 => ?_) (fun c68 => ?_)
            · refine fc_iconst C dX5_parseOrder_82 ?_
              refine fc_goto (tgt := 87) C dX5_parseOrder_83 (by decide) ?_
              refine fc_eq (st' := [vI (t_sg (t_b tx tl i) k), vR 139]) rfl (by unfold t_sg; rw [if_pos (Or.inl c68)]) num
            · refine fc_iload_n C dX5_parseOrder_71 rfl rfl ?_
              refine fc_bipush C dX5_parseOrder_72 (by decide) ?_
              refine fc_icmp_ne (tgt := 86) C dX5_parseOrder_74 (by decide) (fc_Rm (by omega)) (fc_Rm (by omega)) (fun c74 => ?_) (fun c74 => ?_)
              · refine fc_iconst C dX5_parseOrder_86 ?_
                refine fc_eq (st' := [vI (t_sg (t_b tx tl i) k), vR 139]) rfl (by unfold t_sg; rw [if_neg (by omega)]) num
              · refine fc_iload_n C dX5_parseOrder_77 rfl rfl ?_
                refine fc_iconst C dX5_parseOrder_78 ?_
                refine fc_icmp_ne (tgt := 86) C dX5_parseOrder_79 (by decide) (fc_Rm (by omega)) (fc_Rm (by omega)) (fun c79 => ?_) (fun c79 => ?_)
                · refine fc_iconst C dX5_parseOrder_86 ?_
                  refine fc_eq (st' := [vI (t_sg (t_b tx tl i) k), vR 139]) rfl (by unfold t_sg; rw [if_neg (by omega)]) num
                · refine fc_iconst C dX5_parseOrder_82 ?_
                  refine fc_goto (tgt := 87) C dX5_parseOrder_83 (by decide) ?_
                  refine fc_eq (st' := [vI (t_sg (t_b tx tl i) k), vR 139]) rfl (by unfold t_sg; rw [if_pos (by omega)]) num
    refine fc_iconst C dX5_parseOrder_39 ?_
    refine fc_istore_n C dX5_parseOrder_40 rfl (by decide) ?_
    exact loop 7 0 A1 F1 _ none none (by omega) (by omega) (by omega) (fun _ => rfl) rfl (by rw [Int.add_zero]; exact K2) fr2 (fun j a b => by unfold fc_set; rw [if_neg (by omega)]) (by unfold fc_set; rw [if_pos rfl]) (fun j a b => by exfalso; omega)
  · have e6 := K.2.2.2.2.1
    have eo : t_ord tx tl pt i = (0, i, pt) := by unfold t_ord; rw [if_pos (by omega)]
    refine fc_aload_n C dX5_parseOrder_15 rfl rfl ?_
    refine fc_aload_n C dX5_parseOrder_16 rfl rfl ?_
    refine fh_getf C dX5_parseOrder_17 fl_X5_31 rfl rfl ?_
    refine fh_putf _ C dX5_parseOrder_20 fl_X5_34 rfl (Nat.le_of_ble_eq_true rfl) rfl rfl ?_
    refine fh_vretE C T dX5_parseOrder_23 ⟨rfl, k_tf.rf.up 7 _, fun q => ?_, fun q => ⟨it, ic, i, pt, ?_, h0, h1⟩⟩
    · rw [eo] at q; simp at q
    · rw [eo, e6]; exact K.fl_ i
end PARSE
