/-! the reference: THE TEXT, its numbers -/
def m_T (A : Nat → Int → Int) (F : Nat → Nat → Int) (tx : Int → Int) (tl i vl pt nt : Int) : Prop := F 143 15 = tl ∧ (0 ≤ tl ∧ tl ≤ 120) ∧ (∀ j : Int, 0 ≤ j → j < tl → A 157 j = tx j ∧ 0 ≤ tx j ∧ tx j ≤ 127) ∧ F 143 16 = i ∧ F 143 17 = vl ∧ F 143 19 = pt ∧ F 143 20 = nt
def m_tf (F F' : Nat → Nat → Int) : Prop := (∀ j : Nat, j ≠ 143 → F' j = F j) ∧ F' 143 3 = F 143 3 ∧ F' 143 15 = F 143 15
section REF7
variable {A : Nat → Int → Int} {F F' : Nat → Nat → Int} {tx : Int → Int} {tl i vl pt nt : Int}
theorem m_tf.rf : m_tf F F := ⟨fun _ _ => rfl, rfl, rfl⟩
theorem m_tf.tr {F1 F2 : Nat → Nat → Int} (h : m_tf F F1) (h' : m_tf F1 F2) : m_tf F F2 := ⟨fun j hj => (h'.1 j hj).trans (h.1 j hj), h'.2.1.trans h.2.1, h'.2.2.trans h.2.2⟩
theorem m_tf.up {F1 : Nat → Nat → Int} (h : m_tf F F1) {k : Nat} {z : Int} (h3 : k ≠ 3) (h15 : k ≠ 15) : m_tf F (ff_up F1 143 k z) := ⟨fun j hj => by rw [ff_n hj]; exact h.1 j hj, by rw [ff_k (fun q => h3 q.symm)]; exact h.2.1, by rw [ff_k (fun q => h15 q.symm)]; exact h.2.2⟩
theorem m_T.at_ (T : m_T A F tx tl i vl pt nt) (j : Int) : m_T A (ff_up F 143 16 j) tx tl j vl pt nt := by
  obtain ⟨a1, a2, a3, a4, a5, a6, a7⟩ := T
  exact ⟨by rw [ff_k (by omega)]; exact a1, a2, a3, ff_s, by rw [ff_k (by omega)]; exact a5, by rw [ff_k (by omega)]; exact a6, by rw [ff_k (by omega)]; exact a7⟩
theorem m_T.vl_ (T : m_T A F tx tl i vl pt nt) (j : Int) : m_T A (ff_up F 143 17 j) tx tl i j pt nt := by
  obtain ⟨a1, a2, a3, a4, a5, a6, a7⟩ := T
  exact ⟨by rw [ff_k (by omega)]; exact a1, a2, a3, by rw [ff_k (by omega)]; exact a4, ff_s, by rw [ff_k (by omega)]; exact a6, by rw [ff_k (by omega)]; exact a7⟩
theorem m_T.pt_ (T : m_T A F tx tl i vl pt nt) (j : Int) : m_T A (ff_up F 143 19 j) tx tl i vl j nt := by
  obtain ⟨a1, a2, a3, a4, a5, a6, a7⟩ := T
  exact ⟨by rw [ff_k (by omega)]; exact a1, a2, a3, by rw [ff_k (by omega)]; exact a4, by rw [ff_k (by omega)]; exact a5, ff_s, by rw [ff_k (by omega)]; exact a7⟩
theorem m_T.nt_ (T : m_T A F tx tl i vl pt nt) (j : Int) : m_T A (ff_up F 143 20 j) tx tl i vl pt j := by
  obtain ⟨a1, a2, a3, a4, a5, a6, a7⟩ := T
  exact ⟨by rw [ff_k (by omega)]; exact a1, a2, a3, by rw [ff_k (by omega)]; exact a4, by rw [ff_k (by omega)]; exact a5, by rw [ff_k (by omega)]; exact a6, ff_s⟩
theorem m_T.ar {A' : Nat → Int → Int} (T : m_T A F tx tl i vl pt nt) (h : A' 157 = A 157) : m_T A' F tx tl i vl pt nt := by
  obtain ⟨a1, a2, a3, a4⟩ := T
  exact ⟨a1, a2, fun j j0 j1 => by rw [h]; exact a3 j j0 j1, a4⟩
theorem m_T.b (T : m_T A F tx tl i vl pt nt) {j : Int} (h : 0 ≤ j) : -1 ≤ t_b tx tl j ∧ t_b tx tl j ≤ 127 := by
  unfold t_b
  split
  · rename_i g
    have := T.2.2.1 j h g
    omega
  · omega
theorem r_here (T0 : m_T A F tx tl i vl pt nt) (h0 : 0 ≤ i) (h1 : i ≤ tl) : fh_E mX7_here 0 [vR 143] A F (fun r A' F' => r = some (vI (t_b tx tl (t_sk tx tl i))) ∧ A' = A ∧ m_T A' F' tx tl (t_sk tx tl i) vl pt nt ∧ m_tf F F') := by
  refine fh_E.of mi_X7_here (Nat.le_of_ble_eq_true rfl) ?_
  intro X C T
  have fin : ∀ (j : Int) (F1 : Nat → Nat → Int), 0 ≤ j → j ≤ tl → m_T A F1 tx tl j vl pt nt → m_tf F F1 → t_sk tx tl i = j → fc_W X 0 0 159 (fc_H A F1) 38 [some (vR 143)] [] := by
    intro j F1 j0 j1 T1 fr ej
    obtain ⟨a1, a2, a3, a4, -⟩ := id T1
    refine fc_aload_n C dX7_here_38 rfl rfl ?_
    refine fh_getf C dX7_here_39 fl_X7_300 rfl rfl ?_
    refine fc_aload_n C dX7_here_42 rfl rfl ?_
    refine fh_getf C dX7_here_43 fl_X7_297 rfl rfl ?_
    refine fc_icmp_ge (tgt := 61) C dX7_here_46 (by decide) (fc_Rm (by omega)) (fc_Rm (by omega)) (fun c46 => ?_) (fun c46 => ?_)
    · refine fc_iconst C dX7_here_61 ?_
      exact fh_iretE C T dX7_here_62 (Or.inl rfl) ⟨by rw [ej, t_b_ge (by omega)], rfl, by rw [ej]; exact T1, fr⟩
    · refine fc_aload_n C dX7_here_49 rfl rfl ?_
      refine fh_getf C dX7_here_50 fl_X7_50 rfl rfl ?_
      refine fc_aload_n C dX7_here_53 rfl rfl ?_
      refine fh_getf C dX7_here_54 fl_X7_300 rfl rfl ?_
      refine fh_iaload C dX7_here_57 (fun _ _ => rfl) (by omega) (by omega) (by decide) ?_
      refine fc_goto (tgt := 62) C dX7_here_58 (by decide) ?_
      refine fh_iretE C T dX7_here_62 (Or.inl rfl) ⟨?_, rfl, by rw [ej]; exact T1, fr⟩
      rw [ej, a4, (a3 j j0 (by omega)).1]
      unfold t_b
      rw [if_pos (by omega)]
  have loop : ∀ (m : Nat) (j : Int) (F1 : Nat → Nat → Int), 0 ≤ j → j ≤ tl → tl - j < m → m_T A F1 tx tl j vl pt nt → m_tf F F1 → t_sk tx tl i = t_sk tx tl j → fc_W X 0 0 159 (fc_H A F1) 0 [some (vR 143)] [] := by
    intro m
    induction m with
    | zero => intro j F1 z0 z1 z2; exfalso; omega
    | succ m ih =>
      intro j F1 z0 z1 z2 T1 fr ej
      obtain ⟨a1, a2, a3, a4, -⟩ := id T1
      refine fc_aload_n C dX7_here_0 rfl rfl ?_
      refine fh_getf C dX7_here_1 fl_X7_300 rfl rfl ?_
      refine fc_aload_n C dX7_here_4 rfl rfl ?_
      refine fh_getf C dX7_here_5 fl_X7_297 rfl rfl ?_
      refine fc_icmp_ge (tgt := 38) C dX7_here_8 (by decide) (fc_Rm (by omega)) (fc_Rm (by omega)) (fun c8 => ?_) (fun c8 => ?_)
      · exact fin j F1 z0 z1 T1 fr (by rw [ej, t_sk_no (by rw [t_b_ge (by omega)]; decide)])
      · have hj := a3 j z0 (by omega)
        have eb : t_b tx tl j = tx j := by unfold t_b; rw [if_pos (by omega)]
        refine fc_aload_n C dX7_here_11 rfl rfl ?_
        refine fh_getf C dX7_here_12 fl_X7_50 rfl rfl ?_
        refine fc_aload_n C dX7_here_15 rfl rfl ?_
        refine fh_getf C dX7_here_16 fl_X7_300 rfl rfl ?_
        refine fh_iaload C dX7_here_19 (fun _ _ => rfl) (by omega) (by omega) (by decide) ?_
        refine fc_eq (st' := [vI (tx j)]) rfl (by rw [a4, hj.1]) ?_
        refine fc_bipush C dX7_here_20 (by decide) ?_
        refine fc_icmp_ne (tgt := 38) C dX7_here_22 (by decide) (fc_Rm (by omega)) (fc_Rm (by omega)) (fun c22 => ?_) (fun c22 => ?_)
        · exact fin j F1 z0 z1 T1 fr (by rw [ej, t_sk_no (by rw [eb]; exact c22)])
        · refine fc_aload_n C dX7_here_25 rfl rfl ?_
          refine fc_dup C dX7_here_26 rfl ?_
          refine fh_getf C dX7_here_27 fl_X7_300 rfl rfl ?_
          refine fc_iconst C dX7_here_30 ?_
          refine fc_iadd C dX7_here_31 ?_
          refine fh_putf _ C dX7_here_32 fl_X7_300 rfl (Nat.le_of_ble_eq_true rfl) rfl rfl ?_
          refine fc_goto (tgt := 0) C dX7_here_35 (by decide) ?_
          rw [a4]
          exact ih (j + 1) _ (by omega) (by omega) (by omega) (T1.at_ _) (fr.up (by omega) (by omega)) (by rw [ej, t_sk_yes (by rw [eb]; exact c22)])
  exact loop 122 i F h0 h1 (by have := T0.2.1; omega) T0 m_tf.rf rfl
theorem r_isFigure (T0 : m_T A F tx tl i vl pt nt) {j : Int} (h0 : 0 ≤ j) (h1 : j ≤ tl) : fh_M mX7_isFigure 1 [vR 143, vI j] A F (some (vI (fc_ind (t_f tx tl j)))) A F := by
  obtain ⟨a1, a2, a3, a4, -⟩ := id T0
  refine fh_M.of mi_X7_isFigure (Nat.le_of_ble_eq_true rfl) ?_
  intro X C T
  have no : ¬ t_f tx tl j → fc_W X 0 0 159 (fc_H A F) 31 [some (vR 143), some (vI j)] [] := by
    intro h
    refine fc_iconst C dX7_isFigure_31 ?_
    exact fh_zret C T dX7_isFigure_32 (by omega) (by rw [fc_ind_f h]) rfl
  refine fc_iload_n C dX7_isFigure_0 rfl rfl ?_
  refine fc_aload_n C dX7_isFigure_1 rfl rfl ?_
  refine fh_getf C dX7_isFigure_2 fl_X7_297 rfl rfl ?_
  refine fc_icmp_ge (tgt := 31) C dX7_isFigure_5 (by decide) (fc_Rm (by omega)) (fc_Rm (by omega)) (fun c5 => ?_) (fun c5 => ?_)
  · exact no (fun h => by have := t_f_lt h; omega)
  · have hj := a3 j h0 (by omega)
    have eb : t_b tx tl j = tx j := by unfold t_b; rw [if_pos (by omega)]
    refine fc_aload_n C dX7_isFigure_8 rfl rfl ?_
    refine fh_getf C dX7_isFigure_9 fl_X7_50 rfl rfl ?_
    refine fc_iload_n C dX7_isFigure_12 rfl rfl ?_
    refine fh_iaload C dX7_isFigure_13 (fun _ _ => rfl) (by omega) (by omega) (by decide) ?_
    refine fc_eq (st' := [vI (tx j)]) rfl (by rw [hj.1]) ?_
    refine fc_i2l C dX7_isFigure_14 (fc_Rm (by omega)) ?_
    refine fc_ldc2_w C dX7_isFigure_15 kc_X7_303 ?_
    refine fc_ldc2_w C dX7_isFigure_18 kc_X7_305 ?_
    refine fh_callS (y := mX7_in) C dX7_isFigure_21 ml_X7_64 mi_X7_in st_X7_in (r_in (fc_RLm (by omega)) (fc_RLm (by omega)) (fc_RLm (by omega))) (by decide) rfl (Nat.le_of_ble_eq_true rfl) (Nat.zero_le _) (Nat.zero_le _) rfl ?_
    refine fc_if_eq (tgt := 31) C dX7_isFigure_24 (by decide) (fc_ind_R _) (fun c24 => ?_) (fun c24 => ?_)
    · have c24 := fc_ind_0 c24
      exact no (fun h => c24 (by unfold t_f at h; omega))
    · have c24 := fc_ind_ne c24
      refine fc_iconst C dX7_isFigure_27 ?_
      refine fc_goto (tgt := 32) C dX7_isFigure_28 (by decide) ?_
      exact fh_zret C T dX7_isFigure_32 (by omega) (by rw [fc_ind_t (by unfold t_f; omega)]) rfl
def m_tk (A : Nat → Int → Int) (F : Nat → Nat → Int) (tx : Int → Int) (tl sg i pt nt : Int) : Option fc_AV → (Nat → Int → Int) → (Nat → Nat → Int) → Prop := fun r A' F' => r = some (vI (t_no tx tl sg i)) ∧ A' = A ∧ m_T A' F' tx tl (t_np tx tl sg i) (t_nv tx tl sg i) pt nt ∧ m_tf F F'
theorem r_takes (T0 : m_T A F tx tl i vl pt nt) (h0 : 0 ≤ i) (h1 : i ≤ tl) {sg : Int} (hsg : sg = 0 ∨ sg = 1) : fh_E mX7_takes 2 [vR 143, vI sg] A F (m_tk A F tx tl sg (t_sk tx tl i) pt nt) := by
  have hs := t_sk_bd (tx := tx) h1
  refine fh_E.of mi_X7_takes (Nat.le_of_ble_eq_true rfl) ?_
  intro X C T
  generalize ej : t_sk tx tl i = j at hs T
  have hmb := t_mi_bd (tx := tx) (sg := sg) hs.2.1
  have hdb := t_dn_bd (tx := tx) hmb.2
  have htl := T0.2.1
  -- behind the figures
  have fin : ∀ (c : Int) (A1 : Nat → Int → Int) (F1 : Nat → Nat → Int) (z : Int), A1 = A → fc_R c → (c = -1 → t_dn tx tl (j + t_mi tx tl sg j) = 0) → z = t_nv tx tl sg j → m_T A1 F1 tx tl (t_np tx tl sg j) z pt nt → m_tf F F1 → fc_W X 0 0 159 (fc_H A1 F1) 135 [some (vR 143), some (vI sg), some (vI (t_mi tx tl sg j)), some (vI c), some (vI (t_dn tx tl (j + t_mi tx tl sg j)))] [] := by
    intro c A1 F1 z eA hc hc1 ez T1 fr
    have hnp := t_np_bd (tx := tx) (sg := sg) hs.2.1
    subst ez
    have no : t_no tx tl sg j = 0 → fc_W X 0 0 159 (fc_H A1 F1) 160 [some (vR 143), some (vI sg), some (vI (t_mi tx tl sg j)), some (vI c), some (vI (t_dn tx tl (j + t_mi tx tl sg j)))] [] := by
      intro h
      refine fc_iconst C dX7_takes_160 ?_
      exact fh_iretE C T dX7_takes_161 (Or.inr ⟨rfl, by omega⟩) ⟨by rw [h], eA, T1, fr⟩
    refine fc_iload_n C dX7_takes_135 rfl rfl ?_
    refine fc_iconst C dX7_takes_136 ?_
    refine fc_icmp_eq (tgt := 160) C dX7_takes_137 (by decide) (hc) (fc_Rm (by omega)) (fun c137 => ?_) (fun c137 => ?_)
    · exact no (by unfold t_no; rw [if_neg (fun h => by have := hc1 c137; omega)])
    · refine fc_iload C dX7_takes_140 rfl ?_
      refine fc_if_le (tgt := 160) C dX7_takes_142 (by decide) (fc_Rm (by omega)) (fun c142 => ?_) (fun c142 => ?_)
      · exact no (by unfold t_no; rw [if_neg (by omega)])
      · have e16 := T1.2.2.2.1
        refine fc_aload_n C dX7_takes_145 rfl rfl ?_
        refine fc_aload_n C dX7_takes_146 rfl rfl ?_
        refine fh_getf C dX7_takes_147 fl_X7_300 rfl rfl ?_
        rw [e16]
        refine fh_callV (y := mX7_isFigure) C dX7_takes_150 ml_X7_313 mi_X7_isFigure im_X7_isFigure se_X7_isFigure (r_isFigure T1 (j := t_np tx tl sg j) (by omega) hnp.2) rfl rfl (by decide) rfl (Nat.le_of_ble_eq_true rfl) (Nat.zero_le _) (Nat.zero_le _) rfl ?_
        refine fc_if_ne (tgt := 160) C dX7_takes_153 (by decide) (fc_ind_R _) (fun c153 => ?_) (fun c153 => ?_)
        · have c153 := fc_ind_ne c153
          exact no (by unfold t_no; rw [if_neg (fun h => h.2 c153)])
        · have c153 := fc_ind_0 c153
          refine fc_iconst C dX7_takes_156 ?_
          refine fc_goto (tgt := 161) C dX7_takes_157 (by decide) ?_
          exact fh_iretE C T dX7_takes_161 (Or.inr ⟨rfl, by omega⟩) ⟨by unfold t_no; rw [if_pos ⟨c142, c153⟩], eA, T1, fr⟩
  have figs : ∀ (m : Nat) (k : Int) (c : Int) (A1 : Nat → Int → Int) (F1 : Nat → Nat → Int), 0 ≤ k → k ≤ 3 → 3 - k < m → j + t_mi tx tl sg j + k ≤ tl → A1 = A → fc_R c → (c = -1 → ¬ t_f tx tl (j + t_mi tx tl sg j)) → (∀ q : Int, 0 ≤ q → q < k → t_f tx tl (j + t_mi tx tl sg j + q)) → m_T A1 F1 tx tl (j + t_mi tx tl sg j + k) (t_pv tx tl (j + t_mi tx tl sg j) k.toNat) pt nt → m_tf F F1 → fc_W X 0 0 159 (fc_H A1 F1) 58 [some (vR 143), some (vI sg), some (vI (t_mi tx tl sg j)), some (vI c), some (vI k)] [] := by
    intro m
    induction m with
    | zero => intro k c A1 F1 z0 z1 z2; exfalso; omega
    | succ m ih =>
      intro k c A1 F1 z0 z1 z2 zt eA hc hc1 hf T1 fr
      have e16 := T1.2.2.2.1
      have e17 := T1.2.2.2.2.1
      have done : (k = 3 ∨ ¬ t_f tx tl (j + t_mi tx tl sg j + k)) → fc_W X 0 0 159 (fc_H A1 F1) 115 [some (vR 143), some (vI sg), some (vI (t_mi tx tl sg j)), some (vI c), some (vI k)] [] := by
        intro h3
        have ek := t_dn_eq z0 z1 hf h3
        have c0 : c = -1 → t_dn tx tl (j + t_mi tx tl sg j) = 0 := fun z => by
          unfold t_dn
          rw [if_neg (hc1 z)]
        refine fc_aload_n C dX7_takes_115 rfl rfl ?_
        refine fc_iload_n C dX7_takes_116 rfl rfl ?_
        refine fc_if_eq (tgt := 128) C dX7_takes_117 (by decide) (fc_Rm (by omega)) (fun c117 => ?_) (fun c117 => ?_)
        · refine fc_aload_n C dX7_takes_128 rfl rfl ?_
          refine fh_getf C dX7_takes_129 fl_X7_310 rfl rfl ?_
          refine fc_eq (st' := [vI (t_nv tx tl sg j), vR 143]) rfl (by rw [e17]; unfold t_nv; rw [if_neg (by omega), ek]) ?_
          refine fh_putf _ C dX7_takes_132 fl_X7_310 rfl (Nat.le_of_ble_eq_true rfl) rfl rfl ?_
          rw [← ek]
          refine fin c A1 _ _ eA hc c0 rfl ?_ (fr.up (by omega) (by omega))
          have := T1.vl_ (t_nv tx tl sg j)
          rw [show j + t_mi tx tl sg j + k = t_np tx tl sg j by unfold t_np; omega] at this
          exact this
        · refine fc_aload_n C dX7_takes_120 rfl rfl ?_
          refine fh_getf C dX7_takes_121 fl_X7_310 rfl rfl ?_
          refine fc_ineg C dX7_takes_124 ?_
          refine fc_goto (tgt := 132) C dX7_takes_125 (by decide) ?_
          refine fc_eq (st' := [vI (t_nv tx tl sg j), vR 143]) rfl (by rw [e17]; unfold t_nv; rw [if_pos (by omega), ek]) ?_
          refine fh_putf _ C dX7_takes_132 fl_X7_310 rfl (Nat.le_of_ble_eq_true rfl) rfl rfl ?_
          rw [← ek]
          refine fin c A1 _ _ eA hc c0 rfl ?_ (fr.up (by omega) (by omega))
          have := T1.vl_ (t_nv tx tl sg j)
          rw [show j + t_mi tx tl sg j + k = t_np tx tl sg j by unfold t_np; omega] at this
          exact this
      refine fc_aload_n C dX7_takes_58 rfl rfl ?_
      refine fc_aload_n C dX7_takes_59 rfl rfl ?_
      refine fh_getf C dX7_takes_60 fl_X7_300 rfl rfl ?_
      rw [e16]
      refine fh_callV (y := mX7_isFigure) C dX7_takes_63 ml_X7_313 mi_X7_isFigure im_X7_isFigure se_X7_isFigure (r_isFigure T1 (j := j + t_mi tx tl sg j + k) (by omega) (by omega)) rfl rfl (by decide) rfl (Nat.le_of_ble_eq_true rfl) (Nat.zero_le _) (Nat.zero_le _) rfl ?_
      refine fc_if_eq (tgt := 115) C dX7_takes_66 (by decide) (fc_ind_R _) (fun c66 => ?_) (fun c66 => ?_)
      · have c66 := fc_ind_0 c66
        exact done (Or.inr c66)
      · have c66 := fc_ind_ne c66
        have hlt := t_f_lt c66
        refine fc_iload C dX7_takes_69 rfl ?_
        refine fc_iconst C dX7_takes_71 ?_
        refine fc_icmp_ge (tgt := 115) C dX7_takes_72 (by decide) (fc_Rm (by omega)) (fc_Rm (by omega)) (fun c72 => ?_) (fun c72 => ?_)
        · exact done (Or.inl (by omega))
        · have hj9 := T1.2.2.1 (j + t_mi tx tl sg j + k) (by omega) hlt
          have eb : t_b tx tl (j + t_mi tx tl sg j + k) = tx (j + t_mi tx tl sg j + k) := by unfold t_b; rw [if_pos hlt]
          refine fc_aload_n C dX7_takes_75 rfl rfl ?_
          refine fc_bipush C dX7_takes_76 (by decide) ?_
          refine fc_aload_n C dX7_takes_78 rfl rfl ?_
          refine fh_getf C dX7_takes_79 fl_X7_310 rfl rfl ?_
          refine fc_imul C dX7_takes_82 ?_
          refine fc_aload_n C dX7_takes_83 rfl rfl ?_
          refine fh_getf C dX7_takes_84 fl_X7_50 rfl rfl ?_
          refine fc_aload_n C dX7_takes_87 rfl rfl ?_
          refine fh_getf C dX7_takes_88 fl_X7_300 rfl rfl ?_
          refine fh_iaload C dX7_takes_91 (fun _ _ => rfl) (by omega) (by omega) (by decide) ?_
          refine fc_iadd C dX7_takes_92 ?_
          refine fc_bipush C dX7_takes_93 (by decide) ?_
          refine fc_isub C dX7_takes_95 ?_
          have ep : t_pv tx tl (j + t_mi tx tl sg j) (k + 1).toNat = 10 * t_pv tx tl (j + t_mi tx tl sg j) k.toNat + t_b tx tl (j + t_mi tx tl sg j + k) - 48 := by
            rw [show (k + 1).toNat = k.toNat + 1 by omega]
            show 10 * t_pv tx tl (j + t_mi tx tl sg j) k.toNat + t_b tx tl (j + t_mi tx tl sg j + ((k.toNat : Nat) : Int)) - 48 = _
            rw [Int.toNat_of_nonneg z0]
          refine fc_eq (st' := [vI (t_pv tx tl (j + t_mi tx tl sg j) (k + 1).toNat), vR 143]) rfl (by rw [ep, e17, e16, hj9.1, eb]) ?_
          refine fh_putf _ C dX7_takes_96 fl_X7_310 rfl (Nat.le_of_ble_eq_true rfl) rfl rfl ?_
          have T2 := T1.vl_ (t_pv tx tl (j + t_mi tx tl sg j) (k + 1).toNat)
          have e16' := T2.2.2.2.1
          refine fc_aload_n C dX7_takes_99 rfl rfl ?_
          refine fc_dup C dX7_takes_100 rfl ?_
          refine fh_getf C dX7_takes_101 fl_X7_300 rfl rfl ?_
          refine fc_iconst C dX7_takes_104 ?_
          refine fc_iadd C dX7_takes_105 ?_
          refine fh_putf _ C dX7_takes_106 fl_X7_300 rfl (Nat.le_of_ble_eq_true rfl) rfl rfl ?_
          refine fc_iinc C dX7_takes_109 rfl (by decide) ?_
          refine fc_goto (tgt := 58) C dX7_takes_112 (by decide) ?_
          rw [e16']
          refine ih (k + 1) c A1 _ (by omega) (by omega) (by omega) (by omega) eA hc hc1 (fun q q0 q1 => ?_) ?_ ((fr.up (by omega) (by omega)).up (by omega) (by omega))
          · by_cases e : q = k
            · rw [e]; exact c66
            · exact hf q q0 (by omega)
          · have := T2.at_ (j + t_mi tx tl sg j + k + 1)
            rw [show j + t_mi tx tl sg j + (k + 1) = j + t_mi tx tl sg j + k + 1 by omega]
            exact this
  have start : ∀ (c : Int) (A1 : Nat → Int → Int) (F1 : Nat → Nat → Int) (vl : Int), A1 = A → fc_R c → (c = -1 → ¬ t_f tx tl (j + t_mi tx tl sg j)) → m_T A1 F1 tx tl (j + t_mi tx tl sg j) vl pt nt → m_tf F F1 → fc_W X 0 0 159 (fc_H A1 F1) 49 [some (vR 143), some (vI sg), some (vI (t_mi tx tl sg j)), none, none] [vI c] := by
    intro c A1 F1 vl eA hc hc1 T1 fr
    refine fc_istore_n C dX7_takes_49 rfl (by decide) ?_
    refine fc_iconst C dX7_takes_50 ?_
    refine fc_istore C dX7_takes_51 (by decide) ?_
    refine fc_aload_n C dX7_takes_53 rfl rfl ?_
    refine fc_iconst C dX7_takes_54 ?_
    refine fh_putf _ C dX7_takes_55 fl_X7_310 rfl (Nat.le_of_ble_eq_true rfl) rfl rfl ?_
    refine figs 4 0 c A1 _ (by omega) (by omega) (by omega) (by omega) eA hc hc1 (fun q q0 q1 => by omega) ?_ (fr.up (by omega) (by omega))
    have := T1.vl_ 0
    rw [Int.add_zero]
    exact this
  refine fc_aload_n C dX7_takes_0 rfl rfl ?_
  refine fh_callVE (y := mX7_here) C dX7_takes_1 ml_X7_307 mi_X7_here im_X7_here se_X7_here (r_here T0 h0 h1) rfl rfl (by decide) rfl (Nat.le_of_ble_eq_true rfl) (Nat.zero_le _) (Nat.zero_le _) rfl ?_
  rintro r A1 F1 ⟨rfl, eA, T1, fr1⟩
  rw [ej] at T1
  refine fc_eq (st' := [vI (t_b tx tl j)]) rfl (by rw [ej]; rfl) ?_
  have hb := T1.b (j := j) (by omega)
  have mid : ∀ w : Int, w = t_mi tx tl sg j → fc_W X 0 0 159 (fc_H A1 F1) 18 [some (vR 143), some (vI sg), none, none, none] [vI w] := by
    intro w ew
    subst ew
    have e16 := T1.2.2.2.1
    have add : ∀ x : Int, x = t_mi tx tl sg j → fc_W X 0 0 159 (fc_H A1 F1) 33 [some (vR 143), some (vI sg), some (vI (t_mi tx tl sg j)), none, none] [vI x, vI (F1 143 16), vR 143] := by
      intro x ex
      refine fc_iadd C dX7_takes_33 ?_
      refine fh_putf _ C dX7_takes_34 fl_X7_300 rfl (Nat.le_of_ble_eq_true rfl) rfl rfl ?_
      have T2 := T1.at_ (j + t_mi tx tl sg j)
      rw [e16, ex]
      refine fc_iload_n C dX7_takes_37 rfl rfl ?_
      refine fc_if_eq (tgt := 45) C dX7_takes_38 (by decide) (fc_Rm (by omega)) (fun c38 => ?_) (fun c38 => ?_)
      · have em : t_mi tx tl sg j = 0 := c38
        rw [em, Int.add_zero] at T2
        rw [em, Int.add_zero]
        refine fc_aload_n C dX7_takes_45 rfl rfl ?_
        refine fh_callVE (y := mX7_here) C dX7_takes_46 ml_X7_307 mi_X7_here im_X7_here se_X7_here (r_here T2 (by omega) hs.2.1) rfl rfl (by decide) rfl (Nat.le_of_ble_eq_true rfl) (Nat.zero_le _) (Nat.zero_le _) rfl ?_
        rintro r A3 F3 ⟨rfl, eA3, T3, fr3⟩
        rw [t_sk_no hs.2.2] at T3
        refine fc_eq (st' := [vI (t_b tx tl j)]) rfl (by rw [t_sk_no hs.2.2]; rfl) ?_
        have := start (t_b tx tl j) A3 F3 vl (eA3.trans eA) (fc_Rm (by omega)) (fun z => by rw [em, Int.add_zero]; unfold t_f; omega) (by rw [em, Int.add_zero]; exact T3) ((fr1.up (by omega) (by omega)).tr fr3)
        rw [em] at this
        exact this
      · refine fc_iconst C dX7_takes_41 ?_
        refine fc_goto (tgt := 49) C dX7_takes_42 (by decide) ?_
        exact start 0 A1 _ vl eA (fc_Rm (by omega)) (fun z => by omega) T2 (fr1.up (by omega) (by omega))
    refine fc_istore_n C dX7_takes_18 rfl (by decide) ?_
    refine fc_aload_n C dX7_takes_19 rfl rfl ?_
    refine fc_dup C dX7_takes_20 rfl ?_
    refine fh_getf C dX7_takes_21 fl_X7_300 rfl rfl ?_
    refine fc_iload_n C dX7_takes_24 rfl rfl ?_
    refine fc_if_eq (tgt := 32) C dX7_takes_25 (by decide) (fc_Rm (by omega)) (fun c25 => ?_) (fun c25 => ?_)
    · refine fc_iconst C dX7_takes_32 ?_
      exact add 0 c25.symm
    · refine fc_iconst C dX7_takes_28 ?_
      refine fc_goto (tgt := 33) C dX7_takes_29 (by decide) ?_
      exact add 1 (by omega)
  refine fc_bipush C dX7_takes_4 (by decide) ?_
  refine fc_icmp_ne (tgt := 17) C dX7_takes_6 (by decide) (fc_Rm (by omega)) (fc_Rm (by omega)) (fun c6 => ?_) (fun c6 => ?_)
  · refine fc_iconst C dX7_takes_17 ?_
    exact mid 0 (by unfold t_mi; rw [if_neg (fun h => c6 h.2)])
  · refine fc_iload_n C dX7_takes_9 rfl rfl ?_
    refine fc_if_eq (tgt := 17) C dX7_takes_10 (by decide) (fc_Rm (by omega)) (fun c10 => ?_) (fun c10 => ?_)
    · refine fc_iconst C dX7_takes_17 ?_
      exact mid 0 (by unfold t_mi; rw [if_neg (by omega)])
    · refine fc_iconst C dX7_takes_13 ?_
      refine fc_goto (tgt := 18) C dX7_takes_14 (by decide) ?_
      exact mid 1 (by unfold t_mi; rw [if_pos (by omega)])
theorem r_takesAll (T0 : m_T A F tx tl i vl pt nt) (h0 : 0 ≤ i) (h1 : i ≤ tl) {n s : Int} (hn : 0 ≤ n ∧ n ≤ 5) (hs : 0 ≤ s ∧ s ≤ 5) {sg : Int → Int} (hsg : ∀ k : Int, 0 ≤ k → k < n → sg k = if s ≤ k then 1 else 0) : fh_E mX7_takesAll 3 [vR 143, vI n, vI s] A F (fun r A' F' => r = some (vI (t_ns tx tl sg i n.toNat).1) ∧ (∀ j : Nat, j ≠ 158 → A' j = A j) ∧ (∃ vl' : Int, m_T A' F' tx tl (t_ns tx tl sg i n.toNat).2.1 vl' pt nt) ∧ m_tf F F' ∧ ((t_ns tx tl sg i n.toNat).1 = 1 → ∀ k : Int, 0 ≤ k → k < n → A' 158 k = (t_ns tx tl sg i n.toNat).2.2 k)) := by
  refine fh_E.of mi_X7_takesAll (Nat.le_of_ble_eq_true rfl) ?_
  intro X C T
  have loop : ∀ (m : Nat) (k : Int) (A1 : Nat → Int → Int) (F1 : Nat → Nat → Int) (vl1 : Int), 0 ≤ k → k ≤ n → n - k < m → (t_ns tx tl sg i k.toNat).1 = 1 → m_T A1 F1 tx tl (t_ns tx tl sg i k.toNat).2.1 vl1 pt nt → m_tf F F1 → (∀ j : Nat, j ≠ 158 → A1 j = A j) → (∀ q : Int, 0 ≤ q → q < k → A1 158 q = (t_ns tx tl sg i k.toNat).2.2 q) → fc_W X 0 0 159 (fc_H A1 F1) 2 [some (vR 143), some (vI n), some (vI s), some (vI k)] [] := by
    intro m
    induction m with
    | zero => intro k A1 F1 vl1 z0 z1 z2; exfalso; omega
    | succ m ih =>
      intro k A1 F1 vl1 z0 z1 z2 hok T1 fr frA hq
      have hb := t_ns_bd (tx := tx) (sg := sg) h1 (k := k.toNat)
      refine fc_iload_n C dX7_takesAll_2 rfl rfl ?_
      refine fc_iload_n C dX7_takesAll_3 rfl rfl ?_
      refine fc_icmp_ge (tgt := 42) C dX7_takesAll_4 (by decide) (fc_Rm (by omega)) (fc_Rm (by omega)) (fun c4 => ?_) (fun c4 => ?_)
      · have ek : k = n := by omega
        subst ek
        refine fc_iconst C dX7_takesAll_42 ?_
        exact fh_iretE C T dX7_takesAll_43 (Or.inr ⟨rfl, by omega⟩) ⟨by rw [hok], frA, ⟨_, T1⟩, fr, fun _ => hq⟩
      · have hsk := hsg k z0 (by omega)
        have est : t_ns tx tl sg i (k + 1).toNat = (t_no tx tl (sg k) (t_sk tx tl (t_ns tx tl sg i k.toNat).2.1), t_np tx tl (sg k) (t_sk tx tl (t_ns tx tl sg i k.toNat).2.1), fc_set (t_ns tx tl sg i k.toNat).2.2 k (t_nv tx tl (sg k) (t_sk tx tl (t_ns tx tl sg i k.toNat).2.1))) := by
          rw [show (k + 1).toNat = k.toNat + 1 by omega]
          show (if (t_ns tx tl sg i k.toNat).1 = 1 then _ else _) = _
          rw [if_pos hok, Int.toNat_of_nonneg z0]
        have call : ∀ x : Int, x = sg k → fc_W X 0 0 159 (fc_H A1 F1) 18 [some (vR 143), some (vI n), some (vI s), some (vI k)] [vI x, vR 143] := by
          intro x ex
          subst ex
          refine fh_callVE (y := mX7_takes) C dX7_takesAll_18 ml_X7_316 mi_X7_takes im_X7_takes se_X7_takes (r_takes T1 (by omega) hb.2.1 (sg := sg k) (by rw [hsk]; split <;> omega)) rfl rfl (by decide) rfl (Nat.le_of_ble_eq_true rfl) (Nat.zero_le _) (Nat.zero_le _) rfl ?_
          rintro r A2 F2 ⟨rfl, rfl, T2, fr2⟩
          refine fc_eq (st' := [vI (t_no tx tl (sg k) (t_sk tx tl (t_ns tx tl sg i k.toNat).2.1))]) rfl rfl ?_
          have h01 := t_no_01 (tx := tx) (tl := tl) (sg := sg k) (i := t_sk tx tl (t_ns tx tl sg i k.toNat).2.1)
          refine fc_if_ne (tgt := 26) C dX7_takesAll_21 (by decide) (fc_Rm (by omega)) (fun c21 => ?_) (fun c21 => ?_)
          · have e17 := T2.2.2.2.2.1
            refine fc_aload_n C dX7_takesAll_26 rfl rfl ?_
            refine fh_getf C dX7_takesAll_27 fl_X7_53 rfl rfl ?_
            refine fc_iload_n C dX7_takesAll_30 rfl rfl ?_
            refine fc_aload_n C dX7_takesAll_31 rfl rfl ?_
            refine fh_getf C dX7_takesAll_32 fl_X7_310 rfl rfl ?_
            rw [e17]
            refine fh_iastore C dX7_takesAll_35 (fun _ _ => rfl) (by omega) (by omega) (by decide) ?_
            refine fc_iinc C dX7_takesAll_36 rfl (by decide) ?_
            refine fc_goto (tgt := 2) C dX7_takesAll_39 (by decide) ?_
            refine ih (k + 1) _ F2 (t_nv tx tl (sg k) (t_sk tx tl (t_ns tx tl sg i k.toNat).2.1)) (by omega) (by omega) (by omega) (by rw [est]; show t_no _ _ _ _ = 1; omega) (by rw [est]; exact T2.ar (fa_n _ _ (by omega))) (fr.tr fr2) (fun j hj => by rw [fa_n _ _ hj]; exact frA j hj) (fun q q0 q1 => ?_)
            rw [est, fa_s]
            show fc_set _ _ _ q = fc_set _ _ _ q
            unfold fc_set
            by_cases e : q = k
            · rw [if_pos e, if_pos e]
            · rw [if_neg e, if_neg e]; exact hq q q0 (by omega)
          · refine fc_iconst C dX7_takesAll_24 ?_
            have key : ∀ d : Nat, t_ns tx tl sg i ((k + 1).toNat + d) = t_ns tx tl sg i (k + 1).toNat := by
              intro d
              induction d with
              | zero => rfl
              | succ d ihd =>
                show (if (t_ns tx tl sg i ((k + 1).toNat + d)).1 = 1 then _ else t_ns tx tl sg i ((k + 1).toNat + d)) = _
                rw [ihd, if_neg]
                rw [est]
                show t_no _ _ _ _ ≠ 1
                omega
            have en : t_ns tx tl sg i n.toNat = t_ns tx tl sg i (k + 1).toNat := by
              have := key (n.toNat - (k + 1).toNat)
              rw [show (k + 1).toNat + (n.toNat - (k + 1).toNat) = n.toNat by omega] at this
              exact this
            refine fh_iretE C T dX7_takesAll_25 (Or.inr ⟨rfl, by omega⟩) ⟨?_, frA, ⟨_, by rw [en, est]; exact T2⟩, fr.tr fr2, fun z => ?_⟩
            · rw [en, est]
              show some (vI 0) = some (vI (t_no _ _ _ _))
              rw [c21]
            · rw [en, est] at z
              have z : t_no tx tl (sg k) (t_sk tx tl (t_ns tx tl sg i k.toNat).2.1) = 1 := z
              omega
        refine fc_aload_n C dX7_takesAll_7 rfl rfl ?_
        refine fc_iload_n C dX7_takesAll_8 rfl rfl ?_
        refine fc_iload_n C dX7_takesAll_9 rfl rfl ?_
        refine fc_icmp_lt (tgt := 17) C dX7_takesAll_10 (by decide) (fc_Rm (by omega)) (fc_Rm (by omega)) (fun c10 => ?_) (fun c10 => ?_)
        · refine fc_iconst C dX7_takesAll_17 ?_
          exact call 0 (by rw [hsk, if_neg (by omega)])
        · refine fc_iconst C dX7_takesAll_13 ?_
          refine fc_goto (tgt := 18) C dX7_takesAll_14 (by decide) ?_
          exact call 1 (by rw [hsk, if_pos (by omega)])
  refine fc_iconst C dX7_takesAll_0 ?_
  refine fc_istore_n C dX7_takesAll_1 rfl (by decide) ?_
  exact loop 6 0 A F vl (by omega) (by omega) (by omega) rfl T0 m_tf.rf (fun _ _ => rfl) (fun q q0 q1 => by omega)
end REF7
