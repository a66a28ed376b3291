/-! THE TEXT: what is at a place, numbers, ORDERS -/
def t_b (tx : Int → Int) (tl i : Int) : Int := if i < tl then tx i else -1
abbrev t_f (tx : Int → Int) (tl i : Int) : Prop := 48 ≤ t_b tx tl i ∧ t_b tx tl i ≤ 57
def t_skf (tx : Int → Int) (tl : Int) : Nat → Int → Int
  | 0, i => i
  | k + 1, i => if t_b tx tl i = 32 then t_skf tx tl k (i + 1) else i
/-- the first place from i on that is no blank -/
def t_sk (tx : Int → Int) (tl i : Int) : Int := t_skf tx tl (tl - i).toNat i
theorem t_b_ge {tx : Int → Int} {tl i : Int} (h : tl ≤ i) : t_b tx tl i = -1 := if_neg (by omega)
theorem t_b_lt {tx : Int → Int} {tl i : Int} (h : t_b tx tl i ≠ -1) : i < tl := by
  apply Classical.byContradiction
  intro hc
  exact h (t_b_ge (by omega))
theorem t_skf_step {tx : Int → Int} {tl : Int} {m : Nat} {i : Int} : t_skf tx tl (m + 1) i = if t_b tx tl i = 32 then t_skf tx tl m (i + 1) else i := rfl
theorem t_sk_no {tx : Int → Int} {tl i : Int} (h : t_b tx tl i ≠ 32) : t_sk tx tl i = i := by
  unfold t_sk
  cases (tl - i).toNat with
  | zero => rfl
  | succ m => rw [t_skf_step, if_neg h]
theorem t_sk_yes {tx : Int → Int} {tl i : Int} (h : t_b tx tl i = 32) : t_sk tx tl i = t_sk tx tl (i + 1) := by
  have h1 : i < tl := t_b_lt (by rw [h]; decide)
  unfold t_sk
  rw [show (tl - i).toNat = (tl - (i + 1)).toNat + 1 by omega, t_skf_step, if_pos h]
theorem t_sk_ge {tx : Int → Int} {tl : Int} : ∀ {m : Nat} {i : Int}, tl - i ≤ m → i ≤ tl → i ≤ t_sk tx tl i ∧ t_sk tx tl i ≤ tl ∧ t_b tx tl (t_sk tx tl i) ≠ 32
  | 0, i, h, h' => by
    have e : i = tl := by omega
    have h2 : t_b tx tl i ≠ 32 := by rw [t_b_ge (by omega)]; decide
    rw [t_sk_no h2]
    exact ⟨by omega, by omega, h2⟩
  | m + 1, i, h, h' => by
    by_cases q : t_b tx tl i = 32
    · have h1 : i < tl := t_b_lt (by rw [q]; decide)
      rw [t_sk_yes q]
      have := t_sk_ge (tx := tx) (tl := tl) (m := m) (i := i + 1) (by omega) (by omega)
      exact ⟨by omega, this.2⟩
    · rw [t_sk_no q]; exact ⟨by omega, h', q⟩
theorem t_sk_bd {tx : Int → Int} {tl i : Int} (h : i ≤ tl) : i ≤ t_sk tx tl i ∧ t_sk tx tl i ≤ tl ∧ t_b tx tl (t_sk tx tl i) ≠ 32 := t_sk_ge (m := (tl - i).toNat) (by omega) h
/-- how many figures, at most three, stand from i on -/
def t_dn (tx : Int → Int) (tl i : Int) : Int := if t_f tx tl i then (if t_f tx tl (i + 1) then (if t_f tx tl (i + 2) then 3 else 2) else 1) else 0
theorem t_dn_eq {tx : Int → Int} {tl i k : Int} (h0 : 0 ≤ k) (h1 : k ≤ 3) (h2 : ∀ j : Int, 0 ≤ j → j < k → t_f tx tl (i + j)) (h3 : k = 3 ∨ ¬ t_f tx tl (i + k)) : t_dn tx tl i = k := by
  unfold t_dn
  have e : k = 0 ∨ k = 1 ∨ k = 2 ∨ k = 3 := by omega
  rcases e with e | e | e | e
  · subst e
    rw [if_neg (by have := h3.resolve_left (by omega); rwa [Int.add_zero] at this)]
  · subst e
    have g0 := h2 0 (by omega) (by omega)
    rw [Int.add_zero] at g0
    rw [if_pos g0, if_neg (h3.resolve_left (by omega))]
  · subst e
    have g0 := h2 0 (by omega) (by omega)
    rw [Int.add_zero] at g0
    rw [if_pos g0, if_pos (h2 1 (by omega) (by omega)), if_neg (h3.resolve_left (by omega))]
  · subst e
    have g0 := h2 0 (by omega) (by omega)
    rw [Int.add_zero] at g0
    rw [if_pos g0, if_pos (h2 1 (by omega) (by omega)), if_pos (h2 2 (by omega) (by omega))]
def t_pv (tx : Int → Int) (tl i : Int) : Nat → Int
  | 0 => 0
  | k + 1 => 10 * t_pv tx tl i k + t_b tx tl (i + k) - 48
/-- a number at i: whether it may be below 0 and is; where its figures begin; how it ends; its value; whether it is one -/
def t_mi (tx : Int → Int) (tl sg i : Int) : Int := if sg = 1 ∧ t_b tx tl i = 45 then 1 else 0
def t_np (tx : Int → Int) (tl sg i : Int) : Int := i + t_mi tx tl sg i + t_dn tx tl (i + t_mi tx tl sg i)
def t_nv (tx : Int → Int) (tl sg i : Int) : Int := if t_mi tx tl sg i = 1 then - t_pv tx tl (i + t_mi tx tl sg i) (t_dn tx tl (i + t_mi tx tl sg i)).toNat else t_pv tx tl (i + t_mi tx tl sg i) (t_dn tx tl (i + t_mi tx tl sg i)).toNat
def t_no (tx : Int → Int) (tl sg i : Int) : Int := if 0 < t_dn tx tl (i + t_mi tx tl sg i) ∧ ¬ t_f tx tl (t_np tx tl sg i) then 1 else 0
theorem t_f_lt {tx : Int → Int} {tl i : Int} (h : t_f tx tl i) : i < tl := t_b_lt (tx := tx) (fun q => by unfold t_f at h; omega)
theorem t_dn_bd {tx : Int → Int} {tl i : Int} (h : i ≤ tl) : 0 ≤ t_dn tx tl i ∧ t_dn tx tl i ≤ 3 ∧ i + t_dn tx tl i ≤ tl := by
  unfold t_dn
  split
  · rename_i g0
    have := t_f_lt g0
    split
    · rename_i g1
      have := t_f_lt g1
      split
      · rename_i g2
        have := t_f_lt g2
        omega
      · omega
    · omega
  · omega
theorem t_mi_bd {tx : Int → Int} {tl sg i : Int} (h : i ≤ tl) : (t_mi tx tl sg i = 0 ∨ t_mi tx tl sg i = 1) ∧ i + t_mi tx tl sg i ≤ tl := by
  unfold t_mi
  split
  · rename_i g
    have : i < tl := t_b_lt (by rw [g.2]; decide)
    omega
  · omega
theorem t_np_bd {tx : Int → Int} {tl sg i : Int} (h : i ≤ tl) : i ≤ t_np tx tl sg i ∧ t_np tx tl sg i ≤ tl := by
  have h1 := t_mi_bd (sg := sg) h (tx := tx)
  have h2 := t_dn_bd h1.2 (tx := tx)
  unfold t_np
  omega
theorem t_no_01 {tx : Int → Int} {tl sg i : Int} : t_no tx tl sg i = 0 ∨ t_no tx tl sg i = 1 := by unfold t_no; split <;> omega
theorem t_no_gt {tx : Int → Int} {tl sg i : Int} (h : i ≤ tl) (h1 : t_no tx tl sg i = 1) : i < t_np tx tl sg i := by
  have h1' := t_mi_bd (sg := sg) h (tx := tx)
  unfold t_no at h1
  split at h1
  · rename_i g
    unfold t_np
    omega
  · omega
/-- so many numbers from i on: whether they are, the place behind, they -/
def t_ns (tx : Int → Int) (tl : Int) (sg : Int → Int) (i : Int) : Nat → Int × Int × (Int → Int)
  | 0 => (1, i, fun _ => 0)
  | k + 1 => if (t_ns tx tl sg i k).1 = 1 then (t_no tx tl (sg k) (t_sk tx tl (t_ns tx tl sg i k).2.1), t_np tx tl (sg k) (t_sk tx tl (t_ns tx tl sg i k).2.1), fc_set (t_ns tx tl sg i k).2.2 k (t_nv tx tl (sg k) (t_sk tx tl (t_ns tx tl sg i k).2.1))) else t_ns tx tl sg i k
def t_cnt (c m : Int) : Int := if c = 122 then 0 else if c = 110 ∨ c = 102 ∨ c = 98 then 1 else if c = 97 then 2 else if c = 108 then 3 else if c = 99 then m else -1
def t_sg (c : Int) : Int → Int := fun k => if c = 99 ∨ (c = 97 ∧ k = 1) then 1 else 0
/-- an ORDER at i, with m points then: whether it is one (1), the place behind it or its fault, its letter, its numbers, the points then -/
def t_oN (tx : Int → Int) (tl m i : Int) : Int × Int × (Int → Int) := t_ns tx tl (t_sg (t_b tx tl i)) (i + 1) (t_cnt (t_b tx tl i) m).toNat
def t_ord (tx : Int → Int) (tl m i : Int) : Int × Int × Int :=
  if t_cnt (t_b tx tl i) m < 0 then (0, i, m)
  else if (t_oN tx tl m i).1 ≠ 1 then (0, (t_oN tx tl m i).2.1, m)
  else if t_b tx tl i = 110 ∧ ¬ (2 ≤ (t_oN tx tl m i).2.2 0 ∧ (t_oN tx tl m i).2.2 0 ≤ 5) then (0, t_sk tx tl (i + 1), m)
  else if t_b tx tl (t_sk tx tl (t_oN tx tl m i).2.1) ≠ 59 then (0, t_sk tx tl (t_oN tx tl m i).2.1, m)
  else (1, t_sk tx tl (t_oN tx tl m i).2.1 + 1, if t_b tx tl i = 110 then (t_oN tx tl m i).2.2 0 else m)
theorem t_ns_bd {tx : Int → Int} {tl : Int} {sg : Int → Int} {i : Int} (h : i ≤ tl) : ∀ {k : Nat}, i ≤ (t_ns tx tl sg i k).2.1 ∧ (t_ns tx tl sg i k).2.1 ≤ tl ∧ ((t_ns tx tl sg i k).1 = 0 ∨ (t_ns tx tl sg i k).1 = 1) ∧ ((t_ns tx tl sg i k).1 = 1 → i + k ≤ (t_ns tx tl sg i k).2.1)
  | 0 => ⟨Int.le_refl i, h, Or.inr rfl, fun _ => by show i + ((0 : Nat) : Int) ≤ i; omega⟩
  | k + 1 => by
    have ih := t_ns_bd (sg := sg) (tx := tx) h (k := k)
    unfold t_ns
    split
    · rename_i g
      have h1 := t_sk_bd (tx := tx) ih.2.1
      have h2 := t_np_bd (tx := tx) (sg := sg k) h1.2.1
      refine ⟨by show i ≤ t_np _ _ _ _; omega, h2.2, t_no_01, fun z => ?_⟩
      have h3 := t_no_gt (tx := tx) h1.2.1 z
      have h4 := ih.2.2.2 g
      show i + ((k + 1 : Nat) : Int) ≤ t_np _ _ _ _
      omega
    · rename_i g
      exact ⟨ih.1, ih.2.1, ih.2.2.1, fun z => absurd z g⟩
theorem t_oN_bd {tx : Int → Int} {tl m i : Int} (h : t_cnt (t_b tx tl i) m ≥ 0) : i + 1 ≤ (t_oN tx tl m i).2.1 ∧ (t_oN tx tl m i).2.1 ≤ tl := by
  have h1 : i < tl := t_b_lt (fun q => by rw [q] at h; revert h; unfold t_cnt; simp)
  have := t_ns_bd (tx := tx) (tl := tl) (sg := t_sg (t_b tx tl i)) (i := i + 1) (by omega) (k := (t_cnt (t_b tx tl i) m).toNat)
  exact ⟨this.1, this.2.1⟩
/-! the class's Text -/
def k_T (A : Nat → Int → Int) (F : Nat → Nat → Int) (tx : Int → Int) (tl : Int) (it : Int → Int) (ic dn oc at_ fl pt : Int) : Prop := (F 139 1 = tl ∧ 0 ≤ tl ∧ tl ≤ 120 ∧ ∀ i : Int, 0 ≤ i → i < tl → A 140 i = tx i ∧ 0 ≤ tx i ∧ tx i ≤ 127) ∧ F 139 3 = ic ∧ F 139 4 = dn ∧ F 139 5 = oc ∧ F 139 6 = at_ ∧ F 139 7 = fl ∧ F 139 8 = pt ∧ ∀ i : Int, 0 ≤ i → i < ic → A 141 i = it i
section TEXT
variable {A : Nat → Int → Int} {F : Nat → Nat → Int} {tx : Int → Int} {tl : Int} {it : Int → Int} {ic dn oc i fl pt : Int}
theorem t_b_R (K : k_T A F tx tl it ic dn oc i fl pt) {j : Int} (h : 0 ≤ j) : -1 ≤ t_b tx tl j ∧ t_b tx tl j ≤ 127 := by
  unfold t_b
  split
  · rename_i g
    have := K.1.2.2.2 j h g
    omega
  · omega
theorem c_byteHere (K : k_T A F tx tl it ic dn oc i fl pt) (h0 : 0 ≤ i) (h1 : i ≤ tl) : fh_M mX5_byteHere 0 [vR 139] A F (some (vI (t_b tx tl i))) A F := by
  obtain ⟨⟨k1, k2, k3, k4⟩, k5, k6, k7, k8, k9, k10, k11⟩ := K
  refine fh_M.of mi_X5_byteHere (Nat.le_of_ble_eq_true rfl) ?_
  intro X C T
  refine fc_aload_n C dX5_byteHere_0 rfl rfl ?_
  refine fh_getf C dX5_byteHere_1 fl_X5_31 rfl rfl ?_
  refine fc_aload_n C dX5_byteHere_4 rfl rfl ?_
  refine fh_getf C dX5_byteHere_5 fl_X5_15 rfl rfl ?_
  refine fc_icmp_ge (tgt := 23) C dX5_byteHere_8 (by decide) (fc_Rm (by omega)) (fc_Rm (by omega)) (fun c8 => ?_) (fun c8 => ?_)
  · refine fc_iconst C dX5_byteHere_23 ?_
    exact fh_iret C T dX5_byteHere_24 (by rw [t_b_ge (by omega)]) rfl
  · refine fc_aload_n C dX5_byteHere_11 rfl rfl ?_
    refine fh_getf C dX5_byteHere_12 fl_X5_9 rfl rfl ?_
    refine fc_aload_n C dX5_byteHere_15 rfl rfl ?_
    refine fh_getf C dX5_byteHere_16 fl_X5_31 rfl rfl ?_
    refine fh_iaload C dX5_byteHere_19 (fun _ _ => rfl) (by omega) (by omega) (by decide) ?_
    refine fc_goto (tgt := 24) C dX5_byteHere_20 (by decide) ?_
    exact fh_iret C T dX5_byteHere_24 (by unfold t_b; rw [if_pos (by omega), k8, (k4 i h0 (by omega)).1]) rfl
theorem c_isFigureHere (K : k_T A F tx tl it ic dn oc i fl pt) (h0 : 0 ≤ i) (h1 : i ≤ tl) : fh_M mX5_isFigureHere 1 [vR 139] A F (some (vI (fc_ind (t_f tx tl i)))) A F := by
  have hb := t_b_R K h0
  refine fh_M.of mi_X5_isFigureHere (Nat.le_of_ble_eq_true rfl) ?_
  intro X C T
  refine fc_aload_n C dX5_isFigureHere_0 rfl rfl ?_
  refine fh_callV (y := mX5_byteHere) C dX5_isFigureHere_1 ml_X5_46 mi_X5_byteHere im_X5_byteHere se_X5_byteHere (c_byteHere K h0 h1) rfl rfl (by decide) rfl (Nat.le_of_ble_eq_true rfl) (Nat.zero_le _) (Nat.zero_le _) rfl ?_
  refine fc_bipush C dX5_isFigureHere_4 (by decide) ?_
  refine fc_icmp_lt (tgt := 22) C dX5_isFigureHere_6 (by decide) (fc_Rm (by omega)) (fc_Rm (by omega)) (fun c6 => ?_) (fun c6 => ?_)
  · refine fc_iconst C dX5_isFigureHere_22 ?_
    exact fh_zret C T dX5_isFigureHere_23 (by omega) (by unfold fc_ind t_f; rw [if_neg (by omega)]) rfl
  · refine fc_aload_n C dX5_isFigureHere_9 rfl rfl ?_
    refine fh_callV (y := mX5_byteHere) C dX5_isFigureHere_10 ml_X5_46 mi_X5_byteHere im_X5_byteHere se_X5_byteHere (c_byteHere K h0 h1) rfl rfl (by decide) rfl (Nat.le_of_ble_eq_true rfl) (Nat.zero_le _) (Nat.zero_le _) rfl ?_
    refine fc_bipush C dX5_isFigureHere_13 (by decide) ?_
    refine fc_icmp_gt (tgt := 22) C dX5_isFigureHere_15 (by decide) (fc_Rm (by omega)) (fc_Rm (by omega)) (fun c15 => ?_) (fun c15 => ?_)
    · refine fc_iconst C dX5_isFigureHere_22 ?_
      exact fh_zret C T dX5_isFigureHere_23 (by omega) (by unfold fc_ind t_f; rw [if_neg (by omega)]) rfl
    · refine fc_iconst C dX5_isFigureHere_18 ?_
      refine fc_goto (tgt := 23) C dX5_isFigureHere_19 (by decide) ?_
      exact fh_zret C T dX5_isFigureHere_23 (by omega) (by unfold fc_ind t_f; rw [if_pos (by omega)]) rfl
theorem k_T.at_ (K : k_T A F tx tl it ic dn oc i fl pt) (j : Int) : k_T A (ff_up F 139 6 j) tx tl it ic dn oc j fl pt := by
  obtain ⟨⟨k1, k2, k3, k4⟩, k5, k6, k7, k8, k9, k10, k11⟩ := K
  exact ⟨⟨by simp [ff_up]; exact k1, k2, k3, k4⟩, by simp [ff_up]; exact k5, by simp [ff_up]; exact k6, by simp [ff_up]; exact k7, by simp [ff_up], by simp [ff_up]; exact k9, by simp [ff_up]; exact k10, k11⟩
theorem k_T.fl_ (K : k_T A F tx tl it ic dn oc i fl pt) (j : Int) : k_T A (ff_up F 139 7 j) tx tl it ic dn oc i j pt := by
  obtain ⟨⟨k1, k2, k3, k4⟩, k5, k6, k7, k8, k9, k10, k11⟩ := K
  exact ⟨⟨by simp [ff_up]; exact k1, k2, k3, k4⟩, by simp [ff_up]; exact k5, by simp [ff_up]; exact k6, by simp [ff_up]; exact k7, by simp [ff_up]; exact k8, by simp [ff_up], by simp [ff_up]; exact k10, k11⟩
theorem k_T.pt_ (K : k_T A F tx tl it ic dn oc i fl pt) (j : Int) : k_T A (ff_up F 139 8 j) tx tl it ic dn oc i fl j := by
  obtain ⟨⟨k1, k2, k3, k4⟩, k5, k6, k7, k8, k9, k10, k11⟩ := K
  exact ⟨⟨by simp [ff_up]; exact k1, k2, k3, k4⟩, by simp [ff_up]; exact k5, by simp [ff_up]; exact k6, by simp [ff_up]; exact k7, by simp [ff_up]; exact k8, by simp [ff_up]; exact k9, by simp [ff_up], k11⟩
theorem k_T.oc_ (K : k_T A F tx tl it ic dn oc i fl pt) (j : Int) : k_T A (ff_up F 139 5 j) tx tl it ic dn j i fl pt := by
  obtain ⟨⟨k1, k2, k3, k4⟩, k5, k6, k7, k8, k9, k10, k11⟩ := K
  exact ⟨⟨by simp [ff_up]; exact k1, k2, k3, k4⟩, by simp [ff_up]; exact k5, by simp [ff_up]; exact k6, by simp [ff_up], by simp [ff_up]; exact k8, by simp [ff_up]; exact k9, by simp [ff_up]; exact k10, k11⟩
theorem k_T.dn_ (K : k_T A F tx tl it ic dn oc i fl pt) (j : Int) : k_T A (ff_up F 139 4 j) tx tl it ic j oc i fl pt := by
  obtain ⟨⟨k1, k2, k3, k4⟩, k5, k6, k7, k8, k9, k10, k11⟩ := K
  exact ⟨⟨by simp [ff_up]; exact k1, k2, k3, k4⟩, by simp [ff_up]; exact k5, by simp [ff_up], by simp [ff_up]; exact k7, by simp [ff_up]; exact k8, by simp [ff_up]; exact k9, by simp [ff_up]; exact k10, k11⟩
/-- what only the text may change -/
def k_tf (A : Nat → Int → Int) (F : Nat → Nat → Int) (A' : Nat → Int → Int) (F' : Nat → Nat → Int) : Prop := (∀ j : Nat, j ≠ 141 → A' j = A j) ∧ ∀ j : Nat, j ≠ 139 → F' j = F j
theorem k_tf.rf : k_tf A F A F := ⟨fun _ _ => rfl, fun _ _ => rfl⟩
theorem k_tf.up {A1 : Nat → Int → Int} {F1 : Nat → Nat → Int} (h : k_tf A F A1 F1) (k : Nat) (z : Int) : k_tf A F A1 (ff_up F1 139 k z) := ⟨h.1, fun j hj => by rw [ff_n hj]; exact h.2 j hj⟩
theorem k_tf.ua {A1 : Nat → Int → Int} {F1 : Nat → Nat → Int} (h : k_tf A F A1 F1) (z : Int → Int) : k_tf A F (fa_up A1 141 z) F1 := ⟨fun j hj => by rw [fa_n _ _ hj]; exact h.1 j hj, h.2⟩
theorem k_tf.tr {A1 A2 : Nat → Int → Int} {F1 F2 : Nat → Nat → Int} (h : k_tf A F A1 F1) (h' : k_tf A1 F1 A2 F2) : k_tf A F A2 F2 := ⟨fun j hj => (h'.1 j hj).trans (h.1 j hj), fun j hj => (h'.2 j hj).trans (h.2 j hj)⟩
theorem c_skipBlanks (K : k_T A F tx tl it ic dn oc i fl pt) (h0 : 0 ≤ i) (h1 : i ≤ tl) : fh_E mX5_skipBlanks 1 [vR 139] A F (fun r A' F' => r = none ∧ k_T A' F' tx tl it ic dn oc (t_sk tx tl i) fl pt ∧ k_tf A F A' F') := by
  have htl := K.1.2.2.1
  refine fh_E.of mi_X5_skipBlanks (Nat.le_of_ble_eq_true rfl) ?_
  intro X C T
  have loop : ∀ (m : Nat) (k j : Int) (F1 : Nat → Nat → Int), 0 ≤ k → k ≤ j → j ≤ tl → tl - j < m → t_sk tx tl i = t_sk tx tl j → k_T A F1 tx tl it ic dn oc j fl pt → k_tf A F A F1 → fc_W X 0 0 159 (fc_H A F1) 2 [some (vR 139), some (vI k)] [] := by
    intro m
    induction m with
    | zero => intro k j F1 q0 q1 q2 q3; exfalso; omega
    | succ m ih =>
      intro k j F1 q0 q1 q2 q3 e K1 fr
      have hb := t_b_R K1 (show 0 ≤ j by omega)
      have e6 := K1.2.2.2.2.1
      refine fc_iload_n C dX5_skipBlanks_2 rfl rfl ?_
      refine fc_bipush C dX5_skipBlanks_3 (by decide) ?_
      refine fc_icmp_ge (tgt := 33) C dX5_skipBlanks_5 (by decide) (fc_Rm (by omega)) (fc_Rm (by omega)) (fun c5 => ?_) (fun c5 => ?_)
      · have hj : t_b tx tl j ≠ 32 := by rw [t_b_ge (by omega)]; decide
        exact fh_vretE C T dX5_skipBlanks_33 ⟨rfl, by rw [e, t_sk_no hj]; exact K1, fr⟩
      · refine fc_aload_n C dX5_skipBlanks_8 rfl rfl ?_
        refine fh_callV (y := mX5_byteHere) C dX5_skipBlanks_9 ml_X5_46 mi_X5_byteHere im_X5_byteHere se_X5_byteHere (c_byteHere K1 (by omega) q2) rfl rfl (by decide) rfl (Nat.le_of_ble_eq_true rfl) (Nat.zero_le _) (Nat.zero_le _) rfl ?_
        refine fc_bipush C dX5_skipBlanks_12 (by decide) ?_
        refine fc_icmp_ne (tgt := 33) C dX5_skipBlanks_14 (by decide) (fc_Rm (by omega)) (fc_Rm (by omega)) (fun c14 => ?_) (fun c14 => ?_)
        · exact fh_vretE C T dX5_skipBlanks_33 ⟨rfl, by rw [e, t_sk_no c14]; exact K1, fr⟩
        · have hj : t_b tx tl j = 32 := by omega
          have h2 : j < tl := t_b_lt (by rw [hj]; decide)
          refine fc_aload_n C dX5_skipBlanks_17 rfl rfl ?_
          refine fc_dup C dX5_skipBlanks_18 rfl ?_
          refine fh_getf C dX5_skipBlanks_19 fl_X5_31 rfl rfl ?_
          refine fc_iconst C dX5_skipBlanks_22 ?_
          refine fc_iadd C dX5_skipBlanks_23 ?_
          refine fh_putf _ C dX5_skipBlanks_24 fl_X5_31 rfl (Nat.le_of_ble_eq_true rfl) rfl rfl ?_
          refine fc_iinc C dX5_skipBlanks_27 rfl (by decide) ?_
          refine fc_goto (tgt := 2) C dX5_skipBlanks_30 (by decide) ?_
          exact ih (k + 1) (j + 1) _ (by omega) (by omega) (by omega) (by omega) (by rw [e, t_sk_yes hj]) (by rw [e6]; exact K1.at_ (j + 1)) (fr.up 6 _)
  refine fc_iconst C dX5_skipBlanks_0 ?_
  refine fc_istore_n C dX5_skipBlanks_1 rfl (by decide) ?_
  exact loop 122 0 i F (by omega) h0 h1 (by omega) rfl K k_tf.rf
theorem c_numbersOf (K : k_T A F tx tl it ic dn oc i fl pt) {c : Int} (hc : -1 ≤ c ∧ c ≤ 127) : fh_M mX5_numbersOf 0 [vR 139, vI c] A F (some (vI (t_cnt c pt))) A F := by
  have e8 := K.2.2.2.2.2.2.1
  refine fh_M.of mi_X5_numbersOf (Nat.le_of_ble_eq_true rfl) ?_
  intro X C T
  refine fc_iload_n C dX5_numbersOf_0 rfl rfl ?_
  by_cases q1 : c = 97
  · subst q1
    refine fc_lookup (off := 71) (tgt := 72) C dX5_numbersOf_1 (fc_Rm (by omega)) (by decide) (by decide) (by decide) ?_
    refine fc_iconst C dX5_numbersOf_72 ?_
    exact fh_iret C T dX5_numbersOf_73 (by unfold t_cnt; simp) rfl
  by_cases q2 : c = 98
  · subst q2
    refine fc_lookup (off := 69) (tgt := 70) C dX5_numbersOf_1 (fc_Rm (by omega)) (by decide) (by decide) (by decide) ?_
    refine fc_iconst C dX5_numbersOf_70 ?_
    exact fh_iret C T dX5_numbersOf_71 (by unfold t_cnt; simp) rfl
  by_cases q3 : c = 99
  · subst q3
    refine fc_lookup (off := 75) (tgt := 76) C dX5_numbersOf_1 (fc_Rm (by omega)) (by decide) (by decide) (by decide) ?_
    refine fc_aload_n C dX5_numbersOf_76 rfl rfl ?_
    refine fh_getf C dX5_numbersOf_77 fl_X5_37 rfl rfl ?_
    exact fh_iret C T dX5_numbersOf_80 (by unfold t_cnt; simp [e8]) rfl
  by_cases q4 : c = 102
  · subst q4
    refine fc_lookup (off := 69) (tgt := 70) C dX5_numbersOf_1 (fc_Rm (by omega)) (by decide) (by decide) (by decide) ?_
    refine fc_iconst C dX5_numbersOf_70 ?_
    exact fh_iret C T dX5_numbersOf_71 (by unfold t_cnt; simp) rfl
  by_cases q5 : c = 108
  · subst q5
    refine fc_lookup (off := 73) (tgt := 74) C dX5_numbersOf_1 (fc_Rm (by omega)) (by decide) (by decide) (by decide) ?_
    refine fc_iconst C dX5_numbersOf_74 ?_
    exact fh_iret C T dX5_numbersOf_75 (by unfold t_cnt; simp) rfl
  by_cases q6 : c = 110
  · subst q6
    refine fc_lookup (off := 69) (tgt := 70) C dX5_numbersOf_1 (fc_Rm (by omega)) (by decide) (by decide) (by decide) ?_
    refine fc_iconst C dX5_numbersOf_70 ?_
    exact fh_iret C T dX5_numbersOf_71 (by unfold t_cnt; simp) rfl
  by_cases q7 : c = 122
  · subst q7
    refine fc_lookup (off := 67) (tgt := 68) C dX5_numbersOf_1 (fc_Rm (by omega)) (by decide) (by decide) (by decide) ?_
    refine fc_iconst C dX5_numbersOf_68 ?_
    exact fh_iret C T dX5_numbersOf_69 (by unfold t_cnt; simp) rfl
  have key : ∀ j : Fin 129, ((j.val : Nat) : Int) - 1 = 97 ∨ ((j.val : Nat) : Int) - 1 = 98 ∨ ((j.val : Nat) : Int) - 1 = 99 ∨ ((j.val : Nat) : Int) - 1 = 102 ∨ ((j.val : Nat) : Int) - 1 = 108 ∨ ((j.val : Nat) : Int) - 1 = 110 ∨ ((j.val : Nat) : Int) - 1 = 122 ∨ Op.lookupswitch.offset #[(97, 71), (98, 69), (99, 75), (102, 69), (108, 73), (110, 69), (122, 67)].toList 80 (((j.val : Nat) : Int) - 1) = 80 := by decide +kernel
  have ho : Op.lookupswitch.offset #[(97, 71), (98, 69), (99, 75), (102, 69), (108, 73), (110, 69), (122, 67)].toList 80 c = 80 := by
    have := key ⟨(c + 1).toNat, by omega⟩
    simp only [Int.toNat_of_nonneg (show 0 ≤ c + 1 by omega), show c + 1 - 1 = c by omega] at this
    rcases this with h | h | h | h | h | h | h | h
    · exact absurd h q1
    · exact absurd h q2
    · exact absurd h q3
    · exact absurd h q4
    · exact absurd h q5
    · exact absurd h q6
    · exact absurd h q7
    · exact h
  refine fc_lookup (off := 80) (tgt := 81) C dX5_numbersOf_1 (fc_Rm (by omega)) (by decide) ho (by decide) ?_
  refine fc_iconst C dX5_numbersOf_81 ?_
  exact fh_iret C T dX5_numbersOf_82 (by unfold t_cnt; simp [q1, q2, q3, q4, q5, q6, q7]) rfl
theorem c_addItem (K : k_T A F tx tl it ic dn oc i fl pt) {c : Int} (h0 : 0 ≤ ic) (h1 : ic < 120) : fh_E mX5_addItem 0 [vR 139, vI c] A F (fun r A' F' => r = none ∧ k_T A' F' tx tl (fc_set it ic c) (ic + 1) dn oc i fl pt ∧ k_tf A F A' F') := by
  obtain ⟨⟨k1, k2, k3, k4⟩, k5, k6, k7, k8, k9, k10, k11⟩ := K
  refine fh_E.of mi_X5_addItem (Nat.le_of_ble_eq_true rfl) ?_
  intro X C T
  refine fc_aload_n C dX5_addItem_0 rfl rfl ?_
  refine fh_getf C dX5_addItem_1 fl_X5_22 rfl rfl ?_
  refine fc_aload_n C dX5_addItem_4 rfl rfl ?_
  refine fh_getf C dX5_addItem_5 fl_X5_19 rfl rfl ?_
  refine fh_alenI C dX5_addItem_8 (fun _ _ => rfl) ?_
  refine fc_icmp_ge (tgt := 32) C dX5_addItem_9 (by decide) (fc_Rm (by omega)) (fc_Rm (by omega)) (fun c9 => ?_) (fun c9 => ?_)
  · exfalso; omega
  · refine fc_aload_n C dX5_addItem_12 rfl rfl ?_
    refine fh_getf C dX5_addItem_13 fl_X5_19 rfl rfl ?_
    refine fc_aload_n C dX5_addItem_16 rfl rfl ?_
    refine fh_getf C dX5_addItem_17 fl_X5_22 rfl rfl ?_
    refine fc_iload_n C dX5_addItem_20 rfl rfl ?_
    refine fh_iastore C dX5_addItem_21 (fun _ _ => rfl) (by omega) (by omega) (by decide) ?_
    refine fc_aload_n C dX5_addItem_22 rfl rfl ?_
    refine fc_dup C dX5_addItem_23 rfl ?_
    refine fh_getf C dX5_addItem_24 fl_X5_22 rfl rfl ?_
    refine fc_iconst C dX5_addItem_27 ?_
    refine fc_iadd C dX5_addItem_28 ?_
    refine fh_putf _ C dX5_addItem_29 fl_X5_22 rfl (Nat.le_of_ble_eq_true rfl) rfl rfl ?_
    refine fh_vretE C T dX5_addItem_32 ⟨rfl, ⟨⟨by simp [ff_up]; exact k1, k2, k3, fun j j0 j1 => by rw [fa_n _ _ (by omega)]; exact k4 j j0 j1⟩, by simp [ff_up]; omega, by simp [ff_up]; exact k6, by simp [ff_up]; exact k7, by simp [ff_up]; exact k8, by simp [ff_up]; exact k9, by simp [ff_up]; exact k10, fun j j0 j1 => ?_⟩, (k_tf.rf.ua _).up 3 _⟩
    rw [fa_s, k5]
    unfold fc_set
    by_cases q : j = ic
    · rw [if_pos q, if_pos q]
    · rw [if_neg q, if_neg q]; exact k11 j j0 (by omega)
theorem c_takePoints (K : k_T A F tx tl it ic dn oc i fl pt) {x s : Int} (hx : fc_R x) : fh_E mX5_takePoints 0 [vR 139, vI x, vI s] A F (fun r A' F' => r = none ∧ A' = A ∧ k_T A' F' tx tl it ic dn oc i (if 2 ≤ x ∧ x ≤ 5 then fl else s) (if 2 ≤ x ∧ x ≤ 5 then x else pt) ∧ k_tf A F A' F') := by
  refine fh_E.of mi_X5_takePoints (Nat.le_of_ble_eq_true rfl) ?_
  intro X C T
  refine fc_iload_n C dX5_takePoints_0 rfl rfl ?_
  refine fc_iconst C dX5_takePoints_1 ?_
  refine fc_icmp_lt (tgt := 10) C dX5_takePoints_2 (by decide) (hx) (fc_Rm (by omega)) (fun c2 => ?_) (fun c2 => ?_)
  · refine fc_aload_n C dX5_takePoints_10 rfl rfl ?_
    refine fc_iload_n C dX5_takePoints_11 rfl rfl ?_
    refine fh_putf _ C dX5_takePoints_12 fl_X5_34 rfl (Nat.le_of_ble_eq_true rfl) rfl rfl ?_
    refine fc_goto (tgt := 23) C dX5_takePoints_15 (by decide) ?_
    exact fh_vretE C T dX5_takePoints_23 ⟨rfl, rfl, by rw [if_neg (by omega), if_neg (by omega)]; exact K.fl_ s, k_tf.rf.up 7 _⟩
  · refine fc_iload_n C dX5_takePoints_5 rfl rfl ?_
    refine fc_iconst C dX5_takePoints_6 ?_
    refine fc_icmp_le (tgt := 18) C dX5_takePoints_7 (by decide) (hx) (fc_Rm (by omega)) (fun c7 => ?_) (fun c7 => ?_)
    · refine fc_aload_n C dX5_takePoints_18 rfl rfl ?_
      refine fc_iload_n C dX5_takePoints_19 rfl rfl ?_
      refine fh_putf _ C dX5_takePoints_20 fl_X5_37 rfl (Nat.le_of_ble_eq_true rfl) rfl rfl ?_
      exact fh_vretE C T dX5_takePoints_23 ⟨rfl, rfl, by rw [if_pos (by omega), if_pos (by omega)]; exact K.pt_ x, k_tf.rf.up 8 _⟩
    · refine fc_aload_n C dX5_takePoints_10 rfl rfl ?_
      refine fc_iload_n C dX5_takePoints_11 rfl rfl ?_
      refine fh_putf _ C dX5_takePoints_12 fl_X5_34 rfl (Nat.le_of_ble_eq_true rfl) rfl rfl ?_
      refine fc_goto (tgt := 23) C dX5_takePoints_15 (by decide) ?_
      exact fh_vretE C T dX5_takePoints_23 ⟨rfl, rfl, by rw [if_neg (by omega), if_neg (by omega)]; exact K.fl_ s, k_tf.rf.up 7 _⟩
theorem c_endOrder (K : k_T A F tx tl it ic dn oc i fl pt) (h0 : 0 ≤ i) (h1 : i ≤ tl) : fh_E mX5_endOrder 2 [vR 139] A F (fun r A' F' => r = none ∧ k_T A' F' tx tl it ic dn (if t_b tx tl (t_sk tx tl i) = 59 then oc + 1 else oc) (if t_b tx tl (t_sk tx tl i) = 59 then t_sk tx tl i + 1 else t_sk tx tl i) (if t_b tx tl (t_sk tx tl i) = 59 then fl else t_sk tx tl i) pt ∧ k_tf A F A' F') := by
  refine fh_E.of mi_X5_endOrder (Nat.le_of_ble_eq_true rfl) ?_
  intro X C T
  have hs := t_sk_bd (tx := tx) h1
  refine fc_aload_n C dX5_endOrder_0 rfl rfl ?_
  refine fh_callVE (y := mX5_skipBlanks) C dX5_endOrder_1 ml_X5_40 mi_X5_skipBlanks im_X5_skipBlanks se_X5_skipBlanks (c_skipBlanks K h0 h1) rfl rfl (by decide) rfl (Nat.le_of_ble_eq_true rfl) (Nat.zero_le _) (Nat.zero_le _) rfl ?_
  rintro r A1 F1 ⟨rfl, K1, fr⟩
  refine fc_eq (st' := []) rfl rfl ?_
  have hb := t_b_R K1 (show 0 ≤ t_sk tx tl i by omega)
  have e6 := K1.2.2.2.2.1
  have e5 := K1.2.2.2.1
  refine fc_aload_n C dX5_endOrder_4 rfl rfl ?_
  refine fh_callV (y := mX5_byteHere) C dX5_endOrder_5 ml_X5_46 mi_X5_byteHere im_X5_byteHere se_X5_byteHere (c_byteHere K1 (by omega) (by omega)) rfl rfl (by decide) rfl (Nat.le_of_ble_eq_true rfl) (Nat.zero_le _) (Nat.zero_le _) rfl ?_
  refine fc_bipush C dX5_endOrder_8 (by decide) ?_
  refine fc_icmp_eq (tgt := 22) C dX5_endOrder_10 (by decide) (fc_Rm (by omega)) (fc_Rm (by omega)) (fun c10 => ?_) (fun c10 => ?_)
  · refine fc_aload_n C dX5_endOrder_22 rfl rfl ?_
    refine fc_dup C dX5_endOrder_23 rfl ?_
    refine fh_getf C dX5_endOrder_24 fl_X5_31 rfl rfl ?_
    refine fc_iconst C dX5_endOrder_27 ?_
    refine fc_iadd C dX5_endOrder_28 ?_
    refine fh_putf _ C dX5_endOrder_29 fl_X5_31 rfl (Nat.le_of_ble_eq_true rfl) rfl rfl ?_
    refine fc_aload_n C dX5_endOrder_32 rfl rfl ?_
    refine fc_dup C dX5_endOrder_33 rfl ?_
    refine fh_getf C dX5_endOrder_34 fl_X5_28 rfl rfl ?_
    refine fc_iconst C dX5_endOrder_37 ?_
    refine fc_iadd C dX5_endOrder_38 ?_
    refine fh_putf _ C dX5_endOrder_39 fl_X5_28 rfl (Nat.le_of_ble_eq_true rfl) rfl rfl ?_
    refine fh_vretE C T dX5_endOrder_42 ⟨rfl, ?_, (fr.up 6 _).up 5 _⟩
    rw [if_pos c10, if_pos c10, if_pos c10]
    have := (K1.at_ (t_sk tx tl i + 1)).oc_ (oc + 1)
    rw [← e6, ← e5] at this
    have e : ff_up F1 139 6 (F1 139 6 + 1) 139 5 = F1 139 5 := by simp [ff_up]
    rw [e]
    rw [e5, e6] at this ⊢
    exact this
  · refine fc_aload_n C dX5_endOrder_13 rfl rfl ?_
    refine fc_aload_n C dX5_endOrder_14 rfl rfl ?_
    refine fh_getf C dX5_endOrder_15 fl_X5_31 rfl rfl ?_
    refine fh_putf _ C dX5_endOrder_18 fl_X5_34 rfl (Nat.le_of_ble_eq_true rfl) rfl rfl ?_
    refine fh_vretE C T dX5_endOrder_21 ⟨rfl, ?_, fr.up 7 _⟩
    rw [if_neg c10, if_neg c10, if_neg c10]
    have := K1.fl_ (t_sk tx tl i)
    rw [e6]
    exact this
theorem c_parseNumber (K : k_T A F tx tl it ic dn oc i fl pt) (h0 : 0 ≤ i) (h1 : i ≤ tl) {sg : Int} (hsg : sg = 0 ∨ sg = 1) : fh_E mX5_parseNumber 2 [vR 139, vI sg] A F (fun r A' F' => r = some (vI (t_nv tx tl sg i)) ∧ k_T A' F' tx tl it ic dn oc (t_np tx tl sg i) (if t_no tx tl sg i = 1 then fl else t_np tx tl sg i) pt ∧ k_tf A F A' F') := by
  have hmi := t_mi_bd (sg := sg) h1 (tx := tx)
  have hdn := t_dn_bd hmi.2 (tx := tx)
  refine fh_E.of mi_X5_parseNumber (Nat.le_of_ble_eq_true rfl) ?_
  intro X C T
  -- from 86 on: so many figures stand
  have fin : ∀ (F1 : Nat → Nat → Int) (y : Option fc_AV), k_T A F1 tx tl it ic dn oc (t_np tx tl sg i) fl pt → k_tf A F A F1 → fc_W X 0 0 159 (fc_H A F1) 86 [some (vR 139), some (vI sg), some (vI (t_mi tx tl sg i)), some (vI (t_pv tx tl (i + t_mi tx tl sg i) (t_dn tx tl (i + t_mi tx tl sg i)).toNat)), some (vI (t_dn tx tl (i + t_mi tx tl sg i))), y] [] := by
    intro F1 y K1 fr
    have hnp := t_np_bd (sg := sg) h1 (tx := tx)
    have last : ∀ (F2 : Nat → Nat → Int), k_T A F2 tx tl it ic dn oc (t_np tx tl sg i) (if t_no tx tl sg i = 1 then fl else t_np tx tl sg i) pt → k_tf A F A F2 → fc_W X 0 0 159 (fc_H A F2) 106 [some (vR 139), some (vI sg), some (vI (t_mi tx tl sg i)), some (vI (t_pv tx tl (i + t_mi tx tl sg i) (t_dn tx tl (i + t_mi tx tl sg i)).toNat)), some (vI (t_dn tx tl (i + t_mi tx tl sg i))), y] [] := by
      intro F2 K2 fr2
      refine fc_iload_n C dX5_parseNumber_106 rfl rfl ?_
      refine fc_if_eq (tgt := 115) C dX5_parseNumber_107 (by decide) (fc_Rm (by omega)) (fun c107 => ?_) (fun c107 => ?_)
      · refine fc_iload_n C dX5_parseNumber_115 rfl rfl ?_
        exact fh_iretE C T dX5_parseNumber_116 (Or.inl rfl) ⟨by unfold t_nv; rw [if_neg (by omega)], K2, fr2⟩
      · refine fc_iload_n C dX5_parseNumber_110 rfl rfl ?_
        refine fc_ineg C dX5_parseNumber_111 ?_
        refine fc_goto (tgt := 116) C dX5_parseNumber_112 (by decide) ?_
        exact fh_iretE C T dX5_parseNumber_116 (Or.inl rfl) ⟨by unfold t_nv; rw [if_pos (by omega)], K2, fr2⟩
    have flt : t_no tx tl sg i ≠ 1 → fc_W X 0 0 159 (fc_H A F1) 98 [some (vR 139), some (vI sg), some (vI (t_mi tx tl sg i)), some (vI (t_pv tx tl (i + t_mi tx tl sg i) (t_dn tx tl (i + t_mi tx tl sg i)).toNat)), some (vI (t_dn tx tl (i + t_mi tx tl sg i))), y] [] := by
      intro h
      refine fc_aload_n C dX5_parseNumber_98 rfl rfl ?_
      refine fc_aload_n C dX5_parseNumber_99 rfl rfl ?_
      refine fh_getf C dX5_parseNumber_100 fl_X5_31 rfl rfl ?_
      refine fh_putf _ C dX5_parseNumber_103 fl_X5_34 rfl (Nat.le_of_ble_eq_true rfl) rfl rfl ?_
      refine last _ ?_ (fr.up 7 _)
      rw [if_neg h]
      have e6 := K1.2.2.2.2.1
      rw [e6]
      exact K1.fl_ _
    refine fc_iload C dX5_parseNumber_86 rfl ?_
    refine fc_if_eq (tgt := 98) C dX5_parseNumber_88 (by decide) (fc_Rm (by omega)) (fun c88 => ?_) (fun c88 => ?_)
    · exact flt (by unfold t_no; rw [if_neg (by omega)]; decide)
    · refine fc_aload_n C dX5_parseNumber_91 rfl rfl ?_
      refine fh_callV (y := mX5_isFigureHere) C dX5_parseNumber_92 ml_X5_69 mi_X5_isFigureHere im_X5_isFigureHere se_X5_isFigureHere (c_isFigureHere K1 (by omega) hnp.2) rfl rfl (by decide) rfl (Nat.le_of_ble_eq_true rfl) (Nat.zero_le _) (Nat.zero_le _) rfl ?_
      refine fc_if_eq (tgt := 106) C dX5_parseNumber_95 (by decide) (fc_ind_R _) (fun c95 => ?_) (fun c95 => ?_)
      · have c95 := fc_ind_0 c95
        have hno : t_no tx tl sg i = 1 := by unfold t_no; rw [if_pos ⟨by omega, c95⟩]
        exact last _ (by rw [if_pos hno]; exact K1) fr
      · have c95 := fc_ind_ne c95
        exact flt (by unfold t_no; rw [if_neg (fun z => z.2 c95)]; decide)
  have loop : ∀ (m : Nat) (k : Int) (F1 : Nat → Nat → Int), 0 ≤ k → k ≤ 3 → 3 - k < m → (∀ j : Int, 0 ≤ j → j < k → t_f tx tl (i + t_mi tx tl sg i + j)) → i + t_mi tx tl sg i + k ≤ tl → k_T A F1 tx tl it ic dn oc (i + t_mi tx tl sg i + k) fl pt → k_tf A F A F1 → fc_W X 0 0 159 (fc_H A F1) 41 [some (vR 139), some (vI sg), some (vI (t_mi tx tl sg i)), some (vI (t_pv tx tl (i + t_mi tx tl sg i) k.toNat)), some (vI k), some (vI k)] [] := by
    intro m
    induction m with
    | zero => intro k F1 q0 q1 q2; exfalso; omega
    | succ m ih =>
      intro k F1 q0 q1 q2 q3 q4 K1 fr
      have out : (k = 3 ∨ ¬ t_f tx tl (i + t_mi tx tl sg i + k)) → fc_W X 0 0 159 (fc_H A F1) 86 [some (vR 139), some (vI sg), some (vI (t_mi tx tl sg i)), some (vI (t_pv tx tl (i + t_mi tx tl sg i) k.toNat)), some (vI k), some (vI k)] [] := by
        intro h
        have e := t_dn_eq q0 q1 q3 h
        have e2 : t_np tx tl sg i = i + t_mi tx tl sg i + k := by unfold t_np; rw [e]
        have := fin F1 (some (vI k)) (by rw [e2]; exact K1) fr
        rw [e] at this
        exact this
      refine fc_iload C dX5_parseNumber_41 rfl ?_
      refine fc_iconst C dX5_parseNumber_43 ?_
      refine fc_icmp_ge (tgt := 86) C dX5_parseNumber_44 (by decide) (fc_Rm (by omega)) (fc_Rm (by omega)) (fun c44 => ?_) (fun c44 => ?_)
      · exact out (Or.inl (by omega))
      · refine fc_aload_n C dX5_parseNumber_47 rfl rfl ?_
        refine fh_callV (y := mX5_isFigureHere) C dX5_parseNumber_48 ml_X5_69 mi_X5_isFigureHere im_X5_isFigureHere se_X5_isFigureHere (c_isFigureHere K1 (by omega) q4) rfl rfl (by decide) rfl (Nat.le_of_ble_eq_true rfl) (Nat.zero_le _) (Nat.zero_le _) rfl ?_
        refine fc_if_eq (tgt := 86) C dX5_parseNumber_51 (by decide) (fc_ind_R _) (fun c51 => ?_) (fun c51 => ?_)
        · exact out (Or.inr (fc_ind_0 c51))
        · have c51 := fc_ind_ne c51
          have hlt := t_f_lt c51
          have e6 := K1.2.2.2.2.1
          refine fc_bipush C dX5_parseNumber_54 (by decide) ?_
          refine fc_iload_n C dX5_parseNumber_56 rfl rfl ?_
          refine fc_imul C dX5_parseNumber_57 ?_
          refine fc_aload_n C dX5_parseNumber_58 rfl rfl ?_
          refine fh_callV (y := mX5_byteHere) C dX5_parseNumber_59 ml_X5_46 mi_X5_byteHere im_X5_byteHere se_X5_byteHere (c_byteHere K1 (by omega) q4) rfl rfl (by decide) rfl (Nat.le_of_ble_eq_true rfl) (Nat.zero_le _) (Nat.zero_le _) rfl ?_
          refine fc_iadd C dX5_parseNumber_62 ?_
          refine fc_bipush C dX5_parseNumber_63 (by decide) ?_
          refine fc_isub C dX5_parseNumber_65 ?_
          refine fc_istore_n C dX5_parseNumber_66 rfl (by decide) ?_
          refine fc_iinc C dX5_parseNumber_67 rfl (by decide) ?_
          refine fc_aload_n C dX5_parseNumber_70 rfl rfl ?_
          refine fc_dup C dX5_parseNumber_71 rfl ?_
          refine fh_getf C dX5_parseNumber_72 fl_X5_31 rfl rfl ?_
          refine fc_iconst C dX5_parseNumber_75 ?_
          refine fc_iadd C dX5_parseNumber_76 ?_
          refine fh_putf _ C dX5_parseNumber_77 fl_X5_31 rfl (Nat.le_of_ble_eq_true rfl) rfl rfl ?_
          refine fc_iinc C dX5_parseNumber_80 rfl (by decide) ?_
          refine fc_goto (tgt := 41) C dX5_parseNumber_83 (by decide) ?_
          have := ih (k + 1) (ff_up F1 139 6 (F1 139 6 + 1)) (by omega) (by omega) (by omega) (fun j j0 j1 => by
            by_cases q : j = k
            · rw [q]; exact c51
            · exact q3 j j0 (by omega)) (by omega) (by rw [e6, show i + t_mi tx tl sg i + (k + 1) = i + t_mi tx tl sg i + k + 1 by omega]; exact K1.at_ _) (fr.up 6 _)
          refine fc_eq (st' := []) ?_ rfl this
          rw [show (k + 1).toNat = k.toNat + 1 by omega]
          show _ = [some (vR 139), some (vI sg), some (vI (t_mi tx tl sg i)), some (vI (10 * t_pv tx tl (i + t_mi tx tl sg i) k.toNat + t_b tx tl (i + t_mi tx tl sg i + ((k.toNat : Nat) : Int)) - 48)), some (vI (k + 1)), some (vI (k + 1))]
          rw [Int.toNat_of_nonneg q0]
          rfl
  have hb := t_b_R K h0
  have e6 := K.2.2.2.2.1
  have pos : t_mi tx tl sg i = 0 → ∀ ls, ls = [some (vR 139), some (vI sg), none, none, none, none] → fc_W X 0 0 159 (fc_H A F) 17 ls [] := by
    intro h ls els
    subst els
    refine fc_iconst C dX5_parseNumber_17 ?_
    refine fc_istore_n C dX5_parseNumber_18 rfl (by decide) ?_
    refine fc_iload_n C dX5_parseNumber_19 rfl rfl ?_
    refine fc_if_eq (tgt := 33) C dX5_parseNumber_20 (by decide) (fc_Rm (by omega)) (fun c20 => ?_) (fun c20 => ?_)
    · refine fc_iconst C dX5_parseNumber_33 ?_
      refine fc_istore_n C dX5_parseNumber_34 rfl (by decide) ?_
      refine fc_iconst C dX5_parseNumber_35 ?_
      refine fc_istore C dX5_parseNumber_36 (by decide) ?_
      refine fc_iconst C dX5_parseNumber_38 ?_
      refine fc_istore C dX5_parseNumber_39 (by decide) ?_
      have := loop 4 0 F (by omega) (by omega) (by omega) (fun j j0 j1 => by exfalso; omega) (by omega) (by rw [h, Int.add_zero, Int.add_zero]; exact K) k_tf.rf
      rw [h] at this
      exact this
    · exact absurd rfl c20
  refine fc_iload_n C dX5_parseNumber_0 rfl rfl ?_
  refine fc_if_eq (tgt := 17) C dX5_parseNumber_1 (by decide) (fc_Rm (by omega)) (fun c1 => ?_) (fun c1 => ?_)
  · exact pos (by unfold t_mi; rw [if_neg (by omega)]) _ rfl
  · refine fc_aload_n C dX5_parseNumber_4 rfl rfl ?_
    refine fh_callV (y := mX5_byteHere) C dX5_parseNumber_5 ml_X5_46 mi_X5_byteHere im_X5_byteHere se_X5_byteHere (c_byteHere K h0 h1) rfl rfl (by decide) rfl (Nat.le_of_ble_eq_true rfl) (Nat.zero_le _) (Nat.zero_le _) rfl ?_
    refine fc_bipush C dX5_parseNumber_8 (by decide) ?_
    refine fc_icmp_ne (tgt := 17) C dX5_parseNumber_10 (by decide) (fc_Rm (by omega)) (fc_Rm (by omega)) (fun c10 => ?_) (fun c10 => ?_)
    · exact pos (by unfold t_mi; rw [if_neg (by omega)]) _ rfl
    · have h : t_mi tx tl sg i = 1 := by unfold t_mi; rw [if_pos ⟨by omega, by omega⟩]
      refine fc_iconst C dX5_parseNumber_13 ?_
      refine fc_goto (tgt := 18) C dX5_parseNumber_14 (by decide) ?_
      refine fc_istore_n C dX5_parseNumber_18 rfl (by decide) ?_
      refine fc_iload_n C dX5_parseNumber_19 rfl rfl ?_
      refine fc_if_eq (tgt := 33) C dX5_parseNumber_20 (by decide) (fc_Rm (by omega)) (fun c20 => ?_) (fun c20 => ?_)
      · omega
      · refine fc_aload_n C dX5_parseNumber_23 rfl rfl ?_
        refine fc_dup C dX5_parseNumber_24 rfl ?_
        refine fh_getf C dX5_parseNumber_25 fl_X5_31 rfl rfl ?_
        refine fc_iconst C dX5_parseNumber_28 ?_
        refine fc_iadd C dX5_parseNumber_29 ?_
        refine fh_putf _ C dX5_parseNumber_30 fl_X5_31 rfl (Nat.le_of_ble_eq_true rfl) rfl rfl ?_
        refine fc_iconst C dX5_parseNumber_33 ?_
        refine fc_istore_n C dX5_parseNumber_34 rfl (by decide) ?_
        refine fc_iconst C dX5_parseNumber_35 ?_
        refine fc_istore C dX5_parseNumber_36 (by decide) ?_
        refine fc_iconst C dX5_parseNumber_38 ?_
        refine fc_istore C dX5_parseNumber_39 (by decide) ?_
        have := loop 4 0 (ff_up F 139 6 (F 139 6 + 1)) (by omega) (by omega) (by omega) (fun j j0 j1 => by exfalso; omega) (by omega) (by rw [e6, h, Int.add_zero]; exact K.at_ _) (k_tf.rf.up 6 _)
        rw [h] at this
        exact this
end TEXT
