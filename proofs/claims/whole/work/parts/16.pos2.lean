/-! Position: the other methods -/
def fa_sel (P : Nat → Bool) (g A : Nat → Int → Int) : Nat → Int → Int := fun i => if P i = true then g i else A i
theorem fa_sel_up {P Q : Nat → Bool} {g A : Nat → Int → Int} {j : Nat} {x : Int → Int} (h : ∀ i, Q i = (P i || i == j)) (hx : x = g j) : fa_up (fa_sel P g A) j x = fa_sel Q g A := by
  funext i
  unfold fa_up fa_sel
  by_cases e : i = j
  · subst e
    rw [if_pos rfl, if_pos (by rw [h]; simp), hx]
  · rw [if_neg e]
    have : Q i = P i := by rw [h]; simp [e]
    rw [this]
theorem fa_sel_no {P : Nat → Bool} {g A : Nat → Int → Int} {i : Nat} (h : P i = false) : fa_sel P g A i = A i := by unfold fa_sel; rw [if_neg (by rw [h]; decide)]
theorem fa_sel_in {P : Nat → Bool} {g A : Nat → Int → Int} {i : Nat} (h : P i = true) : fa_sel P g A i = g i := by unfold fa_sel; rw [if_pos h]
theorem fa_sel_0 {g A : Nat → Int → Int} : fa_sel (fun _ => false) g A = A := by funext i; exact fa_sel_no rfl
/-- a position's cells, from its object b on -/
def k_PB (b : Nat) : Prop := (∀ (a : Int → Int) (f : Nat → Int), fc_S b a f = cO 3 [vI (f 0), vR (b + 1), vR (b + 7), vR (b + 8), vR (b + 9), vR (b + 10)]) ∧ (∀ (a : Int → Int) (f : Nat → Int), fc_S (b + 1) a f = cP 2 5 (fun j => some (b + 2 + 1 * j.toNat))) ∧ (∀ r : Fin 5, ∀ (a : Int → Int) (f : Nat → Int), fc_S (b + 2 + r.val) a f = cI 5 a) ∧ (∀ (a : Int → Int) (f : Nat → Int), fc_S (b + 7) a f = cI 5 a) ∧ (∀ (a : Int → Int) (f : Nat → Int), fc_S (b + 8) a f = cI 5 a) ∧ (∀ (a : Int → Int) (f : Nat → Int), fc_S (b + 9) a f = cI 3 a) ∧ (∀ (a : Int → Int) (f : Nat → Int), fc_S (b + 10) a f = cP 2 3 (fun j => some (b + 11 + 1 * j.toNat))) ∧ (∀ r : Fin 3, ∀ (a : Int → Int) (f : Nat → Int), fc_S (b + 11 + r.val) a f = cI 5 a)
theorem fin5 {P : Fin 5 → Prop} (h0 : P 0) (h1 : P 1) (h2 : P 2) (h3 : P 3) (h4 : P 4) : ∀ r, P r
  | ⟨0, _⟩ => h0
  | ⟨1, _⟩ => h1
  | ⟨2, _⟩ => h2
  | ⟨3, _⟩ => h3
  | ⟨4, _⟩ => h4
theorem fin3 {P : Fin 3 → Prop} (h0 : P 0) (h1 : P 1) (h2 : P 2) : ∀ r, P r
  | ⟨0, _⟩ => h0
  | ⟨1, _⟩ => h1
  | ⟨2, _⟩ => h2
theorem k_PB_3 : k_PB 3 := ⟨fun _ _ => rfl, fun _ _ => rfl, fin5 (fun _ _ => rfl) (fun _ _ => rfl) (fun _ _ => rfl) (fun _ _ => rfl) (fun _ _ => rfl), fun _ _ => rfl, fun _ _ => rfl, fun _ _ => rfl, fun _ _ => rfl, fin3 (fun _ _ => rfl) (fun _ _ => rfl) (fun _ _ => rfl)⟩
theorem k_PB_38 : k_PB 38 := ⟨fun _ _ => rfl, fun _ _ => rfl, fin5 (fun _ _ => rfl) (fun _ _ => rfl) (fun _ _ => rfl) (fun _ _ => rfl) (fun _ _ => rfl), fun _ _ => rfl, fun _ _ => rfl, fun _ _ => rfl, fun _ _ => rfl, fin3 (fun _ _ => rfl) (fun _ _ => rfl) (fun _ _ => rfl)⟩
theorem k_PB_52 : k_PB 52 := ⟨fun _ _ => rfl, fun _ _ => rfl, fin5 (fun _ _ => rfl) (fun _ _ => rfl) (fun _ _ => rfl) (fun _ _ => rfl) (fun _ _ => rfl), fun _ _ => rfl, fun _ _ => rfl, fun _ _ => rfl, fun _ _ => rfl, fin3 (fun _ _ => rfl) (fun _ _ => rfl) (fun _ _ => rfl)⟩
theorem k_PB_66 : k_PB 66 := ⟨fun _ _ => rfl, fun _ _ => rfl, fin5 (fun _ _ => rfl) (fun _ _ => rfl) (fun _ _ => rfl) (fun _ _ => rfl) (fun _ _ => rfl), fun _ _ => rfl, fun _ _ => rfl, fun _ _ => rfl, fun _ _ => rfl, fin3 (fun _ _ => rfl) (fun _ _ => rfl) (fun _ _ => rfl)⟩
theorem k_PB_80 : k_PB 80 := ⟨fun _ _ => rfl, fun _ _ => rfl, fin5 (fun _ _ => rfl) (fun _ _ => rfl) (fun _ _ => rfl) (fun _ _ => rfl) (fun _ _ => rfl), fun _ _ => rfl, fun _ _ => rfl, fun _ _ => rfl, fun _ _ => rfl, fin3 (fun _ _ => rfl) (fun _ _ => rfl) (fun _ _ => rfl)⟩
theorem k_PB_94 : k_PB 94 := ⟨fun _ _ => rfl, fun _ _ => rfl, fin5 (fun _ _ => rfl) (fun _ _ => rfl) (fun _ _ => rfl) (fun _ _ => rfl) (fun _ _ => rfl), fun _ _ => rfl, fun _ _ => rfl, fun _ _ => rfl, fun _ _ => rfl, fin3 (fun _ _ => rfl) (fun _ _ => rfl) (fun _ _ => rfl)⟩
theorem k_PB_108 : k_PB 108 := ⟨fun _ _ => rfl, fun _ _ => rfl, fin5 (fun _ _ => rfl) (fun _ _ => rfl) (fun _ _ => rfl) (fun _ _ => rfl) (fun _ _ => rfl), fun _ _ => rfl, fun _ _ => rfl, fun _ _ => rfl, fun _ _ => rfl, fin3 (fun _ _ => rfl) (fun _ _ => rfl) (fun _ _ => rfl)⟩
theorem k_PB_t {t : Nat} (h : t < 6) : k_PB (38 + 14 * t) := by
  rcases (show t = 0 ∨ t = 1 ∨ t = 2 ∨ t = 3 ∨ t = 4 ∨ t = 5 by omega) with rfl | rfl | rfl | rfl | rfl | rfl
  · exact k_PB_38
  · exact k_PB_52
  · exact k_PB_66
  · exact k_PB_80
  · exact k_PB_94
  · exact k_PB_108
theorem k_PB.row {b : Nat} (h : k_PB b) {k : Int} (h0 : 0 ≤ k) (h1 : k < 5) : ∀ (a : Int → Int) (f : Nat → Int), fc_S (b + 2 + 1 * k.toNat) a f = cI 5 a := by
  have := h.2.2.1 ⟨k.toNat, by omega⟩
  rw [Nat.one_mul]
  exact this
theorem k_PB.krow {b : Nat} (h : k_PB b) {k : Int} (h0 : 0 ≤ k) (h1 : k < 3) : ∀ (a : Int → Int) (f : Nat → Int), fc_S (b + 11 + 1 * k.toNat) a f = cI 5 a := by
  have := h.2.2.2.2.2.2.2 ⟨k.toNat, by omega⟩
  rw [Nat.one_mul]
  exact this
/-- what a copy brings into the cells from b on, out of those from b0 on -/
def k_cpg (A : Nat → Int → Int) (b b0 : Nat) (k : Int) : Nat → Int → Int := fun i => fc_cpy (A (b0 + (i - b))) (A i) (if i = b + 9 then k else 5)
def k_cp (A : Nat → Int → Int) (b b0 : Nat) : Nat → Int → Int := fa_sel (fun i => decide (b + 2 ≤ i) && decide (i < b + 14) && decide (i ≠ b + 10)) (k_cpg A b b0 3) A
section POS2
variable {A : Nat → Int → Int} {F : Nat → Nat → Int} {n : Int} {L : Int → Int → Int} {c : Int → Int}
set_option maxHeartbeats 4000000 in
theorem c_copyFrom {b b0 : Nat} (h : k_PB b) (h0 : k_PB b0) (hd : b + 14 ≤ b0 ∨ b0 + 14 ≤ b) : fh_M mX3_copyFrom 2 [vR b, vR b0] A F none (k_cp A b b0) (ff_up F b 0 (F b0 0)) := by
  refine fh_M.of mi_X3_copyFrom (Nat.le_of_ble_eq_true rfl) ?_
  intro X C T
  obtain ⟨s0, s1, s2, s7, s8, s9, s10, s11⟩ := id h
  obtain ⟨t0, t1, t2, t7, t8, t9, t10, t11⟩ := id h0
  -- the second loop
  have loop2 : ∀ (m : Nat) (k : Int), 0 ≤ k → k ≤ 3 → 3 - k < m → fc_W X 0 0 159 (fc_H (fa_sel (fun i => decide (b + 2 ≤ i) && decide (i < b + 9) || (decide (i = b + 9) || decide (b + 11 ≤ i) && decide (i < b + 11 + k.toNat))) (k_cpg A b b0 k) A) (ff_up F b 0 (F b0 0))) 60 [some (vR b), some (vR b0), some (vI k)] [] := by
    intro m
    induction m with
    | zero => intro k q0 q1 q2; exfalso; omega
    | succ m ih =>
      intro k q0 q1 q2
      refine fc_iload_n C dX3_copyFrom_60 rfl rfl ?_
      refine fc_iconst C dX3_copyFrom_61 ?_
      refine fc_icmp_ge (tgt := 98) C dX3_copyFrom_62 (by decide) (fc_Rm (by omega)) (fc_Rm (by omega)) (fun c62 => ?_) (fun c62 => ?_)
      · have e : k = 3 := by omega
        subst e
        refine fh_vret C T dX3_copyFrom_98 ?_
        unfold k_cp
        congr 2
        funext i
        rw [Bool.eq_iff_iff]
        simp only [Bool.or_eq_true, Bool.and_eq_true, decide_eq_true_eq]
        have : (3 : Int).toNat = 3 := rfl
        omega
      · refine fc_aload_n C dX3_copyFrom_65 rfl rfl ?_
        refine fh_getf C dX3_copyFrom_66 fl_X3_27 (s0 _ _) rfl ?_
        refine fc_iload_n C dX3_copyFrom_69 rfl rfl ?_
        refine fc_aload_n C dX3_copyFrom_70 rfl rfl ?_
        refine fh_getf C dX3_copyFrom_71 fl_X3_27 (t0 _ _) rfl ?_
        refine fc_iload_n C dX3_copyFrom_74 rfl rfl ?_
        refine fh_iaload C dX3_copyFrom_75 t9 (by omega) (by omega) (by decide) ?_
        refine fh_iastore C dX3_copyFrom_76 s9 (by omega) (by omega) (by decide) ?_
        have e1 : fa_up (fa_sel (fun i => decide (b + 2 ≤ i) && decide (i < b + 9) || (decide (i = b + 9) || decide (b + 11 ≤ i) && decide (i < b + 11 + k.toNat))) (k_cpg A b b0 k) A) (b + 9) (fc_set (fa_sel (fun i => decide (b + 2 ≤ i) && decide (i < b + 9) || (decide (i = b + 9) || decide (b + 11 ≤ i) && decide (i < b + 11 + k.toNat))) (k_cpg A b b0 k) A (b + 9)) k (fa_sel (fun i => decide (b + 2 ≤ i) && decide (i < b + 9) || (decide (i = b + 9) || decide (b + 11 ≤ i) && decide (i < b + 11 + k.toNat))) (k_cpg A b b0 k) A (b0 + 9) k)) = fa_sel (fun i => decide (b + 2 ≤ i) && decide (i < b + 9) || (decide (i = b + 9) || decide (b + 11 ≤ i) && decide (i < b + 11 + k.toNat))) (k_cpg A b b0 (k + 1)) A := by
          rw [fa_sel_in (i := b + 9) (by simp), fa_sel_no (i := b0 + 9) (by simp <;> omega)]
          funext i
          by_cases e : i = b + 9
          · subst e
            rw [fa_s, fa_sel_in (by simp)]
            funext q
            unfold fc_set k_cpg fc_cpy
            rw [if_pos rfl, if_pos rfl, show b0 + (b + 9 - b) = b0 + 9 by omega]
            by_cases q3 : q = k
            · rw [if_pos q3, if_pos (by omega), q3]
            · rw [if_neg q3]
              by_cases q4 : 0 ≤ q ∧ q < k
              · rw [if_pos q4, if_pos (by omega)]
              · rw [if_neg q4, if_neg (by omega)]
          · rw [fa_n _ _ e]
            unfold fa_sel
            have : k_cpg A b b0 k i = k_cpg A b b0 (k + 1) i := by unfold k_cpg; rw [if_neg e, if_neg e]
            rw [this]
        refine fc_heq (congrArg (fun z => fc_H z _) e1) ?_
        refine fc_aload_n C dX3_copyFrom_77 rfl rfl ?_
        refine fh_getf C dX3_copyFrom_78 fl_X3_30 (t0 _ _) rfl ?_
        refine fc_iload_n C dX3_copyFrom_81 rfl rfl ?_
        refine fh_aaload C dX3_copyFrom_82 (Or.inl rfl) (t10 _ _) (by omega) (by omega) (by decide) rfl ?_
        refine fc_aload_n C dX3_copyFrom_83 rfl rfl ?_
        refine fh_getf C dX3_copyFrom_84 fl_X3_30 (s0 _ _) rfl ?_
        refine fc_iload_n C dX3_copyFrom_87 rfl rfl ?_
        refine fh_aaload C dX3_copyFrom_88 (Or.inl rfl) (s10 _ _) (by omega) (by omega) (by decide) rfl ?_
        refine fh_callSv (y := mX6_copyRow) C dX3_copyFrom_89 ml_X3_33 mi_X6_copyRow st_X6_copyRow (c_copyRow (h0.krow q0 (by omega)) (h.krow q0 (by omega))) (by decide) rfl (Nat.le_of_ble_eq_true rfl) (Nat.zero_le _) (Nat.zero_le _) rfl ?_
        refine fc_iinc C dX3_copyFrom_92 rfl (by decide) ?_
        refine fc_goto (tgt := 60) C dX3_copyFrom_95 (by decide) ?_
        refine fc_heq (congrArg (fun z => fc_H z _) ?_) (ih (k + 1) (by omega) (by omega) (by omega))
        rw [fa_sel_no (i := b0 + 11 + 1 * k.toNat) (by simp <;> omega), fa_sel_no (i := b + 11 + 1 * k.toNat) (by simp <;> omega)]
        refine fa_sel_up (fun i => ?_) ?_
        · rw [Bool.eq_iff_iff]
          simp only [Bool.or_eq_true, Bool.and_eq_true, decide_eq_true_eq, beq_iff_eq]
          omega
        · unfold k_cpg
          rw [if_neg (by omega), show b0 + (b + 11 + 1 * k.toNat - b) = b0 + 11 + 1 * k.toNat by omega]
  have loop1 : ∀ (m : Nat) (k : Int), 0 ≤ k → k ≤ 5 → 5 - k < m → fc_W X 0 0 159 (fc_H (fa_sel (fun i => decide (b + 2 ≤ i) && decide (i < b + 2 + k.toNat)) (k_cpg A b b0 0) A) (ff_up F b 0 (F b0 0))) 10 [some (vR b), some (vR b0), some (vI k)] [] := by
    intro m
    induction m with
    | zero => intro k q0 q1 q2; exfalso; omega
    | succ m ih =>
      intro k q0 q1 q2
      refine fc_iload_n C dX3_copyFrom_10 rfl rfl ?_
      refine fc_iconst C dX3_copyFrom_11 ?_
      refine fc_icmp_ge (tgt := 36) C dX3_copyFrom_12 (by decide) (fc_Rm (by omega)) (fc_Rm (by omega)) (fun c12 => ?_) (fun c12 => ?_)
      · have e : k = 5 := by omega
        subst e
        refine fc_aload_n C dX3_copyFrom_36 rfl rfl ?_
        refine fh_getf C dX3_copyFrom_37 fl_X3_20 (t0 _ _) rfl ?_
        refine fc_aload_n C dX3_copyFrom_40 rfl rfl ?_
        refine fh_getf C dX3_copyFrom_41 fl_X3_20 (s0 _ _) rfl ?_
        refine fh_callSv (y := mX6_copyRow) C dX3_copyFrom_44 ml_X3_33 mi_X6_copyRow st_X6_copyRow (c_copyRow t7 s7) (by decide) rfl (Nat.le_of_ble_eq_true rfl) (Nat.zero_le _) (Nat.zero_le _) rfl ?_
        have e1 : fa_up (fa_sel (fun i => decide (b + 2 ≤ i) && decide (i < b + 2 + (5 : Int).toNat)) (k_cpg A b b0 0) A) (b + 7) (fc_cpy (fa_sel (fun i => decide (b + 2 ≤ i) && decide (i < b + 2 + (5 : Int).toNat)) (k_cpg A b b0 0) A (b0 + 7)) (fa_sel (fun i => decide (b + 2 ≤ i) && decide (i < b + 2 + (5 : Int).toNat)) (k_cpg A b b0 0) A (b + 7)) 5) = fa_sel (fun i => decide (b + 2 ≤ i) && decide (i < b + 8)) (k_cpg A b b0 0) A := by
          have h55 : (5 : Int).toNat = 5 := rfl
          rw [fa_sel_no (i := b0 + 7) (by simp <;> omega), fa_sel_no (i := b + 7) (by simp <;> omega)]
          refine fa_sel_up (fun i => ?_) ?_
          · rw [Bool.eq_iff_iff]
            simp only [Bool.or_eq_true, Bool.and_eq_true, decide_eq_true_eq, beq_iff_eq]
            omega
          · unfold k_cpg
            rw [if_neg (by omega), show b0 + (b + 7 - b) = b0 + 7 by omega]
        refine fc_heq (congrArg (fun z => fc_H z _) e1) ?_
        refine fc_aload_n C dX3_copyFrom_47 rfl rfl ?_
        refine fh_getf C dX3_copyFrom_48 fl_X3_24 (t0 _ _) rfl ?_
        refine fc_aload_n C dX3_copyFrom_51 rfl rfl ?_
        refine fh_getf C dX3_copyFrom_52 fl_X3_24 (s0 _ _) rfl ?_
        refine fh_callSv (y := mX6_copyRow) C dX3_copyFrom_55 ml_X3_33 mi_X6_copyRow st_X6_copyRow (c_copyRow t8 s8) (by decide) rfl (Nat.le_of_ble_eq_true rfl) (Nat.zero_le _) (Nat.zero_le _) rfl ?_
        refine fc_iconst C dX3_copyFrom_58 ?_
        refine fc_istore_n C dX3_copyFrom_59 rfl (by decide) ?_
        refine fc_heq (congrArg (fun z => fc_H z _) ?_) (loop2 4 0 (by omega) (by omega) (by omega))
        rw [fa_sel_no (i := b0 + 8) (by simp <;> omega), fa_sel_no (i := b + 8) (by simp)]
        rw [fa_sel_up (Q := fun i => decide (b + 2 ≤ i) && decide (i < b + 9)) (fun i => by
            rw [Bool.eq_iff_iff]
            simp only [Bool.or_eq_true, Bool.and_eq_true, decide_eq_true_eq, beq_iff_eq]
            omega) (by
            unfold k_cpg
            rw [if_neg (by omega), show b0 + (b + 8 - b) = b0 + 8 by omega])]
        funext i
        unfold fa_sel
        by_cases e : i = b + 9
        · subst e
          rw [if_neg (by simp), if_pos (by simp)]
          unfold k_cpg fc_cpy
          funext q
          rw [if_pos rfl, if_neg (by omega)]
        · have : (decide (b + 2 ≤ i) && decide (i < b + 9)) = (decide (b + 2 ≤ i) && decide (i < b + 9) || (decide (i = b + 9) || decide (b + 11 ≤ i) && decide (i < b + 11 + (0 : Int).toNat))) := by
            have h00 : (0 : Int).toNat = 0 := rfl
            rw [Bool.eq_iff_iff]
            simp only [Bool.or_eq_true, Bool.and_eq_true, decide_eq_true_eq]
            omega
          show (if (decide (b + 2 ≤ i) && decide (i < b + 9)) = true then k_cpg A b b0 0 i else A i) = _
          rw [this]
      · refine fc_aload_n C dX3_copyFrom_15 rfl rfl ?_
        refine fh_getf C dX3_copyFrom_16 fl_X3_17 (t0 _ _) rfl ?_
        refine fc_iload_n C dX3_copyFrom_19 rfl rfl ?_
        refine fh_aaload C dX3_copyFrom_20 (Or.inl rfl) (t1 _ _) (by omega) (by omega) (by decide) rfl ?_
        refine fc_aload_n C dX3_copyFrom_21 rfl rfl ?_
        refine fh_getf C dX3_copyFrom_22 fl_X3_17 (s0 _ _) rfl ?_
        refine fc_iload_n C dX3_copyFrom_25 rfl rfl ?_
        refine fh_aaload C dX3_copyFrom_26 (Or.inl rfl) (s1 _ _) (by omega) (by omega) (by decide) rfl ?_
        refine fh_callSv (y := mX6_copyRow) C dX3_copyFrom_27 ml_X3_33 mi_X6_copyRow st_X6_copyRow (c_copyRow (h0.row q0 (by omega)) (h.row q0 (by omega))) (by decide) rfl (Nat.le_of_ble_eq_true rfl) (Nat.zero_le _) (Nat.zero_le _) rfl ?_
        refine fc_iinc C dX3_copyFrom_30 rfl (by decide) ?_
        refine fc_goto (tgt := 10) C dX3_copyFrom_33 (by decide) ?_
        refine fc_heq (congrArg (fun z => fc_H z _) ?_) (ih (k + 1) (by omega) (by omega) (by omega))
        rw [fa_sel_no (i := b0 + 2 + 1 * k.toNat) (by simp <;> omega), fa_sel_no (i := b + 2 + 1 * k.toNat) (by simp <;> omega)]
        refine fa_sel_up (fun i => ?_) ?_
        · rw [Bool.eq_iff_iff]
          simp only [Bool.or_eq_true, Bool.and_eq_true, decide_eq_true_eq, beq_iff_eq]
          omega
        · unfold k_cpg
          rw [if_neg (by omega), show b0 + (b + 2 + 1 * k.toNat - b) = b0 + 2 + 1 * k.toNat by omega]
  refine fc_aload_n C dX3_copyFrom_0 rfl rfl ?_
  refine fc_aload_n C dX3_copyFrom_1 rfl rfl ?_
  refine fh_getf C dX3_copyFrom_2 fl_X3_9 (t0 _ _) rfl ?_
  refine fh_putf (F b0 0) C dX3_copyFrom_5 fl_X3_9 (s0 _ _) (Nat.le_of_ble_eq_true rfl) rfl (by rw [s0]; simp [ff_up]) ?_
  refine fc_iconst C dX3_copyFrom_8 ?_
  refine fc_istore_n C dX3_copyFrom_9 rfl (by decide) ?_
  refine fc_heq (congrArg (fun z => fc_H z _) ?_) (loop1 6 0 (by omega) (by omega) (by omega))
  funext i
  rw [fa_sel_no]
  simp <;> omega
end POS2
