/-! Acts -/
def k_fr (lo hi : Nat) (A : Nat → Int → Int) (F : Nat → Nat → Int) (A' : Nat → Int → Int) (F' : Nat → Nat → Int) : Prop := ∀ i : Nat, ¬ (lo ≤ i ∧ i ≤ hi) → A' i = A i ∧ F' i = F i
theorem k_fr.rf {lo hi : Nat} {A : Nat → Int → Int} {F : Nat → Nat → Int} : k_fr lo hi A F A F := fun _ _ => ⟨rfl, rfl⟩
theorem k_fr.tr {lo hi : Nat} {A A' A'' : Nat → Int → Int} {F F' F'' : Nat → Nat → Int} (h : k_fr lo hi A F A' F') (h' : k_fr lo hi A' F' A'' F'') : k_fr lo hi A F A'' F'' := fun i hi => ⟨(h' i hi).1.trans (h i hi).1, (h' i hi).2.trans (h i hi).2⟩
theorem k_fr.wd {lo hi lo' hi' : Nat} {A A' : Nat → Int → Int} {F F' : Nat → Nat → Int} (h : k_fr lo hi A F A' F') (h1 : lo' ≤ lo) (h2 : hi ≤ hi') : k_fr lo' hi' A F A' F' := fun i hi => h i (by omega)
theorem ff_n {F : Nat → Nat → Int} {i k j : Nat} {z : Int} (h : j ≠ i) : ff_up F i k z j = F j := by funext q; unfold ff_up; rw [if_neg h]
theorem p_pts_at {v : Int → Int} {n k : Int} : p_pts v n k = if k = 0 then n else if 1 ≤ k ∧ k < 36 then 0 else v k := rfl
theorem p_ln_at {v : Int → Int} {a b k i : Int} : p_ln v a b k i = if i = 1 + 5 * a + b ∨ i = 1 + 5 * b + a then k else v i := rfl
theorem p_ch_at {v x : Int → Int} {i : Int} : p_ch v x i = if 26 ≤ i ∧ i < 26 + v 0 then x (i - 26) else v i := rfl
theorem p_fs_at {v f : Int → Int} {i : Int} : p_fs v f i = if 31 ≤ i ∧ i < 31 + v 0 then f (i - 31) else v i := rfl
theorem p_set_at {v : Int → Int} {k x i : Int} : p_set v k x i = if i = k then x else v i := rfl
theorem fc_cpy_in {f g : Int → Int} {m p : Int} (h0 : 0 ≤ p) (h1 : p < m) : fc_cpy f g m p = f p := if_pos ⟨h0, h1⟩
section ACTS
variable {A : Nat → Int → Int} {F : Nat → Nat → Int} {v : Int → Int}
/-- an act's end: its answer, what the position holds, what else may have changed -/
def k_act (v : Int → Int) (A : Nat → Int → Int) (F : Nat → Nat → Int) (x : Int) (w : Int → Int) : Option fc_AV → (Nat → Int → Int) → (Nat → Nat → Int) → Prop := fun r A' F' => r = some (vI x) ∧ k_enc A' F' 3 (if x = 0 then w else v) ∧ k_fr 3 35 A F A' F'
theorem c_startAnew (E : k_enc A F 3 v) {n : Int} (hn : fc_R n) : fh_E mX0_startAnew 2 [vR 2, vI n] A F (k_act v A F (x_pts v n) (p_pts v n)) := by
  refine fh_E.of mi_X0_startAnew (Nat.le_of_ble_eq_true rfl) ?_
  intro X C T
  have bad : ¬ (2 ≤ n ∧ n ≤ 5) → ∀ ls : List (Option fc_AV), fc_W X 0 0 159 (fc_H A F) 10 ls [] := by
    intro h ls
    refine fc_bipush C dX0_startAnew_10 (by decide) ?_
    have e : x_pts v n = -2 := if_neg h
    exact fh_iretE C T dX0_startAnew_12 (Or.inl rfl) ⟨by rw [e], by rw [e]; exact E, k_fr.rf⟩
  refine fc_iload_n C dX0_startAnew_0 rfl rfl ?_
  refine fc_iconst C dX0_startAnew_1 ?_
  refine fc_icmp_lt (tgt := 10) C dX0_startAnew_2 (by decide) (hn) (fc_Rm (by omega)) (fun c2 => ?_) (fun c2 => ?_)
  · exact bad (by omega) _
  · refine fc_iload_n C dX0_startAnew_5 rfl rfl ?_
    refine fc_iconst C dX0_startAnew_6 ?_
    refine fc_icmp_le (tgt := 13) C dX0_startAnew_7 (by decide) (hn) (fc_Rm (by omega)) (fun c7 => ?_) (fun c7 => ?_)
    · refine fc_aload_n C dX0_startAnew_13 rfl rfl ?_
      refine fh_getf C dX0_startAnew_14 fl_X0_12 rfl rfl ?_
      refine fc_iload_n C dX0_startAnew_17 rfl rfl ?_
      refine fh_callVv (y := mX3_empty) C dX0_startAnew_18 ml_X0_32 mi_X3_empty im_X3_empty se_X3_empty (c_empty) rfl rfl (by decide) rfl (Nat.le_of_ble_eq_true rfl) (Nat.zero_le _) (Nat.zero_le _) rfl ?_
      refine fc_iconst C dX0_startAnew_21 ?_
      have e : x_pts v n = 0 := if_pos ⟨c2, c7⟩
      refine fh_iretE C T dX0_startAnew_22 (Or.inl rfl) ⟨by rw [e], ?_, fun i hi => ⟨fa_sel_no (by simp; omega), ff_n (by omega)⟩⟩
      rw [e, if_pos rfl]
      obtain ⟨h1, h2, h3, h4, h5, h6⟩ := E
      refine ⟨by rw [p_pts_at]; simp [ff_up], fun a c a0 a1 d0 d1 => ?_, fun p p0 p1 => ?_, fun p p0 p1 => ?_, fun s s0 s1 => ?_, fun s p s0 s1 p0 p1 => ?_⟩
      · rw [fa_sel_in (by simp; omega), p_pts_at, if_neg (by omega), if_pos (by omega), fc_cpy_in d0 d1]
      · rw [fa_sel_in (by simp), p_pts_at, if_neg (by omega), if_pos (by omega), fc_cpy_in p0 p1]
      · rw [fa_sel_in (by simp), p_pts_at, if_neg (by omega), if_pos (by omega), fc_cpy_in p0 p1]
      · rw [fa_sel_no (by simp), p_pts_at, if_neg (by omega), if_neg (by omega)]; exact h5 s s0 s1
      · rw [fa_sel_no (by simp; omega), p_pts_at, if_neg (by omega), if_neg (by omega)]; exact h6 s p s0 s1 p0 p1
    · exact bad (by omega) _
theorem c_layLines (E : k_enc A F 3 v) (hv : v_ok v) {a b k : Int} (ha : fc_R a) (hb : fc_R b) (hk : fc_R k) : fh_E mX0_layLines 1 [vR 2, vI a, vI b, vI k] A F (k_act v A F (x_ln v a b k) (p_ln v a b k)) := by
  obtain ⟨hn1, hn2⟩ := hv.n
  have K := E.net hv
  refine fh_E.of mi_X0_layLines (Nat.le_of_ble_eq_true rfl) ?_
  intro X C T
  have bad : ¬ ((0 ≤ a ∧ a < v 0) ∧ (0 ≤ b ∧ b < v 0) ∧ a ≠ b ∧ 0 ≤ k ∧ k ≤ 3) → ∀ ls : List (Option fc_AV), fc_W X 0 0 159 (fc_H A F) 36 ls [] := by
    intro h ls
    refine fc_bipush C dX0_layLines_36 (by decide) ?_
    have e : x_ln v a b k = -2 := if_neg h
    exact fh_iretE C T dX0_layLines_38 (Or.inl rfl) ⟨by rw [e], by rw [e]; exact E, k_fr.rf⟩
  refine fc_aload_n C dX0_layLines_0 rfl rfl ?_
  refine fh_getf C dX0_layLines_1 fl_X0_12 rfl rfl ?_
  refine fc_iload_n C dX0_layLines_4 rfl rfl ?_
  refine fh_callV (y := mX3_hasPoint) C dX0_layLines_5 ml_X0_36 mi_X3_hasPoint im_X3_hasPoint se_X3_hasPoint (c_hasPoint K ha) rfl rfl (by decide) rfl (Nat.le_of_ble_eq_true rfl) (Nat.zero_le _) (Nat.zero_le _) rfl ?_
  refine fc_if_eq (tgt := 36) C dX0_layLines_8 (by decide) (fc_ind_R _) (fun c8 => ?_) (fun c8 => ?_)
  · have := fc_ind_0 c8
    exact bad (by omega) _
  · have c8 := fc_ind_ne c8
    refine fc_aload_n C dX0_layLines_11 rfl rfl ?_
    refine fh_getf C dX0_layLines_12 fl_X0_12 rfl rfl ?_
    refine fc_iload_n C dX0_layLines_15 rfl rfl ?_
    refine fh_callV (y := mX3_hasPoint) C dX0_layLines_16 ml_X0_36 mi_X3_hasPoint im_X3_hasPoint se_X3_hasPoint (c_hasPoint K hb) rfl rfl (by decide) rfl (Nat.le_of_ble_eq_true rfl) (Nat.zero_le _) (Nat.zero_le _) rfl ?_
    refine fc_if_eq (tgt := 36) C dX0_layLines_19 (by decide) (fc_ind_R _) (fun c19 => ?_) (fun c19 => ?_)
    · have := fc_ind_0 c19
      exact bad (by omega) _
    · have c19 := fc_ind_ne c19
      refine fc_iload_n C dX0_layLines_22 rfl rfl ?_
      refine fc_iload_n C dX0_layLines_23 rfl rfl ?_
      refine fc_icmp_eq (tgt := 36) C dX0_layLines_24 (by decide) (ha) (hb) (fun c24 => ?_) (fun c24 => ?_)
      · exact bad (by omega) _
      · refine fc_iload_n C dX0_layLines_27 rfl rfl ?_
        refine fc_if_lt (tgt := 36) C dX0_layLines_28 (by decide) (hk) (fun c28 => ?_) (fun c28 => ?_)
        · exact bad (by omega) _
        · refine fc_iload_n C dX0_layLines_31 rfl rfl ?_
          refine fc_iconst C dX0_layLines_32 ?_
          refine fc_icmp_le (tgt := 39) C dX0_layLines_33 (by decide) (hk) (fc_Rm (by omega)) (fun c33 => ?_) (fun c33 => ?_)
          · obtain ⟨A1, hM, K1, fr⟩ := c_putLines (k := k) K c8.1 (show a < 5 by omega) c19.1 (show b < 5 by omega) c24
            refine fc_aload_n C dX0_layLines_39 rfl rfl ?_
            refine fh_getf C dX0_layLines_40 fl_X0_12 rfl rfl ?_
            refine fc_iload_n C dX0_layLines_43 rfl rfl ?_
            refine fc_iload_n C dX0_layLines_44 rfl rfl ?_
            refine fc_iload_n C dX0_layLines_45 rfl rfl ?_
            refine fh_callVv (y := mX3_putLines) C dX0_layLines_46 ml_X0_40 mi_X3_putLines im_X3_putLines se_X3_putLines (hM) rfl rfl (by decide) rfl (Nat.le_of_ble_eq_true rfl) (Nat.zero_le _) (Nat.zero_le _) rfl ?_
            refine fc_iconst C dX0_layLines_49 ?_
            have e : x_ln v a b k = 0 := if_pos ⟨c8, c19, c24, c28, c33⟩
            refine fh_iretE C T dX0_layLines_50 (Or.inl rfl) ⟨by rw [e], ?_, fun i hi => ⟨fr i (by omega), rfl⟩⟩
            rw [e, if_pos rfl]
            obtain ⟨h1, h2, h3, h4, h5, h6⟩ := E
            refine ⟨by rw [p_ln_at, if_neg (by omega)]; exact h1, fun x y x0 x1 y0 y1 => ?_, fun p p0 p1 => ?_, fun p p0 p1 => ?_, fun s s0 s1 => ?_, fun s p s0 s1 p0 p1 => ?_⟩
            · rw [K1.2.2.2 x y x0 x1 y0 y1, p_ln_at]
              unfold s_put v_L
              by_cases q : (x = a ∧ y = b) ∨ (x = b ∧ y = a)
              · rw [if_pos q, if_pos (by omega)]
              · rw [if_neg q, if_neg (by omega)]
            · rw [fr _ (by omega), p_ln_at, if_neg (by omega)]; exact h3 p p0 p1
            · rw [fr _ (by omega), p_ln_at, if_neg (by omega)]; exact h4 p p0 p1
            · rw [fr _ (by omega), p_ln_at, if_neg (by omega)]; exact h5 s s0 s1
            · rw [fr _ (by omega), p_ln_at, if_neg (by omega)]; exact h6 s p s0 s1 p0 p1
          · exact bad (by omega) _
/-- planned chips are taken, or are too many -/
theorem c_takePlanned {n : Int} (hn : F 3 0 = n) (hn2 : 2 ≤ n ∧ n ≤ 5) (hp : ∀ p : Int, 0 ≤ p → p < n → -1000000000 ≤ A 34 p ∧ A 34 p ≤ 1000000000) : ((∀ p : Int, 0 ≤ p → p < n → -999 ≤ A 34 p ∧ A 34 p ≤ 999) → fh_M mX0_takePlanned 2 [vR 2] A F (some (vI 0)) (fa_up A 10 (fc_cpy (A 34) (A 10) 5)) F) ∧ ((¬ ∀ p : Int, 0 ≤ p → p < n → -999 ≤ A 34 p ∧ A 34 p ≤ 999) → fh_M mX0_takePlanned 2 [vR 2] A F (some (vI (-3))) A F) := by
  have loop : ∀ (X : fc_X) (r : Option fc_AV) (A' : Nat → Int → Int), fc_C X mX0_takePlanned.1.cls mX0_takePlanned.2.1 mX0_takePlanned.2.2.1 2 0 0 mX0_takePlanned.1.name → fc_T X mX0_takePlanned.2.2.2 r 159 (fc_H A' F) 0 0 → ((∀ p : Int, 0 ≤ p → p < n → -999 ≤ A 34 p ∧ A 34 p ≤ 999) → r = some (vI 0) ∧ A' = fa_up A 10 (fc_cpy (A 34) (A 10) 5)) → ((¬ ∀ p : Int, 0 ≤ p → p < n → -999 ≤ A 34 p ∧ A 34 p ≤ 999) → r = some (vI (-3)) ∧ A' = A) → ∀ (m : Nat) (k : Int), 0 ≤ k → k ≤ n → n - k < m → (∀ p : Int, 0 ≤ p → p < k → -999 ≤ A 34 p ∧ A 34 p ≤ 999) → fc_W X 0 0 159 (fc_H A F) 2 [some (vR 2), some (vI k)] [] := by
    intro X r A' C T h1 h2 m
    induction m with
    | zero => intro k q0 q1 q2; exfalso; omega
    | succ m ih =>
      intro k q0 q1 q2 q3
      refine fc_iload_n C dX0_takePlanned_2 rfl rfl ?_
      refine fc_aload_n C dX0_takePlanned_3 rfl rfl ?_
      refine fh_getf C dX0_takePlanned_4 fl_X0_12 rfl rfl ?_
      refine fh_getf C dX0_takePlanned_7 fl_X0_74 rfl rfl ?_
      refine fc_icmp_ge (tgt := 37) C dX0_takePlanned_10 (by decide) (fc_Rm (by omega)) (fc_Rm (by omega)) (fun c10 => ?_) (fun c10 => ?_)
      · obtain ⟨e1, e2⟩ := h1 (fun p p0 p1 => q3 p p0 (by omega))
        refine fc_aload_n C dX0_takePlanned_37 rfl rfl ?_
        refine fh_getf C dX0_takePlanned_38 fl_X0_25 rfl rfl ?_
        refine fc_aload_n C dX0_takePlanned_41 rfl rfl ?_
        refine fh_getf C dX0_takePlanned_42 fl_X0_12 rfl rfl ?_
        refine fh_getf C dX0_takePlanned_45 fl_X0_52 rfl rfl ?_
        refine fh_callSv (y := mX6_copyRow) C dX0_takePlanned_48 ml_X0_55 mi_X6_copyRow st_X6_copyRow (c_copyRow (fun _ _ => rfl) (fun _ _ => rfl)) (by decide) rfl (Nat.le_of_ble_eq_true rfl) (Nat.zero_le _) (Nat.zero_le _) rfl ?_
        refine fc_iconst C dX0_takePlanned_51 ?_
        exact fh_iret C T dX0_takePlanned_52 e1.symm (by rw [e2])
      · have hk := hp k q0 (by omega)
        refine fc_aload_n C dX0_takePlanned_13 rfl rfl ?_
        refine fh_getf C dX0_takePlanned_14 fl_X0_25 rfl rfl ?_
        refine fc_iload_n C dX0_takePlanned_17 rfl rfl ?_
        refine fh_iaload C dX0_takePlanned_18 (fun _ _ => rfl) (by omega) (by omega) (by decide) ?_
        refine fh_callS (y := mJ9_abs_0f7a4) C dX0_takePlanned_19 ml_X0_101 mi_J9_abs_0f7a4 st_J9_abs_0f7a4 (c_iabs (fc_Rm (by omega))) (by decide) rfl (Nat.le_of_ble_eq_true rfl) (Nat.zero_le _) (Nat.zero_le _) rfl ?_
        refine fc_sipush C dX0_takePlanned_22 (by decide) ?_
        refine fc_icmp_le (tgt := 31) C dX0_takePlanned_25 (by decide) (fc_Rm (by omega)) (fc_Rm (by omega)) (fun c25 => ?_) (fun c25 => ?_)
        · refine fc_iinc C dX0_takePlanned_31 rfl (by decide) ?_
          refine fc_goto (tgt := 2) C dX0_takePlanned_34 (by decide) ?_
          exact ih (k + 1) (by omega) (by omega) (by omega) (fun p p0 p1 => by
            by_cases e : p = k
            · rw [e]; omega
            · exact q3 p p0 (by omega))
        · obtain ⟨e1, e2⟩ := h2 (fun h => by have := h k q0 (by omega); omega)
          refine fc_bipush C dX0_takePlanned_28 (by decide) ?_
          exact fh_iret C T dX0_takePlanned_30 e1.symm (by rw [e2])
  constructor
  · intro h
    refine fh_M.of mi_X0_takePlanned (Nat.le_of_ble_eq_true rfl) ?_
    intro X C T
    have lp := loop X _ _ C T (fun _ => ⟨rfl, rfl⟩) (fun q => absurd h q)
    refine fc_iconst C dX0_takePlanned_0 ?_
    refine fc_istore_n C dX0_takePlanned_1 rfl (by decide) ?_
    exact lp 6 0 (by omega) (by omega) (by omega) (fun p p0 p1 => by omega)
  · intro h
    refine fh_M.of mi_X0_takePlanned (Nat.le_of_ble_eq_true rfl) ?_
    intro X C T
    have lp := loop X _ _ C T (fun q => absurd q h) (fun _ => ⟨rfl, rfl⟩)
    refine fc_iconst C dX0_takePlanned_0 ?_
    refine fc_istore_n C dX0_takePlanned_1 rfl (by decide) ?_
    exact lp 6 0 (by omega) (by omega) (by omega) (fun p p0 p1 => by omega)
/-- behind planned chips: the position holds them, or stays -/
theorem k_planned (E : k_enc A F 3 v) (hv : v_ok v) {A1 : Nat → Int → Int} {F1 : Nat → Nat → Int} (fr : k_fr 17 35 A F A1 F1) {c : Int → Int} (hc : ∀ p : Int, 0 ≤ p → p < v 0 → A1 34 p = c p) (hc2 : ∀ p : Int, v 0 ≤ p → p < 5 → A1 34 p = v (26 + p)) : k_enc (fa_up A1 10 (fc_cpy (A1 34) (A1 10) 5)) F1 3 (p_ch v c) := by
  obtain ⟨hn1, hn2⟩ := hv.n
  obtain ⟨h1, h2, h3, h4, h5, h6⟩ := E
  refine ⟨by rw [p_ch_at, if_neg (by omega), (fr 3 (by omega)).2]; exact h1, fun x y x0 x1 y0 y1 => ?_, fun p p0 p1 => ?_, fun p p0 p1 => ?_, fun s s0 s1 => ?_, fun s p s0 s1 p0 p1 => ?_⟩
  · rw [fa_n _ _ (by omega), (fr _ (by omega)).1, p_ch_at, if_neg (by omega)]; exact h2 x y x0 x1 y0 y1
  · rw [fa_s, fc_cpy_in p0 p1, p_ch_at]
    by_cases q : p < v 0
    · rw [if_pos (by omega), hc p p0 q, show 26 + p - 26 = p by omega]
    · rw [if_neg (by omega)]; exact hc2 p (by omega) p1
  · rw [fa_n _ _ (by omega), (fr _ (by omega)).1, p_ch_at, if_neg (by omega)]; exact h4 p p0 p1
  · rw [fa_n _ _ (by omega), (fr _ (by omega)).1, p_ch_at, if_neg (by omega)]; exact h5 s s0 s1
  · rw [fa_n _ _ (by omega), (fr _ (by omega)).1, p_ch_at, if_neg (by omega)]; exact h6 s p s0 s1 p0 p1
theorem c_addChips (E : k_enc A F 3 v) (hv : v_ok v) {p x : Int} (hp : fc_R p) (hx : fc_R x) : fh_E mX0_addChips 3 [vR 2, vI p, vI x] A F (k_act v A F (x_add v p x) (p_set v (26 + p) (v (26 + p) + x))) := by
  obtain ⟨hn1, hn2⟩ := hv.n
  have K := E.net hv
  obtain ⟨hx1, hx2⟩ := id hx
  refine fh_E.of mi_X0_addChips (Nat.le_of_ble_eq_true rfl) ?_
  intro X C T
  have bad : ¬ ((0 ≤ p ∧ p < v 0) ∧ -99 ≤ x ∧ x ≤ 99) → ∀ ls : List (Option fc_AV), fc_W X 0 0 159 (fc_H A F) 23 ls [] := by
    intro h ls
    refine fc_bipush C dX0_addChips_23 (by decide) ?_
    have e : x_add v p x = -2 := if_neg h
    exact fh_iretE C T dX0_addChips_25 (Or.inl rfl) ⟨by rw [e], by rw [e]; exact E, k_fr.rf⟩
  refine fc_aload_n C dX0_addChips_0 rfl rfl ?_
  refine fh_getf C dX0_addChips_1 fl_X0_12 rfl rfl ?_
  refine fc_iload_n C dX0_addChips_4 rfl rfl ?_
  refine fh_callV (y := mX3_hasPoint) C dX0_addChips_5 ml_X0_36 mi_X3_hasPoint im_X3_hasPoint se_X3_hasPoint (c_hasPoint K hp) rfl rfl (by decide) rfl (Nat.le_of_ble_eq_true rfl) (Nat.zero_le _) (Nat.zero_le _) rfl ?_
  refine fc_if_eq (tgt := 23) C dX0_addChips_8 (by decide) (fc_ind_R _) (fun c8 => ?_) (fun c8 => ?_)
  · have := fc_ind_0 c8
    exact bad (by omega) _
  · have c8 := fc_ind_ne c8
    refine fc_iload_n C dX0_addChips_11 rfl rfl ?_
    refine fc_i2l C dX0_addChips_12 hx ?_
    refine fh_callS (y := mJ9_abs_067f4) C dX0_addChips_13 ml_X0_44 mi_J9_abs_067f4 st_J9_abs_067f4 (c_labs (fc_RLm (by omega))) (by decide) rfl (Nat.le_of_ble_eq_true rfl) (Nat.zero_le _) (Nat.zero_le _) rfl ?_
    refine fc_ldc2_w C dX0_addChips_16 kc_X0_50 ?_
    refine fc_lcmp C dX0_addChips_19 (fc_RLm (by omega)) (fc_RLm (by omega)) ?_
    refine fc_if_le (tgt := 26) C dX0_addChips_20 (by decide) (fc_cmp_R _ _) (fun c20 => ?_) (fun c20 => ?_)
    · have hle : -99 ≤ x ∧ x ≤ 99 := by
        have : ¬ 99 < (x.natAbs : Int) := fun q => by have := fc_cmp_gt.mpr q; omega
        omega
      have hcp := hv.2.2.2.1 p (by omega) (by omega)
      have eE := E.2.2.1 p (by omega) (by omega)
      refine fc_aload_n C dX0_addChips_26 rfl rfl ?_
      refine fh_getf C dX0_addChips_27 fl_X0_12 rfl rfl ?_
      refine fh_getf C dX0_addChips_30 fl_X0_52 rfl rfl ?_
      refine fc_aload_n C dX0_addChips_33 rfl rfl ?_
      refine fh_getf C dX0_addChips_34 fl_X0_25 rfl rfl ?_
      refine fh_callSv (y := mX6_copyRow) C dX0_addChips_37 ml_X0_55 mi_X6_copyRow st_X6_copyRow (c_copyRow (fun _ _ => rfl) (fun _ _ => rfl)) (by decide) rfl (Nat.le_of_ble_eq_true rfl) (Nat.zero_le _) (Nat.zero_le _) rfl ?_
      refine fc_aload_n C dX0_addChips_40 rfl rfl ?_
      refine fh_getf C dX0_addChips_41 fl_X0_25 rfl rfl ?_
      refine fc_iload_n C dX0_addChips_44 rfl rfl ?_
      refine fc_dup2 C dX0_addChips_45 rfl rfl ?_
      refine fh_iaload C dX0_addChips_46 (fun _ _ => rfl) (by omega) (by omega) (by decide) ?_
      refine fc_iload_n C dX0_addChips_47 rfl rfl ?_
      refine fc_iadd C dX0_addChips_48 ?_
      refine fh_iastore C dX0_addChips_49 (fun _ _ => rfl) (by omega) (by omega) (by decide) ?_
      have e34 : ∀ o : Int, 0 ≤ o → o < 5 → fa_up (fa_up A 34 (fc_cpy (A 10) (A 34) 5)) 34 (fc_set (fa_up A 34 (fc_cpy (A 10) (A 34) 5) 34) p (fa_up A 34 (fc_cpy (A 10) (A 34) 5) 34 p + x)) 34 o = if o = p then v (26 + p) + x else v (26 + o) := fun o o0 o1 => by
        rw [fa_s, fa_s]
        unfold fc_set
        by_cases q : o = p
        · rw [if_pos q, if_pos q, fc_cpy_in (by omega) (by omega), ← eE]
        · rw [if_neg q, if_neg q, fc_cpy_in o0 o1]; exact E.2.2.1 o o0 o1
      have fr : k_fr 17 35 A F (fa_up (fa_up A 34 (fc_cpy (A 10) (A 34) 5)) 34 (fc_set (fa_up A 34 (fc_cpy (A 10) (A 34) 5) 34) p (fa_up A 34 (fc_cpy (A 10) (A 34) 5) 34 p + x))) F := fun i hi => ⟨by rw [fa_n _ _ (by omega), fa_n _ _ (by omega)], rfl⟩
      generalize fa_up (fa_up A 34 (fc_cpy (A 10) (A 34) 5)) 34 (fc_set (fa_up A 34 (fc_cpy (A 10) (A 34) 5) 34) p (fa_up A 34 (fc_cpy (A 10) (A 34) 5) 34 p + x)) = A1 at e34 fr ⊢
      have tk := c_takePlanned (A := A1) (F := F) E.1 ⟨hn1, hn2⟩ (fun o o0 o1 => by
        rw [e34 o o0 (by omega)]
        have := hv.2.2.2.1 o o0 (by omega)
        split <;> omega)
      by_cases hr : -999 ≤ v (26 + p) + x ∧ v (26 + p) + x ≤ 999
      · have e : x_add v p x = 0 := by unfold x_add; rw [if_pos ⟨c8, hle⟩, if_pos hr]
        refine fc_aload_n C dX0_addChips_50 rfl rfl ?_
        refine fh_callV (y := mX0_takePlanned) C dX0_addChips_51 ml_X0_59 mi_X0_takePlanned im_X0_takePlanned se_X0_takePlanned (tk.1 (fun o o0 o1 => by rw [e34 o o0 (by omega)]; have := hv.2.2.2.1 o o0 (by omega); split <;> omega)) rfl rfl (by decide) rfl (Nat.le_of_ble_eq_true rfl) (Nat.zero_le _) (Nat.zero_le _) rfl ?_
        refine fh_iretE C T dX0_addChips_54 (Or.inl rfl) ⟨by rw [e], ?_, fun i hi => ⟨by rw [fa_n _ _ (by omega)]; exact (fr i (by omega)).1, rfl⟩⟩
        rw [e, if_pos rfl]
        refine (k_planned E hv fr (c := fun o => if o = p then v (26 + p) + x else v (26 + o)) (fun o o0 o1 => e34 o o0 (by omega)) (fun o o0 o1 => by rw [e34 o (by omega) o1, if_neg (by omega)])).congr (fun k k0 k1 => ?_)
        rw [p_ch_at, p_set_at]
        by_cases q : 26 ≤ k ∧ k < 26 + v 0
        · rw [if_pos q]
          by_cases q2 : k = 26 + p
          · rw [if_pos q2, if_pos (by omega)]
          · rw [if_neg q2, if_neg (by omega), show 26 + (k - 26) = k by omega]
        · rw [if_neg q, if_neg (by omega)]
      · have e : x_add v p x = -3 := by unfold x_add; rw [if_pos ⟨c8, hle⟩, if_neg hr]
        refine fc_aload_n C dX0_addChips_50 rfl rfl ?_
        refine fh_callV (y := mX0_takePlanned) C dX0_addChips_51 ml_X0_59 mi_X0_takePlanned im_X0_takePlanned se_X0_takePlanned (tk.2 (fun h => hr (by have := h p (by omega) (by omega); rw [e34 p (by omega) (by omega), if_pos rfl] at this; exact this))) rfl rfl (by decide) rfl (Nat.le_of_ble_eq_true rfl) (Nat.zero_le _) (Nat.zero_le _) rfl ?_
        refine fh_iretE C T dX0_addChips_54 (Or.inl rfl) ⟨by rw [e], ?_, fr.wd (by omega) (by omega)⟩
        rw [e, if_neg (by decide)]
        exact E.of_fr (by rw [(fr 3 (by omega)).2]) (fun i i0 i1 i2 => (fr i (by omega)).1)
    · have : 99 < (x.natAbs : Int) := fc_cmp_gt.mp c20
      exact bad (by omega) _
set_option maxHeartbeats 4000000 in
theorem c_fireSet (E : k_enc A F 3 v) (hv : v_ok v) {S t : Int} (hS : fc_R S) (ht : t = 1 ∨ t = -1) : fh_E mX0_fireSet 3 [vR 2, vI S, vI t] A F (k_act v A F (x_fire v S t) (p_fire v S t)) := by
  obtain ⟨hn1, hn2⟩ := hv.n
  have K := E.net hv
  have hg := hv.g
  have hall := fb_all_bd (n := v 0) (by omega) (by omega)
  refine fh_E.of mi_X0_fireSet (Nat.le_of_ble_eq_true rfl) ?_
  intro X C T
  have bad : ¬ (1 ≤ S ∧ S ≤ fb_all (v 0)) → ∀ ls : List (Option fc_AV), fc_W X 0 0 159 (fc_H A F) 16 ls [] := by
    intro h ls
    refine fc_bipush C dX0_fireSet_16 (by decide) ?_
    have e : x_fire v S t = -2 := if_neg h
    exact fh_iretE C T dX0_fireSet_18 (Or.inl rfl) ⟨by rw [e], by rw [e]; exact E, k_fr.rf⟩
  refine fc_iload_n C dX0_fireSet_0 rfl rfl ?_
  refine fc_iconst C dX0_fireSet_1 ?_
  refine fc_icmp_lt (tgt := 16) C dX0_fireSet_2 (by decide) (hS) (fc_Rm (by omega)) (fun c2 => ?_) (fun c2 => ?_)
  · exact bad (by omega) _
  · refine fc_iload_n C dX0_fireSet_5 rfl rfl ?_
    refine fc_aload_n C dX0_fireSet_6 rfl rfl ?_
    refine fh_getf C dX0_fireSet_7 fl_X0_12 rfl rfl ?_
    refine fh_callV (y := mX3_allPoints) C dX0_fireSet_10 ml_X0_67 mi_X3_allPoints im_X3_allPoints se_X3_allPoints (c_allPoints K) rfl rfl (by decide) rfl (Nat.le_of_ble_eq_true rfl) (Nat.zero_le _) (Nat.zero_le _) rfl ?_
    refine fc_icmp_le (tgt := 19) C dX0_fireSet_13 (by decide) (hS) (fc_Rm (by omega)) (fun c13 => ?_) (fun c13 => ?_)
    · have hS0 : 0 ≤ S := by omega
      have hS1 : S < 32 := by omega
      refine fc_aload_n C dX0_fireSet_19 rfl rfl ?_
      refine fh_getf C dX0_fireSet_20 fl_X0_12 rfl rfl ?_
      refine fh_getf C dX0_fireSet_23 fl_X0_52 rfl rfl ?_
      refine fc_aload_n C dX0_fireSet_26 rfl rfl ?_
      refine fh_getf C dX0_fireSet_27 fl_X0_25 rfl rfl ?_
      refine fh_callSv (y := mX6_copyRow) C dX0_fireSet_30 ml_X0_55 mi_X6_copyRow st_X6_copyRow (c_copyRow (fun _ _ => rfl) (fun _ _ => rfl)) (by decide) rfl (Nat.le_of_ble_eq_true rfl) (Nat.zero_le _) (Nat.zero_le _) rfl ?_
      refine fc_aload_n C dX0_fireSet_33 rfl rfl ?_
      refine fh_getf C dX0_fireSet_34 fl_X0_21 rfl rfl ?_
      refine fc_aload_n C dX0_fireSet_37 rfl rfl ?_
      refine fh_getf C dX0_fireSet_38 fl_X0_12 rfl rfl ?_
      refine fc_iconst C dX0_fireSet_41 ?_
      have K1 : k_net (fa_up A 34 (fc_cpy (A 10) (A 34) 5)) F (v 0) (v_L v) := ⟨K.1, K.2.1, K.2.2.1, fun a b a0 a1 b0 b1 => by rw [fa_n _ _ (by omega)]; exact K.2.2.2 a b a0 a1 b0 b1⟩
      refine fh_callVE (y := mX1_take) C dX0_fireSet_42 ml_X0_70 mi_X1_take im_X1_take se_X1_take (c_take K1 (q := 0)) rfl rfl (by decide) rfl (Nat.le_of_ble_eq_true rfl) (Nat.zero_le _) (Nat.zero_le _) rfl ?_
      rintro r A1 F1 ⟨rfl, eF1, M1, fr1⟩
      refine fc_eq (st' := []) rfl rfl ?_
      have e34 : A1 34 = fc_cpy (A 10) (A 34) 5 := by rw [fr1 34 (by omega), fa_s]
      have frA : k_fr 17 35 A F A1 F1 := fun i hi => ⟨by rw [fr1 i (by omega), fa_n _ _ (by omega)], by rw [eF1, ff_n (by omega), ff_n (by omega)]⟩
      have hc3 : F1 3 0 = v 0 := by rw [(frA 3 (by omega)).2]; exact E.1
      -- the loop over the points
      have loop : ∀ (m : Nat) (k : Int) (x : Int → Int), 0 ≤ k → k ≤ v 0 → v 0 - k < m → (∀ o : Int, 0 ≤ o → o < v 0 → x o = v (26 + o) + t * fs_sum (fun p => if fb_t S p = 1 then - s_M (v_L v) (v 0) p o else 0) k.toNat) → (∀ o : Int, v 0 ≤ o → o < 5 → x o = v (26 + o)) → fc_W X 0 0 159 (fc_H (fa_up A1 34 x) F1) 47 [some (vR 2), some (vI S), some (vI t), some (vI k)] [] := by
        intro m
        induction m with
        | zero => intro k x q0 q1 q2; exfalso; omega
        | succ m ih =>
          intro k x q0 q1 q2 q3 q4
          have Mx : k_mx (fa_up A1 34 x) F1 (v 0) 0 (v_L v) := ⟨M1.1, M1.2.1, fun a b a0 a1 b0 b1 => by rw [fa_n _ _ (by omega)]; exact M1.2.2 a b a0 a1 b0 b1⟩
          refine fc_iload_n C dX0_fireSet_47 rfl rfl ?_
          refine fc_aload_n C dX0_fireSet_48 rfl rfl ?_
          refine fh_getf C dX0_fireSet_49 fl_X0_12 rfl rfl ?_
          refine fh_getf C dX0_fireSet_52 fl_X0_74 rfl rfl ?_
          refine fc_eq (st' := [vI (v 0), vI k]) rfl (by rw [hc3]) ?_
          refine fc_icmp_ge (tgt := 86) C dX0_fireSet_55 (by decide) (fc_Rm (by omega)) (fc_Rm (by omega)) (fun c55 => ?_) (fun c55 => ?_)
          · have ek : k = v 0 := by omega
            subst ek
            have hmo : ∀ o : Int, 0 ≤ o → o < v 0 → -1000 ≤ s_mo v S t o ∧ s_mo v S t o ≤ 1000 := fun o o0 o1 => by
              have hb := fs_sum_bd (f := fun p => if fb_t S p = 1 then - s_M (v_L v) (v 0) p o else 0) (lo := -15) (hi := 15) (n := (v 0).toNat) (fun k k0 k1 => by
                have h1 := s_val_bd hg (n := v 0) (p := k) (by omega) hn2 k0 (by omega)
                have h2 := hg k o k0 (by omega) o0 (by omega)
                unfold s_M
                split
                · split <;> omega
                · omega)
              unfold s_mo
              rcases ht with rfl | rfl <;> omega
            have frx : k_fr 17 35 A F (fa_up A1 34 x) F1 := fun i hi => ⟨by rw [fa_n _ _ (by omega)]; exact (frA i hi).1, (frA i hi).2⟩
            have tk := c_takePlanned (A := fa_up A1 34 x) (F := F1) hc3 ⟨hn1, hn2⟩ (fun o o0 o1 => by
              have h1 := hv.2.2.2.1 o o0 (by omega)
              have h2 := hmo o o0 o1
              have h3 := q3 o o0 o1
              rw [fa_s]
              unfold s_mo at h2
              omega)
            have hx : ∀ o : Int, 0 ≤ o → o < v 0 → fa_up A1 34 x 34 o = v (26 + o) + s_mo v S t o := fun o o0 o1 => by rw [fa_s]; exact q3 o o0 o1
            rcases Classical.em (∀ p : Int, 0 ≤ p → p < v 0 → -999 ≤ v (26 + p) + s_mo v S t p ∧ v (26 + p) + s_mo v S t p ≤ 999) with hr | hr
            · have e : x_fire v S t = 0 := by unfold x_fire; rw [if_pos ⟨by omega, c13⟩, if_pos (fc_ind_t hr)]
              refine fc_aload_n C dX0_fireSet_86 rfl rfl ?_
              refine fh_callV (y := mX0_takePlanned) C dX0_fireSet_87 ml_X0_59 mi_X0_takePlanned im_X0_takePlanned se_X0_takePlanned (tk.1 (fun o o0 o1 => by rw [hx o o0 o1]; exact hr o o0 o1)) rfl rfl (by decide) rfl (Nat.le_of_ble_eq_true rfl) (Nat.zero_le _) (Nat.zero_le _) rfl ?_
              refine fh_iretE C T dX0_fireSet_90 (Or.inl rfl) ⟨by rw [e], ?_, fun i hi => ⟨by rw [fa_n _ _ (by omega)]; exact (frx i (by omega)).1, (frx i (by omega)).2⟩⟩
              rw [e, if_pos rfl]
              exact k_planned E hv frx hx (fun o o0 o1 => by rw [fa_s]; exact q4 o o0 o1)
            · have e : x_fire v S t = -3 := by unfold x_fire; rw [if_pos ⟨by omega, c13⟩, if_neg (by rw [fc_ind_f hr]; decide)]
              refine fc_aload_n C dX0_fireSet_86 rfl rfl ?_
              refine fh_callV (y := mX0_takePlanned) C dX0_fireSet_87 ml_X0_59 mi_X0_takePlanned im_X0_takePlanned se_X0_takePlanned (tk.2 (fun h => hr (fun o o0 o1 => by have := h o o0 o1; rw [hx o o0 o1] at this; exact this))) rfl rfl (by decide) rfl (Nat.le_of_ble_eq_true rfl) (Nat.zero_le _) (Nat.zero_le _) rfl ?_
              refine fh_iretE C T dX0_fireSet_90 (Or.inl rfl) ⟨by rw [e], ?_, frx.wd (by omega) (by omega)⟩
              rw [e, if_neg (by decide)]
              exact E.of_fr (by rw [(frx 3 (by omega)).2]) (fun i i0 i1 i2 => (frx i (by omega)).1)
          · refine fc_iload_n C dX0_fireSet_58 rfl rfl ?_
            refine fc_iload_n C dX0_fireSet_59 rfl rfl ?_
            refine fc_ishr C dX0_fireSet_60 ?_
            refine fc_iconst C dX0_fireSet_61 ?_
            refine fc_iand C dX0_fireSet_62 ?_
            refine fc_iconst C dX0_fireSet_63 ?_
            refine fc_eq (st' := [vI 1, vI (fb_t S k)]) rfl (by rw [fb_and hS0 hS1 q0 (by omega)]) ?_
            have hb := fb_01 S k
            refine fc_icmp_ne (tgt := 80) C dX0_fireSet_64 (by decide) (fc_Rm (by omega)) (fc_Rm (by omega)) (fun c64 => ?_) (fun c64 => ?_)
            · refine fc_iinc C dX0_fireSet_80 rfl (by decide) ?_
              refine fc_goto (tgt := 47) C dX0_fireSet_83 (by decide) ?_
              exact ih (k + 1) x (by omega) (by omega) (by omega) (fun o o0 o1 => by rw [fs_step q0, if_neg c64, Int.add_zero]; exact q3 o o0 o1) q4
            · refine fc_aload_n C dX0_fireSet_67 rfl rfl ?_
              refine fh_getf C dX0_fireSet_68 fl_X0_21 rfl rfl ?_
              refine fc_aload_n C dX0_fireSet_71 rfl rfl ?_
              refine fh_getf C dX0_fireSet_72 fl_X0_25 rfl rfl ?_
              refine fc_iload_n C dX0_fireSet_75 rfl rfl ?_
              refine fc_iload_n C dX0_fireSet_76 rfl rfl ?_
              refine fh_callVv (y := mX1_fire) C dX0_fireSet_77 ml_X0_78 mi_X1_fire im_X1_fire se_X1_fire (c_fire Mx ⟨hn1, hn2⟩ (fun _ _ => rfl) (by decide) q0 (by omega)) rfl rfl (by decide) rfl (Nat.le_of_ble_eq_true rfl) (Nat.zero_le _) (Nat.zero_le _) rfl ?_
              refine fc_iinc C dX0_fireSet_80 rfl (by decide) ?_
              refine fc_goto (tgt := 47) C dX0_fireSet_83 (by decide) ?_
              refine fc_heq (congrArg (fun z => fc_H z _) ?_) (ih (k + 1) (s_fire (v_L v) (v 0) k t x) (by omega) (by omega) (by omega) (fun o o0 o1 => ?_) (fun o o0 o1 => ?_))
              · rw [fa_s]
                funext u
                by_cases eu : u = 34
                · rw [eu, fa_s, fa_s]
                · rw [fa_n _ _ eu, fa_n _ _ eu, fa_n _ _ eu]
              · rw [fs_step q0, if_pos c64]
                unfold s_fire
                rw [if_pos ⟨o0, o1⟩, q3 o o0 o1, Int.mul_add, Int.mul_neg]
                omega
              · unfold s_fire
                rw [if_neg (by omega)]
                exact q4 o o0 o1
      refine fc_iconst C dX0_fireSet_45 ?_
      refine fc_istore_n C dX0_fireSet_46 rfl (by decide) ?_
      refine fc_heq (congrArg (fun z => fc_H z _) ?_) (loop 6 0 (A1 34) (by omega) (by omega) (by omega) (fun o o0 o1 => ?_) (fun o o0 o1 => ?_))
      · funext u
        by_cases eu : u = 34
        · rw [eu, fa_s]
        · rw [fa_n _ _ eu]
      · rw [e34, fc_cpy_in o0 (by omega)]
        show A 10 o = v (26 + o) + t * 0
        rw [Int.mul_zero, Int.add_zero]
        exact E.2.2.1 o o0 (by omega)
      · rw [e34, fc_cpy_in (by omega) o1]
        exact E.2.2.1 o (by omega) o1
    · exact bad (by omega) _
theorem c_firePoint (E : k_enc A F 3 v) (hv : v_ok v) {p t : Int} (hp : fc_R p) (ht : t = 1 ∨ t = -1) : fh_E mX0_firePoint 4 [vR 2, vI p, vI t] A F (k_act v A F (x_one v p t) (p_fire v (2 ^ p.toNat) t)) := by
  obtain ⟨hn1, hn2⟩ := hv.n
  have K := E.net hv
  refine fh_E.of mi_X0_firePoint (Nat.le_of_ble_eq_true rfl) ?_
  intro X C T
  refine fc_aload_n C dX0_firePoint_0 rfl rfl ?_
  refine fh_getf C dX0_firePoint_1 fl_X0_12 rfl rfl ?_
  refine fc_iload_n C dX0_firePoint_4 rfl rfl ?_
  refine fh_callV (y := mX3_hasPoint) C dX0_firePoint_5 ml_X0_36 mi_X3_hasPoint im_X3_hasPoint se_X3_hasPoint (c_hasPoint K hp) rfl rfl (by decide) rfl (Nat.le_of_ble_eq_true rfl) (Nat.zero_le _) (Nat.zero_le _) rfl ?_
  refine fc_if_eq (tgt := 22) C dX0_firePoint_8 (by decide) (fc_ind_R _) (fun c8 => ?_) (fun c8 => ?_)
  · have c8 := fc_ind_0 c8
    refine fc_bipush C dX0_firePoint_22 (by decide) ?_
    have e : x_one v p t = -2 := if_neg c8
    exact fh_iretE C T dX0_firePoint_24 (Or.inl rfl) ⟨by rw [e], by rw [e]; exact E, k_fr.rf⟩
  · have c8 := fc_ind_ne c8
    have hpw := fb_pow5 c8.1 (show p < 5 by omega)
    refine fc_aload_n C dX0_firePoint_11 rfl rfl ?_
    refine fc_iconst C dX0_firePoint_12 ?_
    refine fc_iload_n C dX0_firePoint_13 rfl rfl ?_
    refine fc_ishl C dX0_firePoint_14 ?_
    refine fc_eq (st' := [vI (2 ^ p.toNat), vR 2]) rfl (by rw [fb_shl1 c8.1 (by omega)]) ?_
    refine fc_iload_n C dX0_firePoint_15 rfl rfl ?_
    refine fh_callVE (y := mX0_fireSet) C dX0_firePoint_16 ml_X0_63 mi_X0_fireSet im_X0_fireSet se_X0_fireSet (c_fireSet E hv (fc_Rm (by omega)) ht) rfl rfl (by decide) rfl (Nat.le_of_ble_eq_true rfl) (Nat.zero_le _) (Nat.zero_le _) rfl ?_
    rintro r A1 F1 ⟨rfl, h1, h2⟩
    refine fc_eq (st' := [vI (x_fire v (2 ^ p.toNat) t)]) rfl rfl ?_
    refine fc_goto (tgt := 24) C dX0_firePoint_19 (by decide) ?_
    have e : x_one v p t = x_fire v (2 ^ p.toNat) t := if_pos c8
    refine fh_iretE C T dX0_firePoint_24 (Or.inl rfl) ?_
    rw [e]
    exact ⟨rfl, h1, h2⟩
set_option maxHeartbeats 4000000 in
theorem c_settleHeap (E : k_enc A F 3 v) (hv : v_ok v) : fh_E mX0_settleHeap 3 [vR 2] A F (k_act v A F (x_stl v) (p_stl v)) := by
  obtain ⟨hn1, hn2⟩ := hv.n
  have K := E.net hv
  have hg := hv.g
  refine fh_E.of mi_X0_settleHeap (Nat.le_of_ble_eq_true rfl) ?_
  intro X C T
  have bad : ¬ (s_J (v_L v) (v 0) ∧ s_hp v) → ∀ ls : List (Option fc_AV), fc_W X 0 0 159 (fc_H A F) 20 ls [] := by
    intro h ls
    refine fc_bipush C dX0_settleHeap_20 (by decide) ?_
    have e : x_stl v = -3 := if_neg (by rw [fc_ind_f h]; decide)
    exact fh_iretE C T dX0_settleHeap_22 (Or.inl rfl) ⟨by rw [e], by rw [e]; exact E, k_fr.rf⟩
  refine fc_aload_n C dX0_settleHeap_0 rfl rfl ?_
  refine fh_getf C dX0_settleHeap_1 fl_X0_12 rfl rfl ?_
  refine fh_callV (y := mX3_isJoined) C dX0_settleHeap_4 ml_X0_82 mi_X3_isJoined im_X3_isJoined se_X3_isJoined (c_isJoined K hg) rfl rfl (by decide) rfl (Nat.le_of_ble_eq_true rfl) (Nat.zero_le _) (Nat.zero_le _) rfl ?_
  refine fc_if_eq (tgt := 20) C dX0_settleHeap_7 (by decide) (fc_ind_R _) (fun c7 => ?_) (fun c7 => ?_)
  · have c7 := fc_ind_0 c7
    exact bad (fun h => c7 h.1) _
  · have hJ := fc_ind_ne c7
    refine fc_aload_n C dX0_settleHeap_10 rfl rfl ?_
    refine fh_getf C dX0_settleHeap_11 fl_X0_12 rfl rfl ?_
    refine fh_callV (y := mX3_isHeap) C dX0_settleHeap_14 ml_X0_86 mi_X3_isHeap im_X3_isHeap se_X3_isHeap (c_isHeap K E.ch hv.cR) rfl rfl (by decide) rfl (Nat.le_of_ble_eq_true rfl) (Nat.zero_le _) (Nat.zero_le _) rfl ?_
    refine fc_if_ne (tgt := 23) C dX0_settleHeap_17 (by decide) (fc_ind_R _) (fun c17 => ?_) (fun c17 => ?_)
    · have hh : s_hp v := fc_ind_ne c17
      refine fc_aload_n C dX0_settleHeap_23 rfl rfl ?_
      refine fh_getf C dX0_settleHeap_24 fl_X0_12 rfl rfl ?_
      refine fh_getf C dX0_settleHeap_27 fl_X0_52 rfl rfl ?_
      refine fc_aload_n C dX0_settleHeap_30 rfl rfl ?_
      refine fh_getf C dX0_settleHeap_31 fl_X0_25 rfl rfl ?_
      refine fh_callSv (y := mX6_copyRow) C dX0_settleHeap_34 ml_X0_55 mi_X6_copyRow st_X6_copyRow (c_copyRow (fun _ _ => rfl) (fun _ _ => rfl)) (by decide) rfl (Nat.le_of_ble_eq_true rfl) (Nat.zero_le _) (Nat.zero_le _) rfl ?_
      refine fc_aload_n C dX0_settleHeap_37 rfl rfl ?_
      refine fh_getf C dX0_settleHeap_38 fl_X0_29 rfl rfl ?_
      refine fc_iconst C dX0_settleHeap_41 ?_
      refine fh_callSv (y := mJ7_fill_53178) C dX0_settleHeap_42 ml_X0_89 mi_J7_fill_53178 st_J7_fill_53178 (c_fill (N := 5) (fun _ _ => rfl) (by decide)) (by decide) rfl (Nat.le_of_ble_eq_true rfl) (Nat.zero_le _) (Nat.zero_le _) rfl ?_
      refine fc_aload_n C dX0_settleHeap_45 rfl rfl ?_
      refine fh_getf C dX0_settleHeap_46 fl_X0_21 rfl rfl ?_
      refine fc_aload_n C dX0_settleHeap_49 rfl rfl ?_
      refine fh_getf C dX0_settleHeap_50 fl_X0_12 rfl rfl ?_
      refine fc_iconst C dX0_settleHeap_53 ?_
      have K1 : k_net (fa_up (fa_up A 34 (fc_cpy (A 10) (A 34) 5)) 35 (fc_cpy (fun _ => 0) (fa_up A 34 (fc_cpy (A 10) (A 34) 5) 35) (5 : Nat))) F (v 0) (v_L v) := ⟨K.1, K.2.1, K.2.2.1, fun a b a0 a1 b0 b1 => by rw [fa_n _ _ (by omega), fa_n _ _ (by omega)]; exact K.2.2.2 a b a0 a1 b0 b1⟩
      refine fh_callVE (y := mX1_take) C dX0_settleHeap_54 ml_X0_70 mi_X1_take im_X1_take se_X1_take (c_take K1 (q := 0)) rfl rfl (by decide) rfl (Nat.le_of_ble_eq_true rfl) (Nat.zero_le _) (Nat.zero_le _) rfl ?_
      rintro r A1 F1 ⟨rfl, eF1, M1, fr1⟩
      refine fc_eq (st' := []) rfl rfl ?_
      have e34 : ∀ p : Int, 0 ≤ p → p < 5 → A1 34 p = v (26 + p) := fun p p0 p1 => by
        rw [fr1 34 (by omega), fa_n _ _ (by decide), fa_s, fc_cpy_in p0 p1]; exact E.2.2.1 p p0 p1
      have e35 : ∀ p : Int, 0 ≤ p → p < 5 → A1 35 p = 0 := fun p p0 p1 => by
        rw [fr1 35 (by omega), fa_s, fc_cpy_in p0 (by omega)]
      have frA : k_fr 17 35 A F A1 F1 := fun i hi => ⟨by rw [fr1 i (by omega), fa_n _ _ (by omega), fa_n _ _ (by omega)], by rw [eF1, ff_n (by omega), ff_n (by omega)]⟩
      have hz : ∀ p : Int, 0 ≤ p → p < v 0 → p ≠ 0 → 0 ≤ A1 34 p ∧ A1 34 p ≤ 999 := fun p p0 p1 p2 => by
        rw [e34 p p0 (by omega)]
        have h1 := hv.2.2.2.1 p p0 (by omega)
        have h2 := hh p (by omega) p1
        omega
      have hz0 := hv.2.2.2.1 0 (by omega) (by omega)
      obtain ⟨x, f, hfin, hM⟩ := c_settleE (A := A1) (F := F1) M1 hg ⟨hn1, hn2⟩ ⟨by omega, by omega⟩ hJ (i := 34) (j := 35) (fun _ _ => rfl) (by decide) (fun _ _ => rfl) (by decide) (by decide) hz (by rw [e34 0 (by omega) (by omega)]; omega)
      have huq := hfin.uniq (by omega) (s_stl_r hv hJ hh) (fun p p0 p1 => e34 p p0 (by omega)) (fun p p0 p1 => e35 p p0 (by omega))
      obtain ⟨Kk, hK, hmv, hst, he, hal, hcan⟩ := hfin
      have hout := hal.2.2.2.2.2.2
      have hT : s_tot (v 0) 0 (A1 34) ≤ 5000 := by
        have h1 := fs_sum_le (f := fun o => if o = 0 then 0 else A1 34 o) (g := fun _ => 999) (m := (v 0).toNat) (fun k k0 k1 => by
          by_cases e : k = 0
          · rw [if_pos e]; omega
          · rw [if_neg e]; exact (hz k k0 (by omega) e).2)
        have h2 := fs_sum_bd (f := fun _ => 999) (lo := 999) (hi := 999) (n := (v 0).toNat) (fun k _ _ => ⟨Int.le_refl _, Int.le_refl _⟩)
        unfold s_tot
        omega
      have hbd := hal.bd ⟨by omega, hn2⟩ ⟨by omega, by omega⟩ hT (by omega) (by rw [e34 0 (by omega) (by omega)]; omega)
      have hsm : ∀ p : Int, 0 ≤ p → p < v 0 → p ≠ 0 → 0 ≤ x p ∧ x p ≤ 15 := fun p p0 p1 p2 => by
        have h1 := (hbd p p0 p1).1 p2
        have h2 := s_J_val hg ⟨hn1, hn2⟩ hJ p0 p1
        have h3 := s_val_bd hg (n := v 0) (p := p) (by omega) hn2 p0 (by omega)
        have h4 := hcan p p0 p1
        have : ¬ s_val (v_L v) (v 0) p ≤ x p := fun q => h4 ⟨p2, h2, q⟩
        omega
      have hx0 : -999 ≤ x 0 := by
        have h1 := hal.2.1
        have h2 := hal.2.2.1
        rw [e34 0 (by omega) (by omega)] at h2
        omega
      refine fc_aload_n C dX0_settleHeap_57 rfl rfl ?_
      refine fh_getf C dX0_settleHeap_58 fl_X0_21 rfl rfl ?_
      refine fc_aload_n C dX0_settleHeap_61 rfl rfl ?_
      refine fh_getf C dX0_settleHeap_62 fl_X0_25 rfl rfl ?_
      refine fc_aload_n C dX0_settleHeap_65 rfl rfl ?_
      refine fh_getf C dX0_settleHeap_66 fl_X0_29 rfl rfl ?_
      refine fh_callVv (y := mX1_settle) C dX0_settleHeap_69 ml_X0_95 mi_X1_settle im_X1_settle se_X1_settle (hM) rfl rfl (by decide) rfl (Nat.le_of_ble_eq_true rfl) (Nat.zero_le _) (Nat.zero_le _) rfl ?_
      have frx : k_fr 17 35 A F (fa_up (fa_up A1 34 x) 35 f) F1 := fun i hi => ⟨by rw [fa_n _ _ (by omega), fa_n _ _ (by omega)]; exact (frA i hi).1, (frA i hi).2⟩
      have hc3 : F1 3 0 = v 0 := by rw [(frA 3 (by omega)).2]; exact E.1
      have ex34 : fa_up (fa_up A1 34 x) 35 f 34 = x := by rw [fa_n _ _ (by decide), fa_s]
      have tk := c_takePlanned (A := fa_up (fa_up A1 34 x) 35 f) (F := F1) hc3 ⟨hn1, hn2⟩ (fun o o0 o1 => by rw [ex34]; exact (hbd o o0 o1).2)
      by_cases hr : x 0 ≤ 999
      · have e : x_stl v = 0 := by unfold x_stl; rw [if_pos (fc_ind_t ⟨hJ, hh⟩), if_pos (by rw [← huq.1 0 (by omega) (by omega)]; exact hr)]
        have hall : ∀ o : Int, 0 ≤ o → o < v 0 → -999 ≤ x o ∧ x o ≤ 999 := fun o o0 o1 => by
          by_cases q : o = 0
          · rw [q]; omega
          · have := hsm o o0 o1 q
            omega
        refine fc_aload_n C dX0_settleHeap_72 rfl rfl ?_
        refine fh_callV (y := mX0_takePlanned) C dX0_settleHeap_73 ml_X0_59 mi_X0_takePlanned im_X0_takePlanned se_X0_takePlanned (tk.1 (fun o o0 o1 => by rw [ex34]; exact hall o o0 o1)) rfl rfl (by decide) rfl (Nat.le_of_ble_eq_true rfl) (Nat.zero_le _) (Nat.zero_le _) rfl ?_
        refine fc_istore_n C dX0_settleHeap_76 rfl (by decide) ?_
        refine fc_iload_n C dX0_settleHeap_77 rfl rfl ?_
        refine fc_if_ne (tgt := 95) C dX0_settleHeap_78 (by decide) (fc_Rm (by omega)) (fun c78 => ?_) (fun c78 => ?_)
        · exact absurd rfl c78
        · refine fc_aload_n C dX0_settleHeap_81 rfl rfl ?_
          refine fh_getf C dX0_settleHeap_82 fl_X0_29 rfl rfl ?_
          refine fc_aload_n C dX0_settleHeap_85 rfl rfl ?_
          refine fh_getf C dX0_settleHeap_86 fl_X0_12 rfl rfl ?_
          refine fh_getf C dX0_settleHeap_89 fl_X0_98 rfl rfl ?_
          refine fh_callSv (y := mX6_copyRow) C dX0_settleHeap_92 ml_X0_55 mi_X6_copyRow st_X6_copyRow (c_copyRow (fun _ _ => rfl) (fun _ _ => rfl)) (by decide) rfl (Nat.le_of_ble_eq_true rfl) (Nat.zero_le _) (Nat.zero_le _) rfl ?_
          refine fc_iload_n C dX0_settleHeap_95 rfl rfl ?_
          have kp := k_planned E hv frx (c := x) (fun p p0 p1 => by rw [ex34]) (fun p p0 p1 => by rw [ex34, (hout p (by omega)).1]; exact e34 p (by omega) p1)
          refine fh_iretE C T dX0_settleHeap_96 (Or.inl rfl) ⟨by rw [e], ?_, fun i hi => ⟨by rw [fa_n _ _ (by omega), fa_n _ _ (by omega)]; exact (frx i (by omega)).1, (frx i (by omega)).2⟩⟩
          rw [e, if_pos rfl]
          unfold p_stl
          have h0 : p_ch v (s_r v).1 0 = v 0 := by rw [p_ch_at, if_neg (by omega)]
          obtain ⟨h1, h2, h3, h4, h5, h6⟩ := kp
          have hch : ∀ k : Int, p_ch v x k = p_ch v (s_r v).1 k := fun k => by
            rw [p_ch_at, p_ch_at]
            by_cases q : 26 ≤ k ∧ k < 26 + v 0
            · rw [if_pos q, if_pos q]; exact huq.1 _ (by omega) (by omega)
            · rw [if_neg q, if_neg q]
          refine ⟨by rw [p_fs_at, if_neg (by omega), ← hch]; exact h1, fun a b a0 a1 b0 b1 => ?_, fun p p0 p1 => ?_, fun p p0 p1 => ?_, fun s s0 s1 => ?_, fun s p s0 s1 p0 p1 => ?_⟩
          · rw [fa_n _ _ (by omega), p_fs_at, h0, if_neg (by omega), ← hch]; exact h2 a b a0 a1 b0 b1
          · rw [fa_n _ _ (by omega), p_fs_at, h0, if_neg (by omega), ← hch]; exact h3 p p0 p1
          · rw [fa_s, fc_cpy_in p0 p1, fa_n _ _ (by decide), fa_s, p_fs_at, h0]
            by_cases q : p < v 0
            · rw [if_pos (by omega), show 31 + p - 31 = p by omega]; exact huq.2 p p0 q
            · rw [if_neg (by omega), (hout p (by omega)).2, e35 p p0 p1, p_ch_at, if_neg (by omega)]
              exact (hv.2.2.2.2.1 p (by omega) p1).2.symm
          · rw [fa_n _ _ (by omega), p_fs_at, h0, if_neg (by omega), ← hch]; exact h5 s s0 s1
          · rw [fa_n _ _ (by omega), p_fs_at, h0, if_neg (by omega), ← hch]; exact h6 s p s0 s1 p0 p1
      · have e : x_stl v = -3 := by unfold x_stl; rw [if_pos (fc_ind_t ⟨hJ, hh⟩), if_neg (by rw [← huq.1 0 (by omega) (by omega)]; exact hr)]
        refine fc_aload_n C dX0_settleHeap_72 rfl rfl ?_
        refine fh_callV (y := mX0_takePlanned) C dX0_settleHeap_73 ml_X0_59 mi_X0_takePlanned im_X0_takePlanned se_X0_takePlanned (tk.2 (fun h => hr (by have := h 0 (by omega) (by omega); rw [ex34] at this; exact this.2))) rfl rfl (by decide) rfl (Nat.le_of_ble_eq_true rfl) (Nat.zero_le _) (Nat.zero_le _) rfl ?_
        refine fc_istore_n C dX0_settleHeap_76 rfl (by decide) ?_
        refine fc_iload_n C dX0_settleHeap_77 rfl rfl ?_
        refine fc_if_ne (tgt := 95) C dX0_settleHeap_78 (by decide) (fc_Rm (by omega)) (fun c78 => ?_) (fun c78 => ?_)
        · refine fc_iload_n C dX0_settleHeap_95 rfl rfl ?_
          refine fh_iretE C T dX0_settleHeap_96 (Or.inl rfl) ⟨by rw [e], ?_, frx.wd (by omega) (by omega)⟩
          rw [e, if_neg (by decide)]
          exact E.of_fr (by rw [(frx 3 (by omega)).2]) (fun i i0 i1 i2 => (frx i (by omega)).1)
        · exact absurd c78 (by decide)
    · have c17 := fc_ind_0 c17
      exact bad (fun h => c17 h.2) _
end ACTS
