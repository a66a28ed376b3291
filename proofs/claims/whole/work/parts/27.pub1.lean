/-! the class's public methods: those that change the STATE -/
def k_ans (A : Nat → Int → Int) (F : Nat → Nat → Int) (ans : Int) (v : Int → Int) (ps : Int → Int → Int) (st : Int) (rf tx : Int → Int) (tl : Int) : Option fc_AV → (Nat → Int → Int) → (Nat → Nat → Int) → Prop := fun r A' F' => r = some (vI ans) ∧ k_RC A' F' v ps st rf tx tl ∧ k_fr 0 142 A F A' F'
/-- the answer of a call that leaves a STATE where x is 0 -/
def k_st (A : Nat → Int → Int) (F : Nat → Nat → Int) (x ans : Int) (v : Int → Int) (ps : Int → Int → Int) (st : Int) (rf tx : Int → Int) (tl : Int) (w : Int → Int) : Option fc_AV → (Nat → Int → Int) → (Nat → Nat → Int) → Prop := k_ans A F (if x = 0 then ans else x) (if x = 0 then w else v) (if x = 0 then h_ps ps st v else ps) (if x = 0 then h_st st else st) (if x = 0 then rf else h_rf rf x) tx tl
section PUB1
variable {A : Nat → Int → Int} {F : Nat → Nat → Int} {v : Int → Int} {ps : Int → Int → Int} {st : Int} {rf tx : Int → Int} {tl : Int}
theorem k_end.toS {A0 A1 : Nat → Int → Int} {F0 F1 : Nat → Nat → Int} {x ans : Int} {w : Int → Int} {r : Option fc_AV} {A' : Nat → Int → Int} {F' : Nat → Nat → Int} (h : k_end A1 F1 x ans v ps st rf tx tl w r A' F') (fr : k_fr 0 142 A0 F0 A1 F1) : k_st A0 F0 x ans v ps st rf tx tl w r A' F' := by
  obtain ⟨h1, h2, h3⟩ := h
  refine ⟨h1, ?_, fr.tr h3⟩
  by_cases e : x = 0
  · rw [if_pos e] at h2
    rw [if_pos e, if_pos e, if_pos e, if_pos e]
    exact h2
  · rw [if_neg e] at h2
    rw [if_neg e, if_neg e, if_neg e, if_neg e]
    exact h2
theorem k_st.no {x ans : Int} {w : Int → Int} (h : k_RC A F v ps st rf tx tl) (hx : x = -2 ∨ x = -3 ∨ x = -4) : k_st A F x ans v ps st rf tx tl w (some (vI x)) (fa_up A 1 (fc_set (A 1) (-2 - x) (A 1 (-2 - x) + 1))) F := by
  have e : x ≠ 0 := by omega
  unfold k_st
  rw [if_neg e, if_neg e, if_neg e, if_neg e, if_neg e]
  exact ⟨rfl, (h.ref hx).1, (h.ref hx).2⟩
theorem k_ans.ref {x : Int} (h : k_RC A F v ps st rf tx tl) (hx : x = -2 ∨ x = -3 ∨ x = -4) : k_ans A F x v ps st (h_rf rf x) tx tl (some (vI x)) (fa_up A 1 (fc_set (A 1) (-2 - x) (A 1 (-2 - x) + 1))) F := ⟨rfl, (h.ref hx).1, (h.ref hx).2⟩
theorem k_ans.id {x : Int} (h : k_RC A F v ps st rf tx tl) : k_ans A F x v ps st rf tx tl (some (vI x)) A F := ⟨rfl, h, k_fr.rf⟩
/-- what is kept over an act -/
theorem k_over {A1 A2 : Nat → Int → Int} {F1 F2 : Nat → Nat → Int} (H : k_hist A1 F1 ps st) (Hd : k_held A1 F1 v) (hw : 0 ≤ F1 36 1 ∧ F1 36 1 < 6) (fr : k_fr 3 35 A1 F1 A2 F2) (R : k_rest A1 F1 rf tx tl) : k_hist A2 F2 ps st ∧ k_held A2 F2 v ∧ k_rest A2 F2 rf tx tl :=
  ⟨H.fr (fun i i0 i1 => fr i (by omega)), Hd.fr hw (fun i i0 i1 => fr i (by omega)), R.fr (fr 1 (by omega)).1 (fr 139 (by omega)).2 (fr 140 (by omega)).1⟩
theorem k_rest.hold {A1 : Nat → Int → Int} {F1 : Nat → Nat → Int} (R : k_rest A F rf tx tl) (fr : k_fr 38 121 A F A1 F1) : k_rest A1 F1 rf tx tl := R.fr (fr 1 (by omega)).1 (fr 139 (by omega)).2 (fr 140 (by omega)).1
theorem x_pts_c (v : Int → Int) (n : Int) : x_pts v n = 0 ∨ x_pts v n = -2 ∨ x_pts v n = -3 := by unfold x_pts; split <;> omega
theorem x_ln_c (v : Int → Int) (a b k : Int) : x_ln v a b k = 0 ∨ x_ln v a b k = -2 ∨ x_ln v a b k = -3 := by unfold x_ln; split <;> omega
theorem x_add_c (v : Int → Int) (p x : Int) : x_add v p x = 0 ∨ x_add v p x = -2 ∨ x_add v p x = -3 := by
  unfold x_add
  split
  · split <;> omega
  · omega
theorem x_fire_c (v : Int → Int) (S t : Int) : x_fire v S t = 0 ∨ x_fire v S t = -2 ∨ x_fire v S t = -3 := by
  unfold x_fire
  split
  · split <;> omega
  · omega
theorem x_one_c (v : Int → Int) (p t : Int) : x_one v p t = 0 ∨ x_one v p t = -2 ∨ x_one v p t = -3 := by
  unfold x_one
  split
  · exact x_fire_c _ _ _
  · omega
theorem x_stl_c (v : Int → Int) : x_stl v = 0 ∨ x_stl v = -2 ∨ x_stl v = -3 := by
  unfold x_stl
  split
  · split <;> omega
  · omega
theorem x_pts_0 {v : Int → Int} {n : Int} (h : x_pts v n = 0) : 2 ≤ n ∧ n ≤ 5 := by
  unfold x_pts at h
  split at h
  · assumption
  · cases h
theorem x_ln_0 {v : Int → Int} {a b k : Int} (h : x_ln v a b k = 0) : (0 ≤ a ∧ a < v 0) ∧ (0 ≤ b ∧ b < v 0) ∧ a ≠ b ∧ 0 ≤ k ∧ k ≤ 3 := by
  unfold x_ln at h
  split at h
  · assumption
  · cases h
theorem x_add_0 {v : Int → Int} {p x : Int} (h : x_add v p x = 0) : (0 ≤ p ∧ p < v 0) ∧ (-99 ≤ x ∧ x ≤ 99) ∧ -999 ≤ v (26 + p) + x ∧ v (26 + p) + x ≤ 999 := by
  unfold x_add at h
  split at h
  · rename_i h1
    split at h
    · rename_i h2; exact ⟨h1.1, h1.2, h2⟩
    · cases h
  · cases h
theorem x_add_2 {v : Int → Int} {p x : Int} (h : x_add v p x = -2) : ¬ ((0 ≤ p ∧ p < v 0) ∧ -99 ≤ x ∧ x ≤ 99) := by
  unfold x_add at h
  split at h
  · split at h <;> cases h
  · assumption
theorem x_one_0 {v : Int → Int} {p t : Int} (h : x_one v p t = 0) : (0 ≤ p ∧ p < v 0) ∧ x_fire v (2 ^ p.toNat) t = 0 := by
  unfold x_one at h
  split at h
  · rename_i h1; exact ⟨h1, h⟩
  · cases h
theorem o_points (RC : k_RC A F v ps st rf tx tl) {n : Int} (hn : fc_R n) : fh_E mX6_points 4 [vR 0, vI n] A F (k_st A F (x_pts v n) (v 0) v ps st rf tx tl (p_pts v n)) := by
  obtain ⟨E, hv, H, R⟩ := id RC
  refine fh_E.of mi_X6_points (Nat.le_of_ble_eq_true rfl) ?_
  intro X C T
  refine fc_aload_n C dX6_points_0 rfl rfl ?_
  refine fh_getf C dX6_points_1 fl_X6_24 rfl rfl ?_
  refine fh_getf C dX6_points_4 fl_X6_54 rfl rfl ?_
  refine fc_istore_n C dX6_points_7 rfl (by decide) ?_
  refine fc_aload_n C dX6_points_8 rfl rfl ?_
  refine fh_getf C dX6_points_9 fl_X6_33 rfl rfl ?_
  refine fc_aload_n C dX6_points_12 rfl rfl ?_
  refine fh_getf C dX6_points_13 fl_X6_24 rfl rfl ?_
  refine fh_callVE (y := mX2_hold) C dX6_points_16 ml_X6_60 mi_X2_hold im_X2_hold se_X2_hold (c_holdE E hv H) rfl rfl (by decide) rfl (Nat.le_of_ble_eq_true rfl) (Nat.zero_le _) (Nat.zero_le _) rfl ?_
  rintro r A1 F1 ⟨rfl, E1, H1, Hd1, fr1, hw1⟩
  refine fc_eq (st' := []) rfl rfl ?_
  refine fc_aload_n C dX6_points_19 rfl rfl ?_
  refine fc_aload_n C dX6_points_20 rfl rfl ?_
  refine fh_getf C dX6_points_21 fl_X6_16 rfl rfl ?_
  refine fc_iload_n C dX6_points_24 rfl rfl ?_
  refine fh_callVE (y := mX0_startAnew) C dX6_points_25 ml_X6_64 mi_X0_startAnew im_X0_startAnew se_X0_startAnew (c_startAnew E1 hn) rfl rfl (by decide) rfl (Nat.le_of_ble_eq_true rfl) (Nat.zero_le _) (Nat.zero_le _) rfl ?_
  rintro r A2 F2 ⟨rfl, E2, fr2⟩
  refine fc_eq (st' := [vI (x_pts v n), vR 0]) rfl rfl ?_
  obtain ⟨H2, Hd2, R2⟩ := k_over H1 Hd1 hw1 fr2 (R.hold fr1)
  refine fc_iload_n C dX6_points_28 rfl rfl ?_
  refine fh_callVE (y := mX6_ended) C dX6_points_29 ml_X6_68 mi_X6_ended im_X6_ended se_X6_ended (c_ended (x_pts_c v n) E2 hv (fun e => v_ok_pts hv (x_pts_0 e).1 (x_pts_0 e).2) H2 Hd2 R2) rfl rfl (by decide) rfl (Nat.le_of_ble_eq_true rfl) (Nat.zero_le _) (Nat.zero_le _) rfl ?_
  rintro r A3 F3 h3
  have hr := h3.1
  subst hr
  refine fc_eq (st' := [vI (if x_pts v n = 0 then F 3 0 else x_pts v n)]) rfl rfl ?_
  refine fh_iretE C T dX6_points_32 (Or.inl rfl) ?_
  rw [E.1] at h3 ⊢
  exact h3.toS ((fr1.wd (by omega) (by omega)).tr (fr2.wd (by omega) (by omega)))
theorem o_lines (RC : k_RC A F v ps st rf tx tl) {a b k : Int} (ha : fc_R a) (hb : fc_R b) (hk : fc_R k) : fh_E mX6_lines 4 [vR 0, vI a, vI b, vI k] A F (k_st A F (x_ln v a b k) (v_L v a b) v ps st rf tx tl (p_ln v a b k)) := by
  obtain ⟨E, hv, H, R⟩ := id RC
  refine fh_E.of mi_X6_lines (Nat.le_of_ble_eq_true rfl) ?_
  intro X C T
  refine fc_aload_n C dX6_lines_0 rfl rfl ?_
  refine fh_getf C dX6_lines_1 fl_X6_24 rfl rfl ?_
  refine fc_iload_n C dX6_lines_4 rfl rfl ?_
  refine fc_iload_n C dX6_lines_5 rfl rfl ?_
  refine fh_callV (y := mX3_linesBetween) C dX6_lines_6 ml_X6_72 mi_X3_linesBetween im_X3_linesBetween se_X3_linesBetween (c_linesBetween (E.net hv) ha hb) rfl rfl (by decide) rfl (Nat.le_of_ble_eq_true rfl) (Nat.zero_le _) (Nat.zero_le _) rfl ?_
  refine fc_istore C dX6_lines_9 (by decide) ?_
  refine fc_aload_n C dX6_lines_11 rfl rfl ?_
  refine fh_getf C dX6_lines_12 fl_X6_33 rfl rfl ?_
  refine fc_aload_n C dX6_lines_15 rfl rfl ?_
  refine fh_getf C dX6_lines_16 fl_X6_24 rfl rfl ?_
  refine fh_callVE (y := mX2_hold) C dX6_lines_19 ml_X6_60 mi_X2_hold im_X2_hold se_X2_hold (c_holdE E hv H) rfl rfl (by decide) rfl (Nat.le_of_ble_eq_true rfl) (Nat.zero_le _) (Nat.zero_le _) rfl ?_
  rintro r A1 F1 ⟨rfl, E1, H1, Hd1, fr1, hw1⟩
  refine fc_eq (st' := []) rfl rfl ?_
  refine fc_aload_n C dX6_lines_22 rfl rfl ?_
  refine fc_aload_n C dX6_lines_23 rfl rfl ?_
  refine fh_getf C dX6_lines_24 fl_X6_16 rfl rfl ?_
  refine fc_iload_n C dX6_lines_27 rfl rfl ?_
  refine fc_iload_n C dX6_lines_28 rfl rfl ?_
  refine fc_iload_n C dX6_lines_29 rfl rfl ?_
  refine fh_callVE (y := mX0_layLines) C dX6_lines_30 ml_X6_75 mi_X0_layLines im_X0_layLines se_X0_layLines (c_layLines E1 hv ha hb hk) rfl rfl (by decide) rfl (Nat.le_of_ble_eq_true rfl) (Nat.zero_le _) (Nat.zero_le _) rfl ?_
  rintro r A2 F2 ⟨rfl, E2, fr2⟩
  refine fc_eq (st' := [vI (x_ln v a b k), vR 0]) rfl rfl ?_
  obtain ⟨H2, Hd2, R2⟩ := k_over H1 Hd1 hw1 fr2 (R.hold fr1)
  refine fc_iload C dX6_lines_33 rfl ?_
  refine fh_callVE (y := mX6_ended) C dX6_lines_35 ml_X6_68 mi_X6_ended im_X6_ended se_X6_ended (c_ended (x_ln_c v a b k) E2 hv (fun e => by obtain ⟨q1, q2, q3, q4, q5⟩ := x_ln_0 e; have := hv.n; exact v_ok_ln hv q1.1 (by omega) q2.1 (by omega) q3 q4 q5) H2 Hd2 R2) rfl rfl (by decide) rfl (Nat.le_of_ble_eq_true rfl) (Nat.zero_le _) (Nat.zero_le _) rfl ?_
  rintro r A3 F3 h3
  have hr := h3.1
  subst hr
  refine fc_eq (st' := [vI (if x_ln v a b k = 0 then (if (0 ≤ a ∧ a < v 0) ∧ (0 ≤ b ∧ b < v 0) then v_L v a b else 0) else x_ln v a b k)]) rfl rfl ?_
  have h4 := h3.toS ((fr1.wd (by omega) (by omega)).tr (fr2.wd (by omega) (by omega)))
  have e : (if x_ln v a b k = 0 then (if (0 ≤ a ∧ a < v 0) ∧ (0 ≤ b ∧ b < v 0) then v_L v a b else 0) else x_ln v a b k) = if x_ln v a b k = 0 then v_L v a b else x_ln v a b k := by
    by_cases q : x_ln v a b k = 0
    · have := x_ln_0 q
      rw [if_pos q, if_pos q, if_pos ⟨this.1, this.2.1⟩]
    · rw [if_neg q, if_neg q]
  refine fh_iretE C T dX6_lines_38 (Or.inl rfl) ?_
  unfold k_st at h4 ⊢
  rw [e] at h4 ⊢
  exact h4
theorem o_fires (RC : k_RC A F v ps st rf tx tl) {p : Int} (hp : fc_R p) : fh_E mX6_fires 5 [vR 0, vI p] A F (k_st A F (x_one v p 1) 1 v ps st rf tx tl (p_fire v (2 ^ p.toNat) 1)) := by
  obtain ⟨E, hv, H, R⟩ := id RC
  refine fh_E.of mi_X6_fires (Nat.le_of_ble_eq_true rfl) ?_
  intro X C T
  refine fc_aload_n C dX6_fires_0 rfl rfl ?_
  refine fh_getf C dX6_fires_1 fl_X6_33 rfl rfl ?_
  refine fc_aload_n C dX6_fires_4 rfl rfl ?_
  refine fh_getf C dX6_fires_5 fl_X6_24 rfl rfl ?_
  refine fh_callVE (y := mX2_hold) C dX6_fires_8 ml_X6_60 mi_X2_hold im_X2_hold se_X2_hold (c_holdE E hv H) rfl rfl (by decide) rfl (Nat.le_of_ble_eq_true rfl) (Nat.zero_le _) (Nat.zero_le _) rfl ?_
  rintro r A1 F1 ⟨rfl, E1, H1, Hd1, fr1, hw1⟩
  refine fc_eq (st' := []) rfl rfl ?_
  refine fc_aload_n C dX6_fires_11 rfl rfl ?_
  refine fc_aload_n C dX6_fires_12 rfl rfl ?_
  refine fh_getf C dX6_fires_13 fl_X6_16 rfl rfl ?_
  refine fc_iload_n C dX6_fires_16 rfl rfl ?_
  refine fc_iconst C dX6_fires_17 ?_
  refine fh_callVE (y := mX0_firePoint) C dX6_fires_18 ml_X6_120 mi_X0_firePoint im_X0_firePoint se_X0_firePoint (c_firePoint E1 hv hp (Or.inl rfl)) rfl rfl (by decide) rfl (Nat.le_of_ble_eq_true rfl) (Nat.zero_le _) (Nat.zero_le _) rfl ?_
  rintro r A2 F2 ⟨rfl, E2, fr2⟩
  refine fc_eq (st' := [vI (x_one v p 1), vR 0]) rfl rfl ?_
  obtain ⟨H2, Hd2, R2⟩ := k_over H1 Hd1 hw1 fr2 (R.hold fr1)
  refine fc_iconst C dX6_fires_21 ?_
  refine fh_callVE (y := mX6_ended) C dX6_fires_22 ml_X6_68 mi_X6_ended im_X6_ended se_X6_ended (c_ended (x_one_c v p 1) E2 hv (fun e => v_ok_fire hv (x_one_0 e).2) H2 Hd2 R2) rfl rfl (by decide) rfl (Nat.le_of_ble_eq_true rfl) (Nat.zero_le _) (Nat.zero_le _) rfl ?_
  rintro r A3 F3 h3
  have hr := h3.1
  subst hr
  refine fc_eq (st' := [vI (if x_one v p 1 = 0 then 1 else x_one v p 1)]) rfl rfl ?_
  exact fh_iretE C T dX6_fires_25 (Or.inl rfl) (h3.toS ((fr1.wd (by omega) (by omega)).tr (fr2.wd (by omega) (by omega))))
theorem o_borrows (RC : k_RC A F v ps st rf tx tl) {p : Int} (hp : fc_R p) : fh_E mX6_borrows 5 [vR 0, vI p] A F (k_st A F (x_one v p (-1)) 1 v ps st rf tx tl (p_fire v (2 ^ p.toNat) (-1))) := by
  obtain ⟨E, hv, H, R⟩ := id RC
  refine fh_E.of mi_X6_borrows (Nat.le_of_ble_eq_true rfl) ?_
  intro X C T
  refine fc_aload_n C dX6_borrows_0 rfl rfl ?_
  refine fh_getf C dX6_borrows_1 fl_X6_33 rfl rfl ?_
  refine fc_aload_n C dX6_borrows_4 rfl rfl ?_
  refine fh_getf C dX6_borrows_5 fl_X6_24 rfl rfl ?_
  refine fh_callVE (y := mX2_hold) C dX6_borrows_8 ml_X6_60 mi_X2_hold im_X2_hold se_X2_hold (c_holdE E hv H) rfl rfl (by decide) rfl (Nat.le_of_ble_eq_true rfl) (Nat.zero_le _) (Nat.zero_le _) rfl ?_
  rintro r A1 F1 ⟨rfl, E1, H1, Hd1, fr1, hw1⟩
  refine fc_eq (st' := []) rfl rfl ?_
  refine fc_aload_n C dX6_borrows_11 rfl rfl ?_
  refine fc_aload_n C dX6_borrows_12 rfl rfl ?_
  refine fh_getf C dX6_borrows_13 fl_X6_16 rfl rfl ?_
  refine fc_iload_n C dX6_borrows_16 rfl rfl ?_
  refine fc_iconst C dX6_borrows_17 ?_
  refine fh_callVE (y := mX0_firePoint) C dX6_borrows_18 ml_X6_120 mi_X0_firePoint im_X0_firePoint se_X0_firePoint (c_firePoint E1 hv hp (Or.inr rfl)) rfl rfl (by decide) rfl (Nat.le_of_ble_eq_true rfl) (Nat.zero_le _) (Nat.zero_le _) rfl ?_
  rintro r A2 F2 ⟨rfl, E2, fr2⟩
  refine fc_eq (st' := [vI (x_one v p (-1)), vR 0]) rfl rfl ?_
  obtain ⟨H2, Hd2, R2⟩ := k_over H1 Hd1 hw1 fr2 (R.hold fr1)
  refine fc_iconst C dX6_borrows_21 ?_
  refine fh_callVE (y := mX6_ended) C dX6_borrows_22 ml_X6_68 mi_X6_ended im_X6_ended se_X6_ended (c_ended (x_one_c v p (-1)) E2 hv (fun e => v_ok_fire hv (x_one_0 e).2) H2 Hd2 R2) rfl rfl (by decide) rfl (Nat.le_of_ble_eq_true rfl) (Nat.zero_le _) (Nat.zero_le _) rfl ?_
  rintro r A3 F3 h3
  have hr := h3.1
  subst hr
  refine fc_eq (st' := [vI (if x_one v p (-1) = 0 then 1 else x_one v p (-1))]) rfl rfl ?_
  exact fh_iretE C T dX6_borrows_25 (Or.inl rfl) (h3.toS ((fr1.wd (by omega) (by omega)).tr (fr2.wd (by omega) (by omega))))
theorem o_adds (RC : k_RC A F v ps st rf tx tl) {p x : Int} (hp : fc_R p) (hx : fc_R x) : fh_E mX6_adds 4 [vR 0, vI p, vI x] A F (k_st A F (x_add v p x) (v (26 + p) + x) v ps st rf tx tl (p_set v (26 + p) (v (26 + p) + x))) := by
  obtain ⟨E, hv, H, R⟩ := id RC
  have hn := hv.n
  refine fh_E.of mi_X6_adds (Nat.le_of_ble_eq_true rfl) ?_
  intro X C T
  refine fc_aload_n C dX6_adds_0 rfl rfl ?_
  refine fh_getf C dX6_adds_1 fl_X6_33 rfl rfl ?_
  refine fc_aload_n C dX6_adds_4 rfl rfl ?_
  refine fh_getf C dX6_adds_5 fl_X6_24 rfl rfl ?_
  refine fh_callVE (y := mX2_hold) C dX6_adds_8 ml_X6_60 mi_X2_hold im_X2_hold se_X2_hold (c_holdE E hv H) rfl rfl (by decide) rfl (Nat.le_of_ble_eq_true rfl) (Nat.zero_le _) (Nat.zero_le _) rfl ?_
  rintro r A1 F1 ⟨rfl, E1, H1, Hd1, fr1, hw1⟩
  refine fc_eq (st' := []) rfl rfl ?_
  refine fc_aload_n C dX6_adds_11 rfl rfl ?_
  refine fh_getf C dX6_adds_12 fl_X6_16 rfl rfl ?_
  refine fc_iload_n C dX6_adds_15 rfl rfl ?_
  refine fc_iload_n C dX6_adds_16 rfl rfl ?_
  refine fh_callVE (y := mX0_addChips) C dX6_adds_17 ml_X6_117 mi_X0_addChips im_X0_addChips se_X0_addChips (c_addChips E1 hv hp hx) rfl rfl (by decide) rfl (Nat.le_of_ble_eq_true rfl) (Nat.zero_le _) (Nat.zero_le _) rfl ?_
  rintro r A2 F2 ⟨rfl, E2, fr2⟩
  refine fc_eq (st' := [vI (x_add v p x)]) rfl rfl ?_
  obtain ⟨H2, Hd2, R2⟩ := k_over H1 Hd1 hw1 fr2 (R.hold fr1)
  have hw2 : v_ok (if x_add v p x = 0 then p_set v (26 + p) (v (26 + p) + x) else v) := by
    by_cases q : x_add v p x = 0
    · rw [if_pos q]
      obtain ⟨q1, q2, q3⟩ := x_add_0 q
      exact v_ok_set hv q1.1 q1.2 q3.1 q3.2
    · rw [if_neg q]; exact hv
  have e0 : (if x_add v p x = 0 then p_set v (26 + p) (v (26 + p) + x) else v) 0 = v 0 := by
    by_cases q : x_add v p x = 0
    · have := x_add_0 q
      rw [if_pos q, p_set_at, if_neg (by omega)]
    · rw [if_neg q]
  have fin : ∀ (ans : Int), (x_add v p x = 0 → ans = v (26 + p) + x) → ∀ ls : List (Option fc_AV), fc_W X 0 0 159 (fc_H A2 F2) 47 ls [vI ans, vI (x_add v p x), vR 0] := by
    intro ans ha ls
    refine fh_callVE (y := mX6_ended) C dX6_adds_47 ml_X6_68 mi_X6_ended im_X6_ended se_X6_ended (c_ended (x_add_c v p x) E2 hv (fun e => by rw [if_pos e] at hw2; exact hw2) H2 Hd2 R2) rfl rfl (by decide) rfl (Nat.le_of_ble_eq_true rfl) (Nat.zero_le _) (Nat.zero_le _) rfl ?_
    rintro r A3 F3 h3
    have hr := h3.1
    subst hr
    refine fc_eq (st' := [vI (if x_add v p x = 0 then ans else x_add v p x)]) rfl rfl ?_
    have h4 := h3.toS ((fr1.wd (by omega) (by omega)).tr (fr2.wd (by omega) (by omega)))
    have e : (if x_add v p x = 0 then ans else x_add v p x) = if x_add v p x = 0 then v (26 + p) + x else x_add v p x := by
      by_cases q : x_add v p x = 0
      · rw [if_pos q, if_pos q, ha q]
      · rw [if_neg q, if_neg q]
    refine fh_iretE C T dX6_adds_50 (Or.inl rfl) ?_
    unfold k_st at h4 ⊢
    rw [e] at h4 ⊢
    exact h4
  refine fc_istore_n C dX6_adds_20 rfl (by decide) ?_
  refine fc_aload_n C dX6_adds_21 rfl rfl ?_
  refine fc_iload_n C dX6_adds_22 rfl rfl ?_
  refine fc_aload_n C dX6_adds_23 rfl rfl ?_
  refine fh_getf C dX6_adds_24 fl_X6_24 rfl rfl ?_
  refine fc_iload_n C dX6_adds_27 rfl rfl ?_
  refine fh_callV (y := mX3_hasPoint) C dX6_adds_28 ml_X6_91 mi_X3_hasPoint im_X3_hasPoint se_X3_hasPoint (c_hasPoint (E2.net hw2) hp) rfl rfl (by decide) rfl (Nat.le_of_ble_eq_true rfl) (Nat.zero_le _) (Nat.zero_le _) rfl ?_
  refine fc_if_eq (tgt := 46) C dX6_adds_31 (by decide) (fc_ind_R _) (fun c31 => ?_) (fun c31 => ?_)
  · have c31 := fc_ind_0 c31
    refine fc_iconst C dX6_adds_46 ?_
    exact fin _ (fun q => by rw [e0] at c31; exact absurd (x_add_0 q).1 c31) _
  · have c31 := fc_ind_ne c31
    rw [e0] at c31
    refine fc_aload_n C dX6_adds_34 rfl rfl ?_
    refine fh_getf C dX6_adds_35 fl_X6_24 rfl rfl ?_
    refine fh_getf C dX6_adds_38 fl_X6_114 rfl rfl ?_
    refine fc_iload_n C dX6_adds_41 rfl rfl ?_
    refine fh_iaload C dX6_adds_42 (fun _ _ => rfl) (by omega) (by omega) (by decide) ?_
    refine fc_goto (tgt := 47) C dX6_adds_43 (by decide) ?_
    refine fin _ (fun q => ?_) _
    have := E2.2.2.1 p c31.1 (by omega)
    rw [if_pos q, p_set_at, if_pos rfl] at this
    exact this
theorem o_settles (RC : k_RC A F v ps st rf tx tl) : fh_E mX6_settles 4 [vR 0] A F (k_st A F (x_stl v) (fs_sum (s_r v).2 (v 0).toNat) v ps st rf tx tl (p_stl v)) := by
  obtain ⟨E, hv, H, R⟩ := id RC
  have hn := hv.n
  refine fh_E.of mi_X6_settles (Nat.le_of_ble_eq_true rfl) ?_
  intro X C T
  refine fc_aload_n C dX6_settles_0 rfl rfl ?_
  refine fh_getf C dX6_settles_1 fl_X6_33 rfl rfl ?_
  refine fc_aload_n C dX6_settles_4 rfl rfl ?_
  refine fh_getf C dX6_settles_5 fl_X6_24 rfl rfl ?_
  refine fh_callVE (y := mX2_hold) C dX6_settles_8 ml_X6_60 mi_X2_hold im_X2_hold se_X2_hold (c_holdE E hv H) rfl rfl (by decide) rfl (Nat.le_of_ble_eq_true rfl) (Nat.zero_le _) (Nat.zero_le _) rfl ?_
  rintro r A1 F1 ⟨rfl, E1, H1, Hd1, fr1, hw1⟩
  refine fc_eq (st' := []) rfl rfl ?_
  refine fc_aload_n C dX6_settles_11 rfl rfl ?_
  refine fh_getf C dX6_settles_12 fl_X6_16 rfl rfl ?_
  refine fh_callVE (y := mX0_settleHeap) C dX6_settles_15 ml_X6_134 mi_X0_settleHeap im_X0_settleHeap se_X0_settleHeap (c_settleHeap E1 hv) rfl rfl (by decide) rfl (Nat.le_of_ble_eq_true rfl) (Nat.zero_le _) (Nat.zero_le _) rfl ?_
  rintro r A2 F2 ⟨rfl, E2, fr2⟩
  refine fc_eq (st' := [vI (x_stl v)]) rfl rfl ?_
  obtain ⟨H2, Hd2, R2⟩ := k_over H1 Hd1 hw1 fr2 (R.hold fr1)
  have hw2 : v_ok (if x_stl v = 0 then p_stl v else v) := by
    by_cases q : x_stl v = 0
    · rw [if_pos q]; exact v_ok_stl hv q
    · rw [if_neg q]; exact hv
  have e00 : p_ch v (s_r v).1 0 = v 0 := by rw [p_ch_at, if_neg (by omega)]
  have e0 : (if x_stl v = 0 then p_stl v else v) 0 = v 0 := by
    by_cases q : x_stl v = 0
    · rw [if_pos q]
      unfold p_stl
      rw [p_fs_at, if_neg (by omega), e00]
    · rw [if_neg q]
  have hans : x_stl v = 0 → fs_sum (A2 11) (v 0).toNat = fs_sum (s_r v).2 (v 0).toNat := fun q => fs_sum_congr fun k k0 k1 => by
    have := E2.2.2.2.1 k k0 (by omega)
    rw [if_pos q] at this
    unfold p_stl at this
    rw [p_fs_at, e00, if_pos (by omega), show 31 + k - 31 = k by omega] at this
    exact this
  refine fc_istore_n C dX6_settles_18 rfl (by decide) ?_
  refine fc_aload_n C dX6_settles_19 rfl rfl ?_
  refine fc_iload_n C dX6_settles_20 rfl rfl ?_
  refine fc_aload_n C dX6_settles_21 rfl rfl ?_
  refine fh_getf C dX6_settles_22 fl_X6_24 rfl rfl ?_
  refine fh_callV (y := mX3_firedInAll) C dX6_settles_25 ml_X6_137 mi_X3_firedInAll im_X3_firedInAll se_X3_firedInAll (c_firedInAll (E2.net hw2)) rfl rfl (by decide) rfl (Nat.le_of_ble_eq_true rfl) (Nat.zero_le _) (Nat.zero_le _) rfl ?_
  refine fc_eq (st' := [vI (fs_sum (A2 11) (v 0).toNat), vI (x_stl v), vR 0]) rfl (by rw [e0]) ?_
  refine fh_callVE (y := mX6_ended) C dX6_settles_28 ml_X6_68 mi_X6_ended im_X6_ended se_X6_ended (c_ended (x_stl_c v) E2 hv (fun e => v_ok_stl hv e) H2 Hd2 R2) rfl rfl (by decide) rfl (Nat.le_of_ble_eq_true rfl) (Nat.zero_le _) (Nat.zero_le _) rfl ?_
  rintro r A3 F3 h3
  have hr := h3.1
  subst hr
  refine fc_eq (st' := [vI (if x_stl v = 0 then fs_sum (A2 11) (v 0).toNat else x_stl v)]) rfl rfl ?_
  have h4 := h3.toS ((fr1.wd (by omega) (by omega)).tr (fr2.wd (by omega) (by omega)))
  have e : (if x_stl v = 0 then fs_sum (A2 11) (v 0).toNat else x_stl v) = if x_stl v = 0 then fs_sum (s_r v).2 (v 0).toNat else x_stl v := by
    by_cases q : x_stl v = 0
    · rw [if_pos q, if_pos q, hans q]
    · rw [if_neg q, if_neg q]
  refine fh_iretE C T dX6_settles_31 (Or.inl rfl) ?_
  unfold k_st at h4 ⊢
  rw [e] at h4 ⊢
  exact h4
theorem o_together (RC : k_RC A F v ps st rf tx tl) {S : Int} (hS : fc_R S) : fh_E mX6_together 4 [vR 0, vI S] A F (k_st A F (x_fire v S 1) (s_unl (v_c (p_fire v S 1)) (v_c v) (v 0).toNat) v ps st rf tx tl (p_fire v S 1)) := by
  obtain ⟨E, hv, H, R⟩ := id RC
  have hn := hv.n
  refine fh_E.of mi_X6_together (Nat.le_of_ble_eq_true rfl) ?_
  intro X C T
  refine fc_aload_n C dX6_together_0 rfl rfl ?_
  refine fh_getf C dX6_together_1 fl_X6_33 rfl rfl ?_
  refine fc_aload_n C dX6_together_4 rfl rfl ?_
  refine fh_getf C dX6_together_5 fl_X6_24 rfl rfl ?_
  refine fh_callVE (y := mX2_hold) C dX6_together_8 ml_X6_60 mi_X2_hold im_X2_hold se_X2_hold (c_holdE E hv H) rfl rfl (by decide) rfl (Nat.le_of_ble_eq_true rfl) (Nat.zero_le _) (Nat.zero_le _) rfl ?_
  rintro r A1 F1 ⟨rfl, E1, H1, Hd1, fr1, hw1⟩
  refine fc_eq (st' := []) rfl rfl ?_
  refine fc_aload_n C dX6_together_11 rfl rfl ?_
  refine fh_getf C dX6_together_12 fl_X6_16 rfl rfl ?_
  refine fc_iload_n C dX6_together_15 rfl rfl ?_
  refine fc_iconst C dX6_together_16 ?_
  refine fh_callVE (y := mX0_fireSet) C dX6_together_17 ml_X6_123 mi_X0_fireSet im_X0_fireSet se_X0_fireSet (c_fireSet E1 hv hS (Or.inl rfl)) rfl rfl (by decide) rfl (Nat.le_of_ble_eq_true rfl) (Nat.zero_le _) (Nat.zero_le _) rfl ?_
  rintro r A2 F2 ⟨rfl, E2, fr2⟩
  refine fc_eq (st' := [vI (x_fire v S 1)]) rfl rfl ?_
  obtain ⟨H2, Hd2, R2⟩ := k_over H1 Hd1 hw1 fr2 (R.hold fr1)
  have hw2 : v_ok (if x_fire v S 1 = 0 then p_fire v S 1 else v) := by
    by_cases q : x_fire v S 1 = 0
    · rw [if_pos q]; exact v_ok_fire hv q
    · rw [if_neg q]; exact hv
  have e0 : (if x_fire v S 1 = 0 then p_fire v S 1 else v) 0 = v 0 := by
    by_cases q : x_fire v S 1 = 0
    · rw [if_pos q]
      unfold p_fire
      rw [p_ch_at, if_neg (by omega)]
    · rw [if_neg q]
  have hw36 : 0 ≤ F2 36 1 ∧ F2 36 1 < 6 := by rw [(fr2 36 (by omega)).2]; exact hw1
  have hpb := k_PB_t (t := ((F2 36 1 + 1) % 6).toNat) (by omega)
  have hans : x_fire v S 1 = 0 → s_unl (A2 10) (A2 (38 + 14 * ((F2 36 1 + 1) % 6).toNat + 7)) (v 0).toNat = s_unl (v_c (p_fire v S 1)) (v_c v) (v 0).toNat := fun q => fs_sum_congr fun k k0 k1 => by
    have q1 := E2.2.2.1 k k0 (by omega)
    have q2 := Hd2.1.2.2.1 k k0 (by omega)
    rw [if_pos q] at q1
    have q3 : A2 10 k = v_c (p_fire v S 1) k := q1
    have q4 : A2 (38 + 14 * ((F2 36 1 + 1) % 6).toNat + 7) k = v_c v k := q2
    rw [q3, q4]
  refine fc_istore_n C dX6_together_20 rfl (by decide) ?_
  refine fc_aload_n C dX6_together_21 rfl rfl ?_
  refine fc_iload_n C dX6_together_22 rfl rfl ?_
  refine fc_aload_n C dX6_together_23 rfl rfl ?_
  refine fh_getf C dX6_together_24 fl_X6_24 rfl rfl ?_
  refine fc_aload_n C dX6_together_27 rfl rfl ?_
  refine fh_getf C dX6_together_28 fl_X6_33 rfl rfl ?_
  refine fh_callV (y := mX2_held) C dX6_together_31 ml_X6_126 mi_X2_held im_X2_held se_X2_held (c_held rfl hw36.1 hw36.2) rfl rfl (by decide) rfl (Nat.le_of_ble_eq_true rfl) (Nat.zero_le _) (Nat.zero_le _) rfl ?_
  refine fh_callV (y := mX3_chipsUnlike) C dX6_together_34 ml_X6_130 mi_X3_chipsUnlike im_X3_chipsUnlike se_X3_chipsUnlike (c_chipsUnlike (E2.net hw2) hpb (fun p p0 p1 => by have := E2.2.2.1 p p0 p1; rw [show (3 + 7 : Nat) = 10 from rfl] at this; rw [this]; exact hw2.2.2.2.1 p p0 p1) (fun p p0 p1 => by rw [Hd2.1.2.2.1 p p0 p1]; exact hv.2.2.2.1 p p0 p1)) rfl rfl (by decide) rfl (Nat.le_of_ble_eq_true rfl) (Nat.zero_le _) (Nat.zero_le _) rfl ?_
  refine fc_eq (st' := [vI (s_unl (A2 10) (A2 (38 + 14 * ((F2 36 1 + 1) % 6).toNat + 7)) (v 0).toNat), vI (x_fire v S 1), vR 0]) rfl (by rw [e0]) ?_
  refine fh_callVE (y := mX6_ended) C dX6_together_37 ml_X6_68 mi_X6_ended im_X6_ended se_X6_ended (c_ended (x_fire_c v S 1) E2 hv (fun e => v_ok_fire hv e) H2 Hd2 R2) rfl rfl (by decide) rfl (Nat.le_of_ble_eq_true rfl) (Nat.zero_le _) (Nat.zero_le _) rfl ?_
  rintro r A3 F3 h3
  have hr := h3.1
  subst hr
  refine fc_eq (st' := [vI (if x_fire v S 1 = 0 then s_unl (A2 10) (A2 (38 + 14 * ((F2 36 1 + 1) % 6).toNat + 7)) (v 0).toNat else x_fire v S 1)]) rfl rfl ?_
  have h4 := h3.toS ((fr1.wd (by omega) (by omega)).tr (fr2.wd (by omega) (by omega)))
  have e : (if x_fire v S 1 = 0 then s_unl (A2 10) (A2 (38 + 14 * ((F2 36 1 + 1) % 6).toNat + 7)) (v 0).toNat else x_fire v S 1) = if x_fire v S 1 = 0 then s_unl (v_c (p_fire v S 1)) (v_c v) (v 0).toNat else x_fire v S 1 := by
    by_cases q : x_fire v S 1 = 0
    · rw [if_pos q, if_pos q, hans q]
    · rw [if_neg q, if_neg q]
  refine fh_iretE C T dX6_together_40 (Or.inl rfl) ?_
  unfold k_st at h4 ⊢
  rw [e] at h4 ⊢
  exact h4
end PUB1
