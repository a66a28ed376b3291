/-! the reference: trees, heaps, way -/
theorem b_way_2_1 (M : Int → Int → Int) (x : Int → Int)  (U : Int → Int → Int) (hU : ∀ i j : Int, U i j = if j = 0 then x (i + 1) else M (i + 1) (j + 1)) : U 0 0 = fs_sum (fun b => if b = 0 then 0 else g_cf M 2 0 1 b * x b) 2 := by
  simp [fs_s, fs_0, g_cf_2_0_1_1, m4, m3, m2, m1, hU]
theorem b_way_3_1 (M : Int → Int → Int) (x : Int → Int) (h12 : M 1 2 = M 2 1) (U : Int → Int → Int) (hU : ∀ i j : Int, U i j = if j = 0 then x (i + 1) else M (i + 1) (j + 1)) : m2 U 0 1 0 1 = fs_sum (fun b => if b = 0 then 0 else g_cf M 3 0 1 b * x b) 3 := by
  simp [fs_s, fs_0, g_cf_3_0_1_1, g_cf_3_0_1_2, m4, m3, m2, m1, hU]
  try grind
theorem b_way_3_2 (M : Int → Int → Int) (x : Int → Int) (h12 : M 1 2 = M 2 1) (U : Int → Int → Int) (hU : ∀ i j : Int, U i j = if j = 1 then x (i + 1) else M (i + 1) (j + 1)) : m2 U 0 1 0 1 = fs_sum (fun b => if b = 0 then 0 else g_cf M 3 0 2 b * x b) 3 := by
  simp [fs_s, fs_0, g_cf_3_0_2_1, g_cf_3_0_2_2, m4, m3, m2, m1, hU]
  try grind
theorem b_way_4_1 (M : Int → Int → Int) (x : Int → Int) (h12 : M 1 2 = M 2 1) (h13 : M 1 3 = M 3 1) (h23 : M 2 3 = M 3 2) (U : Int → Int → Int) (hU : ∀ i j : Int, U i j = if j = 0 then x (i + 1) else M (i + 1) (j + 1)) : m3 U 0 1 2 0 1 2 = fs_sum (fun b => if b = 0 then 0 else g_cf M 4 0 1 b * x b) 4 := by
  simp [fs_s, fs_0, g_cf_4_0_1_1, g_cf_4_0_1_2, g_cf_4_0_1_3, m4, m3, m2, m1, hU]
  try grind
theorem b_way_4_2 (M : Int → Int → Int) (x : Int → Int) (h12 : M 1 2 = M 2 1) (h13 : M 1 3 = M 3 1) (h23 : M 2 3 = M 3 2) (U : Int → Int → Int) (hU : ∀ i j : Int, U i j = if j = 1 then x (i + 1) else M (i + 1) (j + 1)) : m3 U 0 1 2 0 1 2 = fs_sum (fun b => if b = 0 then 0 else g_cf M 4 0 2 b * x b) 4 := by
  simp [fs_s, fs_0, g_cf_4_0_2_1, g_cf_4_0_2_2, g_cf_4_0_2_3, m4, m3, m2, m1, hU]
  try grind
theorem b_way_4_3 (M : Int → Int → Int) (x : Int → Int) (h12 : M 1 2 = M 2 1) (h13 : M 1 3 = M 3 1) (h23 : M 2 3 = M 3 2) (U : Int → Int → Int) (hU : ∀ i j : Int, U i j = if j = 2 then x (i + 1) else M (i + 1) (j + 1)) : m3 U 0 1 2 0 1 2 = fs_sum (fun b => if b = 0 then 0 else g_cf M 4 0 3 b * x b) 4 := by
  simp [fs_s, fs_0, g_cf_4_0_3_1, g_cf_4_0_3_2, g_cf_4_0_3_3, m4, m3, m2, m1, hU]
  try grind
theorem b_way_5_1 (M : Int → Int → Int) (x : Int → Int) (h12 : M 1 2 = M 2 1) (h13 : M 1 3 = M 3 1) (h14 : M 1 4 = M 4 1) (h23 : M 2 3 = M 3 2) (h24 : M 2 4 = M 4 2) (h34 : M 3 4 = M 4 3) (U : Int → Int → Int) (hU : ∀ i j : Int, U i j = if j = 0 then x (i + 1) else M (i + 1) (j + 1)) : m4 U 0 1 2 3 0 1 2 3 = fs_sum (fun b => if b = 0 then 0 else g_cf M 5 0 1 b * x b) 5 := by
  simp [fs_s, fs_0, g_cf_5_0_1_1, g_cf_5_0_1_2, g_cf_5_0_1_3, g_cf_5_0_1_4, m4, m3, m2, m1, hU]
  try grind
theorem b_way_5_2 (M : Int → Int → Int) (x : Int → Int) (h12 : M 1 2 = M 2 1) (h13 : M 1 3 = M 3 1) (h14 : M 1 4 = M 4 1) (h23 : M 2 3 = M 3 2) (h24 : M 2 4 = M 4 2) (h34 : M 3 4 = M 4 3) (U : Int → Int → Int) (hU : ∀ i j : Int, U i j = if j = 1 then x (i + 1) else M (i + 1) (j + 1)) : m4 U 0 1 2 3 0 1 2 3 = fs_sum (fun b => if b = 0 then 0 else g_cf M 5 0 2 b * x b) 5 := by
  simp [fs_s, fs_0, g_cf_5_0_2_1, g_cf_5_0_2_2, g_cf_5_0_2_3, g_cf_5_0_2_4, m4, m3, m2, m1, hU]
  try grind
theorem b_way_5_3 (M : Int → Int → Int) (x : Int → Int) (h12 : M 1 2 = M 2 1) (h13 : M 1 3 = M 3 1) (h14 : M 1 4 = M 4 1) (h23 : M 2 3 = M 3 2) (h24 : M 2 4 = M 4 2) (h34 : M 3 4 = M 4 3) (U : Int → Int → Int) (hU : ∀ i j : Int, U i j = if j = 2 then x (i + 1) else M (i + 1) (j + 1)) : m4 U 0 1 2 3 0 1 2 3 = fs_sum (fun b => if b = 0 then 0 else g_cf M 5 0 3 b * x b) 5 := by
  simp [fs_s, fs_0, g_cf_5_0_3_1, g_cf_5_0_3_2, g_cf_5_0_3_3, g_cf_5_0_3_4, m4, m3, m2, m1, hU]
  try grind
theorem b_way_5_4 (M : Int → Int → Int) (x : Int → Int) (h12 : M 1 2 = M 2 1) (h13 : M 1 3 = M 3 1) (h14 : M 1 4 = M 4 1) (h23 : M 2 3 = M 3 2) (h24 : M 2 4 = M 4 2) (h34 : M 3 4 = M 4 3) (U : Int → Int → Int) (hU : ∀ i j : Int, U i j = if j = 3 then x (i + 1) else M (i + 1) (j + 1)) : m4 U 0 1 2 3 0 1 2 3 = fs_sum (fun b => if b = 0 then 0 else g_cf M 5 0 4 b * x b) 5 := by
  simp [fs_s, fs_0, g_cf_5_0_4_1, g_cf_5_0_4_2, g_cf_5_0_4_3, g_cf_5_0_4_4, m4, m3, m2, m1, hU]
  try grind
theorem b_way {L : Int → Int → Int} {n p : Int} (hg : g_ok L) (hn : 2 ≤ n ∧ n ≤ 5) (hp : 1 ≤ p ∧ p < n) {x : Int → Int} {U : Int → Int → Int} (hU : ∀ i j : Int, U i j = if j = p - 1 then x (i + 1) else s_M L n (i + 1) (j + 1)) : b_b U (n - 1) = d_sv L n 0 x p := by
  have hsy : ∀ a b : Int, 0 ≤ a → a < n → 0 ≤ b → b < n → s_M L n a b = s_M L n b a := fun a b a0 a1 b0 b1 => s_M_sym hg (by omega) a0 a1 b0 b1
  have e : d_sv L n 0 x p = fs_sum (fun b => if b = 0 then 0 else g_cf (s_M L n) n 0 p b * x b) n.toNat := by
    unfold d_sv
    rw [if_neg (by omega)]
    rfl
  rw [e]
  have hnn : n = 2 ∨ n = 3 ∨ n = 4 ∨ n = 5 := by omega
  have hpp : p = 1 ∨ p = 2 ∨ p = 3 ∨ p = 4 := by omega
  rcases hnn with rfl | rfl | rfl | rfl
  · rcases hpp with rfl | rfl | rfl | rfl
    · exact b_way_2_1 (s_M L 2) x  U hU
    · exfalso; omega
    · exfalso; omega
    · exfalso; omega
  · rcases hpp with rfl | rfl | rfl | rfl
    · exact b_way_3_1 (s_M L 3) x (hsy 1 2 (by omega) (by omega) (by omega) (by omega)) U hU
    · exact b_way_3_2 (s_M L 3) x (hsy 1 2 (by omega) (by omega) (by omega) (by omega)) U hU
    · exfalso; omega
    · exfalso; omega
  · rcases hpp with rfl | rfl | rfl | rfl
    · exact b_way_4_1 (s_M L 4) x (hsy 1 2 (by omega) (by omega) (by omega) (by omega)) (hsy 1 3 (by omega) (by omega) (by omega) (by omega)) (hsy 2 3 (by omega) (by omega) (by omega) (by omega)) U hU
    · exact b_way_4_2 (s_M L 4) x (hsy 1 2 (by omega) (by omega) (by omega) (by omega)) (hsy 1 3 (by omega) (by omega) (by omega) (by omega)) (hsy 2 3 (by omega) (by omega) (by omega) (by omega)) U hU
    · exact b_way_4_3 (s_M L 4) x (hsy 1 2 (by omega) (by omega) (by omega) (by omega)) (hsy 1 3 (by omega) (by omega) (by omega) (by omega)) (hsy 2 3 (by omega) (by omega) (by omega) (by omega)) U hU
    · exfalso; omega
  · rcases hpp with rfl | rfl | rfl | rfl
    · exact b_way_5_1 (s_M L 5) x (hsy 1 2 (by omega) (by omega) (by omega) (by omega)) (hsy 1 3 (by omega) (by omega) (by omega) (by omega)) (hsy 1 4 (by omega) (by omega) (by omega) (by omega)) (hsy 2 3 (by omega) (by omega) (by omega) (by omega)) (hsy 2 4 (by omega) (by omega) (by omega) (by omega)) (hsy 3 4 (by omega) (by omega) (by omega) (by omega)) U hU
    · exact b_way_5_2 (s_M L 5) x (hsy 1 2 (by omega) (by omega) (by omega) (by omega)) (hsy 1 3 (by omega) (by omega) (by omega) (by omega)) (hsy 1 4 (by omega) (by omega) (by omega) (by omega)) (hsy 2 3 (by omega) (by omega) (by omega) (by omega)) (hsy 2 4 (by omega) (by omega) (by omega) (by omega)) (hsy 3 4 (by omega) (by omega) (by omega) (by omega)) U hU
    · exact b_way_5_3 (s_M L 5) x (hsy 1 2 (by omega) (by omega) (by omega) (by omega)) (hsy 1 3 (by omega) (by omega) (by omega) (by omega)) (hsy 1 4 (by omega) (by omega) (by omega) (by omega)) (hsy 2 3 (by omega) (by omega) (by omega) (by omega)) (hsy 2 4 (by omega) (by omega) (by omega) (by omega)) (hsy 3 4 (by omega) (by omega) (by omega) (by omega)) U hU
    · exact b_way_5_4 (s_M L 5) x (hsy 1 2 (by omega) (by omega) (by omega) (by omega)) (hsy 1 3 (by omega) (by omega) (by omega) (by omega)) (hsy 1 4 (by omega) (by omega) (by omega) (by omega)) (hsy 2 3 (by omega) (by omega) (by omega) (by omega)) (hsy 2 4 (by omega) (by omega) (by omega) (by omega)) (hsy 3 4 (by omega) (by omega) (by omega) (by omega)) U hU
theorem b_tree {L : Int → Int → Int} {n : Int} (hn : 2 ≤ n ∧ n ≤ 5) : b_b (fun i j => s_M L n (i + 1) (j + 1)) (n - 1) = d_T L n 0 := by
  have hnn : n = 2 ∨ n = 3 ∨ n = 4 ∨ n = 5 := by omega
  rw [d_T_g]
  rcases hnn with rfl | rfl | rfl | rfl
  · rw [g_T_2_0]; rfl
  · rw [g_T_3_0]; rfl
  · rw [g_T_4_0]; rfl
  · rw [g_T_5_0]; rfl
section REF15
variable {A : Nat → Int → Int} {F : Nat → Nat → Int} {v : Int → Int} {ps : Int → Int → Int} {st : Int} {rf tx : Int → Int} {tl : Int}
theorem b_cb15 (hv : v_ok v) : b_cb (fun i j => s_M (v_L v) (v 0) (i + 1) (j + 1)) (v 0 - 1) (fun _ => 15) := by
  have hn := hv.n
  refine ⟨fun i j i0 i1 j0 j1 => s_M_bd hv.g hn (i + 1) (j + 1) (by omega) (by omega) (by omega) (by omega), fun _ _ _ => ⟨by show (0:Int) ≤ 15; decide, by show (15:Int) ≤ 2000; decide⟩, fun _ _ _ _ _ _ _ => by show (15:Int)*15 ≤ 30000; decide, fun _ _ _ _ _ _ _ _ _ _ _ _ => by show (15:Int)*(15*15) ≤ 450000; decide⟩
theorem r_treesNow (e : A 144 = v) (hv : v_ok v) : fh_E mX7_treesNow 4 [vR 143] A F (fun r A' F' => r = some (vI (d_T (v_L v) (v 0) 0)) ∧ F' = F ∧ (∀ j : Nat, j ≠ 150 → A' j = A j)) := by
  have hn := hv.n
  refine fh_E.of mi_X7_treesNow (Nat.le_of_ble_eq_true rfl) ?_
  intro X C T
  refine fc_aload_n C dX7_treesNow_0 rfl rfl ?_
  refine fh_callVE (y := mX7_laysTable) C dX7_treesNow_1 ml_X7_198 mi_X7_laysTable im_X7_laysTable se_X7_laysTable (r_laysTable e hv) rfl rfl (by decide) rfl (Nat.le_of_ble_eq_true rfl) (Nat.zero_le _) (Nat.zero_le _) rfl ?_
  rintro r A1 F1 ⟨rfl, rfl, frA, hT⟩
  refine fc_eq (st' := []) rfl rfl ?_
  refine fc_aload_n C dX7_treesNow_4 rfl rfl ?_
  refine fh_callVE (y := mX7_determinant) C dX7_treesNow_5 ml_X7_201 mi_X7_determinant im_X7_determinant se_X7_determinant (r_determinant ((frA 144 (by omega)).trans e) hn hT (b_cb15 hv)) rfl rfl (by decide) rfl (Nat.le_of_ble_eq_true rfl) (Nat.zero_le _) (Nat.zero_le _) rfl ?_
  rintro r A2 F2 ⟨rfl, rfl, frB⟩
  refine fc_eq (st' := [vL (d_T (v_L v) (v 0) 0)]) rfl (by rw [b_tree hn]; rfl) ?_
  refine fc_l2i C dX7_treesNow_8 ?_
  exact fh_iretE C T dX7_treesNow_9 (Or.inl rfl) ⟨rfl, rfl, fun j hj => by rw [frB j hj]; exact frA j hj⟩
theorem q_trees (RC : m_RC A F v ps st rf tx tl) : fh_E mX7_trees 5 [vR 143] A F (m_an A F 0 (d_T (v_L v) (v 0) 0) v ps st rf tx tl) := by
  refine fh_E.of mi_X7_trees (Nat.le_of_ble_eq_true rfl) ?_
  intro X C T
  refine fc_aload_n C dX7_trees_0 rfl rfl ?_
  refine fh_callVE (y := mX7_treesNow) C dX7_trees_1 ml_X7_205 mi_X7_treesNow im_X7_treesNow se_X7_treesNow (r_treesNow RC.1 RC.2.1) rfl rfl (by decide) rfl (Nat.le_of_ble_eq_true rfl) (Nat.zero_le _) (Nat.zero_le _) rfl ?_
  rintro r A1 F1 ⟨rfl, rfl, frA⟩
  refine fc_eq (st' := [vI (d_T (v_L v) (v 0) 0)]) rfl rfl ?_
  exact fh_iretE C T dX7_trees_4 (Or.inl rfl) (m_an.red RC (fun j _ _ _ _ _ _ j7 => frA j j7) rfl rfl)
theorem q_heaps (RC : m_RC A F v ps st rf tx tl) {w : Int} (hw : fc_R w) : fh_E mX7_heaps 5 [vR 143, vI w] A F (m_an A F (x_hps v w) (a_hps v w) v ps st rf tx tl) := by
  obtain ⟨e, hv, -⟩ := id RC
  have hn := hv.n
  refine fh_E.of mi_X7_heaps (Nat.le_of_ble_eq_true rfl) ?_
  intro X C T
  refine fc_iload_n C dX7_heaps_0 rfl rfl ?_
  refine fc_i2l C dX7_heaps_1 hw ?_
  refine fc_lconst (z := 0) C dX7_heaps_2 rfl ?_
  refine fc_lconst (z := 1) C dX7_heaps_3 rfl ?_
  refine fh_callS (y := mX7_in) C dX7_heaps_4 ml_X7_64 mi_X7_in st_X7_in (r_in hw.L (fc_RLm (by omega)) (fc_RLm (by omega))) (by decide) rfl (Nat.le_of_ble_eq_true rfl) (Nat.zero_le _) (Nat.zero_le _) rfl ?_
  refine fc_if_ne (tgt := 17) C dX7_heaps_7 (by decide) (fc_ind_R _) (fun c7 => ?_) (fun c7 => ?_)
  · have c7 := fc_ind_ne c7
    refine fc_aload_n C dX7_heaps_17 rfl rfl ?_
    refine fh_callV (y := mX7_isJoined) C dX7_heaps_18 ml_X7_118 mi_X7_isJoined im_X7_isJoined se_X7_isJoined (r_isJoined e hn hv.g) rfl rfl (by decide) rfl (Nat.le_of_ble_eq_true rfl) (Nat.zero_le _) (Nat.zero_le _) rfl ?_
    refine fc_if_ne (tgt := 33) C dX7_heaps_21 (by decide) (fc_ind_R _) (fun c21 => ?_) (fun c21 => ?_)
    · have hJ := fc_ind_ne c21
      have hx : x_hps v w = 0 := by unfold x_hps; rw [if_pos c7]; exact x_J_0 hJ
      refine fc_iload_n C dX7_heaps_33 rfl rfl ?_
      refine fc_if_ne (tgt := 44) C dX7_heaps_34 (by decide) (fc_Rm (by omega)) (fun c34 => ?_) (fun c34 => ?_)
      · refine fc_aload_n C dX7_heaps_44 rfl rfl ?_
        refine fh_callVE (y := mX7_treesNow) C dX7_heaps_45 ml_X7_205 mi_X7_treesNow im_X7_treesNow se_X7_treesNow (r_treesNow e hv) rfl rfl (by decide) rfl (Nat.le_of_ble_eq_true rfl) (Nat.zero_le _) (Nat.zero_le _) rfl ?_
        rintro r A1 F1 ⟨rfl, rfl, frA⟩
        refine fc_eq (st' := [vI (d_T (v_L v) (v 0) 0)]) rfl rfl ?_
        exact fh_iretE C T dX7_heaps_48 (Or.inl rfl) (m_an.red RC (fun j _ _ _ _ _ _ j7 => frA j j7) hx (by unfold a_hps; rw [if_neg c34]))
      · refine fc_aload_n C dX7_heaps_37 rfl rfl ?_
        refine fh_callV (y := mX7_stableHeaps) C dX7_heaps_38 ml_X7_242 mi_X7_stableHeaps im_X7_stableHeaps se_X7_stableHeaps (r_stableHeaps e hn) rfl rfl (by decide) rfl (Nat.le_of_ble_eq_true rfl) (Nat.zero_le _) (Nat.zero_le _) rfl ?_
        refine fc_goto (tgt := 48) C dX7_heaps_41 (by decide) ?_
        exact fh_iretE C T dX7_heaps_48 (Or.inl rfl) (m_an.id RC hx (by unfold a_hps; rw [if_pos (by omega)]))
    · have c21 := fc_ind_0 c21
      refine fc_aload_n C dX7_heaps_24 rfl rfl ?_
      refine fc_bipush C dX7_heaps_25 (by decide) ?_
      refine fh_callV (y := mX7_refuses) C dX7_heaps_27 ml_X7_80 mi_X7_refuses im_X7_refuses se_X7_refuses (r_refuses (Or.inr (Or.inl rfl))) rfl rfl (by decide) rfl (Nat.le_of_ble_eq_true rfl) (Nat.zero_le _) (Nat.zero_le _) rfl ?_
      refine fc_goto (tgt := 48) C dX7_heaps_30 (by decide) ?_
      exact fh_iretE C T dX7_heaps_48 (Or.inl rfl) (m_an.no RC (by unfold x_hps; rw [if_pos c7]; exact x_J_3 c21) (Or.inr (Or.inl rfl)))
  · have c7 := fc_ind_0 c7
    refine fc_aload_n C dX7_heaps_10 rfl rfl ?_
    refine fc_bipush C dX7_heaps_11 (by decide) ?_
    refine fh_callV (y := mX7_refuses) C dX7_heaps_13 ml_X7_80 mi_X7_refuses im_X7_refuses se_X7_refuses (r_refuses (Or.inl rfl)) rfl rfl (by decide) rfl (Nat.le_of_ble_eq_true rfl) (Nat.zero_le _) (Nat.zero_le _) rfl ?_
    exact fh_iretE C T dX7_heaps_16 (Or.inl rfl) (m_an.no RC (if_neg c7) (Or.inl rfl))
theorem r_wayNow (e : A 144 = v) (hv : v_ok v) (hJ : s_J (v_L v) (v 0)) {s p : Int} (hs : 0 ≤ s ∧ s < 3) (hp : 0 ≤ p ∧ p < v 0) : fh_E mX7_wayNow 5 [vR 143, vI s, vI p] A F (fun r A' F' => r = some (vI ((d_sv (v_L v) (v 0) 0 (v_d v s) p).tdiv (d_T (v_L v) (v 0) 0) + 100000)) ∧ F' = F ∧ (∀ j : Nat, j ≠ 150 → A' j = A j)) := by
  have hn := hv.n
  have hg := hv.g
  have hT := d_T_pos hg hn (q := 0) ⟨by omega, by omega⟩ hJ
  have hTb := d_T_b2 hg (n := v 0) (q := 0) hn
  have hdb : ∀ o : Int, 0 ≤ o → o < v 0 → -1998 ≤ v_d v s o ∧ v_d v s o ≤ 1998 := fun o o0 o1 => by
    have h1 := hv.2.2.2.1 o o0 (by omega)
    have h2 := hv.2.2.2.2.2.2.2 s o hs.1 hs.2 o0 (by omega)
    unfold v_d
    omega
  have hsv := d_sv_bd hg (n := v 0) (q := 0) (a := p) hn (x := v_d v s) (fun o o0 o1 => by have := hdb o o0 o1; omega)
  refine fh_E.of mi_X7_wayNow (Nat.le_of_ble_eq_true rfl) ?_
  intro X C T
  refine fc_aload_n C dX7_wayNow_0 rfl rfl ?_
  refine fh_callVE (y := mX7_treesNow) C dX7_wayNow_1 ml_X7_205 mi_X7_treesNow im_X7_treesNow se_X7_treesNow (r_treesNow e hv) rfl rfl (by decide) rfl (Nat.le_of_ble_eq_true rfl) (Nat.zero_le _) (Nat.zero_le _) rfl ?_
  rintro r A1 F1 ⟨rfl, rfl, frA⟩
  refine fc_eq (st' := [vI (d_T (v_L v) (v 0) 0)]) rfl rfl ?_
  have e1 := (frA 144 (by omega)).trans e
  refine fc_istore_n C dX7_wayNow_4 rfl (by decide) ?_
  refine fc_iload_n C dX7_wayNow_5 rfl rfl ?_
  refine fc_if_ne (tgt := 13) C dX7_wayNow_6 (by decide) (fc_Rm (by omega)) (fun c6 => ?_) (fun c6 => ?_)
  · refine fc_aload_n C dX7_wayNow_13 rfl rfl ?_
    refine fh_callVE (y := mX7_laysTable) C dX7_wayNow_14 ml_X7_198 mi_X7_laysTable im_X7_laysTable se_X7_laysTable (r_laysTable e1 hv) rfl rfl (by decide) rfl (Nat.le_of_ble_eq_true rfl) (Nat.zero_le _) (Nat.zero_le _) rfl ?_
    rintro r A2 F2 ⟨rfl, rfl, frB, hTb2⟩
    refine fc_eq (st' := []) rfl rfl ?_
    have loop : ∀ (m : Nat) (k : Int) (A3 : Nat → Int → Int), 0 ≤ k → k ≤ v 0 - 1 → v 0 - k < m → (∀ i j : Int, 0 ≤ i → i < v 0 - 1 → 0 ≤ j → j < v 0 - 1 → A3 150 (4 * i + j) = if j = p - 1 ∧ i < k then v_d v s (i + 1) else s_M (v_L v) (v 0) (i + 1) (j + 1)) → (∀ j : Nat, j ≠ 150 → A3 j = A j) → fc_W X 0 0 159 (fc_H A3 F2) 20 [some (vR 143), some (vI s), some (vI p), some (vI (d_T (v_L v) (v 0) 0)), some (vI k)] [] := by
      intro m
      induction m with
      | zero => intro k A3 z0 z1 z2; exfalso; omega
      | succ m ih =>
        intro k A3 z0 z1 z2 ht frC
        have e3 := (frC 144 (by omega)).trans e
        refine fc_iload C dX7_wayNow_20 rfl ?_
        refine fc_aload_n C dX7_wayNow_22 rfl rfl ?_
        refine fh_callV (y := mX7_side) C dX7_wayNow_23 ml_X7_188 mi_X7_side im_X7_side se_X7_side (r_side e3) rfl rfl (by decide) rfl (Nat.le_of_ble_eq_true rfl) (Nat.zero_le _) (Nat.zero_le _) rfl ?_
        refine fc_icmp_ge (tgt := 67) C dX7_wayNow_26 (by decide) (fc_Rm (by omega)) (fc_Rm (by omega)) (fun c26 => ?_) (fun c26 => ?_)
        · have hU : m_tb A3 (fun i j => if j = p - 1 then v_d v s (i + 1) else s_M (v_L v) (v 0) (i + 1) (j + 1)) (v 0 - 1) := fun i j i0 i1 j0 j1 => by
            rw [ht i j i0 i1 j0 j1]
            show _ = if j = p - 1 then _ else _
            by_cases c : j = p - 1
            · rw [if_pos ⟨c, by omega⟩, if_pos c]
            · rw [if_neg (fun z => c z.1), if_neg c]
          have hcb : b_cb (fun i j => if j = p - 1 then v_d v s (i + 1) else s_M (v_L v) (v 0) (i + 1) (j + 1)) (v 0 - 1) (fun j => if j = p - 1 then 2000 else 15) := by
            refine ⟨fun i j i0 i1 j0 j1 => ?_, fun j j0 j1 => ?_, fun c d c0 c1 d0 d1 hcd => ?_, fun c d f c0 c1 d0 d1 f0 f1 h1 h2 h3 => ?_⟩
            · show -(if j = p - 1 then 2000 else 15) ≤ (if j = p - 1 then _ else _) ∧ (if j = p - 1 then _ else _) ≤ (if j = p - 1 then 2000 else 15)
              by_cases c : j = p - 1
              · rw [if_pos c, if_pos c]; have := hdb (i + 1) (by omega) (by omega); omega
              · rw [if_neg c, if_neg c]; exact s_M_bd hg hn (i + 1) (j + 1) (by omega) (by omega) (by omega) (by omega)
            · show 0 ≤ (if j = p - 1 then (2000 : Int) else 15) ∧ (if j = p - 1 then (2000 : Int) else 15) ≤ 2000
              split <;> omega
            · show (if c = p - 1 then (2000 : Int) else 15) * (if d = p - 1 then (2000 : Int) else 15) ≤ 30000
              by_cases q1 : c = p - 1
              · rw [if_pos q1, if_neg (by omega)]; decide
              · rw [if_neg q1]; split <;> decide
            · show (if c = p - 1 then (2000 : Int) else 15) * ((if d = p - 1 then (2000 : Int) else 15) * (if f = p - 1 then (2000 : Int) else 15)) ≤ 450000
              by_cases q1 : c = p - 1
              · rw [if_pos q1, if_neg (by omega), if_neg (by omega)]; decide
              · rw [if_neg q1]
                by_cases q2 : d = p - 1
                · rw [if_pos q2, if_neg (by omega)]; decide
                · rw [if_neg q2]; split <;> decide
          refine fc_aload_n C dX7_wayNow_67 rfl rfl ?_
          refine fh_callVE (y := mX7_determinant) C dX7_wayNow_68 ml_X7_201 mi_X7_determinant im_X7_determinant se_X7_determinant (r_determinant e3 hn hU hcb) rfl rfl (by decide) rfl (Nat.le_of_ble_eq_true rfl) (Nat.zero_le _) (Nat.zero_le _) rfl ?_
          rintro r A4 F4 ⟨rfl, rfl, frD⟩
          refine fc_eq (st' := [vL (d_sv (v_L v) (v 0) 0 (v_d v s) p)]) rfl (by rw [b_way hg hn (p := p) ⟨by omega, hp.2⟩ (x := v_d v s) (fun _ _ => rfl)]; rfl) ?_
          refine fc_iload_n C dX7_wayNow_71 rfl rfl ?_
          refine fc_i2l C dX7_wayNow_72 (fc_Rm (by omega)) ?_
          refine fc_ldiv C dX7_wayNow_73 (fc_RLm (by omega)) (fc_RLm (by omega)) (by omega) ?_
          refine fc_l2i C dX7_wayNow_74 ?_
          refine fc_ldc_w C dX7_wayNow_75 kc_X7_291 ?_
          refine fc_iadd C dX7_wayNow_78 ?_
          exact fh_iretE C T dX7_wayNow_79 (Or.inl rfl) ⟨rfl, rfl, fun j hj => by rw [frD j hj]; exact frC j hj⟩
        · have h1 := hv.2.2.2.1 (k + 1) (by omega) (by omega)
          have h2 := hv.2.2.2.2.2.2.2 s (k + 1) hs.1 hs.2 (by omega) (by omega)
          refine fc_aload_n C dX7_wayNow_29 rfl rfl ?_
          refine fh_getf C dX7_wayNow_30 fl_X7_29 rfl rfl ?_
          refine fc_iconst C dX7_wayNow_33 ?_
          refine fc_iload C dX7_wayNow_34 rfl ?_
          refine fc_imul C dX7_wayNow_36 ?_
          refine fc_iload_n C dX7_wayNow_37 rfl rfl ?_
          refine fc_iadd C dX7_wayNow_38 ?_
          refine fc_iconst C dX7_wayNow_39 ?_
          refine fc_isub C dX7_wayNow_40 ?_
          refine fc_aload_n C dX7_wayNow_41 rfl rfl ?_
          refine fc_iload C dX7_wayNow_42 rfl ?_
          refine fc_iconst C dX7_wayNow_44 ?_
          refine fc_iadd C dX7_wayNow_45 ?_
          refine fh_callV (y := mX7_chips) C dX7_wayNow_46 ml_X7_126 mi_X7_chips im_X7_chips se_X7_chips (r_chips e3 ⟨by omega, by omega⟩) rfl rfl (by decide) rfl (Nat.le_of_ble_eq_true rfl) (Nat.zero_le _) (Nat.zero_le _) rfl ?_
          refine fc_aload_n C dX7_wayNow_49 rfl rfl ?_
          refine fc_iload_n C dX7_wayNow_50 rfl rfl ?_
          refine fc_iload C dX7_wayNow_51 rfl ?_
          refine fc_iconst C dX7_wayNow_53 ?_
          refine fc_iadd C dX7_wayNow_54 ?_
          refine fh_callV (y := mX7_kept) C dX7_wayNow_55 ml_X7_282 mi_X7_kept im_X7_kept se_X7_kept (r_kept e3 hs ⟨by omega, by omega⟩) rfl rfl (by decide) rfl (Nat.le_of_ble_eq_true rfl) (Nat.zero_le _) (Nat.zero_le _) rfl ?_
          refine fc_isub C dX7_wayNow_58 ?_
          refine fc_i2l C dX7_wayNow_59 (fc_Rm (by omega)) ?_
          refine fh_lastore C dX7_wayNow_60 (fun _ _ => rfl) (by omega) (by omega) (by decide) ?_
          refine fc_iinc C dX7_wayNow_61 rfl (by decide) ?_
          refine fc_goto (tgt := 20) C dX7_wayNow_64 (by decide) ?_
          refine ih (k + 1) _ (by omega) (by omega) (by omega) (fun i j i0 i1 j0 j1 => ?_) (fun j hj => by rw [fa_n _ _ hj]; exact frC j hj)
          rw [fa_s]
          unfold fc_set
          by_cases c : 4 * i + j = 4 * k + p - 1
          · rw [if_pos c, if_pos (by omega), show i = k by omega]
            rfl
          · rw [if_neg c, ht i j i0 i1 j0 j1]
            by_cases c2 : j = p - 1 ∧ i < k
            · rw [if_pos c2, if_pos (show j = p - 1 ∧ i < k + 1 by omega)]
            · rw [if_neg c2, if_neg (show ¬ (j = p - 1 ∧ i < k + 1) by omega)]
    refine fc_iconst C dX7_wayNow_17 ?_
    refine fc_istore C dX7_wayNow_18 (by decide) ?_
    exact loop 7 0 A2 (by omega) (by omega) (by omega) (fun i j i0 i1 j0 j1 => by rw [if_neg (by omega)]; exact hTb2 i j i0 i1 j0 j1) (fun j hj => by rw [frB j hj]; exact frA j hj)
  · have e0 : d_sv (v_L v) (v 0) 0 (v_d v s) p = 0 := by unfold d_sv; rw [if_pos (by omega)]
    refine fc_ldc_w C dX7_wayNow_9 kc_X7_291 ?_
    exact fh_iretE C T dX7_wayNow_12 (Or.inl rfl) ⟨by rw [e0, Int.zero_tdiv]; rfl, rfl, frA⟩
theorem q_way (RC : m_RC A F v ps st rf tx tl) {s p : Int} (hs : fc_R s) (hp : fc_R p) : fh_E mX7_way 6 [vR 143, vI s, vI p] A F (m_an A F (x_kw v s p) (a_way v s p) v ps st rf tx tl) := by
  obtain ⟨e, hv, -, -, -, hm⟩ := id RC
  have hn := hv.n
  refine fh_E.of mi_X7_way (Nat.le_of_ble_eq_true rfl) ?_
  intro X C T
  have no : ¬ ((0 ≤ s ∧ s < 3) ∧ (0 ≤ p ∧ p < v 0)) → fc_W X 0 0 159 (fc_H A F) 20 [some (vR 143), some (vI s), some (vI p)] [] := by
    intro h
    refine fc_aload_n C dX7_way_20 rfl rfl ?_
    refine fc_bipush C dX7_way_21 (by decide) ?_
    refine fh_callV (y := mX7_refuses) C dX7_way_23 ml_X7_80 mi_X7_refuses im_X7_refuses se_X7_refuses (r_refuses (Or.inl rfl)) rfl rfl (by decide) rfl (Nat.le_of_ble_eq_true rfl) (Nat.zero_le _) (Nat.zero_le _) rfl ?_
    exact fh_iretE C T dX7_way_26 (Or.inl rfl) (m_an.no RC (if_neg h) (Or.inl rfl))
  refine fc_iload_n C dX7_way_0 rfl rfl ?_
  refine fc_i2l C dX7_way_1 hs ?_
  refine fc_lconst (z := 0) C dX7_way_2 rfl ?_
  refine fc_ldc2_w C dX7_way_3 kc_X7_76 ?_
  refine fh_callS (y := mX7_in) C dX7_way_6 ml_X7_64 mi_X7_in st_X7_in (r_in hs.L (fc_RLm (by omega)) (fc_RLm (by omega))) (by decide) rfl (Nat.le_of_ble_eq_true rfl) (Nat.zero_le _) (Nat.zero_le _) rfl ?_
  refine fc_if_eq (tgt := 20) C dX7_way_9 (by decide) (fc_ind_R _) (fun c9 => ?_) (fun c9 => ?_)
  · have c9 := fc_ind_0 c9
    exact no (fun h => c9 (by omega))
  · have c9 := fc_ind_ne c9
    have hs3 : 0 ≤ s ∧ s < 3 := by omega
    refine fc_aload_n C dX7_way_12 rfl rfl ?_
    refine fc_iload_n C dX7_way_13 rfl rfl ?_
    refine fh_callV (y := mX7_isPoint) C dX7_way_14 ml_X7_89 mi_X7_isPoint im_X7_isPoint se_X7_isPoint (r_isPoint e hn hp) rfl rfl (by decide) rfl (Nat.le_of_ble_eq_true rfl) (Nat.zero_le _) (Nat.zero_le _) rfl ?_
    refine fc_if_ne (tgt := 27) C dX7_way_17 (by decide) (fc_ind_R _) (fun c17 => ?_) (fun c17 => ?_)
    · have c17 := fc_ind_ne c17
      refine fc_aload_n C dX7_way_27 rfl rfl ?_
      refine fc_iload_n C dX7_way_28 rfl rfl ?_
      refine fh_callV (y := mX7_isLike) C dX7_way_29 ml_X7_285 mi_X7_isLike im_X7_isLike se_X7_isLike (r_isLike e hv hs3) rfl rfl (by decide) rfl (Nat.le_of_ble_eq_true rfl) (Nat.zero_le _) (Nat.zero_le _) rfl ?_
      refine fc_if_ne (tgt := 44) C dX7_way_32 (by decide) (fc_ind_R _) (fun c32 => ?_) (fun c32 => ?_)
      · have c32 := fc_ind_ne c32
        have hx : x_kw v s p = 0 := by unfold x_kw; rw [if_pos ⟨hs3, c17⟩, if_pos (fc_ind_t c32)]
        refine fc_aload_n C dX7_way_44 rfl rfl ?_
        refine fc_iload_n C dX7_way_45 rfl rfl ?_
        refine fh_callVE (y := mX7_isEqual) C dX7_way_46 ml_X7_288 mi_X7_isEqual im_X7_isEqual se_X7_isEqual (r_isEqual e hv c32.1 hs3) rfl rfl (by decide) rfl (Nat.le_of_ble_eq_true rfl) (Nat.zero_le _) (Nat.zero_le _) rfl ?_
        rintro r A1 F1 ⟨rfl, rfl, frA⟩
        refine fc_eq (st' := [vI (fc_ind (s_eq v s))]) rfl rfl ?_
        refine fc_if_eq (tgt := 61) C dX7_way_49 (by decide) (fc_ind_R _) (fun c49 => ?_) (fun c49 => ?_)
        · refine fc_iconst C dX7_way_61 ?_
          exact fh_iretE C T dX7_way_62 (Or.inl rfl) (m_an.red RC (fun j j1 j2 j3 j4 _ _ _ => frA j j1 j2 j3 j4) hx (by unfold a_way; rw [c49]; rfl))
        · have c49 := fc_ind_ne c49
          refine fc_aload_n C dX7_way_52 rfl rfl ?_
          refine fc_iload_n C dX7_way_53 rfl rfl ?_
          refine fc_iload_n C dX7_way_54 rfl rfl ?_
          refine fh_callVE (y := mX7_wayNow) C dX7_way_55 ml_X7_292 mi_X7_wayNow im_X7_wayNow se_X7_wayNow (r_wayNow ((frA 144 (by omega) (by omega) (by omega) (by omega)).trans e) hv c32.1 hs3 c17) rfl rfl (by decide) rfl (Nat.le_of_ble_eq_true rfl) (Nat.zero_le _) (Nat.zero_le _) rfl ?_
          rintro r A2 F2 ⟨rfl, rfl, frB⟩
          refine fc_eq (st' := [vI ((d_sv (v_L v) (v 0) 0 (v_d v s) p).tdiv (d_T (v_L v) (v 0) 0) + 100000)]) rfl rfl ?_
          refine fc_goto (tgt := 62) C dX7_way_58 (by decide) ?_
          exact fh_iretE C T dX7_way_62 (Or.inl rfl) (m_an.red RC (fun j j1 j2 j3 j4 _ _ j7 => by rw [frB j j7]; exact frA j j1 j2 j3 j4) hx (by unfold a_way; rw [if_pos (fc_ind_t c49)]))
      · have c32 := fc_ind_0 c32
        refine fc_aload_n C dX7_way_35 rfl rfl ?_
        refine fc_bipush C dX7_way_36 (by decide) ?_
        refine fh_callV (y := mX7_refuses) C dX7_way_38 ml_X7_80 mi_X7_refuses im_X7_refuses se_X7_refuses (r_refuses (Or.inr (Or.inl rfl))) rfl rfl (by decide) rfl (Nat.le_of_ble_eq_true rfl) (Nat.zero_le _) (Nat.zero_le _) rfl ?_
        refine fc_goto (tgt := 62) C dX7_way_41 (by decide) ?_
        exact fh_iretE C T dX7_way_62 (Or.inl rfl) (m_an.no RC (by unfold x_kw; rw [if_pos ⟨hs3, c17⟩, if_neg (by rw [fc_ind_f c32]; decide)]) (Or.inr (Or.inl rfl)))
    · have c17 := fc_ind_0 c17
      exact no (fun h => c17 h.2)
end REF15
