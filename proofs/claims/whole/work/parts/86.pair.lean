/-! the class and the reference, call by call -/
def j_I (t : Int) (A : Nat → Int → Int) (F : Nat → Nat → Int) : Prop := ∃ (v : Int → Int) (ps : Int → Int → Int) (st : Int) (rf tx : Int → Int) (tl : Int), k_RC A F v ps st rf tx tl ∧ m_RC A F v ps st rf tx tl ∧ ∀ i : Int, 0 ≤ i → i < 3 → 0 ≤ rf i ∧ rf i ≤ t
def j_P (mk : Int → fc_AV) (yX yM : fc_Y) (as : List fc_AV) : Prop := ∀ (t : Int) (A : Nat → Int → Int) (F : Nat → Nat → Int), 0 ≤ t → t ≤ 100000 → j_I t A F → ∃ (dX dM : Nat) (PX : Option fc_AV → (Nat → Int → Int) → (Nat → Nat → Int) → Prop), dX < 1000 ∧ dM < 1000 ∧ fh_E yX dX (vR 0 :: as) A F PX ∧ ∀ (r : Option fc_AV) (A1 : Nat → Int → Int) (F1 : Nat → Nat → Int), PX r A1 F1 → ∃ z : Int, r = some (mk z) ∧ ∃ PM : Option fc_AV → (Nat → Int → Int) → (Nat → Nat → Int) → Prop, fh_E yM dM (vR 143 :: as) A1 F1 PM ∧ ∀ (r' : Option fc_AV) (A2 : Nat → Int → Int) (F2 : Nat → Nat → Int), PM r' A2 F2 → r' = some (mk z) ∧ j_I (t + 1) A2 F2
section PAIR
variable {A A1 A2 : Nat → Int → Int} {F F1 F2 : Nat → Nat → Int} {v w : Int → Int} {ps : Int → Int → Int} {st : Int} {rf tx : Int → Int} {tl : Int}
theorem m_RC.fr0 (h : m_RC A F v ps st rf tx tl) (fr : k_fr 0 142 A F A1 F1) : m_RC A1 F1 v ps st rf tx tl :=
  ⟨by rw [(fr 144 (by omega)).1]; exact h.1, h.2.1, h.2.2.1, h.2.2.2.1, h.2.2.2.2.1, h.2.2.2.2.2.fr (fr 145 (by omega)).1 (fr 147 (by omega)).1 (fr 157 (by omega)).1 (by rw [(fr 143 (by omega)).2]) (by rw [(fr 143 (by omega)).2])⟩
theorem k_RC.fr1 (h : k_RC A F v ps st rf tx tl) (fr : k_fr 143 158 A F A1 F1) : k_RC A1 F1 v ps st rf tx tl :=
  ⟨h.1.of_fr (by rw [(fr 3 (by omega)).2]) (fun i i0 i1 _ => (fr i (by omega)).1), h.2.1, h.2.2.1.fr (fun i i0 i1 => fr i (by omega)), h.2.2.2.fr (fr 1 (by omega)).1 (fr 139 (by omega)).2 (fr 140 (by omega)).1⟩
theorem v_eq.sy (h : v_eq v w) : v_eq w v := fun k k0 k1 => (h k k0 k1).symm
theorem j_fin0 {t : Int} (h1 : k_RC A1 F1 w ps st rf tx tl) (h2 : v_eq (A2 144) w) (h3 : m_RX A2 F2 ps st rf tx tl) (fr : k_fr 143 158 A1 F1 A2 F2) (hrf : ∀ i : Int, 0 ≤ i → i < 3 → 0 ≤ rf i ∧ rf i ≤ t) : j_I t A2 F2 := by
  have k := h1.fr1 fr
  obtain ⟨k1, k2, k3, k4⟩ := id k
  obtain ⟨wz, -, -, -, -, s0, s1, -⟩ := id k3
  obtain ⟨-, -, t0, t1, t2⟩ := id k4
  have hv := v_ok.cg h2 k2
  exact ⟨A2 144, ps, st, rf, tx, tl, ⟨k1.congr h2.sy, hv, k3, k4⟩, ⟨rfl, hv, ⟨s0, s1⟩, ⟨t0, t1⟩, fun i i0 i1 => (t2 i i0 i1).2, h3⟩, hrf⟩
theorem j_fin {t a a' : Int} {r r' : Option fc_AV} (h1 : k_ans A F a w ps st rf tx tl r A1 F1) (h2 : m_ans A1 F1 a' w ps st rf tx tl r' A2 F2) (hrf : ∀ i : Int, 0 ≤ i → i < 3 → 0 ≤ rf i ∧ rf i ≤ t) : j_I t A2 F2 := j_fin0 h1.2.1 h2.2.1 h2.2.2.1 h2.2.2.2 hrf
theorem j_rf {t x : Int} (hrf : ∀ i : Int, 0 ≤ i → i < 3 → 0 ≤ rf i ∧ rf i ≤ t) : ∀ i : Int, 0 ≤ i → i < 3 → 0 ≤ (if x = 0 then rf else h_rf rf x) i ∧ (if x = 0 then rf else h_rf rf x) i ≤ t + 1 := by
  intro i i0 i1
  have := hrf i i0 i1
  by_cases c : x = 0
  · rw [if_pos c]; omega
  · rw [if_neg c]
    unfold h_rf
    split <;> omega
theorem j_rf1 {t : Int} (hrf : ∀ i : Int, 0 ≤ i → i < 3 → 0 ≤ rf i ∧ rf i ≤ t) : ∀ i : Int, 0 ≤ i → i < 3 → 0 ≤ rf i ∧ rf i ≤ t + 1 := fun i i0 i1 => by have := hrf i i0 i1; omega
end PAIR
section PAIR2
variable {yX yM : fc_Y} {as : List fc_AV} {dX dM : Nat}
/-- both change the state, or refuse -/
theorem j_st (x ans : (Int → Int) → Int) (w : (Int → Int) → Int → Int) (hdX : dX < 1000) (hdM : dM < 1000)
    (hX : ∀ (A : Nat → Int → Int) (F : Nat → Nat → Int) (v : Int → Int) (ps : Int → Int → Int) (st : Int) (rf tx : Int → Int) (tl : Int), k_RC A F v ps st rf tx tl → fh_E yX dX (vR 0 :: as) A F (k_st A F (x v) (ans v) v ps st rf tx tl (w v)))
    (hM : ∀ (A : Nat → Int → Int) (F : Nat → Nat → Int) (v : Int → Int) (ps : Int → Int → Int) (st : Int) (rf tx : Int → Int) (tl : Int), m_RC A F v ps st rf tx tl → fh_E yM dM (vR 143 :: as) A F (m_st A F (x v) (ans v) v ps st rf tx tl (w v))) : j_P vI yX yM as := by
  rintro t A F t0 t1 ⟨v, ps, st, rf, tx, tl, RC, RM, hrf⟩
  refine ⟨dX, dM, _, hdX, hdM, hX A F v ps st rf tx tl RC, fun r A1 F1 h1 => ⟨_, h1.1, _, hM A1 F1 v ps st rf tx tl (RM.fr0 h1.2.2), fun r' A2 F2 h2 => ⟨h2.1, j_fin h1 h2 (j_rf hrf)⟩⟩⟩
/-- both only look -/
theorem j_an (x : (Int → Int) → Int) (ans : (Int → Int) → Int → (Int → Int) → Int → Int) (hdX : dX < 1000) (hdM : dM < 1000)
    (hX : ∀ (A : Nat → Int → Int) (F : Nat → Nat → Int) (v : Int → Int) (ps : Int → Int → Int) (st : Int) (rf tx : Int → Int) (tl : Int), k_RC A F v ps st rf tx tl → fh_E yX dX (vR 0 :: as) A F (k_an A F (x v) (ans v st rf tl) v ps st rf tx tl))
    (hM : ∀ (A : Nat → Int → Int) (F : Nat → Nat → Int) (v : Int → Int) (ps : Int → Int → Int) (st : Int) (rf tx : Int → Int) (tl : Int), m_RC A F v ps st rf tx tl → fh_E yM dM (vR 143 :: as) A F (m_an A F (x v) (ans v st rf tl) v ps st rf tx tl)) : j_P vI yX yM as := by
  rintro t A F t0 t1 ⟨v, ps, st, rf, tx, tl, RC, RM, hrf⟩
  refine ⟨dX, dM, _, hdX, hdM, hX A F v ps st rf tx tl RC, fun r A1 F1 h1 => ⟨_, h1.1, _, hM A1 F1 v ps st rf tx tl (RM.fr0 h1.2.2), fun r' A2 F2 h2 => ⟨h2.1, j_fin h1 h2 (j_rf hrf)⟩⟩⟩
/-- both only look, the answer known by a property -/
theorem j_an1 (x : (Int → Int) → Int) (pX pM : (Int → Int) → Int → Prop) (hu : ∀ (v : Int → Int) (a b : Int), v_ok v → x v = 0 → pX v a → pM v b → a = b) (hdX : dX < 1000) (hdM : dM < 1000)
    (hX : ∀ (A : Nat → Int → Int) (F : Nat → Nat → Int) (v : Int → Int) (ps : Int → Int → Int) (st : Int) (rf tx : Int → Int) (tl : Int), k_RC A F v ps st rf tx tl → fh_E yX dX (vR 0 :: as) A F (fun r A' F' => ∃ a : Int, (x v = 0 → pX v a) ∧ k_an A F (x v) a v ps st rf tx tl r A' F'))
    (hM : ∀ (A : Nat → Int → Int) (F : Nat → Nat → Int) (v : Int → Int) (ps : Int → Int → Int) (st : Int) (rf tx : Int → Int) (tl : Int), m_RC A F v ps st rf tx tl → fh_E yM dM (vR 143 :: as) A F (fun r A' F' => ∃ a : Int, (x v = 0 → pM v a) ∧ m_an A F (x v) a v ps st rf tx tl r A' F')) : j_P vI yX yM as := by
  rintro t A F t0 t1 ⟨v, ps, st, rf, tx, tl, RC, RM, hrf⟩
  refine ⟨dX, dM, _, hdX, hdM, hX A F v ps st rf tx tl RC, ?_⟩
  rintro r A1 F1 ⟨a, ha, h1⟩
  refine ⟨_, h1.1, _, hM A1 F1 v ps st rf tx tl (RM.fr0 h1.2.2), ?_⟩
  rintro r' A2 F2 ⟨b, hb, h2⟩
  refine ⟨?_, j_fin h1 h2 (j_rf hrf)⟩
  rw [h2.1]
  by_cases c : x v = 0
  · rw [if_pos c, if_pos c, hu v a b RC.2.1 c (ha c) (hb c)]
  · rw [if_neg c, if_neg c]
end PAIR2
section PAIR3
variable {a b c : Int} (ha : fc_R a) (hb : fc_R b) (hc : fc_R c)
theorem p_points (ha : fc_R a) : j_P vI mX6_points mX7_points [vI a] := j_st (fun v => x_pts v a) (fun v => v 0) (fun v => p_pts v a) (by decide) (by decide) (fun _ _ _ _ _ _ _ _ h => o_points h ha) (fun _ _ _ _ _ _ _ _ h => q_points h ha)
theorem p_lines (ha : fc_R a) (hb : fc_R b) (hc : fc_R c) : j_P vI mX6_lines mX7_lines [vI a, vI b, vI c] := j_st (fun v => x_ln v a b c) (fun v => v_L v a b) (fun v => p_ln v a b c) (by decide) (by decide) (fun _ _ _ _ _ _ _ _ h => o_lines h ha hb hc) (fun _ _ _ _ _ _ _ _ h => q_lines h ha hb hc)
theorem p_draws (ha : fc_R a) : j_P vI mX6_draws mX7_draws [vI a] := j_st (fun _ => x_dr a) (fun v => s_lc (v_L (p_dr v a)) (v 0)) (fun v => p_dr v a) (by decide) (by decide) (fun _ _ _ _ _ _ _ _ h => o_draws h ha) (fun _ _ _ _ _ _ _ _ h => q_draws h ha)
theorem p_net (ha : fc_R a) (hb : fc_R b) : j_P vI mX6_net mX7_net [vI a, vI b] := j_an (fun v => x_net v a b) (fun v _ _ _ => a_net v a b) (by decide) (by decide) (fun _ _ _ _ _ _ _ _ h => o_net h ha hb) (fun _ _ _ _ _ _ _ _ h => q_net h ha hb)
theorem p_joined : j_P vI mX6_joined mX7_joined [] := j_an (fun _ => 0) (fun v _ _ _ => fc_ind (s_J (v_L v) (v 0))) (by decide) (by decide) (fun _ _ _ _ _ _ _ _ h => o_joined h) (fun _ _ _ _ _ _ _ _ h => q_joined h)
theorem p_sets (ha : fc_R a) (hb : fc_R b) : j_P vI mX6_sets mX7_sets [vI a, vI b] := j_st (fun v => x_set v a b) (fun v => v (26 + a)) (fun v => p_set v (26 + a) b) (by decide) (by decide) (fun _ _ _ _ _ _ _ _ h => o_sets h ha hb) (fun _ _ _ _ _ _ _ _ h => q_sets h ha hb)
theorem p_adds (ha : fc_R a) (hb : fc_R b) : j_P vI mX6_adds mX7_adds [vI a, vI b] := j_st (fun v => x_add v a b) (fun v => v (26 + a) + b) (fun v => p_set v (26 + a) (v (26 + a) + b)) (by decide) (by decide) (fun _ _ _ _ _ _ _ _ h => o_adds h ha hb) (fun _ _ _ _ _ _ _ _ h => q_adds h ha hb)
theorem p_fires (ha : fc_R a) : j_P vI mX6_fires mX7_fires [vI a] := j_st (fun v => x_one v a 1) (fun _ => 1) (fun v => p_fire v (2 ^ a.toNat) 1) (by decide) (by decide) (fun _ _ _ _ _ _ _ _ h => o_fires h ha) (fun _ _ _ _ _ _ _ _ h => q_fires h ha)
theorem p_borrows (ha : fc_R a) : j_P vI mX6_borrows mX7_borrows [vI a] := j_st (fun v => x_one v a (-1)) (fun _ => 1) (fun v => p_fire v (2 ^ a.toNat) (-1)) (by decide) (by decide) (fun _ _ _ _ _ _ _ _ h => o_borrows h ha) (fun _ _ _ _ _ _ _ _ h => q_borrows h ha)
theorem p_together (ha : fc_R a) : j_P vI mX6_together mX7_together [vI a] := j_st (fun v => x_fire v a 1) (fun v => s_unl (v_c (p_fire v a 1)) (v_c v) (v 0).toNat) (fun v => p_fire v a 1) (by decide) (by decide) (fun _ _ _ _ _ _ _ _ h => o_together h ha) (fun _ _ _ _ _ _ _ _ h => q_together h ha)
theorem p_settles : j_P vI mX6_settles mX7_settles [] := j_st x_stl (fun v => fs_sum (s_r v).2 (v 0).toNat) p_stl (by decide) (by decide) (fun _ _ _ _ _ _ _ _ h => o_settles h) (fun _ _ _ _ _ _ _ _ h => q_settles h)
theorem p_script (ha : fc_R a) : j_P vI mX6_script mX7_script [vI a] := j_an (fun v => x_pt v a) (fun v _ _ _ => v (31 + a)) (by decide) (by decide) (fun _ _ _ _ _ _ _ _ h => o_script h ha) (fun _ _ _ _ _ _ _ _ h => q_script h ha)
theorem p_of (ha : fc_R a) (hb : fc_R b) : j_P vI mX6_of mX7_of [vI a, vI b] := j_an (fun v => x_of v a b) (fun v _ _ _ => a_of v a b) (by decide) (by decide) (fun _ _ _ _ _ _ _ _ h => o_of h ha hb) (fun _ _ _ _ _ _ _ _ h => q_of h ha hb)
theorem p_stable : j_P vI mX6_stable mX7_stable [] := j_an (fun _ => 0) (fun v _ _ _ => fc_ind (s_stable (v_L v) (v 0) (v_c v))) (by decide) (by decide) (fun _ _ _ _ _ _ _ _ h => o_stable h) (fun _ _ _ _ _ _ _ _ h => q_stable h)
theorem p_burns (ha : fc_R a) : j_P vI mX6_burns mX7_burns [vI a] := j_an (fun v => x_burn v a) (fun v _ _ _ => a_burn v a) (by decide) (by decide) (fun _ _ _ _ _ _ _ _ h => o_burns h ha) (fun _ _ _ _ _ _ _ _ h => q_burns h ha)
theorem p_trees : j_P vI mX6_trees mX7_trees [] := j_an (fun _ => 0) (fun v _ _ _ => d_T (v_L v) (v 0) 0) (by decide) (by decide) (fun _ _ _ _ _ _ _ _ h => o_trees h) (fun _ _ _ _ _ _ _ _ h => q_trees h)
theorem p_parts (ha : fc_R a) : j_P vI mX6_parts mX7_parts [vI a] := j_an1 (fun v => x_prt v a) (fun v z => ∃ G : Nat → Nat, d_G (v_L v) (v 0) G (v 0 - 1).toNat ∧ pt_a (pt_p G) (v 0 - 1).toNat a z) (fun v z => ∀ G : Nat → Nat, d_G (v_L v) (v 0) G (v 0 - 1).toNat → pt_a (pt_p G) (v 0 - 1).toNat a z) (fun v z z' _ _ h h' => by
  obtain ⟨G, h1, h2⟩ := h
  exact pt_a_uniq (fun _ _ _ => rfl) h2 (h' G h1)) (by decide) (by decide) (fun _ _ _ _ _ _ _ _ h => (o_parts h ha).mono (fun r A' F' hh => by
  obtain ⟨G, ans, h1, h2⟩ := hh
  exact ⟨ans, fun q => ⟨G, h1 q⟩, h2⟩)) (fun _ _ _ _ _ _ _ _ h => q_parts h ha)
theorem p_identity (ha : fc_R a) : j_P vI mX6_identity mX7_identity [vI a] := j_an (fun v => x_id v a) (fun v _ _ _ => a_rc v (fun _ => 0) a) (by decide) (by decide) (fun _ _ _ _ _ _ _ _ h => o_identity h ha) (fun _ _ _ _ _ _ _ _ h => q_identity h ha)
theorem p_recurrent (ha : fc_R a) : j_P vI mX6_recurrent mX7_recurrent [vI a] := j_an (fun v => x_rc v a) (fun v _ _ _ => a_rc v (v_c v) a) (by decide) (by decide) (fun _ _ _ _ _ _ _ _ h => o_recurrent h ha) (fun _ _ _ _ _ _ _ _ h => q_recurrent h ha)
theorem p_order : j_P vI mX6_order mX7_order [] := j_an1 x_ord (fun v z => ∃ g : Nat, (0 < g ∧ ∀ d : Nat, d ∣ g ↔ (d : Int) ∣ d_T (v_L v) (v 0) 0 ∧ ∀ p : Int, 0 ≤ p → p < v 0 → (d : Int) ∣ d_sv (v_L v) (v 0) 0 (v_c v) p) ∧ z = (d_T (v_L v) (v 0) 0).tdiv g) (fun v z => z_least (v_L v) (v 0) (v_c v) z) (fun v z z' hv hx h h' => by
  obtain ⟨g, ⟨h1, h2⟩, h3⟩ := h
  have hJ : s_J (v_L v) (v 0) := by
    apply Classical.byContradiction
    intro hc
    unfold x_ord at hx
    rw [if_neg (by unfold fc_ind; rw [if_neg (fun q => hc q.1)]; decide)] at hx
    exact absurd hx (by decide)
  rw [h3, z_least_eq hv.g hv.n hJ h' h1 h2]) (by decide) (by decide) (fun _ _ _ _ _ _ _ _ h => (o_order h).mono (fun r A' F' hh => by
  obtain ⟨g, h1, h2⟩ := hh
  exact ⟨_, fun q => ⟨g, h1 q, rfl⟩, h2⟩)) (fun _ _ _ _ _ _ _ _ h => q_order h)
theorem p_heaps (ha : fc_R a) : j_P vI mX6_heaps mX7_heaps [vI a] := j_an (fun v => x_hps v a) (fun v _ _ _ => a_hps v a) (by decide) (by decide) (fun _ _ _ _ _ _ _ _ h => o_heaps h ha) (fun _ _ _ _ _ _ _ _ h => q_heaps h ha)
theorem p_rank (ha : fc_R a) : j_P vI mX6_rank mX7_rank [vI a] := j_an1 (fun v => x_rk v a) (fun v z => a_rk v a z) (fun v z => a_rk v a z) (fun v z z' hv hx h h' => by
  have hr : 0 ≤ a ∧ a ≤ 3 := by
    apply Classical.byContradiction
    intro hc
    have hx : x_rk v a = 0 := hx
    unfold x_rk at hx
    rw [if_neg hc] at hx
    exact absurd hx (by decide)
  by_cases c0 : a = 0
  · rw [h.1 c0, h'.1 c0]
  · by_cases c1 : a = 1
    · rw [h.2.1 c1, h'.2.1 c1]
    · obtain ⟨r, h1, h2⟩ := h.2.2 (by omega)
      obtain ⟨r', h3, h4⟩ := h'.2.2 (by omega)
      rw [h2, h4, z_rk_uniq hv.n.1 h1 h3]) (by decide) (by decide) (fun _ _ _ _ _ _ _ _ h => o_rank h ha) (fun _ _ _ _ _ _ _ _ h => q_rank h ha)
theorem p_reduced (ha : fc_R a) (hb : fc_R b) : j_P vI mX6_reduced mX7_reduced [vI a, vI b] := j_an (fun v => x_red v a b) (fun v _ _ _ => r_rd (v_L v) (v 0) a (v_c v) b + 10000) (by decide) (by decide) (fun _ _ _ _ _ _ _ _ h => o_reduced h ha hb) (fun _ _ _ _ _ _ _ _ h => q_reduced h ha hb)
theorem p_won : j_P vI mX6_won mX7_won [] := j_an x_J (fun v _ _ _ => fc_ind (0 ≤ r_rd (v_L v) (v 0) 0 (v_c v) 0)) (by decide) (by decide) (fun _ _ _ _ _ _ _ _ h => o_won h) (fun _ _ _ _ _ _ _ _ h => q_won h)
theorem p_keeps (ha : fc_R a) : j_P vI mX6_keeps mX7_keeps [vI a] := j_st (fun _ => x_kp a) (fun v => fs_sum (v_c v) (v 0).toNat + 10000) (fun v => p_kp v a) (by decide) (by decide) (fun _ _ _ _ _ _ _ _ h => o_keeps h ha) (fun _ _ _ _ _ _ _ _ h => q_keeps h ha)
theorem p_equal (ha : fc_R a) : j_P vI mX6_equal mX7_equal [vI a] := j_an (fun v => x_ke v a) (fun v _ _ _ => fc_ind (s_eq v a)) (by decide) (by decide) (fun _ _ _ _ _ _ _ _ h => o_equal h ha) (fun _ _ _ _ _ _ _ _ h => q_equal h ha)
theorem p_way (ha : fc_R a) (hb : fc_R b) : j_P vI mX6_way mX7_way [vI a, vI b] := j_an (fun v => x_kw v a b) (fun v _ _ _ => a_way v a b) (by decide) (by decide) (fun _ _ _ _ _ _ _ _ h => o_way h ha hb) (fun _ _ _ _ _ _ _ _ h => q_way h ha hb)
theorem p_told (ha : fc_R a) : j_P vI mX6_told mX7_told [vI a] := j_an (fun _ => x_td a) (fun v st rf tl => a_td v st rf tl a) (by decide) (by decide) (fun _ _ _ _ _ _ _ _ h => o_told h ha) (fun _ _ _ _ _ _ _ _ h => q_told h ha)
theorem p_type (ha : fc_R a) : j_P vI mX6_type mX7_type [vI a] := by
  rintro t A F t0 t1 ⟨v, ps, st, rf, tx, tl, RC, RM, hrf⟩
  refine ⟨4, 1, _, by decide, by decide, o_type RC ha, fun r A1 F1 h1 => ⟨_, h1.1, _, q_type (RM.fr0 h1.2.2) ha, fun r' A2 F2 h2 => ⟨h2.1, j_fin h1 h2 (j_rf hrf)⟩⟩⟩
theorem p_clear : j_P vI mX6_clear mX7_clear [] := by
  rintro t A F t0 t1 ⟨v, ps, st, rf, tx, tl, RC, RM, hrf⟩
  refine ⟨4, 0, _, by decide, by decide, o_clear RC, fun r A1 F1 h1 => ⟨_, h1.1, _, q_clear (RM.fr0 h1.2.2), fun r' A2 F2 h2 => ⟨h2.1, j_fin h1 h2 (j_rf1 hrf)⟩⟩⟩
theorem p_back : j_P vI mX6_back mX7_back [] := by
  rintro t A F t0 t1 ⟨v, ps, st, rf, tx, tl, RC, RM, hrf⟩
  refine ⟨4, 1, _, by decide, by decide, o_back RC, fun r A1 F1 h1 => ⟨_, h1.1, _, q_back (RM.fr0 h1.2.2), fun r' A2 F2 h2 => ⟨h2.1, j_fin h1 h2 (j_rf hrf)⟩⟩⟩
theorem p_reads : j_P vI mX6_reads mX7_reads [] := by
  rintro t A F t0 t1 ⟨v, ps, st, rf, tx, tl, RC, RM, hrf⟩
  refine ⟨7, 7, _, by decide, by decide, o_reads RC, ?_⟩
  rintro r A1 F1 ⟨K, flt, e1, e2, e3⟩
  by_cases c : flt = -1
  · obtain ⟨s, e4, e5, e6⟩ := e3 c
    by_cases cs : s = -1
    · have h1 := e6 cs
      refine ⟨_, h1.1, _, q_reads (RM.fr0 h1.2.2), ?_⟩
      rintro r' A2 F2 ⟨K', flt', g1, g2, g3⟩
      obtain ⟨rfl, rfl⟩ := t_end_uniq e1 g1
      obtain ⟨s', g4, g5, g6⟩ := g3 c
      have := e_end_uniq e4 g4
      subst this
      have h2 := g6 cs
      exact ⟨h2.1, j_fin h1 h2 (j_rf1 hrf)⟩
    · have h1 := e5 cs
      refine ⟨_, h1.1, _, q_reads (RM.fr0 h1.2.2), ?_⟩
      rintro r' A2 F2 ⟨K', flt', g1, g2, g3⟩
      obtain ⟨rfl, rfl⟩ := t_end_uniq e1 g1
      obtain ⟨s', g4, g5, g6⟩ := g3 c
      have := e_end_uniq e4 g4
      subst this
      have h2 := g5 cs
      exact ⟨h2.1, j_fin h1 h2 (j_rf1 hrf)⟩
  · have h1 := e2 c
    refine ⟨_, h1.1, _, q_reads (RM.fr0 h1.2.2), ?_⟩
    rintro r' A2 F2 ⟨K', flt', g1, g2, g3⟩
    obtain ⟨rfl, rfl⟩ := t_end_uniq e1 g1
    have h2 := g2 c
    exact ⟨h2.1, j_fin h1 h2 (j_rf1 hrf)⟩
theorem p_digest : j_P vL mX6_digest mX7_digest [] := by
  rintro t A F t0 t1 ⟨v, ps, st, rf, tx, tl, RC, RM, hrf⟩
  have hR : ∀ i : Int, 0 ≤ i → i < 3 → fc_R (rf i) := fun i i0 i1 => by have := hrf i i0 i1; exact ⟨by omega, by omega⟩
  refine ⟨18, 10, _, by decide, by decide, o_digest RC hR, fun r A1 F1 h1 => ⟨_, h1.1, _, q_digest (RM.fr0 h1.2.2) hR, fun r' A2 F2 h2 => ⟨h2.1, j_fin0 h1.2.1 h2.2.1 h2.2.2.1 h2.2.2.2 (j_rf1 hrf)⟩⟩⟩
end PAIR3
