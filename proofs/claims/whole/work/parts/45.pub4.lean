/-! publics: trees, identity, recurrent, order, reduced, won -/
section UNQ
variable {L : Int → Int → Int} {n q : Int}
/-- the chips don't hang on the script -/
theorem s_sw_1 {x f g : Int → Int} : ∀ k : Nat, (s_sw L n q x f k).1 = (s_sw L n q x g k).1 ∧ (s_sw L n q x f k).2.2 = (s_sw L n q x g k).2.2
  | 0 => ⟨rfl, rfl⟩
  | k + 1 => by
    have ih := s_sw_1 (x := x) (f := f) (g := g) k
    by_cases hc : s_can L n q (s_sw L n q x f k).1 k
    · have hc' : s_can L n q (s_sw L n q x g k).1 k := by rw [← ih.1]; exact hc
      have e := s_sw_t (L := L) (n := n) (q := q) (x := x) (f := f) (k := (k : Int)) (by omega) hc
      have e' := s_sw_t (L := L) (n := n) (q := q) (x := x) (f := g) (k := (k : Int)) (by omega) hc'
      rw [show (((k : Nat) : Int) + 1).toNat = k + 1 by omega, show ((k : Nat) : Int).toNat = k by omega] at e e'
      rw [e, e', ih.1]
      exact ⟨rfl, rfl⟩
    · have hc' : ¬ s_can L n q (s_sw L n q x g k).1 k := by rw [← ih.1]; exact hc
      have e := s_sw_f (L := L) (n := n) (q := q) (x := x) (f := f) (k := (k : Int)) (by omega) hc
      have e' := s_sw_f (L := L) (n := n) (q := q) (x := x) (f := g) (k := (k : Int)) (by omega) hc'
      rw [show (((k : Nat) : Int) + 1).toNat = k + 1 by omega, show ((k : Nat) : Int).toNat = k by omega] at e e'
      rw [e, e']
      exact ih
theorem s_it_1 {x f g : Int → Int} : ∀ k : Nat, (s_it L n q x f k).1 = (s_it L n q x g k).1
  | 0 => rfl
  | k + 1 => by
    have ih := s_it_1 (x := x) (f := f) (g := g) k
    show (s_sw L n q (s_it L n q x f k).1 (s_it L n q x f k).2 n.toNat).1 = (s_sw L n q (s_it L n q x g k).1 (s_it L n q x g k).2 n.toNat).1
    rw [ih]
    exact (s_sw_1 n.toNat).1
theorem s_fin.uniq1 (hn : 0 ≤ n) {z g x f z' g' x' f' : Int → Int} (h : s_fin L n q z g x f) (h' : s_fin L n q z' g' x' f') (hz : s_eqn n z z') : s_eqn n x x' := by
  obtain ⟨K, -, m1, s1, e1, -⟩ := h
  obtain ⟨K', -, m2, s2, e2, -⟩ := h'
  have cg : ∀ k : Nat, (s_sw L n q (s_it L n q z g k).1 (s_it L n q z g k).2 n.toNat).2.2 = (s_sw L n q (s_it L n q z' g' k).1 (s_it L n q z' g' k).2 n.toNat).2.2 := fun k => by
    have a := (s_sw_1 (L := L) (n := n) (q := q) (x := (s_it L n q z g k).1) (f := (s_it L n q z g k).2) (g := (s_it L n q z' g' k).2) n.toNat).2
    have b := (s_sw_congr (L := L) (q := q) (x := (s_it L n q z g k).1) (x' := (s_it L n q z' g' k).1) (f := (s_it L n q z' g' k).2) (f' := (s_it L n q z' g' k).2) (by
      have c := (s_it_congr (L := L) (q := q) hn hz (fun _ _ _ => rfl : s_eqn n g' g') k).1
      rw [← s_it_1 (f := g) k] at c
      exact c) (fun _ _ _ => rfl) n.toNat (by omega)).2.2
    exact a.trans b
  have eK : K = K' := by
    by_cases a : K < K'
    · have := m2 K a
      rw [← cg, s1] at this
      omega
    · by_cases b : K' < K
      · have := m1 K' b
        rw [cg, s2] at this
        omega
      · omega
  subst eK
  have c := (s_it_congr (L := L) (q := q) hn hz (fun _ _ _ => rfl : s_eqn n g' g') (K + 1)).1
  rw [← s_it_1 (f := g) (K + 1), ← e1, ← e2] at c
  exact c
theorem r_mk.uniq (hn : 0 ≤ n) {x w w' : Int → Int} (h : r_mk L n q x w) (h' : r_mk L n q x w') : s_eqn n w w' := by
  obtain ⟨y, z, g, f, ⟨g1, x1, f1, a1, a2⟩, h2, h3⟩ := h
  obtain ⟨y', z', g', f', ⟨g1', x1', f1', b1, b2⟩, h2', h3'⟩ := h'
  refine s_fin.uniq1 hn h3 h3' fun p p0 p1 => ?_
  have := s_fin.uniq1 hn a1 b1 (fun _ _ _ => rfl) p p0 p1
  rw [h2 p p0 p1, h2' p p0 p1, a2 p p0 p1, b2 p p0 p1, this]
/-- the RECURRENT heap that x becomes -/
noncomputable def r_w (L : Int → Int → Int) (n q : Int) (x : Int → Int) : Int → Int := Classical.epsilon (r_mk L n q x)
theorem r_w_eq (hn : 0 ≤ n) {x w : Int → Int} (h : r_mk L n q x w) : ∀ p : Int, 0 ≤ p → p < n → w p = r_w L n q x p := fun p p0 p1 => r_mk.uniq hn h (Classical.epsilon_spec (p := r_mk L n q x) ⟨w, h⟩) p p0 p1
theorem r_mk_cg {x y w : Int → Int} (h : ∀ p : Int, 0 ≤ p → p < n → x p = y p) : r_mk L n q x w ↔ r_mk L n q y w := ⟨fun H => H.congr h, fun H => H.congr (fun p p0 p1 => (h p p0 p1).symm)⟩
theorem r_w_cg {x y : Int → Int} (h : ∀ p : Int, 0 ≤ p → p < n → x p = y p) : r_w L n q x = r_w L n q y := by
  unfold r_w
  congr 1
  funext w
  exact propext (r_mk_cg h)
end UNQ
section PUB4
variable {A : Nat → Int → Int} {F : Nat → Nat → Int} {v : Int → Int} {ps : Int → Int → Int} {st : Int} {rf tx : Int → Int} {tl : Int}
theorem k_RC.gr {A' : Nat → Int → Int} {F' : Nat → Nat → Int} (h : k_RC A F v ps st rf tx tl) (fr : ∀ i : Nat, ¬ (17 ≤ i ∧ i ≤ 35) → ¬ (122 ≤ i ∧ i ≤ 138) → i ≠ 142 → A' i = A i ∧ F' i = F i) : k_RC A' F' v ps st rf tx tl ∧ k_fr 0 142 A F A' F' :=
  ⟨⟨h.1.of_fr (by rw [(fr 3 (by omega) (by omega) (by omega)).2]) (fun i i0 i1 _ => (fr i (by omega) (by omega) (by omega)).1), h.2.1, h.2.2.1.fr (fun i i0 i1 => fr i (by omega) (by omega) (by omega)), h.2.2.2.fr (fr 1 (by omega) (by omega) (by omega)).1 (fr 139 (by omega) (by omega) (by omega)).2 (fr 140 (by omega) (by omega) (by omega)).1⟩, fun i hi => fr i (by omega) (by omega) (by omega)⟩
theorem o_trees (RC : k_RC A F v ps st rf tx tl) : fh_E mX6_trees 7 [vR 0] A F (k_an A F 0 (d_T (v_L v) (v 0) 0) v ps st rf tx tl) := by
  obtain ⟨E, hv, H, R⟩ := id RC
  have hn := hv.n
  refine fh_E.of mi_X6_trees (Nat.le_of_ble_eq_true rfl) ?_
  intro X C T
  refine fc_aload_n C dX6_trees_0 rfl rfl ?_
  refine fh_getf C dX6_trees_1 fl_X6_29 rfl rfl ?_
  refine fc_aload_n C dX6_trees_4 rfl rfl ?_
  refine fh_getf C dX6_trees_5 fl_X6_24 rfl rfl ?_
  refine fc_iconst C dX6_trees_8 ?_
  refine fh_callVE (y := mX1_take) C dX6_trees_9 ml_X6_155 mi_X1_take im_X1_take se_X1_take (c_take (E.net hv) (q := 0)) rfl rfl (by decide) rfl (Nat.le_of_ble_eq_true rfl) (Nat.zero_le _) (Nat.zero_le _) rfl ?_
  rintro r A1 F1 ⟨rfl, eF1, M1, fr1⟩
  refine fc_eq (st' := []) rfl rfl ?_
  refine fc_aload_n C dX6_trees_12 rfl rfl ?_
  refine fh_getf C dX6_trees_13 fl_X6_29 rfl rfl ?_
  refine fh_callV (y := mX1_treeCount) C dX6_trees_16 ml_X6_161 mi_X1_treeCount im_X1_treeCount se_X1_treeCount (c_treeCount M1 hv.g hn ⟨by omega, by omega⟩) rfl rfl (by decide) rfl (Nat.le_of_ble_eq_true rfl) (Nat.zero_le _) (Nat.zero_le _) rfl ?_
  refine fc_l2i C dX6_trees_19 ?_
  have g := RC.gr (A' := A1) (F' := F1) (fun i a b c => ⟨fr1 i (by omega), by rw [eF1, ff_n (by omega), ff_n (by omega)]⟩)
  exact fh_iretE C T dX6_trees_20 (Or.inl rfl) (k_an.yes g.1 g.2 rfl rfl)
noncomputable def x_id (v : Int → Int) (p : Int) : Int := if 0 ≤ p ∧ p < v 0 then (if fc_ind (s_J (v_L v) (v 0)) = 1 then 0 else -3) else -2
noncomputable def a_rc (v x : Int → Int) (p : Int) : Int := if p = 0 then 0 else r_w (v_L v) (v 0) 0 x p
theorem o_identity (RC : k_RC A F v ps st rf tx tl) {p : Int} (hp : fc_R p) : fh_E mX6_identity 8 [vR 0, vI p] A F (k_an A F (x_id v p) (a_rc v (fun _ => 0) p) v ps st rf tx tl) := by
  obtain ⟨E, hv, H, R⟩ := id RC
  have hn := hv.n
  refine fh_E.of mi_X6_identity (Nat.le_of_ble_eq_true rfl) ?_
  intro X C T
  refine fc_aload_n C dX6_identity_0 rfl rfl ?_
  refine fh_getf C dX6_identity_1 fl_X6_24 rfl rfl ?_
  refine fc_iload_n C dX6_identity_4 rfl rfl ?_
  refine fh_callV (y := mX3_hasPoint) C dX6_identity_5 ml_X6_91 mi_X3_hasPoint im_X3_hasPoint se_X3_hasPoint (c_hasPoint (E.net hv) hp) rfl rfl (by decide) rfl (Nat.le_of_ble_eq_true rfl) (Nat.zero_le _) (Nat.zero_le _) rfl ?_
  refine fc_if_ne (tgt := 18) C dX6_identity_8 (by decide) (fc_ind_R _) (fun c8 => ?_) (fun c8 => ?_)
  · have c8 := fc_ind_ne c8
    refine fc_aload_n C dX6_identity_18 rfl rfl ?_
    refine fh_getf C dX6_identity_19 fl_X6_24 rfl rfl ?_
    refine fh_callV (y := mX3_isJoined) C dX6_identity_22 ml_X6_98 mi_X3_isJoined im_X3_isJoined se_X3_isJoined (c_isJoined (E.net hv) hv.g) rfl rfl (by decide) rfl (Nat.le_of_ble_eq_true rfl) (Nat.zero_le _) (Nat.zero_le _) rfl ?_
    refine fc_if_ne (tgt := 35) C dX6_identity_25 (by decide) (fc_ind_R _) (fun c25 => ?_) (fun c25 => ?_)
    · have c25 := fc_ind_ne c25
      have hx : x_id v p = 0 := by unfold x_id; rw [if_pos c8, if_pos (by unfold fc_ind; rw [if_pos c25])]
      refine fc_aload_n C dX6_identity_35 rfl rfl ?_
      refine fh_getf C dX6_identity_36 fl_X6_51 rfl rfl ?_
      refine fc_iconst C dX6_identity_39 ?_
      refine fh_callSv (y := mJ7_fill_53178) C dX6_identity_40 ml_X6_169 mi_J7_fill_53178 st_J7_fill_53178 (c_fill (N := 5) (fun _ _ => rfl) (by decide)) (by decide) rfl (Nat.le_of_ble_eq_true rfl) (Nat.zero_le _) (Nat.zero_le _) rfl ?_
      have frf : ∀ i : Nat, i ≠ 142 → fa_up A 142 (fc_cpy (fun _ => 0) (A 142) 5) i = A i := fun i hi => fa_n _ _ hi
      have e142 : ∀ o : Int, 0 ≤ o → o < 5 → fa_up A 142 (fc_cpy (fun _ => 0) (A 142) 5) 142 o = 0 := fun o o0 o1 => by rw [fa_s, fc_cpy_in o0 o1]
      have E0 : k_enc (fa_up A 142 (fc_cpy (fun _ => 0) (A 142) 5)) F 3 v := E.of_fr rfl (fun i i0 i1 _ => fa_n _ _ (by omega))
      refine fc_aload_n C dX6_identity_43 rfl rfl ?_
      refine fh_getf C dX6_identity_44 fl_X6_29 rfl rfl ?_
      refine fc_aload_n C dX6_identity_47 rfl rfl ?_
      refine fh_getf C dX6_identity_48 fl_X6_24 rfl rfl ?_
      refine fc_iconst C dX6_identity_51 ?_
      refine fh_callVE (y := mX1_takeWhole) C dX6_identity_52 ml_X6_175 mi_X1_takeWhole im_X1_takeWhole se_X1_takeWhole (c_takeWhole (E0.net hv) hv.g (q := 0) ⟨by omega, by omega⟩ c25) rfl rfl (by decide) rfl (Nat.le_of_ble_eq_true rfl) (Nat.zero_le _) (Nat.zero_le _) rfl ?_
      rintro r A1 F1 ⟨rfl, G1, fr1⟩
      refine fc_eq (st' := []) rfl rfl ?_
      have h142 : ∀ o : Int, 0 ≤ o → o < v 0 → A1 142 o = 0 := fun o o0 o1 => by rw [(fr1 142 (by omega)).1]; exact e142 o o0 (by omega)
      refine fc_aload_n C dX6_identity_55 rfl rfl ?_
      refine fh_getf C dX6_identity_56 fl_X6_29 rfl rfl ?_
      refine fc_aload_n C dX6_identity_59 rfl rfl ?_
      refine fh_getf C dX6_identity_60 fl_X6_51 rfl rfl ?_
      refine fh_callVE (y := mX1_makeRecurrent) C dX6_identity_63 ml_X6_178 mi_X1_makeRecurrent im_X1_makeRecurrent se_X1_makeRecurrent (c_makeRecurrent G1 hv.g hn ⟨by omega, by omega⟩ c25 (i := 142) (fun _ _ => rfl) (by omega) (by omega) (by omega) (fun o o0 o1 => by rw [h142 o o0 o1]; omega)) rfl rfl (by decide) rfl (Nat.le_of_ble_eq_true rfl) (Nat.zero_le _) (Nat.zero_le _) rfl ?_
      rintro r A2 F2 ⟨rfl, rfl, ⟨w, hw, hw2⟩, fr2⟩
      refine fc_eq (st' := []) rfl rfl ?_
      have hw3 := r_w_eq (by omega) (hw.congr (y := fun _ => 0) h142)
      have g := RC.gr (A' := A2) (F' := F2) (fun i a b c => ⟨by rw [fr2 i c (by omega) (by omega), (fr1 i (by omega)).1]; exact fa_n _ _ c, (fr1 i (by omega)).2⟩)
      refine fc_iload_n C dX6_identity_66 rfl rfl ?_
      refine fc_if_ne (tgt := 74) C dX6_identity_67 (by decide) (hp) (fun c67 => ?_) (fun c67 => ?_)
      · refine fc_aload_n C dX6_identity_74 rfl rfl ?_
        refine fh_getf C dX6_identity_75 fl_X6_51 rfl rfl ?_
        refine fc_iload_n C dX6_identity_78 rfl rfl ?_
        refine fh_iaload C dX6_identity_79 (fun _ _ => rfl) (by omega) (by omega) (by decide) ?_
        exact fh_iretE C T dX6_identity_80 (Or.inl rfl) (k_an.yes g.1 g.2 hx (by unfold a_rc; rw [if_neg c67, ← hw3 p c8.1 c8.2, hw2 p c8.1 c8.2]))
      · refine fc_iconst C dX6_identity_70 ?_
        refine fc_goto (tgt := 80) C dX6_identity_71 (by decide) ?_
        exact fh_iretE C T dX6_identity_80 (Or.inl rfl) (k_an.yes g.1 g.2 hx (by unfold a_rc; rw [if_pos (by omega)]))
    · have c25 := fc_ind_0 c25
      refine fc_aload_n C dX6_identity_28 rfl rfl ?_
      refine fc_bipush C dX6_identity_29 (by decide) ?_
      refine fh_callV (y := mX6_refuse) C dX6_identity_31 ml_X6_80 mi_X6_refuse im_X6_refuse se_X6_refuse (c_refuse (Or.inr (Or.inl rfl))) rfl rfl (by decide) rfl (Nat.le_of_ble_eq_true rfl) (Nat.zero_le _) (Nat.zero_le _) rfl ?_
      refine fh_iretE C T dX6_identity_34 (Or.inl rfl) (k_an.no RC ?_ (Or.inr (Or.inl rfl)))
      unfold x_id
      rw [if_pos c8, if_neg (by unfold fc_ind; rw [if_neg c25]; decide)]
  · have c8 := fc_ind_0 c8
    refine fc_aload_n C dX6_identity_11 rfl rfl ?_
    refine fc_bipush C dX6_identity_12 (by decide) ?_
    refine fh_callV (y := mX6_refuse) C dX6_identity_14 ml_X6_80 mi_X6_refuse im_X6_refuse se_X6_refuse (c_refuse (Or.inl rfl)) rfl rfl (by decide) rfl (Nat.le_of_ble_eq_true rfl) (Nat.zero_le _) (Nat.zero_le _) rfl ?_
    exact fh_iretE C T dX6_identity_17 (Or.inl rfl) (k_an.no RC (if_neg c8) (Or.inl rfl))
noncomputable def x_rc (v : Int → Int) (p : Int) : Int := if 0 ≤ p ∧ p < v 0 then (if fc_ind (s_J (v_L v) (v 0) ∧ s_hp v) = 1 then 0 else -3) else -2
theorem o_recurrent (RC : k_RC A F v ps st rf tx tl) {p : Int} (hp : fc_R p) : fh_E mX6_recurrent 8 [vR 0, vI p] A F (k_an A F (x_rc v p) (a_rc v (v_c v) p) v ps st rf tx tl) := by
  obtain ⟨E, hv, H, R⟩ := id RC
  have hn := hv.n
  refine fh_E.of mi_X6_recurrent (Nat.le_of_ble_eq_true rfl) ?_
  intro X C T
  refine fc_aload_n C dX6_recurrent_0 rfl rfl ?_
  refine fh_getf C dX6_recurrent_1 fl_X6_24 rfl rfl ?_
  refine fc_iload_n C dX6_recurrent_4 rfl rfl ?_
  refine fh_callV (y := mX3_hasPoint) C dX6_recurrent_5 ml_X6_91 mi_X3_hasPoint im_X3_hasPoint se_X3_hasPoint (c_hasPoint (E.net hv) hp) rfl rfl (by decide) rfl (Nat.le_of_ble_eq_true rfl) (Nat.zero_le _) (Nat.zero_le _) rfl ?_
  refine fc_if_ne (tgt := 18) C dX6_recurrent_8 (by decide) (fc_ind_R _) (fun c8 => ?_) (fun c8 => ?_)
  · have c8 := fc_ind_ne c8
    have bad : ¬ (s_J (v_L v) (v 0) ∧ s_hp v) → ∀ ls : List (Option fc_AV), fc_W X 0 0 159 (fc_H A F) 38 (some (vR 0) :: ls) [] := by
      intro h ls
      refine fc_aload_n C dX6_recurrent_38 rfl rfl ?_
      refine fc_bipush C dX6_recurrent_39 (by decide) ?_
      refine fh_callV (y := mX6_refuse) C dX6_recurrent_41 ml_X6_80 mi_X6_refuse im_X6_refuse se_X6_refuse (c_refuse (Or.inr (Or.inl rfl))) rfl rfl (by decide) rfl (Nat.le_of_ble_eq_true rfl) (Nat.zero_le _) (Nat.zero_le _) rfl ?_
      refine fh_iretE C T dX6_recurrent_44 (Or.inl rfl) (k_an.no RC ?_ (Or.inr (Or.inl rfl)))
      unfold x_rc
      rw [if_pos c8, if_neg (by unfold fc_ind; rw [if_neg h]; decide)]
    refine fc_aload_n C dX6_recurrent_18 rfl rfl ?_
    refine fh_getf C dX6_recurrent_19 fl_X6_24 rfl rfl ?_
    refine fh_callV (y := mX3_isJoined) C dX6_recurrent_22 ml_X6_98 mi_X3_isJoined im_X3_isJoined se_X3_isJoined (c_isJoined (E.net hv) hv.g) rfl rfl (by decide) rfl (Nat.le_of_ble_eq_true rfl) (Nat.zero_le _) (Nat.zero_le _) rfl ?_
    refine fc_if_eq (tgt := 38) C dX6_recurrent_25 (by decide) (fc_ind_R _) (fun c25 => ?_) (fun c25 => ?_)
    · have c25 := fc_ind_0 c25
      exact bad (fun h => c25 h.1) _
    · have c25 := fc_ind_ne c25
      refine fc_aload_n C dX6_recurrent_28 rfl rfl ?_
      refine fh_getf C dX6_recurrent_29 fl_X6_24 rfl rfl ?_
      refine fh_callV (y := mX3_isHeap) C dX6_recurrent_32 ml_X6_182 mi_X3_isHeap im_X3_isHeap se_X3_isHeap (c_isHeap (E.net hv) E.ch hv.cR) rfl rfl (by decide) rfl (Nat.le_of_ble_eq_true rfl) (Nat.zero_le _) (Nat.zero_le _) rfl ?_
      refine fc_if_ne (tgt := 45) C dX6_recurrent_35 (by decide) (fc_ind_R _) (fun c35 => ?_) (fun c35 => ?_)
      · have c35 := fc_ind_ne c35
        have hx : x_rc v p = 0 := by unfold x_rc; rw [if_pos c8, if_pos (by unfold fc_ind; rw [if_pos ⟨c25, c35⟩])]
        refine fc_aload_n C dX6_recurrent_45 rfl rfl ?_
        refine fh_getf C dX6_recurrent_46 fl_X6_24 rfl rfl ?_
        refine fh_getf C dX6_recurrent_49 fl_X6_114 rfl rfl ?_
        refine fc_aload_n C dX6_recurrent_52 rfl rfl ?_
        refine fh_getf C dX6_recurrent_53 fl_X6_51 rfl rfl ?_
        refine fh_callSv (y := mX6_copyRow) C dX6_recurrent_56 ml_X6_185 mi_X6_copyRow st_X6_copyRow (c_copyRow (fun _ _ => rfl) (fun _ _ => rfl)) (by decide) rfl (Nat.le_of_ble_eq_true rfl) (Nat.zero_le _) (Nat.zero_le _) rfl ?_
        have e142 : ∀ o : Int, 0 ≤ o → o < 5 → fa_up A 142 (fc_cpy (A 10) (A 142) 5) 142 o = v_c v o := fun o o0 o1 => by rw [fa_s, fc_cpy_in o0 o1]; exact E.2.2.1 o o0 o1
        have E0 : k_enc (fa_up A 142 (fc_cpy (A 10) (A 142) 5)) F 3 v := E.of_fr rfl (fun i i0 i1 _ => fa_n _ _ (by omega))
        refine fc_aload_n C dX6_recurrent_59 rfl rfl ?_
        refine fh_getf C dX6_recurrent_60 fl_X6_29 rfl rfl ?_
        refine fc_aload_n C dX6_recurrent_63 rfl rfl ?_
        refine fh_getf C dX6_recurrent_64 fl_X6_24 rfl rfl ?_
        refine fc_iconst C dX6_recurrent_67 ?_
        refine fh_callVE (y := mX1_takeWhole) C dX6_recurrent_68 ml_X6_175 mi_X1_takeWhole im_X1_takeWhole se_X1_takeWhole (c_takeWhole (E0.net hv) hv.g (q := 0) ⟨by omega, by omega⟩ c25) rfl rfl (by decide) rfl (Nat.le_of_ble_eq_true rfl) (Nat.zero_le _) (Nat.zero_le _) rfl ?_
        rintro r A1 F1 ⟨rfl, G1, fr1⟩
        refine fc_eq (st' := []) rfl rfl ?_
        have h142 : ∀ o : Int, 0 ≤ o → o < v 0 → A1 142 o = v_c v o := fun o o0 o1 => by rw [(fr1 142 (by omega)).1]; exact e142 o o0 (by omega)
        refine fc_aload_n C dX6_recurrent_71 rfl rfl ?_
        refine fh_getf C dX6_recurrent_72 fl_X6_29 rfl rfl ?_
        refine fc_aload_n C dX6_recurrent_75 rfl rfl ?_
        refine fh_getf C dX6_recurrent_76 fl_X6_51 rfl rfl ?_
        refine fh_callVE (y := mX1_makeRecurrent) C dX6_recurrent_79 ml_X6_178 mi_X1_makeRecurrent im_X1_makeRecurrent se_X1_makeRecurrent (c_makeRecurrent G1 hv.g hn ⟨by omega, by omega⟩ c25 (i := 142) (fun _ _ => rfl) (by omega) (by omega) (by omega) (fun o o0 o1 => by rw [h142 o o0 o1]; have := hv.2.2.2.1 o o0 (by omega); unfold v_c; omega)) rfl rfl (by decide) rfl (Nat.le_of_ble_eq_true rfl) (Nat.zero_le _) (Nat.zero_le _) rfl ?_
        rintro r A2 F2 ⟨rfl, rfl, ⟨w, hw, hw2⟩, fr2⟩
        refine fc_eq (st' := []) rfl rfl ?_
        have hw3 := r_w_eq (by omega) (hw.congr (y := v_c v) h142)
        have g := RC.gr (A' := A2) (F' := F2) (fun i a b c => ⟨by rw [fr2 i c (by omega) (by omega), (fr1 i (by omega)).1]; exact fa_n _ _ c, (fr1 i (by omega)).2⟩)
        refine fc_iload_n C dX6_recurrent_82 rfl rfl ?_
        refine fc_if_ne (tgt := 90) C dX6_recurrent_83 (by decide) (hp) (fun c67 => ?_) (fun c67 => ?_)
        · refine fc_aload_n C dX6_recurrent_90 rfl rfl ?_
          refine fh_getf C dX6_recurrent_91 fl_X6_51 rfl rfl ?_
          refine fc_iload_n C dX6_recurrent_94 rfl rfl ?_
          refine fh_iaload C dX6_recurrent_95 (fun _ _ => rfl) (by omega) (by omega) (by decide) ?_
          exact fh_iretE C T dX6_recurrent_96 (Or.inl rfl) (k_an.yes g.1 g.2 hx (by unfold a_rc; rw [if_neg c67, ← hw3 p c8.1 c8.2, hw2 p c8.1 c8.2]))
        · refine fc_iconst C dX6_recurrent_86 ?_
          refine fc_goto (tgt := 96) C dX6_recurrent_87 (by decide) ?_
          exact fh_iretE C T dX6_recurrent_96 (Or.inl rfl) (k_an.yes g.1 g.2 hx (by unfold a_rc; rw [if_pos (by omega)]))
      · have c35 := fc_ind_0 c35
        exact bad (fun h => c35 h.2) _
  · have c8 := fc_ind_0 c8
    refine fc_aload_n C dX6_recurrent_11 rfl rfl ?_
    refine fc_bipush C dX6_recurrent_12 (by decide) ?_
    refine fh_callV (y := mX6_refuse) C dX6_recurrent_14 ml_X6_80 mi_X6_refuse im_X6_refuse se_X6_refuse (c_refuse (Or.inl rfl)) rfl rfl (by decide) rfl (Nat.le_of_ble_eq_true rfl) (Nat.zero_le _) (Nat.zero_le _) rfl ?_
    exact fh_iretE C T dX6_recurrent_17 (Or.inl rfl) (k_an.no RC (if_neg c8) (Or.inl rfl))
end PUB4
