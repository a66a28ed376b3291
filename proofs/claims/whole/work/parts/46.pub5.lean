/-! publics: order, heaps, reduced, won, equal, way -/
noncomputable def x_J (v : Int → Int) : Int := if fc_ind (s_J (v_L v) (v 0)) = 1 then 0 else -3
theorem x_J_0 {v : Int → Int} (h : s_J (v_L v) (v 0)) : x_J v = 0 := if_pos (by unfold fc_ind; rw [if_pos h])
theorem x_J_3 {v : Int → Int} (h : ¬ s_J (v_L v) (v 0)) : x_J v = -3 := if_neg (by unfold fc_ind; rw [if_neg h]; decide)
noncomputable def x_red (v : Int → Int) (q p : Int) : Int := if (0 ≤ q ∧ q < v 0) ∧ (0 ≤ p ∧ p < v 0) then x_J v else -2
/-- the row REDUCED at q -/
noncomputable def r_rd (L : Int → Int → Int) (n q : Int) (x : Int → Int) (p : Int) : Int := s_val L n p - 1 - r_w L n q (fun o => s_val L n o - 1 - x o) p
noncomputable def x_ord (v : Int → Int) : Int := if fc_ind (s_J (v_L v) (v 0) ∧ s_hp v) = 1 then 0 else -3
noncomputable def x_hps (v : Int → Int) (w : Int) : Int := if 0 ≤ w ∧ w ≤ 1 then x_J v else -2
def a_hps (v : Int → Int) (w : Int) : Int := if w = 0 then s_prod (s_val (v_L v) (v 0)) (v 0 - 1).toNat else d_T (v_L v) (v 0) 0
theorem r_mk_bd {L : Int → Int → Int} {n q : Int} (hg : g_ok L) (hn : 2 ≤ n ∧ n ≤ 5) (hq : 0 ≤ q ∧ q < n) (hJ : s_J L n) {x w : Int → Int} (hx : ∀ p : Int, 0 ≤ p → p < n → -2000 ≤ x p ∧ x p ≤ 2000) (h : r_mk L n q x w) : (∀ p : Int, 0 ≤ p → p < n → p ≠ q → 0 ≤ w p ∧ w p < s_val L n p) ∧ -30000 ≤ w q ∧ w q ≤ 30000 := by
  obtain ⟨y, z, g, f, h1, h2, h3⟩ := h
  have hnt := d_nt_bd hg hn hq hJ h1
  obtain ⟨K, -, -, -, -, hal, hcan⟩ := h3
  have hw : ∀ p : Int, 0 ≤ p → p < n → p ≠ q → 0 ≤ w p ∧ w p < s_val L n p := fun p p0 p1 p2 => by
    have a1 := hal.1 p p0 p1 p2
    have a2 := s_J_val hg hn hJ p0 p1
    have a4 : ¬ s_val L n p ≤ w p := fun e => hcan p p0 p1 ⟨p2, a2, e⟩
    omega
  refine ⟨hw, ?_⟩
  have e := hal.2.2.1
  have b1 := fs_sum5 (f := fun o => if o = q then 0 else w o) (B := 15) (n := n) (by omega) (by omega) (fun k k0 k1 => by
    have := s_val_bd hg (n := n) (p := k) (by omega) hn.2 k0 (by omega)
    by_cases c : k = q
    · rw [if_pos c]; omega
    · rw [if_neg c]
      have := hw k k0 k1 c
      omega)
  have b2 := fs_sum5 (f := fun o => if o = q then 0 else z o) (B := 75) (n := n) (by omega) (by omega) (fun k k0 k1 => by
    have := s_val_bd hg (n := n) (p := k) (by omega) hn.2 k0 (by omega)
    by_cases c : k = q
    · rw [if_pos c]; omega
    · rw [if_neg c]
      have a1 := hnt.1 k k0 k1 c
      have a2 := r_y_bd hg hn hq hJ (x := x) ⟨k0, k1⟩ c
      rw [h2 k k0 k1]
      omega)
  have b3 := r_y_q hg hn hq hJ hx
  have b4 := h2 q hq.1 hq.2
  have b5 := hnt.2
  have e1 : s_tot n q w = fs_sum (fun o => if o = q then 0 else w o) n.toNat := rfl
  have e2 : s_tot n q z = fs_sum (fun o => if o = q then 0 else z o) n.toNat := rfl
  rw [e1, e2] at e
  omega
section PUB5
variable {A : Nat → Int → Int} {F : Nat → Nat → Int} {v : Int → Int} {ps : Int → Int → Int} {st : Int} {rf tx : Int → Int} {tl : Int}
theorem c_reduceChipsAt (E : k_enc A F 3 v) (hv : v_ok v) (hJ : s_J (v_L v) (v 0)) {q : Int} (hq : 0 ≤ q ∧ q < v 0) : fh_E mX6_reduceChipsAt 8 [vR 0, vI q] A F (fun r A' F' => r = none ∧ (∀ p : Int, 0 ≤ p → p < v 0 → A' 142 p = r_rd (v_L v) (v 0) q (v_c v) p ∧ -40000 ≤ A' 142 p ∧ A' 142 p ≤ 40000) ∧ ∀ i : Nat, ¬ (17 ≤ i ∧ i ≤ 33) → i ≠ 142 → A' i = A i ∧ F' i = F i) := by
  have hn := hv.n
  refine fh_E.of mi_X6_reduceChipsAt (Nat.le_of_ble_eq_true rfl) ?_
  intro X C T
  refine fc_aload_n C dX6_reduceChipsAt_0 rfl rfl ?_
  refine fh_getf C dX6_reduceChipsAt_1 fl_X6_24 rfl rfl ?_
  refine fh_getf C dX6_reduceChipsAt_4 fl_X6_114 rfl rfl ?_
  refine fc_aload_n C dX6_reduceChipsAt_7 rfl rfl ?_
  refine fh_getf C dX6_reduceChipsAt_8 fl_X6_51 rfl rfl ?_
  refine fh_callSv (y := mX6_copyRow) C dX6_reduceChipsAt_11 ml_X6_185 mi_X6_copyRow st_X6_copyRow (c_copyRow (fun _ _ => rfl) (fun _ _ => rfl)) (by decide) rfl (Nat.le_of_ble_eq_true rfl) (Nat.zero_le _) (Nat.zero_le _) rfl ?_
  have e142 : ∀ o : Int, 0 ≤ o → o < 5 → fa_up A 142 (fc_cpy (A 10) (A 142) 5) 142 o = v_c v o := fun o o0 o1 => by rw [fa_s, fc_cpy_in o0 o1]; exact E.2.2.1 o o0 o1
  have E0 : k_enc (fa_up A 142 (fc_cpy (A 10) (A 142) 5)) F 3 v := E.of_fr rfl (fun i i0 i1 _ => fa_n _ _ (by omega))
  refine fc_aload_n C dX6_reduceChipsAt_14 rfl rfl ?_
  refine fh_getf C dX6_reduceChipsAt_15 fl_X6_29 rfl rfl ?_
  refine fc_aload_n C dX6_reduceChipsAt_18 rfl rfl ?_
  refine fh_getf C dX6_reduceChipsAt_19 fl_X6_24 rfl rfl ?_
  refine fc_iload_n C dX6_reduceChipsAt_22 rfl rfl ?_
  refine fh_callVE (y := mX1_takeWhole) C dX6_reduceChipsAt_23 ml_X6_175 mi_X1_takeWhole im_X1_takeWhole se_X1_takeWhole (c_takeWhole (E0.net hv) hv.g (q := q) hq hJ) rfl rfl (by decide) rfl (Nat.le_of_ble_eq_true rfl) (Nat.zero_le _) (Nat.zero_le _) rfl ?_
  rintro r A1 F1 ⟨rfl, G1, fr1⟩
  refine fc_eq (st' := []) rfl rfl ?_
  have h142 : ∀ o : Int, 0 ≤ o → o < v 0 → A1 142 o = v_c v o := fun o o0 o1 => by rw [(fr1 142 (by omega)).1]; exact e142 o o0 (by omega)
  refine fc_aload_n C dX6_reduceChipsAt_26 rfl rfl ?_
  refine fh_getf C dX6_reduceChipsAt_27 fl_X6_29 rfl rfl ?_
  refine fc_aload_n C dX6_reduceChipsAt_30 rfl rfl ?_
  refine fh_getf C dX6_reduceChipsAt_31 fl_X6_51 rfl rfl ?_
  refine fh_callVE (y := mX1_reduce) C dX6_reduceChipsAt_34 ml_X6_284 mi_X1_reduce im_X1_reduce se_X1_reduce (c_reduce G1 hv.g hn hq hJ (i := 142) (fun _ _ => rfl) (by omega) (fun o o0 o1 => by rw [h142 o o0 o1]; have := hv.2.2.2.1 o o0 (by omega); unfold v_c; omega)) rfl rfl (by decide) rfl (Nat.le_of_ble_eq_true rfl) (Nat.zero_le _) (Nat.zero_le _) rfl ?_
  rintro r A2 F2 ⟨rfl, rfl, ⟨w, hw, hw2⟩, fr2⟩
  refine fc_eq (st' := []) rfl rfl ?_
  refine fh_vretE C T dX6_reduceChipsAt_37 ⟨rfl, fun p p0 p1 => ?_, fun i a b => ⟨by rw [fr2 i b (by omega) (by omega) (by omega), (fr1 i (by omega)).1]; exact fa_n _ _ b, (fr1 i (by omega)).2⟩⟩
  have hbd := r_mk_bd hv.g hn hq hJ (fun o o0 o1 => by
    have := hv.2.2.2.1 o o0 (by omega)
    have := s_val_bd hv.g (n := v 0) (p := o) (by omega) hn.2 o0 (by omega)
    have e9 := h142 o o0 o1
    unfold v_c at e9
    show -2000 ≤ s_val (v_L v) (v 0) o - 1 - A1 142 o ∧ s_val (v_L v) (v 0) o - 1 - A1 142 o ≤ 2000
    omega) hw
  have hv15 := s_val_bd hv.g (n := v 0) (p := p) (by omega) hn.2 p0 (by omega)
  have hwb : -30000 ≤ w p ∧ w p ≤ 30000 := by
    by_cases e : p = q
    · rw [e]; exact hbd.2
    · have := hbd.1 p p0 p1 e; omega
  rw [hw2 p p0 p1]
  refine ⟨?_, by omega, by omega⟩
  unfold r_rd
  rw [r_w_eq (by omega) (hw.congr (y := fun o => s_val (v_L v) (v 0) o - 1 - v_c v o) (fun o o0 o1 => by rw [h142 o o0 o1])) p p0 p1]
theorem o_reduced (RC : k_RC A F v ps st rf tx tl) {q p : Int} (hq : fc_R q) (hp : fc_R p) : fh_E mX6_reduced 9 [vR 0, vI q, vI p] A F (k_an A F (x_red v q p) (r_rd (v_L v) (v 0) q (v_c v) p + 10000) v ps st rf tx tl) := by
  obtain ⟨E, hv, H, R⟩ := id RC
  have hn := hv.n
  refine fh_E.of mi_X6_reduced (Nat.le_of_ble_eq_true rfl) ?_
  intro X C T
  have bad : ¬ ((0 ≤ q ∧ q < v 0) ∧ (0 ≤ p ∧ p < v 0)) → ∀ ls : List (Option fc_AV), fc_W X 0 0 159 (fc_H A F) 22 (some (vR 0) :: ls) [] := by
    intro h ls
    refine fc_aload_n C dX6_reduced_22 rfl rfl ?_
    refine fc_bipush C dX6_reduced_23 (by decide) ?_
    refine fh_callV (y := mX6_refuse) C dX6_reduced_25 ml_X6_80 mi_X6_refuse im_X6_refuse se_X6_refuse (c_refuse (Or.inl rfl)) rfl rfl (by decide) rfl (Nat.le_of_ble_eq_true rfl) (Nat.zero_le _) (Nat.zero_le _) rfl ?_
    exact fh_iretE C T dX6_reduced_28 (Or.inl rfl) (k_an.no RC (if_neg h) (Or.inl rfl))
  refine fc_aload_n C dX6_reduced_0 rfl rfl ?_
  refine fh_getf C dX6_reduced_1 fl_X6_24 rfl rfl ?_
  refine fc_iload_n C dX6_reduced_4 rfl rfl ?_
  refine fh_callV (y := mX3_hasPoint) C dX6_reduced_5 ml_X6_91 mi_X3_hasPoint im_X3_hasPoint se_X3_hasPoint (c_hasPoint (E.net hv) hq) rfl rfl (by decide) rfl (Nat.le_of_ble_eq_true rfl) (Nat.zero_le _) (Nat.zero_le _) rfl ?_
  refine fc_if_eq (tgt := 22) C dX6_reduced_8 (by decide) (fc_ind_R _) (fun c8 => ?_) (fun c8 => ?_)
  · have := fc_ind_0 c8
    exact bad (by omega) _
  · have c8 := fc_ind_ne c8
    refine fc_aload_n C dX6_reduced_11 rfl rfl ?_
    refine fh_getf C dX6_reduced_12 fl_X6_24 rfl rfl ?_
    refine fc_iload_n C dX6_reduced_15 rfl rfl ?_
    refine fh_callV (y := mX3_hasPoint) C dX6_reduced_16 ml_X6_91 mi_X3_hasPoint im_X3_hasPoint se_X3_hasPoint (c_hasPoint (E.net hv) hp) rfl rfl (by decide) rfl (Nat.le_of_ble_eq_true rfl) (Nat.zero_le _) (Nat.zero_le _) rfl ?_
    refine fc_if_ne (tgt := 29) C dX6_reduced_19 (by decide) (fc_ind_R _) (fun c19 => ?_) (fun c19 => ?_)
    · have c19 := fc_ind_ne c19
      have hxx : x_red v q p = x_J v := if_pos ⟨c8, c19⟩
      refine fc_aload_n C dX6_reduced_29 rfl rfl ?_
      refine fh_getf C dX6_reduced_30 fl_X6_24 rfl rfl ?_
      refine fh_callV (y := mX3_isJoined) C dX6_reduced_33 ml_X6_98 mi_X3_isJoined im_X3_isJoined se_X3_isJoined (c_isJoined (E.net hv) hv.g) rfl rfl (by decide) rfl (Nat.le_of_ble_eq_true rfl) (Nat.zero_le _) (Nat.zero_le _) rfl ?_
      refine fc_if_ne (tgt := 46) C dX6_reduced_36 (by decide) (fc_ind_R _) (fun c36 => ?_) (fun c36 => ?_)
      · have c36 := fc_ind_ne c36
        refine fc_aload_n C dX6_reduced_46 rfl rfl ?_
        refine fc_iload_n C dX6_reduced_47 rfl rfl ?_
        refine fh_callVE (y := mX6_reduceChipsAt) C dX6_reduced_48 ml_X6_213 mi_X6_reduceChipsAt im_X6_reduceChipsAt se_X6_reduceChipsAt (c_reduceChipsAt E hv c36 c8) rfl rfl (by decide) rfl (Nat.le_of_ble_eq_true rfl) (Nat.zero_le _) (Nat.zero_le _) rfl ?_
        rintro r A1 F1 ⟨rfl, h1, fr1⟩
        refine fc_eq (st' := []) rfl rfl ?_
        have g := RC.gr (A' := A1) (F' := F1) (fun i a b c => fr1 i (by omega) c)
        refine fc_aload_n C dX6_reduced_51 rfl rfl ?_
        refine fh_getf C dX6_reduced_52 fl_X6_51 rfl rfl ?_
        refine fc_iload_n C dX6_reduced_55 rfl rfl ?_
        refine fh_iaload C dX6_reduced_56 (fun _ _ => rfl) (by omega) (by omega) (by decide) ?_
        refine fc_sipush C dX6_reduced_57 (by decide) ?_
        refine fc_iadd C dX6_reduced_60 ?_
        exact fh_iretE C T dX6_reduced_61 (Or.inl rfl) (k_an.yes g.1 g.2 (by rw [hxx]; exact x_J_0 c36) (by rw [(h1 p c19.1 c19.2).1]))
      · have c36 := fc_ind_0 c36
        refine fc_aload_n C dX6_reduced_39 rfl rfl ?_
        refine fc_bipush C dX6_reduced_40 (by decide) ?_
        refine fh_callV (y := mX6_refuse) C dX6_reduced_42 ml_X6_80 mi_X6_refuse im_X6_refuse se_X6_refuse (c_refuse (Or.inr (Or.inl rfl))) rfl rfl (by decide) rfl (Nat.le_of_ble_eq_true rfl) (Nat.zero_le _) (Nat.zero_le _) rfl ?_
        exact fh_iretE C T dX6_reduced_45 (Or.inl rfl) (k_an.no RC (by rw [hxx]; exact x_J_3 c36) (Or.inr (Or.inl rfl)))
    · have := fc_ind_0 c19
      exact bad (by omega) _
theorem o_won (RC : k_RC A F v ps st rf tx tl) : fh_E mX6_won 9 [vR 0] A F (k_an A F (x_J v) (fc_ind (0 ≤ r_rd (v_L v) (v 0) 0 (v_c v) 0)) v ps st rf tx tl) := by
  obtain ⟨E, hv, H, R⟩ := id RC
  have hn := hv.n
  refine fh_E.of mi_X6_won (Nat.le_of_ble_eq_true rfl) ?_
  intro X C T
  refine fc_aload_n C dX6_won_0 rfl rfl ?_
  refine fh_getf C dX6_won_1 fl_X6_24 rfl rfl ?_
  refine fh_callV (y := mX3_isJoined) C dX6_won_4 ml_X6_98 mi_X3_isJoined im_X3_isJoined se_X3_isJoined (c_isJoined (E.net hv) hv.g) rfl rfl (by decide) rfl (Nat.le_of_ble_eq_true rfl) (Nat.zero_le _) (Nat.zero_le _) rfl ?_
  refine fc_if_ne (tgt := 17) C dX6_won_7 (by decide) (fc_ind_R _) (fun c7 => ?_) (fun c7 => ?_)
  · have c7 := fc_ind_ne c7
    refine fc_aload_n C dX6_won_17 rfl rfl ?_
    refine fc_iconst C dX6_won_18 ?_
    refine fh_callVE (y := mX6_reduceChipsAt) C dX6_won_19 ml_X6_213 mi_X6_reduceChipsAt im_X6_reduceChipsAt se_X6_reduceChipsAt (c_reduceChipsAt E hv c7 (q := 0) ⟨by omega, by omega⟩) rfl rfl (by decide) rfl (Nat.le_of_ble_eq_true rfl) (Nat.zero_le _) (Nat.zero_le _) rfl ?_
    rintro r A1 F1 ⟨rfl, h1, fr1⟩
    refine fc_eq (st' := []) rfl rfl ?_
    have g := RC.gr (A' := A1) (F' := F1) (fun i a b c => fr1 i (by omega) c)
    have h2 := h1 0 (by omega) (by omega)
    refine fc_aload_n C dX6_won_22 rfl rfl ?_
    refine fh_getf C dX6_won_23 fl_X6_51 rfl rfl ?_
    refine fc_iconst C dX6_won_26 ?_
    refine fh_iaload C dX6_won_27 (fun _ _ => rfl) (by omega) (by omega) (by decide) ?_
    refine fc_if_lt (tgt := 35) C dX6_won_28 (by decide) (fc_Rm (by omega)) (fun c28 => ?_) (fun c28 => ?_)
    · refine fc_iconst C dX6_won_35 ?_
      refine fc_eq (st' := [vI (fc_ind False)]) rfl (by unfold fc_ind; rw [if_neg id]) ?_
      refine fh_callS (y := mX6_bit) C dX6_won_36 ml_X6_102 mi_X6_bit st_X6_bit (c_bit (P := False)) (by decide) rfl (Nat.le_of_ble_eq_true rfl) (Nat.zero_le _) (Nat.zero_le _) rfl ?_
      exact fh_iretE C T dX6_won_39 (Or.inl rfl) (k_an.yes g.1 g.2 (x_J_0 c7) (by rw [← h2.1]; unfold fc_ind; rw [if_neg (by omega), if_neg id]))
    · refine fc_iconst C dX6_won_31 ?_
      refine fc_goto (tgt := 36) C dX6_won_32 (by decide) ?_
      refine fc_eq (st' := [vI (fc_ind True)]) rfl (by unfold fc_ind; rw [if_pos trivial]) ?_
      refine fh_callS (y := mX6_bit) C dX6_won_36 ml_X6_102 mi_X6_bit st_X6_bit (c_bit (P := True)) (by decide) rfl (Nat.le_of_ble_eq_true rfl) (Nat.zero_le _) (Nat.zero_le _) rfl ?_
      exact fh_iretE C T dX6_won_39 (Or.inl rfl) (k_an.yes g.1 g.2 (x_J_0 c7) (by rw [← h2.1]; unfold fc_ind; rw [if_pos (by omega), if_pos trivial]))
  · have c7 := fc_ind_0 c7
    refine fc_aload_n C dX6_won_10 rfl rfl ?_
    refine fc_bipush C dX6_won_11 (by decide) ?_
    refine fh_callV (y := mX6_refuse) C dX6_won_13 ml_X6_80 mi_X6_refuse im_X6_refuse se_X6_refuse (c_refuse (Or.inr (Or.inl rfl))) rfl rfl (by decide) rfl (Nat.le_of_ble_eq_true rfl) (Nat.zero_le _) (Nat.zero_le _) rfl ?_
    exact fh_iretE C T dX6_won_16 (Or.inl rfl) (k_an.no RC (x_J_3 c7) (Or.inr (Or.inl rfl)))
end PUB5
