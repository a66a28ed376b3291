/-! the class's public methods that only look, and type, clear, back -/
theorem fb_or2 {s t o : Int} (h0 : 0 ≤ s) (h1 : s < 32) (h2 : 0 ≤ t) (h3 : t < 32) (h4 : 0 ≤ o) (h5 : o < 5) : 0 ≤ fc_or s t ∧ fc_or s t < 32 ∧ (fb_t (fc_or s t) o = 1 ↔ fb_t s o = 1 ∨ fb_t t o = 1) := by
  have key : ∀ s : Fin 32, ∀ t : Fin 32, ∀ o : Fin 5, 0 ≤ fc_or ((s.val : Nat) : Int) ((t.val : Nat) : Int) ∧ fc_or ((s.val : Nat) : Int) ((t.val : Nat) : Int) < 32 ∧ (fb_t (fc_or ((s.val : Nat) : Int) ((t.val : Nat) : Int)) ((o.val : Nat) : Int) = 1 ↔ fb_t ((s.val : Nat) : Int) ((o.val : Nat) : Int) = 1 ∨ fb_t ((t.val : Nat) : Int) ((o.val : Nat) : Int) = 1) := by decide +kernel
  have := key ⟨s.toNat, by omega⟩ ⟨t.toNat, by omega⟩ ⟨o.toNat, by omega⟩
  simp only [Int.toNat_of_nonneg h0, Int.toNat_of_nonneg h2, Int.toNat_of_nonneg h4] at this
  exact this
def s_nb (L : Int → Int → Int) (n : Int) (c : Int → Int) (S T : Int) : Prop := 0 ≤ T ∧ T < 32 ∧ ∀ o : Int, 0 ≤ o → o < 5 → (fb_t T o = 1 ↔ fb_t S o = 1 ∨ (o < n ∧ s_bc L n c S o))
noncomputable def s_bs (L : Int → Int → Int) (n : Int) (c : Int → Int) (S : Int) : Int := Classical.epsilon (s_nb L n c S)
theorem s_bs_eq {L : Int → Int → Int} {n : Int} {c : Int → Int} {S T : Int} (h : s_nb L n c S T) : s_bs L n c S = T := by
  have g : s_nb L n c S (s_bs L n c S) := Classical.epsilon_spec (p := s_nb L n c S) ⟨T, h⟩
  refine fb_ext g.1 g.2.1 h.1 h.2.1 fun o o0 o1 => ?_
  have z1 := (g.2.2 o o0 o1).trans (h.2.2 o o0 o1).symm
  rcases fb_01 (s_bs L n c S) o with a | a <;> rcases fb_01 T o with b | b <;> omega
/-- what has burnt when so many waves have gone -/
noncomputable def s_bn (L : Int → Int → Int) (n : Int) (c : Int → Int) : Nat → Int
  | 0 => 1
  | k + 1 => s_bs L n c (s_bn L n c k)
noncomputable def s_wv (L : Int → Int → Int) (n : Int) (c : Int → Int) : Nat → Int
  | 0 => 0
  | k + 1 => s_wv L n c k + (if s_bn L n c (k + 1) = s_bn L n c k then 0 else 1)
def x_net (v : Int → Int) (a b : Int) : Int := if (0 ≤ a ∧ a < v 0) ∧ (0 ≤ b ∧ b < v 0) then 0 else -2
def a_net (v : Int → Int) (a b : Int) : Int := if a = b then s_val (v_L v) (v 0) a else v_L v a b
def x_pt (v : Int → Int) (p : Int) : Int := if 0 ≤ p ∧ p < v 0 then 0 else -2
def x_of (v : Int → Int) (p w : Int) : Int := if (0 ≤ p ∧ p < v 0) ∧ 0 ≤ w ∧ w ≤ 2 then 0 else -2
noncomputable def a_of (v : Int → Int) (p w : Int) : Int := if w = 0 then v (26 + p) + 1000 else if w = 1 then s_val (v_L v) (v 0) p else fc_ind (s_full (v_L v) (v 0) (v_c v) p)
noncomputable def x_burn (v : Int → Int) (w : Int) : Int := if 0 ≤ w ∧ w ≤ 2 then (if fc_ind (s_stable (v_L v) (v 0) (v_c v)) = 1 then 0 else -3) else -2
noncomputable def a_burn (v : Int → Int) (w : Int) : Int := if w = 0 then s_bn (v_L v) (v 0) (v_c v) (v 0).toNat else if w = 1 then s_wv (v_L v) (v 0) (v_c v) (v 0).toNat else fc_ind (s_bn (v_L v) (v 0) (v_c v) (v 0).toNat = fb_all (v 0))
def x_ty (tl c : Int) : Int := if 0 ≤ c ∧ c ≤ 127 then (if tl < 120 then 0 else -4) else -2
def x_bk (st : Int) : Int := if 1 ≤ st then 0 else -3
def x_td (w : Int) : Int := if 0 ≤ w ∧ w ≤ 6 then 0 else -2
def a_td (v : Int → Int) (st : Int) (rf : Int → Int) (tl w : Int) : Int := if w < 3 then rf w else if w = 3 then tl else if w = 4 then v 0 else if w = 5 then s_kb (fun s => v (36 + 6 * s)) else st
section PUB3
variable {A : Nat → Int → Int} {F : Nat → Nat → Int} {v : Int → Int} {ps : Int → Int → Int} {st : Int} {rf tx : Int → Int} {tl : Int}
theorem o_net (RC : k_RC A F v ps st rf tx tl) {a b : Int} (ha : fc_R a) (hb : fc_R b) : fh_E mX6_net 4 [vR 0, vI a, vI b] A F (k_an A F (x_net v a b) (a_net v a b) v ps st rf tx tl) := by
  obtain ⟨E, hv, H, R⟩ := id RC
  have hn := hv.n
  refine fh_E.of mi_X6_net (Nat.le_of_ble_eq_true rfl) ?_
  intro X C T
  have bad : ¬ ((0 ≤ a ∧ a < v 0) ∧ (0 ≤ b ∧ b < v 0)) → ∀ ls : List (Option fc_AV), fc_W X 0 0 159 (fc_H A F) 22 (some (vR 0) :: ls) [] := by
    intro h ls
    refine fc_aload_n C dX6_net_22 rfl rfl ?_
    refine fc_bipush C dX6_net_23 (by decide) ?_
    refine fh_callV (y := mX6_refuse) C dX6_net_25 ml_X6_80 mi_X6_refuse im_X6_refuse se_X6_refuse (c_refuse (Or.inl rfl)) rfl rfl (by decide) rfl (Nat.le_of_ble_eq_true rfl) (Nat.zero_le _) (Nat.zero_le _) rfl ?_
    exact fh_iretE C T dX6_net_28 (Or.inl rfl) (k_an.no RC (if_neg h) (Or.inl rfl))
  refine fc_aload_n C dX6_net_0 rfl rfl ?_
  refine fh_getf C dX6_net_1 fl_X6_24 rfl rfl ?_
  refine fc_iload_n C dX6_net_4 rfl rfl ?_
  refine fh_callV (y := mX3_hasPoint) C dX6_net_5 ml_X6_91 mi_X3_hasPoint im_X3_hasPoint se_X3_hasPoint (c_hasPoint (E.net hv) ha) rfl rfl (by decide) rfl (Nat.le_of_ble_eq_true rfl) (Nat.zero_le _) (Nat.zero_le _) rfl ?_
  refine fc_if_eq (tgt := 22) C dX6_net_8 (by decide) (fc_ind_R _) (fun c8 => ?_) (fun c8 => ?_)
  · have := fc_ind_0 c8
    exact bad (by omega) _
  · have c8 := fc_ind_ne c8
    refine fc_aload_n C dX6_net_11 rfl rfl ?_
    refine fh_getf C dX6_net_12 fl_X6_24 rfl rfl ?_
    refine fc_iload_n C dX6_net_15 rfl rfl ?_
    refine fh_callV (y := mX3_hasPoint) C dX6_net_16 ml_X6_91 mi_X3_hasPoint im_X3_hasPoint se_X3_hasPoint (c_hasPoint (E.net hv) hb) rfl rfl (by decide) rfl (Nat.le_of_ble_eq_true rfl) (Nat.zero_le _) (Nat.zero_le _) rfl ?_
    refine fc_if_ne (tgt := 29) C dX6_net_19 (by decide) (fc_ind_R _) (fun c19 => ?_) (fun c19 => ?_)
    · have c19 := fc_ind_ne c19
      have hx : x_net v a b = 0 := if_pos ⟨c8, c19⟩
      refine fc_iload_n C dX6_net_29 rfl rfl ?_
      refine fc_iload_n C dX6_net_30 rfl rfl ?_
      refine fc_icmp_ne (tgt := 45) C dX6_net_31 (by decide) (ha) (hb) (fun c31 => ?_) (fun c31 => ?_)
      · refine fc_aload_n C dX6_net_45 rfl rfl ?_
        refine fh_getf C dX6_net_46 fl_X6_24 rfl rfl ?_
        refine fc_iload_n C dX6_net_49 rfl rfl ?_
        refine fc_iload_n C dX6_net_50 rfl rfl ?_
        refine fh_callV (y := mX3_linesBetween) C dX6_net_51 ml_X6_72 mi_X3_linesBetween im_X3_linesBetween se_X3_linesBetween (c_linesBetween (E.net hv) ha hb) rfl rfl (by decide) rfl (Nat.le_of_ble_eq_true rfl) (Nat.zero_le _) (Nat.zero_le _) rfl ?_
        exact fh_iretE C T dX6_net_54 (Or.inl rfl) (k_an.yes RC k_fr.rf hx (by unfold a_net; rw [if_neg c31, if_pos ⟨c8, c19⟩]))
      · have c31 : a = b := by omega
        refine fc_aload_n C dX6_net_34 rfl rfl ?_
        refine fh_getf C dX6_net_35 fl_X6_24 rfl rfl ?_
        refine fc_iload_n C dX6_net_38 rfl rfl ?_
        refine fh_callV (y := mX3_valence) C dX6_net_39 ml_X6_95 mi_X3_valence im_X3_valence se_X3_valence (c_valence (E.net hv) c8.1 (by omega)) rfl rfl (by decide) rfl (Nat.le_of_ble_eq_true rfl) (Nat.zero_le _) (Nat.zero_le _) rfl ?_
        refine fc_goto (tgt := 54) C dX6_net_42 (by decide) ?_
        exact fh_iretE C T dX6_net_54 (Or.inl rfl) (k_an.yes RC k_fr.rf hx (by unfold a_net; rw [if_pos c31]))
    · have := fc_ind_0 c19
      exact bad (by omega) _
theorem o_joined (RC : k_RC A F v ps st rf tx tl) : fh_E mX6_joined 4 [vR 0] A F (k_an A F 0 (fc_ind (s_J (v_L v) (v 0))) v ps st rf tx tl) := by
  obtain ⟨E, hv, H, R⟩ := id RC
  refine fh_E.of mi_X6_joined (Nat.le_of_ble_eq_true rfl) ?_
  intro X C T
  refine fc_aload_n C dX6_joined_0 rfl rfl ?_
  refine fh_getf C dX6_joined_1 fl_X6_24 rfl rfl ?_
  refine fh_callV (y := mX3_isJoined) C dX6_joined_4 ml_X6_98 mi_X3_isJoined im_X3_isJoined se_X3_isJoined (c_isJoined (E.net hv) hv.g) rfl rfl (by decide) rfl (Nat.le_of_ble_eq_true rfl) (Nat.zero_le _) (Nat.zero_le _) rfl ?_
  refine fh_callS (y := mX6_bit) C dX6_joined_7 ml_X6_102 mi_X6_bit st_X6_bit (c_bit) (by decide) rfl (Nat.le_of_ble_eq_true rfl) (Nat.zero_le _) (Nat.zero_le _) rfl ?_
  exact fh_iretE C T dX6_joined_10 (Or.inl rfl) (k_an.yes RC k_fr.rf rfl rfl)
theorem o_stable (RC : k_RC A F v ps st rf tx tl) : fh_E mX6_stable 4 [vR 0] A F (k_an A F 0 (fc_ind (s_stable (v_L v) (v 0) (v_c v))) v ps st rf tx tl) := by
  obtain ⟨E, hv, H, R⟩ := id RC
  refine fh_E.of mi_X6_stable (Nat.le_of_ble_eq_true rfl) ?_
  intro X C T
  refine fc_aload_n C dX6_stable_0 rfl rfl ?_
  refine fh_getf C dX6_stable_1 fl_X6_24 rfl rfl ?_
  refine fh_callV (y := mX3_isStableHeap) C dX6_stable_4 ml_X6_146 mi_X3_isStableHeap im_X3_isStableHeap se_X3_isStableHeap (c_isStableHeap (E.net hv) hv.g E.ch hv.cR) rfl rfl (by decide) rfl (Nat.le_of_ble_eq_true rfl) (Nat.zero_le _) (Nat.zero_le _) rfl ?_
  refine fh_callS (y := mX6_bit) C dX6_stable_7 ml_X6_102 mi_X6_bit st_X6_bit (c_bit) (by decide) rfl (Nat.le_of_ble_eq_true rfl) (Nat.zero_le _) (Nat.zero_le _) rfl ?_
  exact fh_iretE C T dX6_stable_10 (Or.inl rfl) (k_an.yes RC k_fr.rf rfl rfl)
theorem o_script (RC : k_RC A F v ps st rf tx tl) {p : Int} (hp : fc_R p) : fh_E mX6_script 4 [vR 0, vI p] A F (k_an A F (x_pt v p) (v (31 + p)) v ps st rf tx tl) := by
  obtain ⟨E, hv, H, R⟩ := id RC
  have hn := hv.n
  refine fh_E.of mi_X6_script (Nat.le_of_ble_eq_true rfl) ?_
  intro X C T
  refine fc_aload_n C dX6_script_0 rfl rfl ?_
  refine fh_getf C dX6_script_1 fl_X6_24 rfl rfl ?_
  refine fc_iload_n C dX6_script_4 rfl rfl ?_
  refine fh_callV (y := mX3_hasPoint) C dX6_script_5 ml_X6_91 mi_X3_hasPoint im_X3_hasPoint se_X3_hasPoint (c_hasPoint (E.net hv) hp) rfl rfl (by decide) rfl (Nat.le_of_ble_eq_true rfl) (Nat.zero_le _) (Nat.zero_le _) rfl ?_
  refine fc_if_ne (tgt := 18) C dX6_script_8 (by decide) (fc_ind_R _) (fun c8 => ?_) (fun c8 => ?_)
  · have c8 := fc_ind_ne c8
    refine fc_aload_n C dX6_script_18 rfl rfl ?_
    refine fh_getf C dX6_script_19 fl_X6_24 rfl rfl ?_
    refine fh_getf C dX6_script_22 fl_X6_140 rfl rfl ?_
    refine fc_iload_n C dX6_script_25 rfl rfl ?_
    refine fh_iaload C dX6_script_26 (fun _ _ => rfl) (by omega) (by omega) (by decide) ?_
    exact fh_iretE C T dX6_script_27 (Or.inl rfl) (k_an.yes RC k_fr.rf (if_pos c8) (E.2.2.2.1 p c8.1 (by omega)).symm)
  · have c8 := fc_ind_0 c8
    refine fc_aload_n C dX6_script_11 rfl rfl ?_
    refine fc_bipush C dX6_script_12 (by decide) ?_
    refine fh_callV (y := mX6_refuse) C dX6_script_14 ml_X6_80 mi_X6_refuse im_X6_refuse se_X6_refuse (c_refuse (Or.inl rfl)) rfl rfl (by decide) rfl (Nat.le_of_ble_eq_true rfl) (Nat.zero_le _) (Nat.zero_le _) rfl ?_
    exact fh_iretE C T dX6_script_17 (Or.inl rfl) (k_an.no RC (if_neg c8) (Or.inl rfl))
theorem o_of (RC : k_RC A F v ps st rf tx tl) {p w : Int} (hp : fc_R p) (hw : fc_R w) : fh_E mX6_of 4 [vR 0, vI p, vI w] A F (k_an A F (x_of v p w) (a_of v p w) v ps st rf tx tl) := by
  obtain ⟨E, hv, H, R⟩ := id RC
  have hn := hv.n
  refine fh_E.of mi_X6_of (Nat.le_of_ble_eq_true rfl) ?_
  intro X C T
  have bad : ¬ ((0 ≤ p ∧ p < v 0) ∧ 0 ≤ w ∧ w ≤ 2) → ∀ ls : List (Option fc_AV), fc_W X 0 0 159 (fc_H A F) 20 (some (vR 0) :: ls) [] := by
    intro h ls
    refine fc_aload_n C dX6_of_20 rfl rfl ?_
    refine fc_bipush C dX6_of_21 (by decide) ?_
    refine fh_callV (y := mX6_refuse) C dX6_of_23 ml_X6_80 mi_X6_refuse im_X6_refuse se_X6_refuse (c_refuse (Or.inl rfl)) rfl rfl (by decide) rfl (Nat.le_of_ble_eq_true rfl) (Nat.zero_le _) (Nat.zero_le _) rfl ?_
    exact fh_iretE C T dX6_of_26 (Or.inl rfl) (k_an.no RC (if_neg h) (Or.inl rfl))
  refine fc_aload_n C dX6_of_0 rfl rfl ?_
  refine fh_getf C dX6_of_1 fl_X6_24 rfl rfl ?_
  refine fc_iload_n C dX6_of_4 rfl rfl ?_
  refine fh_callV (y := mX3_hasPoint) C dX6_of_5 ml_X6_91 mi_X3_hasPoint im_X3_hasPoint se_X3_hasPoint (c_hasPoint (E.net hv) hp) rfl rfl (by decide) rfl (Nat.le_of_ble_eq_true rfl) (Nat.zero_le _) (Nat.zero_le _) rfl ?_
  refine fc_if_eq (tgt := 20) C dX6_of_8 (by decide) (fc_ind_R _) (fun c8 => ?_) (fun c8 => ?_)
  · have := fc_ind_0 c8
    exact bad (by omega) _
  · have c8 := fc_ind_ne c8
    refine fc_iload_n C dX6_of_11 rfl rfl ?_
    refine fc_if_lt (tgt := 20) C dX6_of_12 (by decide) (hw) (fun c12 => ?_) (fun c12 => ?_)
    · exact bad (by omega) _
    · refine fc_iload_n C dX6_of_15 rfl rfl ?_
      refine fc_iconst C dX6_of_16 ?_
      refine fc_icmp_le (tgt := 27) C dX6_of_17 (by decide) (hw) (fc_Rm (by omega)) (fun c17 => ?_) (fun c17 => ?_)
      · have hx : x_of v p w = 0 := if_pos ⟨c8, c12, c17⟩
        refine fc_iload_n C dX6_of_27 rfl rfl ?_
        refine fc_if_ne (tgt := 45) C dX6_of_28 (by decide) (hw) (fun c28 => ?_) (fun c28 => ?_)
        · refine fc_iload_n C dX6_of_45 rfl rfl ?_
          refine fc_iconst C dX6_of_46 ?_
          refine fc_icmp_ne (tgt := 61) C dX6_of_47 (by decide) (hw) (fc_Rm (by omega)) (fun c47 => ?_) (fun c47 => ?_)
          · refine fc_aload_n C dX6_of_61 rfl rfl ?_
            refine fh_getf C dX6_of_62 fl_X6_24 rfl rfl ?_
            refine fc_iload_n C dX6_of_65 rfl rfl ?_
            refine fh_callV (y := mX3_isFullAt) C dX6_of_66 ml_X6_143 mi_X3_isFullAt im_X3_isFullAt se_X3_isFullAt (c_isFullAt (E.net hv) hv.g E.ch hv.cR c8.1 (by omega)) rfl rfl (by decide) rfl (Nat.le_of_ble_eq_true rfl) (Nat.zero_le _) (Nat.zero_le _) rfl ?_
            refine fh_callS (y := mX6_bit) C dX6_of_69 ml_X6_102 mi_X6_bit st_X6_bit (c_bit) (by decide) rfl (Nat.le_of_ble_eq_true rfl) (Nat.zero_le _) (Nat.zero_le _) rfl ?_
            exact fh_iretE C T dX6_of_72 (Or.inl rfl) (k_an.yes RC k_fr.rf hx (by unfold a_of; rw [if_neg c28, if_neg c47]))
          · have c47 : w = 1 := by omega
            refine fc_aload_n C dX6_of_50 rfl rfl ?_
            refine fh_getf C dX6_of_51 fl_X6_24 rfl rfl ?_
            refine fc_iload_n C dX6_of_54 rfl rfl ?_
            refine fh_callV (y := mX3_valence) C dX6_of_55 ml_X6_95 mi_X3_valence im_X3_valence se_X3_valence (c_valence (E.net hv) c8.1 (by omega)) rfl rfl (by decide) rfl (Nat.le_of_ble_eq_true rfl) (Nat.zero_le _) (Nat.zero_le _) rfl ?_
            refine fc_goto (tgt := 72) C dX6_of_58 (by decide) ?_
            exact fh_iretE C T dX6_of_72 (Or.inl rfl) (k_an.yes RC k_fr.rf hx (by unfold a_of; rw [if_neg c28, if_pos c47]))
        · have c28 : w = 0 := by omega
          refine fc_aload_n C dX6_of_31 rfl rfl ?_
          refine fh_getf C dX6_of_32 fl_X6_24 rfl rfl ?_
          refine fh_getf C dX6_of_35 fl_X6_114 rfl rfl ?_
          refine fc_iload_n C dX6_of_38 rfl rfl ?_
          refine fh_iaload C dX6_of_39 (fun _ _ => rfl) (by omega) (by omega) (by decide) ?_
          refine fc_sipush C dX6_of_40 (by decide) ?_
          refine fc_iadd C dX6_of_43 ?_
          have e := E.2.2.1 p c8.1 (by omega)
          rw [show (3 + 7 : Nat) = 10 from rfl] at e
          exact fh_iretE C T dX6_of_44 (Or.inl rfl) (k_an.yes RC k_fr.rf hx (by unfold a_of; rw [if_pos c28, e]))
      · exact bad (by omega) _
theorem o_burns (RC : k_RC A F v ps st rf tx tl) {w : Int} (hw : fc_R w) : fh_E mX6_burns 4 [vR 0, vI w] A F (k_an A F (x_burn v w) (a_burn v w) v ps st rf tx tl) := by
  obtain ⟨E, hv, H, R⟩ := id RC
  have hn := hv.n
  have hE := E.1
  refine fh_E.of mi_X6_burns (Nat.le_of_ble_eq_true rfl) ?_
  intro X C T
  have bad : ¬ (0 ≤ w ∧ w ≤ 2) → ∀ ls : List (Option fc_AV), fc_W X 0 0 159 (fc_H A F) 9 (some (vR 0) :: ls) [] := by
    intro h ls
    refine fc_aload_n C dX6_burns_9 rfl rfl ?_
    refine fc_bipush C dX6_burns_10 (by decide) ?_
    refine fh_callV (y := mX6_refuse) C dX6_burns_12 ml_X6_80 mi_X6_refuse im_X6_refuse se_X6_refuse (c_refuse (Or.inl rfl)) rfl rfl (by decide) rfl (Nat.le_of_ble_eq_true rfl) (Nat.zero_le _) (Nat.zero_le _) rfl ?_
    exact fh_iretE C T dX6_burns_15 (Or.inl rfl) (k_an.no RC (if_neg h) (Or.inl rfl))
  refine fc_iload_n C dX6_burns_0 rfl rfl ?_
  refine fc_if_lt (tgt := 9) C dX6_burns_1 (by decide) (hw) (fun c1 => ?_) (fun c1 => ?_)
  · exact bad (by omega) _
  · refine fc_iload_n C dX6_burns_4 rfl rfl ?_
    refine fc_iconst C dX6_burns_5 ?_
    refine fc_icmp_le (tgt := 16) C dX6_burns_6 (by decide) (hw) (fc_Rm (by omega)) (fun c6 => ?_) (fun c6 => ?_)
    · refine fc_aload_n C dX6_burns_16 rfl rfl ?_
      refine fh_getf C dX6_burns_17 fl_X6_24 rfl rfl ?_
      refine fh_callV (y := mX3_isStableHeap) C dX6_burns_20 ml_X6_146 mi_X3_isStableHeap im_X3_isStableHeap se_X3_isStableHeap (c_isStableHeap (E.net hv) hv.g E.ch hv.cR) rfl rfl (by decide) rfl (Nat.le_of_ble_eq_true rfl) (Nat.zero_le _) (Nat.zero_le _) rfl ?_
      refine fc_if_ne (tgt := 33) C dX6_burns_23 (by decide) (fc_ind_R _) (fun c23 => ?_) (fun c23 => ?_)
      · have c23 := fc_ind_ne c23
        have hx : x_burn v w = 0 := by
          unfold x_burn
          rw [if_pos ⟨c1, c6⟩, if_pos (by unfold fc_ind; rw [if_pos c23])]
        have loop : ∀ (m : Nat) (k S u : Int) (y : Option fc_AV), 0 ≤ k → k ≤ v 0 → v 0 - k < m → 0 ≤ S → S < 32 → S = s_bn (v_L v) (v 0) (v_c v) k.toNat → u = s_wv (v_L v) (v 0) (v_c v) k.toNat → fc_W X 0 0 159 (fc_H A F) 40 [some (vR 0), some (vI w), some (vI S), some (vI u), some (vI k), y] [] := by
          intro m
          induction m with
          | zero => intro k S u y h0 h1 h2; exfalso; omega
          | succ m ih =>
            intro k S u y h0 h1 h2 S0 S1 eS eu
            refine fc_iload C dX6_burns_40 rfl ?_
            refine fc_aload_n C dX6_burns_42 rfl rfl ?_
            refine fh_getf C dX6_burns_43 fl_X6_24 rfl rfl ?_
            refine fh_getf C dX6_burns_46 fl_X6_54 rfl rfl ?_
            refine fc_icmp_ge (tgt := 81) C dX6_burns_49 (by decide) (fc_Rm (by omega)) (fc_Rm (by omega)) (fun c49 => ?_) (fun c49 => ?_)
            · have ek : k = v 0 := by omega
              rw [ek] at eS eu
              refine fc_iload_n C dX6_burns_81 rfl rfl ?_
              refine fc_if_ne (tgt := 87) C dX6_burns_82 (by decide) (hw) (fun c82 => ?_) (fun c82 => ?_)
              · refine fc_iload_n C dX6_burns_87 rfl rfl ?_
                refine fc_iconst C dX6_burns_88 ?_
                refine fc_icmp_ne (tgt := 96) C dX6_burns_89 (by decide) (hw) (fc_Rm (by omega)) (fun c89 => ?_) (fun c89 => ?_)
                · have hb := fb_all_bd (n := v 0) (by omega) (by omega)
                  refine fc_iload_n C dX6_burns_96 rfl rfl ?_
                  refine fc_aload_n C dX6_burns_97 rfl rfl ?_
                  refine fh_getf C dX6_burns_98 fl_X6_24 rfl rfl ?_
                  refine fh_callV (y := mX3_allPoints) C dX6_burns_101 ml_X6_152 mi_X3_allPoints im_X3_allPoints se_X3_allPoints (c_allPoints (E.net hv)) rfl rfl (by decide) rfl (Nat.le_of_ble_eq_true rfl) (Nat.zero_le _) (Nat.zero_le _) rfl ?_
                  refine fc_icmp_ne (tgt := 111) C dX6_burns_104 (by decide) (fc_Rm (by omega)) (fc_Rm (by omega)) (fun c104 => ?_) (fun c104 => ?_)
                  · refine fc_iconst C dX6_burns_111 ?_
                    refine fc_eq (st' := [vI (fc_ind False)]) rfl (by unfold fc_ind; rw [if_neg id]) ?_
                    refine fh_callS (y := mX6_bit) C dX6_burns_112 ml_X6_102 mi_X6_bit st_X6_bit (c_bit (P := False)) (by decide) rfl (Nat.le_of_ble_eq_true rfl) (Nat.zero_le _) (Nat.zero_le _) rfl ?_
                    refine fh_iretE C T dX6_burns_115 (Or.inl rfl) (k_an.yes RC k_fr.rf hx ?_)
                    unfold a_burn
                    rw [if_neg c82, if_neg c89, ← eS]
                    unfold fc_ind
                    rw [if_neg c104, if_neg id]
                  · refine fc_iconst C dX6_burns_107 ?_
                    refine fc_goto (tgt := 112) C dX6_burns_108 (by decide) ?_
                    refine fc_eq (st' := [vI (fc_ind True)]) rfl (by unfold fc_ind; rw [if_pos trivial]) ?_
                    refine fh_callS (y := mX6_bit) C dX6_burns_112 ml_X6_102 mi_X6_bit st_X6_bit (c_bit (P := True)) (by decide) rfl (Nat.le_of_ble_eq_true rfl) (Nat.zero_le _) (Nat.zero_le _) rfl ?_
                    refine fh_iretE C T dX6_burns_115 (Or.inl rfl) (k_an.yes RC k_fr.rf hx ?_)
                    unfold a_burn
                    rw [if_neg c82, if_neg c89, ← eS]
                    unfold fc_ind
                    rw [if_pos (by omega), if_pos trivial]
                · refine fc_iload_n C dX6_burns_92 rfl rfl ?_
                  refine fc_goto (tgt := 115) C dX6_burns_93 (by decide) ?_
                  refine fh_iretE C T dX6_burns_115 (Or.inl rfl) (k_an.yes RC k_fr.rf hx ?_)
                  unfold a_burn
                  rw [if_neg c82, if_pos (by omega), eu]
              · refine fc_iload_n C dX6_burns_85 rfl rfl ?_
                refine fh_iretE C T dX6_burns_86 (Or.inl rfl) (k_an.yes RC k_fr.rf hx ?_)
                unfold a_burn
                rw [if_pos (by omega), eS]
            · obtain ⟨z, z0, z1, z2, hM⟩ := c_nextToBurn (E.net hv) hv.g E.ch hv.cR S0 S1
              have hor := fun o o0 o1 => fb_or2 (o := o) S0 S1 z0 z1 o0 o1
              have hnb : s_nb (v_L v) (v 0) (v_c v) S (fc_or S z) := by
                refine ⟨(hor 0 (by omega) (by omega)).1, (hor 0 (by omega) (by omega)).2.1, fun o o0 o1 => ?_⟩
                rw [(hor o o0 o1).2.2, z2 o o0 o1]
                rcases fb_01 S o with q | q
                · rw [q]; exact ⟨fun h => Or.inr ⟨(h.resolve_left (by omega)).1, (h.resolve_left (by omega)).2.2⟩, fun h => Or.inr ⟨(h.resolve_left (by omega)).1, rfl, (h.resolve_left (by omega)).2⟩⟩
                · rw [q]; exact ⟨fun _ => Or.inl rfl, fun _ => Or.inl rfl⟩
              have ebs : s_bn (v_L v) (v 0) (v_c v) (k.toNat + 1) = fc_or S z := by
                show s_bs _ _ _ (s_bn _ _ _ _) = _
                rw [← eS]
                exact s_bs_eq hnb
              have ek1 : (k + 1).toNat = k.toNat + 1 := by omega
              have hz : z = 0 ↔ fc_or S z = S := by
                constructor
                · intro q
                  refine fb_ext hnb.1 hnb.2.1 S0 S1 fun o o0 o1 => ?_
                  have z3 := (hor o o0 o1).2.2
                  have z4 : fb_t z o = 0 := by rw [q]; exact fb_small (by omega) (by have := fb_pow5 o0 o1; omega)
                  rcases fb_01 (fc_or S z) o with a | a <;> rcases fb_01 S o with b | b <;> omega
                · intro q
                  refine fb_ext z0 z1 (by omega) (by omega) fun o o0 o1 => ?_
                  have z3 := (hor o o0 o1).2.2
                  have z5 := z2 o o0 o1
                  rw [q] at z3
                  rw [show fb_t 0 o = 0 from fb_small (by omega) (by have := fb_pow5 o0 o1; omega)]
                  rcases fb_01 z o with a | a
                  · exact a
                  · exfalso
                    have := z3.2 (Or.inr a)
                    have := (z5.1 a).2.1
                    omega
              have nxt : ∀ u' : Int, u' = s_wv (v_L v) (v 0) (v_c v) (k.toNat + 1) → fc_W X 0 0 159 (fc_H A F) 70 [some (vR 0), some (vI w), some (vI S), some (vI u'), some (vI k), some (vI z)] [] := by
                intro u' hu'
                refine fc_iload_n C dX6_burns_70 rfl rfl ?_
                refine fc_iload C dX6_burns_71 rfl ?_
                refine fc_ior C dX6_burns_73 ?_
                refine fc_istore_n C dX6_burns_74 rfl (by decide) ?_
                refine fc_iinc C dX6_burns_75 rfl (by decide) ?_
                refine fc_goto (tgt := 40) C dX6_burns_78 (by decide) ?_
                exact ih (k + 1) _ _ _ (by omega) (by omega) (by omega) hnb.1 hnb.2.1 (by rw [ek1, ebs]) (by rw [ek1, hu'])
              refine fc_aload_n C dX6_burns_52 rfl rfl ?_
              refine fh_getf C dX6_burns_53 fl_X6_24 rfl rfl ?_
              refine fc_iload_n C dX6_burns_56 rfl rfl ?_
              refine fh_callV (y := mX3_nextToBurn) C dX6_burns_57 ml_X6_149 mi_X3_nextToBurn im_X3_nextToBurn se_X3_nextToBurn (hM) rfl rfl (by decide) rfl (Nat.le_of_ble_eq_true rfl) (Nat.zero_le _) (Nat.zero_le _) rfl ?_
              refine fc_istore C dX6_burns_60 (by decide) ?_
              refine fc_iload C dX6_burns_62 rfl ?_
              refine fc_if_eq (tgt := 70) C dX6_burns_64 (by decide) (fc_Rm (by omega)) (fun c64 => ?_) (fun c64 => ?_)
              · refine nxt u ?_
                show u = s_wv _ _ _ _ + _
                rw [ebs, ← eS, if_pos (hz.1 (by omega)), ← eu]; omega
              · refine fc_iinc C dX6_burns_67 rfl (by decide) ?_
                refine nxt _ ?_
                show _ = s_wv _ _ _ _ + _
                rw [ebs, ← eS, if_neg (fun q => by have := hz.2 q; omega), ← eu]
        refine fc_iconst C dX6_burns_33 ?_
        refine fc_istore_n C dX6_burns_34 rfl (by decide) ?_
        refine fc_iconst C dX6_burns_35 ?_
        refine fc_istore_n C dX6_burns_36 rfl (by decide) ?_
        refine fc_iconst C dX6_burns_37 ?_
        refine fc_istore C dX6_burns_38 (by decide) ?_
        exact loop 6 0 1 0 none (by omega) (by omega) (by omega) (by omega) (by omega) rfl rfl
      · have c23 := fc_ind_0 c23
        refine fc_aload_n C dX6_burns_26 rfl rfl ?_
        refine fc_bipush C dX6_burns_27 (by decide) ?_
        refine fh_callV (y := mX6_refuse) C dX6_burns_29 ml_X6_80 mi_X6_refuse im_X6_refuse se_X6_refuse (c_refuse (Or.inr (Or.inl rfl))) rfl rfl (by decide) rfl (Nat.le_of_ble_eq_true rfl) (Nat.zero_le _) (Nat.zero_le _) rfl ?_
        refine fh_iretE C T dX6_burns_32 (Or.inl rfl) (k_an.no RC ?_ (Or.inr (Or.inl rfl)))
        unfold x_burn
        rw [if_pos ⟨c1, c6⟩, if_neg (by unfold fc_ind; rw [if_neg c23]; decide)]
    · exact bad (by omega) _
theorem o_clear (RC : k_RC A F v ps st rf tx tl) : fh_E mX6_clear 4 [vR 0] A F (k_ans A F tl v ps st rf tx 0) := by
  obtain ⟨E, hv, H, R⟩ := id RC
  obtain ⟨r1, r2, r3, r4, r5⟩ := id R
  refine fh_E.of mi_X6_clear (Nat.le_of_ble_eq_true rfl) ?_
  intro X C T
  refine fc_aload_n C dX6_clear_0 rfl rfl ?_
  refine fh_getf C dX6_clear_1 fl_X6_47 rfl rfl ?_
  refine fh_getf C dX6_clear_4 fl_X6_232 rfl rfl ?_
  refine fc_istore_n C dX6_clear_7 rfl (by decide) ?_
  refine fc_aload_n C dX6_clear_8 rfl rfl ?_
  refine fh_getf C dX6_clear_9 fl_X6_47 rfl rfl ?_
  refine fc_iconst C dX6_clear_12 ?_
  refine fh_putf _ C dX6_clear_13 fl_X6_232 rfl (Nat.le_of_ble_eq_true rfl) rfl rfl ?_
  refine fc_iload_n C dX6_clear_16 rfl rfl ?_
  refine fh_iretE C T dX6_clear_17 (Or.inl rfl) ⟨by rw [r2], ⟨E.of_fr (by rw [ff_n (by omega)]) (fun _ _ _ _ => rfl), hv, H.fr (fun i i0 i1 => ⟨rfl, ff_n (by omega)⟩), r1, by simp [ff_up], by omega, by omega, fun i i0 i1 => by omega⟩, fun i hi => ⟨rfl, ff_n (by omega)⟩⟩
theorem c_append {c tl : Int} (h : F 139 1 = tl) (h0 : 0 ≤ tl) (h1 : tl < 120) : fh_M mX5_append 0 [vR 139, vI c] A F none (fa_up A 140 (fc_set (A 140) tl c)) (ff_up F 139 1 (tl + 1)) := by
  refine fh_M.of mi_X5_append (Nat.le_of_ble_eq_true rfl) ?_
  intro X C T
  refine fc_aload_n C dX5_append_0 rfl rfl ?_
  refine fh_getf C dX5_append_1 fl_X5_15 rfl rfl ?_
  refine fc_bipush C dX5_append_4 (by decide) ?_
  refine fc_icmp_ge (tgt := 29) C dX5_append_6 (by decide) (fc_Rm (by omega)) (fc_Rm (by omega)) (fun c6 => ?_) (fun c6 => ?_)
  · exfalso; omega
  · refine fc_aload_n C dX5_append_9 rfl rfl ?_
    refine fh_getf C dX5_append_10 fl_X5_9 rfl rfl ?_
    refine fc_aload_n C dX5_append_13 rfl rfl ?_
    refine fh_getf C dX5_append_14 fl_X5_15 rfl rfl ?_
    refine fc_iload_n C dX5_append_17 rfl rfl ?_
    refine fh_iastore C dX5_append_18 (fun _ _ => rfl) (by omega) (by omega) (by decide) ?_
    refine fc_aload_n C dX5_append_19 rfl rfl ?_
    refine fc_dup C dX5_append_20 rfl ?_
    refine fh_getf C dX5_append_21 fl_X5_15 rfl rfl ?_
    refine fc_iconst C dX5_append_24 ?_
    refine fc_iadd C dX5_append_25 ?_
    refine fh_putf _ C dX5_append_26 fl_X5_15 rfl (Nat.le_of_ble_eq_true rfl) rfl rfl ?_
    exact fh_vret C T dX5_append_29 (by rw [h])
theorem o_type (RC : k_RC A F v ps st rf tx tl) {c : Int} (hc : fc_R c) : fh_E mX6_type 4 [vR 0, vI c] A F (k_ans A F (if x_ty tl c = 0 then tl + 1 else x_ty tl c) v ps st (if x_ty tl c = 0 then rf else h_rf rf (x_ty tl c)) (if x_ty tl c = 0 then fc_set tx tl c else tx) (if x_ty tl c = 0 then tl + 1 else tl)) := by
  obtain ⟨E, hv, H, R⟩ := id RC
  obtain ⟨r1, r2, r3, r4, r5⟩ := id R
  refine fh_E.of mi_X6_type (Nat.le_of_ble_eq_true rfl) ?_
  intro X C T
  have bad : ¬ (0 ≤ c ∧ c ≤ 127) → ∀ ls : List (Option fc_AV), fc_W X 0 0 159 (fc_H A F) 10 (some (vR 0) :: ls) [] := by
    intro h ls
    refine fc_aload_n C dX6_type_10 rfl rfl ?_
    refine fc_bipush C dX6_type_11 (by decide) ?_
    refine fh_callV (y := mX6_refuse) C dX6_type_13 ml_X6_80 mi_X6_refuse im_X6_refuse se_X6_refuse (c_refuse (Or.inl rfl)) rfl rfl (by decide) rfl (Nat.le_of_ble_eq_true rfl) (Nat.zero_le _) (Nat.zero_le _) rfl ?_
    have e : x_ty tl c = -2 := if_neg h
    refine fh_iretE C T dX6_type_16 (Or.inl rfl) ?_
    rw [e]
    exact k_ans.ref RC (Or.inl rfl)
  refine fc_iload_n C dX6_type_0 rfl rfl ?_
  refine fc_if_lt (tgt := 10) C dX6_type_1 (by decide) (hc) (fun c1 => ?_) (fun c1 => ?_)
  · exact bad (by omega) _
  · refine fc_iload_n C dX6_type_4 rfl rfl ?_
    refine fc_bipush C dX6_type_5 (by decide) ?_
    refine fc_icmp_le (tgt := 17) C dX6_type_7 (by decide) (hc) (fc_Rm (by omega)) (fun c7 => ?_) (fun c7 => ?_)
    · refine fc_aload_n C dX6_type_17 rfl rfl ?_
      refine fh_getf C dX6_type_18 fl_X6_47 rfl rfl ?_
      refine fh_getf C dX6_type_21 fl_X6_232 rfl rfl ?_
      refine fc_bipush C dX6_type_24 (by decide) ?_
      refine fc_icmp_lt (tgt := 36) C dX6_type_26 (by decide) (fc_Rm (by omega)) (fc_Rm (by omega)) (fun c26 => ?_) (fun c26 => ?_)
      · have e : x_ty tl c = 0 := by unfold x_ty; rw [if_pos ⟨c1, c7⟩, if_pos (by omega)]
        refine fc_aload_n C dX6_type_36 rfl rfl ?_
        refine fh_getf C dX6_type_37 fl_X6_47 rfl rfl ?_
        refine fc_iload_n C dX6_type_40 rfl rfl ?_
        refine fh_callVv (y := mX5_append) C dX6_type_41 ml_X6_235 mi_X5_append im_X5_append se_X5_append (c_append r2 r3 (by omega)) rfl rfl (by decide) rfl (Nat.le_of_ble_eq_true rfl) (Nat.zero_le _) (Nat.zero_le _) rfl ?_
        refine fc_aload_n C dX6_type_44 rfl rfl ?_
        refine fh_getf C dX6_type_45 fl_X6_47 rfl rfl ?_
        refine fh_getf C dX6_type_48 fl_X6_232 rfl rfl ?_
        refine fh_iretE C T dX6_type_51 (Or.inl rfl) ?_
        rw [if_pos e, if_pos e, if_pos e, if_pos e]
        refine ⟨by simp [ff_up], ⟨E.of_fr (by rw [ff_n (by omega)]) (fun i i0 i1 _ => fa_n _ _ (by omega)), hv, H.fr (fun i i0 i1 => ⟨fa_n _ _ (by omega), ff_n (by omega)⟩), fun i i0 i1 => by rw [fa_n _ _ (by omega)]; exact r1 i i0 i1, by simp [ff_up], by omega, by omega, fun i i0 i1 => ?_⟩, fun i hi => ⟨fa_n _ _ (by omega), ff_n (by omega)⟩⟩
        rw [fa_s]
        unfold fc_set
        by_cases q : i = tl
        · rw [if_pos q, if_pos q]; exact ⟨rfl, c1, c7⟩
        · rw [if_neg q, if_neg q]; exact r5 i i0 (by omega)
      · have e : x_ty tl c = -4 := by unfold x_ty; rw [if_pos ⟨c1, c7⟩, if_neg (by omega)]
        refine fc_aload_n C dX6_type_29 rfl rfl ?_
        refine fc_bipush C dX6_type_30 (by decide) ?_
        refine fh_callV (y := mX6_refuse) C dX6_type_32 ml_X6_80 mi_X6_refuse im_X6_refuse se_X6_refuse (c_refuse (Or.inr (Or.inr rfl))) rfl rfl (by decide) rfl (Nat.le_of_ble_eq_true rfl) (Nat.zero_le _) (Nat.zero_le _) rfl ?_
        refine fh_iretE C T dX6_type_35 (Or.inl rfl) ?_
        rw [e]
        exact k_ans.ref RC (Or.inr (Or.inr rfl))
    · exact bad (by omega) _
theorem o_back (RC : k_RC A F v ps st rf tx tl) : fh_E mX6_back 4 [vR 0] A F (k_ans A F (if x_bk st = 0 then st - 1 else x_bk st) (if x_bk st = 0 then ps (st - 1) else v) ps (if x_bk st = 0 then st - 1 else st) (if x_bk st = 0 then rf else h_rf rf (x_bk st)) tx tl) := by
  obtain ⟨E, hv, H, R⟩ := id RC
  obtain ⟨w, h1, h2, h3, h4, h5, h6, h7⟩ := id H
  refine fh_E.of mi_X6_back (Nat.le_of_ble_eq_true rfl) ?_
  intro X C T
  refine fc_aload_n C dX6_back_0 rfl rfl ?_
  refine fh_getf C dX6_back_1 fl_X6_33 rfl rfl ?_
  refine fh_getf C dX6_back_4 fl_X6_253 rfl rfl ?_
  refine fc_iconst C dX6_back_7 ?_
  refine fc_icmp_ge (tgt := 18) C dX6_back_8 (by decide) (fc_Rm (by omega)) (fc_Rm (by omega)) (fun c8 => ?_) (fun c8 => ?_)
  · have e : x_bk st = 0 := if_pos (by omega)
    have hst : 1 ≤ st := by omega
    refine fc_aload_n C dX6_back_18 rfl rfl ?_
    refine fh_getf C dX6_back_19 fl_X6_33 rfl rfl ?_
    refine fc_aload_n C dX6_back_22 rfl rfl ?_
    refine fh_getf C dX6_back_23 fl_X6_24 rfl rfl ?_
    refine fh_callVv (y := mX2_takeNewest) C dX6_back_26 ml_X6_256 mi_X2_takeNewest im_X2_takeNewest se_X2_takeNewest (c_takeNewest h1 h4 h2 h3 hst h6) rfl rfl (by decide) rfl (Nat.le_of_ble_eq_true rfl) (Nat.zero_le _) (Nat.zero_le _) rfl ?_
    refine fc_aload_n C dX6_back_29 rfl rfl ?_
    refine fh_getf C dX6_back_30 fl_X6_33 rfl rfl ?_
    refine fh_getf C dX6_back_33 fl_X6_253 rfl rfl ?_
    have hj := h7 (st - 1) (by omega) (by omega)
    rw [show (w + 7 - st + (st - 1)) % 6 = w by omega] at hj
    have hcp := hj.1.cp (b := 3) (Or.inl (by omega))
    refine fh_iretE C T dX6_back_36 (Or.inl rfl) ?_
    rw [if_pos e, if_pos e, if_pos e, if_pos e]
    have fa : ∀ i : Nat, ¬ (5 ≤ i ∧ i < 17) → k_cp A 3 (38 + 14 * w.toNat) i = A i := fun i hi => by
      unfold k_cp
      rw [fa_sel_no]
      simp
      omega
    have fq : ∀ i : Nat, i ≠ 3 → i ≠ 36 → ff_up (ff_up (ff_up F 3 0 (F (38 + 14 * w.toNat) 0)) 36 1 ((w + 5) % 6)) 36 2 (st - 1) i = F i := fun i i1 i2 => by rw [ff_n i2, ff_n i2, ff_n i1]
    refine ⟨by simp [ff_up], ⟨hcp.1.of_fr (by rw [ff_n (by omega), ff_n (by omega)]) (fun _ _ _ _ => rfl), hj.2, ⟨(w + 5) % 6, by simp [ff_up], by omega, by omega, by simp [ff_up], by omega, by omega, fun j j0 j1 => ⟨?_, (h7 j j0 (by omega)).2⟩⟩, R.fr (fa 1 (by omega)) (fq 139 (by omega) (by omega)) (fa 140 (by omega))⟩, fun i hi => ⟨fa i (by omega), fq i (by omega) (by omega)⟩⟩
    rw [show ((w + 5) % 6 + 7 - (st - 1) + j) % 6 = (w + 7 - st + j) % 6 by omega]
    exact (h7 j j0 (by omega)).1.of_fr (by rw [fq _ (by omega) (by omega)]) (fun i i0 i1 _ => fa i (by omega))
  · have e : x_bk st = -3 := if_neg (by omega)
    refine fc_aload_n C dX6_back_11 rfl rfl ?_
    refine fc_bipush C dX6_back_12 (by decide) ?_
    refine fh_callV (y := mX6_refuse) C dX6_back_14 ml_X6_80 mi_X6_refuse im_X6_refuse se_X6_refuse (c_refuse (Or.inr (Or.inl rfl))) rfl rfl (by decide) rfl (Nat.le_of_ble_eq_true rfl) (Nat.zero_le _) (Nat.zero_le _) rfl ?_
    refine fh_iretE C T dX6_back_17 (Or.inl rfl) ?_
    rw [e]
    exact k_ans.ref RC (Or.inr (Or.inl rfl))
theorem o_told (RC : k_RC A F v ps st rf tx tl) {w : Int} (hw : fc_R w) : fh_E mX6_told 3 [vR 0, vI w] A F (k_an A F (x_td w) (a_td v st rf tl w) v ps st rf tx tl) := by
  obtain ⟨E, hv, H, R⟩ := id RC
  obtain ⟨r1, r2, r3, r4, r5⟩ := id R
  obtain ⟨u, h1, h2, h3, h4, h5, h6, h7⟩ := id H
  refine fh_E.of mi_X6_told (Nat.le_of_ble_eq_true rfl) ?_
  intro X C T
  refine fc_iload_n C dX6_told_0 rfl rfl ?_
  by_cases q : 0 ≤ w ∧ w ≤ 6
  · have hx : x_td w = 0 := if_pos q
    by_cases q3 : w < 3
    · refine fc_tableIn (off := 43) (tgt := 44) C dX6_told_1 hw q.1 q.2 (by have : w = 0 ∨ w = 1 ∨ w = 2 := (by omega); rcases this with e | e | e <;> subst e <;> rfl) (by decide) ?_
      refine fc_aload_n C dX6_told_44 rfl rfl ?_
      refine fh_getf C dX6_told_45 fl_X6_7 rfl rfl ?_
      refine fc_iload_n C dX6_told_48 rfl rfl ?_
      refine fh_iaload C dX6_told_49 (fun _ _ => rfl) (by omega) (by omega) (by decide) ?_
      exact fh_iretE C T dX6_told_50 (Or.inl rfl) (k_an.yes RC k_fr.rf hx (by unfold a_td; rw [if_pos q3, r1 w q.1 q3]))
    · by_cases q4 : w = 3
      · refine fc_tableIn (off := 50) (tgt := 51) C dX6_told_1 hw q.1 q.2 (by subst q4; rfl) (by decide) ?_
        refine fc_aload_n C dX6_told_51 rfl rfl ?_
        refine fh_getf C dX6_told_52 fl_X6_47 rfl rfl ?_
        refine fh_getf C dX6_told_55 fl_X6_232 rfl rfl ?_
        exact fh_iretE C T dX6_told_58 (Or.inl rfl) (k_an.yes RC k_fr.rf hx (by unfold a_td; rw [if_neg q3, if_pos q4, r2]))
      · by_cases q5 : w = 4
        · refine fc_tableIn (off := 58) (tgt := 59) C dX6_told_1 hw q.1 q.2 (by subst q5; rfl) (by decide) ?_
          refine fc_aload_n C dX6_told_59 rfl rfl ?_
          refine fh_getf C dX6_told_60 fl_X6_24 rfl rfl ?_
          refine fh_getf C dX6_told_63 fl_X6_54 rfl rfl ?_
          exact fh_iretE C T dX6_told_66 (Or.inl rfl) (k_an.yes RC k_fr.rf hx (by unfold a_td; rw [if_neg q3, if_neg q4, if_pos q5, E.1]))
        · by_cases q6 : w = 5
          · refine fc_tableIn (off := 66) (tgt := 67) C dX6_told_1 hw q.1 q.2 (by subst q6; rfl) (by decide) ?_
            refine fc_aload_n C dX6_told_67 rfl rfl ?_
            refine fh_getf C dX6_told_68 fl_X6_24 rfl rfl ?_
            refine fh_callV (y := mX3_keptBits) C dX6_told_71 ml_X6_259 mi_X3_keptBits im_X3_keptBits se_X3_keptBits (c_keptBits (kn := fun s => v (36 + 6 * s)) (fun s s0 s1 => E.2.2.2.2.1 s s0 s1) (fun s s0 s1 => hv.2.2.2.2.2.2.1 s s0 s1)) rfl rfl (by decide) rfl (Nat.le_of_ble_eq_true rfl) (Nat.zero_le _) (Nat.zero_le _) rfl ?_
            exact fh_iretE C T dX6_told_74 (Or.inl rfl) (k_an.yes RC k_fr.rf hx (by unfold a_td; rw [if_neg q3, if_neg q4, if_neg q5, if_pos q6]))
          · refine fc_tableIn (off := 74) (tgt := 75) C dX6_told_1 hw q.1 q.2 (by have : w = 6 := (by omega); subst this; rfl) (by decide) ?_
            refine fc_aload_n C dX6_told_75 rfl rfl ?_
            refine fh_getf C dX6_told_76 fl_X6_33 rfl rfl ?_
            refine fh_getf C dX6_told_79 fl_X6_253 rfl rfl ?_
            exact fh_iretE C T dX6_told_82 (Or.inl rfl) (k_an.yes RC k_fr.rf hx (by unfold a_td; rw [if_neg q3, if_neg q4, if_neg q5, if_neg q6, h4]))
  · refine fc_tableOut (tgt := 83) C dX6_told_1 hw (by omega) (by decide) ?_
    refine fc_aload_n C dX6_told_83 rfl rfl ?_
    refine fc_bipush C dX6_told_84 (by decide) ?_
    refine fh_callV (y := mX6_refuse) C dX6_told_86 ml_X6_80 mi_X6_refuse im_X6_refuse se_X6_refuse (c_refuse (Or.inl rfl)) rfl rfl (by decide) rfl (Nat.le_of_ble_eq_true rfl) (Nat.zero_le _) (Nat.zero_le _) rfl ?_
    exact fh_iretE C T dX6_told_89 (Or.inl rfl) (k_an.no RC (if_neg q) (Or.inl rfl))
end PUB3
