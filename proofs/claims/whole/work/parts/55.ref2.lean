/-! the reference: states, points, lines, draws, sets, adds -/
theorem fa_up2 {A : Nat → Int → Int} {i : Nat} {g h : Int → Int} : fa_up (fa_up A i g) i h = fa_up A i h := by
  funext j
  by_cases e : j = i
  · subst e; rw [fa_s, fa_s]
  · rw [fa_n _ _ e, fa_n _ _ e, fa_n _ _ e]
theorem ff_k {F : Nat → Nat → Int} {i k q : Nat} {z : Int} (h : q ≠ k) : ff_up F i k z i q = F i q := by unfold ff_up; rw [if_pos rfl, if_neg h]
theorem ff_s {F : Nat → Nat → Int} {i k : Nat} {z : Int} : ff_up F i k z i k = z := by unfold ff_up; rw [if_pos rfl, if_pos rfl]
theorem v_L_ln {v : Int → Int} {a b k x y : Int} (ha : 0 ≤ a ∧ a < 5) (hb : 0 ≤ b ∧ b < 5) (hx : 0 ≤ x ∧ x < 5) (hy : 0 ≤ y ∧ y < 5) : v_L (p_ln v a b k) x y = s_put (v_L v) a b k x y := by
  unfold v_L s_put
  rw [p_ln_at]
  by_cases q : (x = a ∧ y = b) ∨ (x = b ∧ y = a)
  · rw [if_pos q, if_pos (by omega)]
  · rw [if_neg q, if_neg (by omega)]
section REF2
variable {A : Nat → Int → Int} {F : Nat → Nat → Int} {v : Int → Int} {ps : Int → Int → Int} {st : Int} {rf tx : Int → Int} {tl : Int}
def m_kp (A : Nat → Int → Int) (F : Nat → Nat → Int) (v : Int → Int) (ps : Int → Int → Int) (st : Int) (rf tx : Int → Int) (tl : Int) : Option fc_AV → (Nat → Int → Int) → (Nat → Nat → Int) → Prop := fun r A' F' => r = none ∧ m_RX A' F' (h_ps ps st v) (h_st st) rf tx tl ∧ (∀ j : Nat, j ≠ 145 → A' j = A j) ∧ (∀ j : Nat, j ≠ 143 → F' j = F j) ∧ ∀ k : Nat, k ≠ 3 → F' 143 k = F 143 k
theorem r_keep (RC : m_RC A F v ps st rf tx tl) : fh_E mX7_keep 0 [vR 143] A F (m_kp A F v ps st rf tx tl) := by
  obtain ⟨e, hv, ⟨s0, s5⟩, -, -, h3, hps, hrf, h15, htx⟩ := RC
  refine fh_E.of mi_X7_keep (Nat.le_of_ble_eq_true rfl) ?_
  intro X C T
  have copy : ∀ (m : Nat) (i : Int) (A1 : Nat → Int → Int) (F1 : Nat → Nat → Int) (B : Int → Int) (t : Int), 0 ≤ i → i ≤ 54 → 54 - i < m → F1 143 3 = t → 0 ≤ t → t ≤ 4 → (∀ k : Nat, k ≠ 3 → F1 143 k = F 143 k) → (∀ j : Nat, j ≠ 143 → F1 j = F j) → (∀ j : Nat, j ≠ 145 → A1 j = A j) → (∀ j : Int, A1 145 j = if 54 * t ≤ j ∧ j < 54 * t + i then v (j - 54 * t) else B j) → t + 1 = h_st st → (∀ j k : Int, 0 ≤ j → j < t → 0 ≤ k → k < 54 → B (54 * j + k) = h_ps ps st v j k) → h_ps ps st v t = v → fc_W X 0 0 159 (fc_H A1 F1) 50 [some (vR 143), some (vI i)] [] := by
    intro m
    induction m with
    | zero => intro i A1 F1 B t z0 z1 z2; exfalso; omega
    | succ m ih =>
      intro i A1 F1 B t z0 z1 z2 f3 t0 t4 fk fj aj ai ht hB hv9
      refine fc_iload_n C dX7_keep_50 rfl rfl ?_
      refine fc_bipush C dX7_keep_51 (by decide) ?_
      refine fc_icmp_ge (tgt := 82) C dX7_keep_53 (by decide) (fc_Rm (by omega)) (fc_Rm (by omega)) (fun c53 => ?_) (fun c53 => ?_)
      · refine fc_aload_n C dX7_keep_82 rfl rfl ?_
        refine fc_dup C dX7_keep_83 rfl ?_
        refine fh_getf C dX7_keep_84 fl_X7_56 rfl rfl ?_
        refine fc_iconst C dX7_keep_87 ?_
        refine fc_iadd C dX7_keep_88 ?_
        refine fh_putf _ C dX7_keep_89 fl_X7_56 rfl (Nat.le_of_ble_eq_true rfl) rfl rfl ?_
        refine fh_vretE C T dX7_keep_92 ⟨rfl, ⟨by rw [ff_s, f3]; exact ht, fun j k j0 j1 k0 k1 => ?_, fun j j0 j1 => by rw [aj 147 (by omega)]; exact hrf j j0 j1, by rw [ff_k (by omega), fk 15 (by omega)]; exact h15, fun j j0 j1 => by rw [aj 157 (by omega)]; exact htx j j0 j1⟩, aj, fun j hj => by rw [ff_n hj]; exact fj j hj, fun k hk => by rw [ff_k hk]; exact fk k hk⟩
        rw [ai]
        by_cases q : j = t
        · rw [if_pos (by omega), q, hv9]
          congr 1
          omega
        · rw [if_neg (by omega)]
          exact hB j k j0 (by omega) k0 k1
      · refine fc_aload_n C dX7_keep_56 rfl rfl ?_
        refine fh_getf C dX7_keep_57 fl_X7_13 rfl rfl ?_
        refine fc_bipush C dX7_keep_60 (by decide) ?_
        refine fc_aload_n C dX7_keep_62 rfl rfl ?_
        refine fh_getf C dX7_keep_63 fl_X7_56 rfl rfl ?_
        refine fc_imul C dX7_keep_66 ?_
        refine fc_iload_n C dX7_keep_67 rfl rfl ?_
        refine fc_iadd C dX7_keep_68 ?_
        refine fc_aload_n C dX7_keep_69 rfl rfl ?_
        refine fh_getf C dX7_keep_70 fl_X7_7 rfl rfl ?_
        refine fc_iload_n C dX7_keep_73 rfl rfl ?_
        refine fh_iaload C dX7_keep_74 (fun _ _ => rfl) (by omega) (by omega) (by decide) ?_
        refine fh_iastore C dX7_keep_75 (fun _ _ => rfl) (by omega) (by omega) (by decide) ?_
        refine fc_iinc C dX7_keep_76 rfl (by decide) ?_
        refine fc_goto (tgt := 50) C dX7_keep_79 (by decide) ?_
        refine ih (i + 1) _ F1 B t (by omega) (by omega) (by omega) f3 t0 t4 fk fj (fun j hj => by rw [fa_n _ _ hj]; exact aj j hj) (fun j => ?_) ht hB hv9
        rw [fa_s, f3]
        unfold fc_set
        by_cases q : j = 54 * t + i
        · rw [if_pos q, if_pos (by omega), aj 144 (by omega), e]
          congr 1
          omega
        · rw [if_neg q, ai]
          by_cases q2 : 54 * t ≤ j ∧ j < 54 * t + i
          · rw [if_pos q2, if_pos (by omega)]
          · rw [if_neg q2, if_neg (by omega)]
  refine fc_aload_n C dX7_keep_0 rfl rfl ?_
  refine fh_getf C dX7_keep_1 fl_X7_56 rfl rfl ?_
  refine fc_iconst C dX7_keep_4 ?_
  refine fc_icmp_ne (tgt := 48) C dX7_keep_5 (by decide) (fc_Rm (by omega)) (fc_Rm (by omega)) (fun c5 => ?_) (fun c5 => ?_)
  · refine fc_iconst C dX7_keep_48 ?_
    refine fc_istore_n C dX7_keep_49 rfl (by decide) ?_
    refine copy 55 0 A F (A 145) st (by omega) (by omega) (by omega) h3 s0 (by omega) (fun _ _ => rfl) (fun _ _ => rfl) (fun _ _ => rfl) (fun j => by rw [if_neg (by omega)]) (by unfold h_st; rw [if_pos (by omega)]) (fun j k j0 j1 k0 k1 => ?_) ?_
    · rw [hps j k j0 j1 k0 k1]
      unfold h_ps
      rw [if_pos (by omega), if_neg (by omega)]
    · unfold h_ps
      rw [if_pos (by omega), if_pos rfl]
  · have shift : ∀ (m : Nat) (i : Int) (A1 : Nat → Int → Int), 0 ≤ i → i ≤ 216 → 216 - i < m → (∀ j : Nat, j ≠ 145 → A1 j = A j) → (∀ j : Int, A1 145 j = if 0 ≤ j ∧ j < i then A 145 (j + 54) else A 145 j) → fc_W X 0 0 159 (fc_H A1 F) 10 [some (vR 143), some (vI i)] [] := by
      intro m
      induction m with
      | zero => intro i A1 z0 z1 z2; exfalso; omega
      | succ m ih =>
        intro i A1 z0 z1 z2 aj ai
        refine fc_iload_n C dX7_keep_10 rfl rfl ?_
        refine fc_sipush C dX7_keep_11 (by decide) ?_
        refine fc_icmp_ge (tgt := 38) C dX7_keep_14 (by decide) (fc_Rm (by omega)) (fc_Rm (by omega)) (fun c14 => ?_) (fun c14 => ?_)
        · refine fc_aload_n C dX7_keep_38 rfl rfl ?_
          refine fc_dup C dX7_keep_39 rfl ?_
          refine fh_getf C dX7_keep_40 fl_X7_56 rfl rfl ?_
          refine fc_iconst C dX7_keep_43 ?_
          refine fc_isub C dX7_keep_44 ?_
          refine fh_putf _ C dX7_keep_45 fl_X7_56 rfl (Nat.le_of_ble_eq_true rfl) rfl rfl ?_
          refine fc_iconst C dX7_keep_48 ?_
          refine fc_istore_n C dX7_keep_49 rfl (by decide) ?_
          refine copy 55 0 A1 _ (A1 145) 4 (by omega) (by omega) (by omega) (by rw [ff_s]; omega) (by omega) (by omega) (fun k hk => ff_k hk) (fun j hj => ff_n hj) aj (fun j => ?_) (by unfold h_st; rw [if_neg (by omega)]; rfl) (fun j k j0 j1 k0 k1 => ?_) ?_
          · rw [if_neg (by omega)]
          · rw [ai, if_pos (by omega), show 54 * j + k + 54 = 54 * (j + 1) + k by omega, hps (j + 1) k (by omega) (by omega) k0 k1]
            unfold h_ps
            rw [if_neg (by omega), if_neg (by omega)]
          · unfold h_ps
            rw [if_neg (by omega), if_pos rfl]
        · refine fc_aload_n C dX7_keep_17 rfl rfl ?_
          refine fh_getf C dX7_keep_18 fl_X7_13 rfl rfl ?_
          refine fc_iload_n C dX7_keep_21 rfl rfl ?_
          refine fc_aload_n C dX7_keep_22 rfl rfl ?_
          refine fh_getf C dX7_keep_23 fl_X7_13 rfl rfl ?_
          refine fc_iload_n C dX7_keep_26 rfl rfl ?_
          refine fc_bipush C dX7_keep_27 (by decide) ?_
          refine fc_iadd C dX7_keep_29 ?_
          refine fh_iaload C dX7_keep_30 (fun _ _ => rfl) (by omega) (by omega) (by decide) ?_
          refine fh_iastore C dX7_keep_31 (fun _ _ => rfl) (by omega) (by omega) (by decide) ?_
          refine fc_iinc C dX7_keep_32 rfl (by decide) ?_
          refine fc_goto (tgt := 10) C dX7_keep_35 (by decide) ?_
          refine ih (i + 1) _ (by omega) (by omega) (by omega) (fun j hj => by rw [fa_n _ _ hj]; exact aj j hj) (fun j => ?_)
          rw [fa_s]
          unfold fc_set
          by_cases q : j = i
          · rw [if_pos q, if_pos (by omega), ai, if_neg (by omega), q]
          · rw [if_neg q, ai]
            by_cases q2 : 0 ≤ j ∧ j < i
            · rw [if_pos q2, if_pos (by omega)]
            · rw [if_neg q2, if_neg (by omega)]
    refine fc_iconst C dX7_keep_8 ?_
    refine fc_istore_n C dX7_keep_9 rfl (by decide) ?_
    exact shift 217 0 A (by omega) (by omega) (by omega) (fun _ _ => rfl) (fun j => by rw [if_neg (by omega)])
theorem r_pointsNow (e : A 144 = v) {n : Int} : fh_M mX7_pointsNow 1 [vR 143, vI n] A F (some (vI (v 0))) (fa_up A 144 (p_pts v n)) F := by
  subst e
  refine fh_M.of mi_X7_pointsNow (Nat.le_of_ble_eq_true rfl) ?_
  intro X C T
  have loop : ∀ (m : Nat) (i : Int), 1 ≤ i → i ≤ 36 → 36 - i < m → fc_W X 0 0 159 (fc_H (fa_up A 144 (fun k => if k = 0 then n else if 1 ≤ k ∧ k < i then 0 else A 144 k)) F) 14 [some (vR 143), some (vI n), some (vI (A 144 0)), some (vI i)] [] := by
    intro m
    induction m with
    | zero => intro i z0 z1 z2; exfalso; omega
    | succ m ih =>
      intro i z0 z1 z2
      refine fc_iload_n C dX7_pointsNow_14 rfl rfl ?_
      refine fc_bipush C dX7_pointsNow_15 (by decide) ?_
      refine fc_icmp_ge (tgt := 33) C dX7_pointsNow_17 (by decide) (fc_Rm (by omega)) (fc_Rm (by omega)) (fun c17 => ?_) (fun c17 => ?_)
      · refine fc_iload_n C dX7_pointsNow_33 rfl rfl ?_
        exact fh_iret C T dX7_pointsNow_34 rfl (by rw [show i = 36 by omega]; rfl)
      · refine fc_aload_n C dX7_pointsNow_20 rfl rfl ?_
        refine fh_getf C dX7_pointsNow_21 fl_X7_7 rfl rfl ?_
        refine fc_iload_n C dX7_pointsNow_24 rfl rfl ?_
        refine fc_iconst C dX7_pointsNow_25 ?_
        refine fh_iastore C dX7_pointsNow_26 (fun _ _ => rfl) (by omega) (by omega) (by decide) ?_
        refine fc_iinc C dX7_pointsNow_27 rfl (by decide) ?_
        refine fc_goto (tgt := 14) C dX7_pointsNow_30 (by decide) ?_
        refine fc_heq ?_ (ih (i + 1) (by omega) (by omega) (by omega))
        rw [fa_up2, fa_s]
        congr 2
        funext k
        unfold fc_set
        by_cases q : k = i
        · rw [if_pos q, if_neg (by omega), if_pos (by omega)]
        · rw [if_neg q]
          show (if k = 0 then n else if 1 ≤ k ∧ k < i then 0 else A 144 k) = _
          by_cases q0 : k = 0
          · rw [if_pos q0, if_pos q0]
          · rw [if_neg q0, if_neg q0]
            by_cases q2 : 1 ≤ k ∧ k < i
            · rw [if_pos q2, if_pos (by omega)]
            · rw [if_neg q2, if_neg (by omega)]
  refine fc_aload_n C dX7_pointsNow_0 rfl rfl ?_
  refine fh_callV (y := mX7_many) C dX7_pointsNow_1 ml_X7_60 mi_X7_many im_X7_many se_X7_many (r_many (v := A 144) rfl) rfl rfl (by decide) rfl (Nat.le_of_ble_eq_true rfl) (Nat.zero_le _) (Nat.zero_le _) rfl ?_
  refine fc_istore_n C dX7_pointsNow_4 rfl (by decide) ?_
  refine fc_aload_n C dX7_pointsNow_5 rfl rfl ?_
  refine fh_getf C dX7_pointsNow_6 fl_X7_7 rfl rfl ?_
  refine fc_iconst C dX7_pointsNow_9 ?_
  refine fc_iload_n C dX7_pointsNow_10 rfl rfl ?_
  refine fh_iastore C dX7_pointsNow_11 (fun _ _ => rfl) (by omega) (by omega) (by decide) ?_
  refine fc_iconst C dX7_pointsNow_12 ?_
  refine fc_istore_n C dX7_pointsNow_13 rfl (by decide) ?_
  refine fc_heq ?_ (loop 36 1 (by omega) (by omega) (by omega))
  congr 2
  funext k
  unfold fc_set
  by_cases q : k = 0
  · rw [if_pos q, if_pos q]
  · rw [if_neg q, if_neg q, if_neg (by omega)]
theorem q_points (RC : m_RC A F v ps st rf tx tl) {n : Int} (hn : fc_R n) : fh_E mX7_points 2 [vR 143, vI n] A F (m_st A F (x_pts v n) (v 0) v ps st rf tx tl (p_pts v n)) := by
  refine fh_E.of mi_X7_points (Nat.le_of_ble_eq_true rfl) ?_
  intro X C T
  refine fc_iload_n C dX7_points_0 rfl rfl ?_
  refine fc_i2l C dX7_points_1 hn ?_
  refine fc_ldc2_w C dX7_points_2 kc_X7_76 ?_
  refine fc_ldc2_w C dX7_points_5 kc_X7_78 ?_
  refine fh_callS (y := mX7_in) C dX7_points_8 ml_X7_64 mi_X7_in st_X7_in (r_in hn.L (fc_RLm (by omega)) (fc_RLm (by omega))) (by decide) rfl (Nat.le_of_ble_eq_true rfl) (Nat.zero_le _) (Nat.zero_le _) rfl ?_
  refine fc_if_ne (tgt := 21) C dX7_points_11 (by decide) (fc_ind_R _) (fun c11 => ?_) (fun c11 => ?_)
  · have c11 := fc_ind_ne c11
    refine fc_aload_n C dX7_points_21 rfl rfl ?_
    refine fh_callVE (y := mX7_keep) C dX7_points_22 ml_X7_83 mi_X7_keep im_X7_keep se_X7_keep (r_keep RC) rfl rfl (by decide) rfl (Nat.le_of_ble_eq_true rfl) (Nat.zero_le _) (Nat.zero_le _) rfl ?_
    rintro r A1 F1 ⟨rfl, hm, aj, fj, fk⟩
    refine fc_eq (st' := []) rfl rfl ?_
    refine fc_aload_n C dX7_points_25 rfl rfl ?_
    refine fc_iload_n C dX7_points_26 rfl rfl ?_
    refine fh_callV (y := mX7_pointsNow) C dX7_points_27 ml_X7_86 mi_X7_pointsNow im_X7_pointsNow se_X7_pointsNow (r_pointsNow (v := v) ((aj 144 (by omega)).trans RC.1)) rfl rfl (by decide) rfl (Nat.le_of_ble_eq_true rfl) (Nat.zero_le _) (Nat.zero_le _) rfl ?_
    refine fh_iretE C T dX7_points_30 (Or.inl rfl) (m_st.yes (by rw [fa_s]; exact v_eq.rf _) (hm.fr (fa_n _ _ (by omega)) (fa_n _ _ (by omega)) (fa_n _ _ (by omega)) rfl rfl) (fun i hi => ⟨by rw [fa_n _ _ (by omega)]; exact aj i (by omega), fj i (by omega)⟩) (if_pos c11) rfl)
  · have c11 := fc_ind_0 c11
    refine fc_aload_n C dX7_points_14 rfl rfl ?_
    refine fc_bipush C dX7_points_15 (by decide) ?_
    refine fh_callV (y := mX7_refuses) C dX7_points_17 ml_X7_80 mi_X7_refuses im_X7_refuses se_X7_refuses (r_refuses (Or.inl rfl)) rfl rfl (by decide) rfl (Nat.le_of_ble_eq_true rfl) (Nat.zero_le _) (Nat.zero_le _) rfl ?_
    exact fh_iretE C T dX7_points_20 (Or.inl rfl) (m_st.no RC (if_neg c11) (Or.inl rfl))
theorem r_areLines (e : A 144 = v) (hn : 2 ≤ v 0 ∧ v 0 ≤ 5) {a b k : Int} (ha : fc_R a) (hb : fc_R b) (hk : fc_R k) : fh_M mX7_areLines 2 [vR 143, vI a, vI b, vI k] A F (some (vI (fc_ind ((0 ≤ a ∧ a < v 0) ∧ (0 ≤ b ∧ b < v 0) ∧ a ≠ b ∧ 0 ≤ k ∧ k ≤ 3)))) A F := by
  refine fh_M.of mi_X7_areLines (Nat.le_of_ble_eq_true rfl) ?_
  intro X C T
  have no : ¬ ((0 ≤ a ∧ a < v 0) ∧ (0 ≤ b ∧ b < v 0) ∧ a ≠ b ∧ 0 ≤ k ∧ k ≤ 3) → fc_W X 0 0 159 (fc_H A F) 37 [some (vR 143), some (vI a), some (vI b), some (vI k)] [] := by
    intro h
    refine fc_iconst C dX7_areLines_37 ?_
    exact fh_zret C T dX7_areLines_38 (by omega) (by rw [fc_ind_f h]) rfl
  refine fc_aload_n C dX7_areLines_0 rfl rfl ?_
  refine fc_iload_n C dX7_areLines_1 rfl rfl ?_
  refine fh_callV (y := mX7_isPoint) C dX7_areLines_2 ml_X7_89 mi_X7_isPoint im_X7_isPoint se_X7_isPoint (r_isPoint e hn ha) rfl rfl (by decide) rfl (Nat.le_of_ble_eq_true rfl) (Nat.zero_le _) (Nat.zero_le _) rfl ?_
  refine fc_if_eq (tgt := 37) C dX7_areLines_5 (by decide) (fc_ind_R _) (fun c5 => ?_) (fun c5 => ?_)
  · have c5 := fc_ind_0 c5
    exact no (fun h => c5 h.1)
  · have c5 := fc_ind_ne c5
    refine fc_aload_n C dX7_areLines_8 rfl rfl ?_
    refine fc_iload_n C dX7_areLines_9 rfl rfl ?_
    refine fh_callV (y := mX7_isPoint) C dX7_areLines_10 ml_X7_89 mi_X7_isPoint im_X7_isPoint se_X7_isPoint (r_isPoint e hn hb) rfl rfl (by decide) rfl (Nat.le_of_ble_eq_true rfl) (Nat.zero_le _) (Nat.zero_le _) rfl ?_
    refine fc_if_eq (tgt := 37) C dX7_areLines_13 (by decide) (fc_ind_R _) (fun c13 => ?_) (fun c13 => ?_)
    · have c13 := fc_ind_0 c13
      exact no (fun h => c13 h.2.1)
    · have c13 := fc_ind_ne c13
      refine fc_iload_n C dX7_areLines_16 rfl rfl ?_
      refine fc_iload_n C dX7_areLines_17 rfl rfl ?_
      refine fc_icmp_eq (tgt := 37) C dX7_areLines_18 (by decide) (ha) (hb) (fun c18 => ?_) (fun c18 => ?_)
      · exact no (fun h => h.2.2.1 c18)
      · refine fc_iload_n C dX7_areLines_21 rfl rfl ?_
        refine fc_i2l C dX7_areLines_22 hk ?_
        refine fc_lconst (z := 0) C dX7_areLines_23 rfl ?_
        refine fc_ldc2_w C dX7_areLines_24 kc_X7_93 ?_
        refine fh_callS (y := mX7_in) C dX7_areLines_27 ml_X7_64 mi_X7_in st_X7_in (r_in hk.L (fc_RLm (by omega)) (fc_RLm (by omega))) (by decide) rfl (Nat.le_of_ble_eq_true rfl) (Nat.zero_le _) (Nat.zero_le _) rfl ?_
        refine fc_if_eq (tgt := 37) C dX7_areLines_30 (by decide) (fc_ind_R _) (fun c30 => ?_) (fun c30 => ?_)
        · have c30 := fc_ind_0 c30
          exact no (fun h => c30 ⟨h.2.2.2.1, h.2.2.2.2⟩)
        · have c30 := fc_ind_ne c30
          refine fc_iconst C dX7_areLines_33 ?_
          refine fc_goto (tgt := 38) C dX7_areLines_34 (by decide) ?_
          exact fh_zret C T dX7_areLines_38 (by omega) (by rw [fc_ind_t ⟨c5, c13, c18, c30⟩]) rfl
theorem r_linesNow (e : A 144 = v) {a b k : Int} (ha : 0 ≤ a ∧ a < 5) (hb : 0 ≤ b ∧ b < 5) : fh_M mX7_linesNow 1 [vR 143, vI a, vI b, vI k] A F (some (vI (v_L v a b))) (fa_up A 144 (p_ln v a b k)) F := by
  subst e
  refine fh_M.of mi_X7_linesNow (Nat.le_of_ble_eq_true rfl) ?_
  intro X C T
  refine fc_aload_n C dX7_linesNow_0 rfl rfl ?_
  refine fc_iload_n C dX7_linesNow_1 rfl rfl ?_
  refine fc_iload_n C dX7_linesNow_2 rfl rfl ?_
  refine fh_callV (y := mX7_linesOf) C dX7_linesNow_3 ml_X7_68 mi_X7_linesOf im_X7_linesOf se_X7_linesOf (r_linesOf (v := A 144) rfl ha hb) rfl rfl (by decide) rfl (Nat.le_of_ble_eq_true rfl) (Nat.zero_le _) (Nat.zero_le _) rfl ?_
  refine fc_istore C dX7_linesNow_6 (by decide) ?_
  refine fc_aload_n C dX7_linesNow_8 rfl rfl ?_
  refine fh_getf C dX7_linesNow_9 fl_X7_7 rfl rfl ?_
  refine fc_iconst C dX7_linesNow_12 ?_
  refine fc_iconst C dX7_linesNow_13 ?_
  refine fc_iload_n C dX7_linesNow_14 rfl rfl ?_
  refine fc_imul C dX7_linesNow_15 ?_
  refine fc_iadd C dX7_linesNow_16 ?_
  refine fc_iload_n C dX7_linesNow_17 rfl rfl ?_
  refine fc_iadd C dX7_linesNow_18 ?_
  refine fc_iload_n C dX7_linesNow_19 rfl rfl ?_
  refine fh_iastore C dX7_linesNow_20 (fun _ _ => rfl) (by omega) (by omega) (by decide) ?_
  refine fc_aload_n C dX7_linesNow_21 rfl rfl ?_
  refine fh_getf C dX7_linesNow_22 fl_X7_7 rfl rfl ?_
  refine fc_iconst C dX7_linesNow_25 ?_
  refine fc_iconst C dX7_linesNow_26 ?_
  refine fc_iload_n C dX7_linesNow_27 rfl rfl ?_
  refine fc_imul C dX7_linesNow_28 ?_
  refine fc_iadd C dX7_linesNow_29 ?_
  refine fc_iload_n C dX7_linesNow_30 rfl rfl ?_
  refine fc_iadd C dX7_linesNow_31 ?_
  refine fc_iload_n C dX7_linesNow_32 rfl rfl ?_
  refine fh_iastore C dX7_linesNow_33 (fun _ _ => rfl) (by omega) (by omega) (by decide) ?_
  refine fc_iload C dX7_linesNow_34 rfl ?_
  refine fh_iret C T dX7_linesNow_36 rfl ?_
  rw [fa_up2, fa_s]
  congr 2
  funext j
  unfold fc_set p_ln
  by_cases q : j = 1 + 5 * b + a
  · rw [if_pos q, if_pos (by omega)]
  · rw [if_neg q]
    by_cases q2 : j = 1 + 5 * a + b
    · rw [if_pos q2, if_pos (by omega)]
    · rw [if_neg q2, if_neg (by omega)]
theorem q_lines (RC : m_RC A F v ps st rf tx tl) {a b k : Int} (ha : fc_R a) (hb : fc_R b) (hk : fc_R k) : fh_E mX7_lines 3 [vR 143, vI a, vI b, vI k] A F (m_st A F (x_ln v a b k) (v_L v a b) v ps st rf tx tl (p_ln v a b k)) := by
  have hn := RC.2.1.n
  refine fh_E.of mi_X7_lines (Nat.le_of_ble_eq_true rfl) ?_
  intro X C T
  refine fc_aload_n C dX7_lines_0 rfl rfl ?_
  refine fc_iload_n C dX7_lines_1 rfl rfl ?_
  refine fc_iload_n C dX7_lines_2 rfl rfl ?_
  refine fc_iload_n C dX7_lines_3 rfl rfl ?_
  refine fh_callV (y := mX7_areLines) C dX7_lines_4 ml_X7_95 mi_X7_areLines im_X7_areLines se_X7_areLines (r_areLines RC.1 hn ha hb hk) rfl rfl (by decide) rfl (Nat.le_of_ble_eq_true rfl) (Nat.zero_le _) (Nat.zero_le _) rfl ?_
  refine fc_if_ne (tgt := 17) C dX7_lines_7 (by decide) (fc_ind_R _) (fun c7 => ?_) (fun c7 => ?_)
  · have c7 := fc_ind_ne c7
    refine fc_aload_n C dX7_lines_17 rfl rfl ?_
    refine fh_callVE (y := mX7_keep) C dX7_lines_18 ml_X7_83 mi_X7_keep im_X7_keep se_X7_keep (r_keep RC) rfl rfl (by decide) rfl (Nat.le_of_ble_eq_true rfl) (Nat.zero_le _) (Nat.zero_le _) rfl ?_
    rintro r A1 F1 ⟨rfl, hm, aj, fj, fk⟩
    refine fc_eq (st' := []) rfl rfl ?_
    refine fc_aload_n C dX7_lines_21 rfl rfl ?_
    refine fc_iload_n C dX7_lines_22 rfl rfl ?_
    refine fc_iload_n C dX7_lines_23 rfl rfl ?_
    refine fc_iload_n C dX7_lines_24 rfl rfl ?_
    refine fh_callV (y := mX7_linesNow) C dX7_lines_25 ml_X7_99 mi_X7_linesNow im_X7_linesNow se_X7_linesNow (r_linesNow (v := v) ((aj 144 (by omega)).trans RC.1) ⟨by omega, by omega⟩ ⟨by omega, by omega⟩) rfl rfl (by decide) rfl (Nat.le_of_ble_eq_true rfl) (Nat.zero_le _) (Nat.zero_le _) rfl ?_
    refine fh_iretE C T dX7_lines_28 (Or.inl rfl) (m_st.yes (by rw [fa_s]; exact v_eq.rf _) (hm.fr (fa_n _ _ (by omega)) (fa_n _ _ (by omega)) (fa_n _ _ (by omega)) rfl rfl) (fun i hi => ⟨by rw [fa_n _ _ (by omega)]; exact aj i (by omega), fj i (by omega)⟩) (if_pos c7) rfl)
  · have c7 := fc_ind_0 c7
    refine fc_aload_n C dX7_lines_10 rfl rfl ?_
    refine fc_bipush C dX7_lines_11 (by decide) ?_
    refine fh_callV (y := mX7_refuses) C dX7_lines_13 ml_X7_80 mi_X7_refuses im_X7_refuses se_X7_refuses (r_refuses (Or.inl rfl)) rfl rfl (by decide) rfl (Nat.le_of_ble_eq_true rfl) (Nat.zero_le _) (Nat.zero_le _) rfl ?_
    exact fh_iretE C T dX7_lines_16 (Or.inl rfl) (m_st.no RC (if_neg c7) (Or.inl rfl))
theorem q_net (RC : m_RC A F v ps st rf tx tl) {a b : Int} (ha : fc_R a) (hb : fc_R b) : fh_E mX7_net 2 [vR 143, vI a, vI b] A F (m_an A F (x_net v a b) (a_net v a b) v ps st rf tx tl) := by
  have hn := RC.2.1.n
  refine fh_E.of mi_X7_net (Nat.le_of_ble_eq_true rfl) ?_
  intro X C T
  have no : ¬ ((0 ≤ a ∧ a < v 0) ∧ (0 ≤ b ∧ b < v 0)) → fc_W X 0 0 159 (fc_H A F) 38 [some (vR 143), some (vI a), some (vI b)] [] := by
    intro h
    refine fc_aload_n C dX7_net_38 rfl rfl ?_
    refine fc_bipush C dX7_net_39 (by decide) ?_
    refine fh_callV (y := mX7_refuses) C dX7_net_41 ml_X7_80 mi_X7_refuses im_X7_refuses se_X7_refuses (r_refuses (Or.inl rfl)) rfl rfl (by decide) rfl (Nat.le_of_ble_eq_true rfl) (Nat.zero_le _) (Nat.zero_le _) rfl ?_
    exact fh_iretE C T dX7_net_44 (Or.inl rfl) (m_an.no RC (if_neg h) (Or.inl rfl))
  refine fc_aload_n C dX7_net_0 rfl rfl ?_
  refine fc_iload_n C dX7_net_1 rfl rfl ?_
  refine fh_callV (y := mX7_isPoint) C dX7_net_2 ml_X7_89 mi_X7_isPoint im_X7_isPoint se_X7_isPoint (r_isPoint RC.1 hn ha) rfl rfl (by decide) rfl (Nat.le_of_ble_eq_true rfl) (Nat.zero_le _) (Nat.zero_le _) rfl ?_
  refine fc_if_eq (tgt := 38) C dX7_net_5 (by decide) (fc_ind_R _) (fun c5 => ?_) (fun c5 => ?_)
  · have c5 := fc_ind_0 c5
    exact no (fun h => c5 h.1)
  · have c5 := fc_ind_ne c5
    refine fc_aload_n C dX7_net_8 rfl rfl ?_
    refine fc_iload_n C dX7_net_9 rfl rfl ?_
    refine fh_callV (y := mX7_isPoint) C dX7_net_10 ml_X7_89 mi_X7_isPoint im_X7_isPoint se_X7_isPoint (r_isPoint RC.1 hn hb) rfl rfl (by decide) rfl (Nat.le_of_ble_eq_true rfl) (Nat.zero_le _) (Nat.zero_le _) rfl ?_
    refine fc_if_eq (tgt := 38) C dX7_net_13 (by decide) (fc_ind_R _) (fun c13 => ?_) (fun c13 => ?_)
    · have c13 := fc_ind_0 c13
      exact no (fun h => c13 h.2)
    · have c13 := fc_ind_ne c13
      refine fc_iload_n C dX7_net_16 rfl rfl ?_
      refine fc_iload_n C dX7_net_17 rfl rfl ?_
      refine fc_icmp_ne (tgt := 29) C dX7_net_18 (by decide) (ha) (hb) (fun c18 => ?_) (fun c18 => ?_)
      · refine fc_aload_n C dX7_net_29 rfl rfl ?_
        refine fc_iload_n C dX7_net_30 rfl rfl ?_
        refine fc_iload_n C dX7_net_31 rfl rfl ?_
        refine fh_callV (y := mX7_linesOf) C dX7_net_32 ml_X7_68 mi_X7_linesOf im_X7_linesOf se_X7_linesOf (r_linesOf RC.1 ⟨by omega, by omega⟩ ⟨by omega, by omega⟩) rfl rfl (by decide) rfl (Nat.le_of_ble_eq_true rfl) (Nat.zero_le _) (Nat.zero_le _) rfl ?_
        refine fc_goto (tgt := 44) C dX7_net_35 (by decide) ?_
        exact fh_iretE C T dX7_net_44 (Or.inl rfl) (m_an.id RC (if_pos ⟨c5, c13⟩) (if_neg c18))
      · refine fc_aload_n C dX7_net_21 rfl rfl ?_
        refine fc_iload_n C dX7_net_22 rfl rfl ?_
        refine fh_callV (y := mX7_valence) C dX7_net_23 ml_X7_72 mi_X7_valence im_X7_valence se_X7_valence (r_valence RC.1 hn ⟨by omega, by omega⟩) rfl rfl (by decide) rfl (Nat.le_of_ble_eq_true rfl) (Nat.zero_le _) (Nat.zero_le _) rfl ?_
        refine fc_goto (tgt := 44) C dX7_net_26 (by decide) ?_
        exact fh_iretE C T dX7_net_44 (Or.inl rfl) (m_an.id RC (if_pos ⟨c5, c13⟩) (if_pos (by omega)))
theorem q_joined (RC : m_RC A F v ps st rf tx tl) : fh_E mX7_joined 2 [vR 143] A F (m_an A F 0 (fc_ind (s_J (v_L v) (v 0))) v ps st rf tx tl) := by
  have hn := RC.2.1.n
  refine fh_E.of mi_X7_joined (Nat.le_of_ble_eq_true rfl) ?_
  intro X C T
  refine fc_aload_n C dX7_joined_0 rfl rfl ?_
  refine fh_callV (y := mX7_isJoined) C dX7_joined_1 ml_X7_118 mi_X7_isJoined im_X7_isJoined se_X7_isJoined (r_isJoined RC.1 hn RC.2.1.g) rfl rfl (by decide) rfl (Nat.le_of_ble_eq_true rfl) (Nat.zero_le _) (Nat.zero_le _) rfl ?_
  refine fc_if_eq (tgt := 11) C dX7_joined_4 (by decide) (fc_ind_R _) (fun c4 => ?_) (fun c4 => ?_)
  · refine fc_iconst C dX7_joined_11 ?_
    exact fh_iretE C T dX7_joined_12 (Or.inl rfl) (m_an.id RC rfl c4)
  · refine fc_iconst C dX7_joined_7 ?_
    refine fc_goto (tgt := 12) C dX7_joined_8 (by decide) ?_
    exact fh_iretE C T dX7_joined_12 (Or.inl rfl) (m_an.id RC rfl (fc_ind_t (fc_ind_ne c4)))
theorem r_isRoom {x : Int} (hx : fc_R x) : fh_M mX7_isRoom 1 [vI x] A F (some (vI (fc_ind (-999 ≤ x ∧ x ≤ 999)))) A F := by
  refine fh_M.of mi_X7_isRoom (Nat.le_of_ble_eq_true rfl) ?_
  intro X C T
  refine fc_iload_n C dX7_isRoom_0 rfl rfl ?_
  refine fc_i2l C dX7_isRoom_1 hx ?_
  refine fc_ldc2_w C dX7_isRoom_2 kc_X7_129 ?_
  refine fc_ldc2_w C dX7_isRoom_5 kc_X7_131 ?_
  refine fh_callS (y := mX7_in) C dX7_isRoom_8 ml_X7_64 mi_X7_in st_X7_in (r_in hx.L (fc_RLm (by omega)) (fc_RLm (by omega))) (by decide) rfl (Nat.le_of_ble_eq_true rfl) (Nat.zero_le _) (Nat.zero_le _) rfl ?_
  exact fh_zret C T dX7_isRoom_11 (fc_ind_01 _) rfl rfl
theorem q_sets (RC : m_RC A F v ps st rf tx tl) {p x : Int} (hp : fc_R p) (hx : fc_R x) : fh_E mX7_sets 3 [vR 143, vI p, vI x] A F (m_st A F (x_set v p x) (v (26 + p)) v ps st rf tx tl (p_set v (26 + p) x)) := by
  have hn := RC.2.1.n
  refine fh_E.of mi_X7_sets (Nat.le_of_ble_eq_true rfl) ?_
  intro X C T
  have no : ¬ ((0 ≤ p ∧ p < v 0) ∧ -99 ≤ x ∧ x ≤ 99) → fc_W X 0 0 159 (fc_H A F) 22 [some (vR 143), some (vI p), some (vI x), none] [] := by
    intro h
    refine fc_aload_n C dX7_sets_22 rfl rfl ?_
    refine fc_bipush C dX7_sets_23 (by decide) ?_
    refine fh_callV (y := mX7_refuses) C dX7_sets_25 ml_X7_80 mi_X7_refuses im_X7_refuses se_X7_refuses (r_refuses (Or.inl rfl)) rfl rfl (by decide) rfl (Nat.le_of_ble_eq_true rfl) (Nat.zero_le _) (Nat.zero_le _) rfl ?_
    exact fh_iretE C T dX7_sets_28 (Or.inl rfl) (m_st.no RC (if_neg h) (Or.inl rfl))
  refine fc_aload_n C dX7_sets_0 rfl rfl ?_
  refine fc_iload_n C dX7_sets_1 rfl rfl ?_
  refine fh_callV (y := mX7_isPoint) C dX7_sets_2 ml_X7_89 mi_X7_isPoint im_X7_isPoint se_X7_isPoint (r_isPoint RC.1 hn hp) rfl rfl (by decide) rfl (Nat.le_of_ble_eq_true rfl) (Nat.zero_le _) (Nat.zero_le _) rfl ?_
  refine fc_if_eq (tgt := 22) C dX7_sets_5 (by decide) (fc_ind_R _) (fun c5 => ?_) (fun c5 => ?_)
  · have c5 := fc_ind_0 c5
    exact no (fun h => c5 h.1)
  · have c5 := fc_ind_ne c5
    refine fc_iload_n C dX7_sets_8 rfl rfl ?_
    refine fc_i2l C dX7_sets_9 hx ?_
    refine fc_ldc2_w C dX7_sets_10 kc_X7_122 ?_
    refine fc_ldc2_w C dX7_sets_13 kc_X7_124 ?_
    refine fh_callS (y := mX7_in) C dX7_sets_16 ml_X7_64 mi_X7_in st_X7_in (r_in hx.L (fc_RLm (by omega)) (fc_RLm (by omega))) (by decide) rfl (Nat.le_of_ble_eq_true rfl) (Nat.zero_le _) (Nat.zero_le _) rfl ?_
    refine fc_if_ne (tgt := 29) C dX7_sets_19 (by decide) (fc_ind_R _) (fun c19 => ?_) (fun c19 => ?_)
    · have c19 := fc_ind_ne c19
      refine fc_aload_n C dX7_sets_29 rfl rfl ?_
      refine fh_callVE (y := mX7_keep) C dX7_sets_30 ml_X7_83 mi_X7_keep im_X7_keep se_X7_keep (r_keep RC) rfl rfl (by decide) rfl (Nat.le_of_ble_eq_true rfl) (Nat.zero_le _) (Nat.zero_le _) rfl ?_
      rintro r A1 F1 ⟨rfl, hm, aj, fj, fk⟩
      refine fc_eq (st' := []) rfl rfl ?_
      have e1 := (aj 144 (by omega)).trans RC.1
      refine fc_aload_n C dX7_sets_33 rfl rfl ?_
      refine fc_iload_n C dX7_sets_34 rfl rfl ?_
      refine fh_callV (y := mX7_chips) C dX7_sets_35 ml_X7_126 mi_X7_chips im_X7_chips se_X7_chips (r_chips e1 ⟨by omega, by omega⟩) rfl rfl (by decide) rfl (Nat.le_of_ble_eq_true rfl) (Nat.zero_le _) (Nat.zero_le _) rfl ?_
      refine fc_istore_n C dX7_sets_38 rfl (by decide) ?_
      refine fc_aload_n C dX7_sets_39 rfl rfl ?_
      refine fh_getf C dX7_sets_40 fl_X7_7 rfl rfl ?_
      refine fc_bipush C dX7_sets_43 (by decide) ?_
      refine fc_iload_n C dX7_sets_45 rfl rfl ?_
      refine fc_iadd C dX7_sets_46 ?_
      refine fc_iload_n C dX7_sets_47 rfl rfl ?_
      refine fh_iastore C dX7_sets_48 (fun _ _ => rfl) (by omega) (by omega) (by decide) ?_
      refine fc_iload_n C dX7_sets_49 rfl rfl ?_
      refine fh_iretE C T dX7_sets_50 (Or.inl rfl) (m_st.yes (by rw [fa_s, e1]; exact v_eq.rf _) (hm.fr (fa_n _ _ (by omega)) (fa_n _ _ (by omega)) (fa_n _ _ (by omega)) rfl rfl) (fun i hi => ⟨by rw [fa_n _ _ (by omega)]; exact aj i (by omega), fj i (by omega)⟩) (if_pos ⟨c5, c19⟩) rfl)
    · have c19 := fc_ind_0 c19
      exact no (fun h => c19 h.2)
theorem r_canAdd (e : A 144 = v) (hv : v_ok v) {p x : Int} (hp : fc_R p) (hx : fc_R x) : fh_M mX7_canAdd 2 [vR 143, vI p, vI x] A F (some (vI (x_add v p x))) A F := by
  have hn := hv.n
  refine fh_M.of mi_X7_canAdd (Nat.le_of_ble_eq_true rfl) ?_
  intro X C T
  have no : ¬ ((0 ≤ p ∧ p < v 0) ∧ -99 ≤ x ∧ x ≤ 99) → fc_W X 0 0 159 (fc_H A F) 22 [some (vR 143), some (vI p), some (vI x)] [] := by
    intro h
    refine fc_bipush C dX7_canAdd_22 (by decide) ?_
    refine fc_goto (tgt := 46) C dX7_canAdd_24 (by decide) ?_
    exact fh_iret C T dX7_canAdd_46 (by unfold x_add; rw [if_neg h]) rfl
  refine fc_aload_n C dX7_canAdd_0 rfl rfl ?_
  refine fc_iload_n C dX7_canAdd_1 rfl rfl ?_
  refine fh_callV (y := mX7_isPoint) C dX7_canAdd_2 ml_X7_89 mi_X7_isPoint im_X7_isPoint se_X7_isPoint (r_isPoint e hn hp) rfl rfl (by decide) rfl (Nat.le_of_ble_eq_true rfl) (Nat.zero_le _) (Nat.zero_le _) rfl ?_
  refine fc_if_eq (tgt := 22) C dX7_canAdd_5 (by decide) (fc_ind_R _) (fun c5 => ?_) (fun c5 => ?_)
  · have c5 := fc_ind_0 c5
    exact no (fun h => c5 h.1)
  · have c5 := fc_ind_ne c5
    refine fc_iload_n C dX7_canAdd_8 rfl rfl ?_
    refine fc_i2l C dX7_canAdd_9 hx ?_
    refine fc_ldc2_w C dX7_canAdd_10 kc_X7_122 ?_
    refine fc_ldc2_w C dX7_canAdd_13 kc_X7_124 ?_
    refine fh_callS (y := mX7_in) C dX7_canAdd_16 ml_X7_64 mi_X7_in st_X7_in (r_in hx.L (fc_RLm (by omega)) (fc_RLm (by omega))) (by decide) rfl (Nat.le_of_ble_eq_true rfl) (Nat.zero_le _) (Nat.zero_le _) rfl ?_
    refine fc_if_ne (tgt := 27) C dX7_canAdd_19 (by decide) (fc_ind_R _) (fun c19 => ?_) (fun c19 => ?_)
    · have c19 := fc_ind_ne c19
      have hc := hv.2.2.2.1 p c5.1 (by omega)
      refine fc_aload_n C dX7_canAdd_27 rfl rfl ?_
      refine fc_iload_n C dX7_canAdd_28 rfl rfl ?_
      refine fh_callV (y := mX7_chips) C dX7_canAdd_29 ml_X7_126 mi_X7_chips im_X7_chips se_X7_chips (r_chips e ⟨by omega, by omega⟩) rfl rfl (by decide) rfl (Nat.le_of_ble_eq_true rfl) (Nat.zero_le _) (Nat.zero_le _) rfl ?_
      refine fc_iload_n C dX7_canAdd_32 rfl rfl ?_
      refine fc_iadd C dX7_canAdd_33 ?_
      refine fh_callS (y := mX7_isRoom) C dX7_canAdd_34 ml_X7_133 mi_X7_isRoom st_X7_isRoom (r_isRoom (fc_Rm (by omega))) (by decide) rfl (Nat.le_of_ble_eq_true rfl) (Nat.zero_le _) (Nat.zero_le _) rfl ?_
      refine fc_if_eq (tgt := 44) C dX7_canAdd_37 (by decide) (fc_ind_R _) (fun c37 => ?_) (fun c37 => ?_)
      · have c37 := fc_ind_0 c37
        refine fc_bipush C dX7_canAdd_44 (by decide) ?_
        exact fh_iret C T dX7_canAdd_46 (by unfold x_add; rw [if_pos ⟨c5, c19⟩, if_neg c37]) rfl
      · have c37 := fc_ind_ne c37
        refine fc_iconst C dX7_canAdd_40 ?_
        refine fc_goto (tgt := 46) C dX7_canAdd_41 (by decide) ?_
        exact fh_iret C T dX7_canAdd_46 (by unfold x_add; rw [if_pos ⟨c5, c19⟩, if_pos c37]) rfl
    · have c19 := fc_ind_0 c19
      exact no (fun h => c19 h.2)
theorem r_addNow (e : A 144 = v) {p x : Int} (hp : 0 ≤ p ∧ p < 5) : fh_M mX7_addNow 1 [vR 143, vI p, vI x] A F (some (vI (v (26 + p) + x))) (fa_up A 144 (p_set v (26 + p) (v (26 + p) + x))) F := by
  subst e
  refine fh_M.of mi_X7_addNow (Nat.le_of_ble_eq_true rfl) ?_
  intro X C T
  refine fc_aload_n C dX7_addNow_0 rfl rfl ?_
  refine fh_getf C dX7_addNow_1 fl_X7_7 rfl rfl ?_
  refine fc_bipush C dX7_addNow_4 (by decide) ?_
  refine fc_iload_n C dX7_addNow_6 rfl rfl ?_
  refine fc_iadd C dX7_addNow_7 ?_
  refine fc_dup2 C dX7_addNow_8 rfl rfl ?_
  refine fh_iaload C dX7_addNow_9 (fun _ _ => rfl) (by omega) (by omega) (by decide) ?_
  refine fc_iload_n C dX7_addNow_10 rfl rfl ?_
  refine fc_iadd C dX7_addNow_11 ?_
  refine fh_iastore C dX7_addNow_12 (fun _ _ => rfl) (by omega) (by omega) (by decide) ?_
  refine fc_heq (h' := fc_H (fa_up A 144 (p_set (A 144) (26 + p) (A 144 (26 + p) + x))) F) rfl ?_
  refine fc_aload_n C dX7_addNow_13 rfl rfl ?_
  refine fc_iload_n C dX7_addNow_14 rfl rfl ?_
  refine fh_callV (y := mX7_chips) C dX7_addNow_15 ml_X7_126 mi_X7_chips im_X7_chips se_X7_chips (r_chips (v := p_set (A 144) (26 + p) (A 144 (26 + p) + x)) (fa_s _ _ _) hp) rfl rfl (by decide) rfl (Nat.le_of_ble_eq_true rfl) (Nat.zero_le _) (Nat.zero_le _) rfl ?_
  exact fh_iret C T dX7_addNow_18 (by rw [p_set_at, if_pos rfl]) rfl
theorem q_adds (RC : m_RC A F v ps st rf tx tl) {p x : Int} (hp : fc_R p) (hx : fc_R x) : fh_E mX7_adds 3 [vR 143, vI p, vI x] A F (m_st A F (x_add v p x) (v (26 + p) + x) v ps st rf tx tl (p_set v (26 + p) (v (26 + p) + x))) := by
  have hn := RC.2.1.n
  have hxc := x_add_c v p x
  refine fh_E.of mi_X7_adds (Nat.le_of_ble_eq_true rfl) ?_
  intro X C T
  refine fc_aload_n C dX7_adds_0 rfl rfl ?_
  refine fc_iload_n C dX7_adds_1 rfl rfl ?_
  refine fc_iload_n C dX7_adds_2 rfl rfl ?_
  refine fh_callV (y := mX7_canAdd) C dX7_adds_3 ml_X7_136 mi_X7_canAdd im_X7_canAdd se_X7_canAdd (r_canAdd RC.1 RC.2.1 hp hx) rfl rfl (by decide) rfl (Nat.le_of_ble_eq_true rfl) (Nat.zero_le _) (Nat.zero_le _) rfl ?_
  refine fc_istore_n C dX7_adds_6 rfl (by decide) ?_
  refine fc_iload_n C dX7_adds_7 rfl rfl ?_
  refine fc_if_ge (tgt := 17) C dX7_adds_8 (by decide) (fc_Rm (by omega)) (fun c8 => ?_) (fun c8 => ?_)
  · have h0 : x_add v p x = 0 := by omega
    have h1 := x_add_0 h0
    refine fc_aload_n C dX7_adds_17 rfl rfl ?_
    refine fh_callVE (y := mX7_keep) C dX7_adds_18 ml_X7_83 mi_X7_keep im_X7_keep se_X7_keep (r_keep RC) rfl rfl (by decide) rfl (Nat.le_of_ble_eq_true rfl) (Nat.zero_le _) (Nat.zero_le _) rfl ?_
    rintro r A1 F1 ⟨rfl, hm, aj, fj, fk⟩
    refine fc_eq (st' := []) rfl rfl ?_
    have e1 := (aj 144 (by omega)).trans RC.1
    refine fc_aload_n C dX7_adds_21 rfl rfl ?_
    refine fc_iload_n C dX7_adds_22 rfl rfl ?_
    refine fc_iload_n C dX7_adds_23 rfl rfl ?_
    refine fh_callV (y := mX7_addNow) C dX7_adds_24 ml_X7_139 mi_X7_addNow im_X7_addNow se_X7_addNow (r_addNow e1 ⟨by omega, by omega⟩) rfl rfl (by decide) rfl (Nat.le_of_ble_eq_true rfl) (Nat.zero_le _) (Nat.zero_le _) rfl ?_
    refine fh_iretE C T dX7_adds_27 (Or.inl rfl) (m_st.yes (by rw [fa_s]; exact v_eq.rf _) (hm.fr (fa_n _ _ (by omega)) (fa_n _ _ (by omega)) (fa_n _ _ (by omega)) rfl rfl) (fun i hi => ⟨by rw [fa_n _ _ (by omega)]; exact aj i (by omega), fj i (by omega)⟩) h0 rfl)
  · have h1 : x_add v p x = -2 ∨ x_add v p x = -3 ∨ x_add v p x = -4 := by omega
    refine fc_aload_n C dX7_adds_11 rfl rfl ?_
    refine fc_iload_n C dX7_adds_12 rfl rfl ?_
    refine fh_callV (y := mX7_refuses) C dX7_adds_13 ml_X7_80 mi_X7_refuses im_X7_refuses se_X7_refuses (r_refuses h1) rfl rfl (by decide) rfl (Nat.le_of_ble_eq_true rfl) (Nat.zero_le _) (Nat.zero_le _) rfl ?_
    exact fh_iretE C T dX7_adds_16 (Or.inl rfl) (m_st.no RC rfl h1)
end REF2
