/-! the reference: told, type, clear, back, keeps -/
section REF6
variable {A : Nat → Int → Int} {F : Nat → Nat → Int} {v : Int → Int} {ps : Int → Int → Int} {st : Int} {rf tx : Int → Int} {tl : Int}
theorem r_keptMany (e : A 144 = v) {s : Int} (hs : 0 ≤ s ∧ s < 3) : fh_M mX7_keptMany 0 [vR 143, vI s] A F (some (vI (v (36 + 6 * s)))) A F := by
  subst e
  refine fh_M.of mi_X7_keptMany (Nat.le_of_ble_eq_true rfl) ?_
  intro X C T
  refine fc_aload_n C dX7_keptMany_0 rfl rfl ?_
  refine fh_getf C dX7_keptMany_1 fl_X7_7 rfl rfl ?_
  refine fc_bipush C dX7_keptMany_4 (by decide) ?_
  refine fc_bipush C dX7_keptMany_6 (by decide) ?_
  refine fc_iload_n C dX7_keptMany_8 rfl rfl ?_
  refine fc_imul C dX7_keptMany_9 ?_
  refine fc_iadd C dX7_keptMany_10 ?_
  refine fh_iaload C dX7_keptMany_11 (fun _ _ => rfl) (by omega) (by omega) (by decide) ?_
  exact fh_iret C T dX7_keptMany_12 rfl rfl
theorem r_kept (e : A 144 = v) {s p : Int} (hs : 0 ≤ s ∧ s < 3) (hp : 0 ≤ p ∧ p < 5) : fh_M mX7_kept 0 [vR 143, vI s, vI p] A F (some (vI (v (37 + 6 * s + p)))) A F := by
  subst e
  refine fh_M.of mi_X7_kept (Nat.le_of_ble_eq_true rfl) ?_
  intro X C T
  refine fc_aload_n C dX7_kept_0 rfl rfl ?_
  refine fh_getf C dX7_kept_1 fl_X7_7 rfl rfl ?_
  refine fc_bipush C dX7_kept_4 (by decide) ?_
  refine fc_bipush C dX7_kept_6 (by decide) ?_
  refine fc_iload_n C dX7_kept_8 rfl rfl ?_
  refine fc_imul C dX7_kept_9 ?_
  refine fc_iadd C dX7_kept_10 ?_
  refine fc_iconst C dX7_kept_11 ?_
  refine fc_iadd C dX7_kept_12 ?_
  refine fc_iload_n C dX7_kept_13 rfl rfl ?_
  refine fc_iadd C dX7_kept_14 ?_
  refine fh_iaload C dX7_kept_15 (fun _ _ => rfl) (by omega) (by omega) (by decide) ?_
  exact fh_iret C T dX7_kept_16 (by rw [show 36 + 6 * s + 1 + p = 37 + 6 * s + p by omega]) rfl
theorem r_keptSet (e : A 144 = v) (hv : v_ok v) : fh_M mX7_keptSet 1 [vR 143] A F (some (vI (s_kb (fun s => v (36 + 6 * s))))) A F := by
  have k0 := hv.2.2.2.2.2.2.1 0 (by omega) (by omega)
  have k1 := hv.2.2.2.2.2.2.1 1 (by omega) (by omega)
  have k2 := hv.2.2.2.2.2.2.1 2 (by omega) (by omega)
  have es : s_kb (fun s => v (36 + 6 * s)) = (if 0 < v (36 + 6 * 0) then 1 else 0) + (if 0 < v (36 + 6 * 1) then 2 else 0) + (if 0 < v (36 + 6 * 2) then 4 else 0) := by
    show 0 + (if 0 < v (36 + 6 * 0) then (2 : Int) ^ 0 else 0) + (if 0 < v (36 + 6 * 1) then (2 : Int) ^ 1 else 0) + (if 0 < v (36 + 6 * 2) then (2 : Int) ^ 2 else 0) = _
    rw [Int.zero_add]
    rfl
  refine fh_M.of mi_X7_keptSet (Nat.le_of_ble_eq_true rfl) ?_
  intro X C T
  have last : ∀ x : Int, x = 0 ∨ x = 1 ∨ x = 2 ∨ x = 3 → x = (if 0 < v (36 + 6 * 0) then 1 else 0) + (if 0 < v (36 + 6 * 1) then 2 else 0) → fc_W X 0 0 159 (fc_H A F) 27 [some (vR 143)] [vI x] := by
    intro x hx ex
    refine fc_aload_n C dX7_keptSet_27 rfl rfl ?_
    refine fc_iconst C dX7_keptSet_28 ?_
    refine fh_callV (y := mX7_keptMany) C dX7_keptSet_29 ml_X7_279 mi_X7_keptMany im_X7_keptMany se_X7_keptMany (r_keptMany e (s := 2) ⟨by omega, by omega⟩) rfl rfl (by decide) rfl (Nat.le_of_ble_eq_true rfl) (Nat.zero_le _) (Nat.zero_le _) rfl ?_
    refine fc_if_le (tgt := 39) C dX7_keptSet_32 (by decide) (fc_Rm (by omega)) (fun c32 => ?_) (fun c32 => ?_)
    · refine fc_iconst C dX7_keptSet_39 ?_
      refine fc_ior C dX7_keptSet_40 ?_
      refine fh_iret C T dX7_keptSet_41 ?_ rfl
      rw [es, ← ex, if_neg (by omega), fb_or0 (by omega) (by omega)]
      rw [Int.add_zero]
    · refine fc_iconst C dX7_keptSet_35 ?_
      refine fc_goto (tgt := 40) C dX7_keptSet_36 (by decide) ?_
      refine fc_ior C dX7_keptSet_40 ?_
      refine fh_iret C T dX7_keptSet_41 ?_ rfl
      rw [es, ← ex, if_pos (by omega)]
      rcases hx with rfl | rfl | rfl | rfl <;> rfl
  have mid : ∀ x : Int, x = 0 ∨ x = 1 → x = (if 0 < v (36 + 6 * 0) then 1 else 0) → fc_W X 0 0 159 (fc_H A F) 13 [some (vR 143)] [vI x] := by
    intro x hx ex
    refine fc_aload_n C dX7_keptSet_13 rfl rfl ?_
    refine fc_iconst C dX7_keptSet_14 ?_
    refine fh_callV (y := mX7_keptMany) C dX7_keptSet_15 ml_X7_279 mi_X7_keptMany im_X7_keptMany se_X7_keptMany (r_keptMany e (s := 1) ⟨by omega, by omega⟩) rfl rfl (by decide) rfl (Nat.le_of_ble_eq_true rfl) (Nat.zero_le _) (Nat.zero_le _) rfl ?_
    refine fc_if_le (tgt := 25) C dX7_keptSet_18 (by decide) (fc_Rm (by omega)) (fun c18 => ?_) (fun c18 => ?_)
    · refine fc_iconst C dX7_keptSet_25 ?_
      refine fc_ior C dX7_keptSet_26 ?_
      rw [fb_or0 (by omega) (by omega)]
      exact last x (by omega) (by rw [← ex, if_neg (by omega), Int.add_zero])
    · refine fc_iconst C dX7_keptSet_21 ?_
      refine fc_goto (tgt := 26) C dX7_keptSet_22 (by decide) ?_
      refine fc_ior C dX7_keptSet_26 ?_
      refine fc_eq (st' := [vI (x + 2)]) rfl (by rcases hx with rfl | rfl <;> rfl) ?_
      exact last (x + 2) (by omega) (by rw [← ex, if_pos (by omega)])
  refine fc_aload_n C dX7_keptSet_0 rfl rfl ?_
  refine fc_iconst C dX7_keptSet_1 ?_
  refine fh_callV (y := mX7_keptMany) C dX7_keptSet_2 ml_X7_279 mi_X7_keptMany im_X7_keptMany se_X7_keptMany (r_keptMany e (s := 0) ⟨by omega, by omega⟩) rfl rfl (by decide) rfl (Nat.le_of_ble_eq_true rfl) (Nat.zero_le _) (Nat.zero_le _) rfl ?_
  refine fc_if_le (tgt := 12) C dX7_keptSet_5 (by decide) (fc_Rm (by omega)) (fun c5 => ?_) (fun c5 => ?_)
  · refine fc_iconst C dX7_keptSet_12 ?_
    exact mid 0 (by omega) (by rw [if_neg (by omega)])
  · refine fc_iconst C dX7_keptSet_8 ?_
    refine fc_goto (tgt := 13) C dX7_keptSet_9 (by decide) ?_
    exact mid 1 (by omega) (by rw [if_pos (by omega)])
theorem r_toldOf (RC : m_RC A F v ps st rf tx tl) {w : Int} (hw : 0 ≤ w ∧ w ≤ 6) : fh_M mX7_toldOf 2 [vR 143, vI w] A F (some (vI (a_td v st rf tl w))) A F := by
  obtain ⟨e, hv, hst, htl, htx, h3, hps, hrf, h15, ht⟩ := id RC
  refine fh_M.of mi_X7_toldOf (Nat.le_of_ble_eq_true rfl) ?_
  intro X C T
  refine fc_iload_n C dX7_toldOf_0 rfl rfl ?_
  by_cases q3 : w < 3
  · refine fc_tableOut (tgt := 52) C dX7_toldOf_1 (fc_Rm (by omega)) (Or.inl q3) (by decide) ?_
    refine fc_aload_n C dX7_toldOf_52 rfl rfl ?_
    refine fh_getf C dX7_toldOf_53 fl_X7_19 rfl rfl ?_
    refine fc_iload_n C dX7_toldOf_56 rfl rfl ?_
    refine fh_iaload C dX7_toldOf_57 (fun _ _ => rfl) (by omega) (by omega) (by decide) ?_
    exact fh_iret C T dX7_toldOf_58 (by unfold a_td; rw [if_pos q3, hrf w hw.1 q3]) rfl
  · by_cases q4 : w = 3
    · refine fc_tableIn (off := 31) (tgt := 32) C dX7_toldOf_1 (fc_Rm (by omega)) (by omega) hw.2 (by subst q4; rfl) (by decide) ?_
      refine fc_aload_n C dX7_toldOf_32 rfl rfl ?_
      refine fh_getf C dX7_toldOf_33 fl_X7_297 rfl rfl ?_
      exact fh_iret C T dX7_toldOf_36 (by unfold a_td; rw [if_neg q3, if_pos q4, h15]) rfl
    · by_cases q5 : w = 4
      · refine fc_tableIn (off := 36) (tgt := 37) C dX7_toldOf_1 (fc_Rm (by omega)) (by omega) hw.2 (by subst q5; rfl) (by decide) ?_
        refine fc_aload_n C dX7_toldOf_37 rfl rfl ?_
        refine fh_callV (y := mX7_many) C dX7_toldOf_38 ml_X7_60 mi_X7_many im_X7_many se_X7_many (r_many e) rfl rfl (by decide) rfl (Nat.le_of_ble_eq_true rfl) (Nat.zero_le _) (Nat.zero_le _) rfl ?_
        exact fh_iret C T dX7_toldOf_41 (by unfold a_td; rw [if_neg q3, if_neg q4, if_pos q5]) rfl
      · by_cases q6 : w = 5
        · refine fc_tableIn (off := 41) (tgt := 42) C dX7_toldOf_1 (fc_Rm (by omega)) (by omega) hw.2 (by subst q6; rfl) (by decide) ?_
          refine fc_aload_n C dX7_toldOf_42 rfl rfl ?_
          refine fh_callV (y := mX7_keptSet) C dX7_toldOf_43 ml_X7_348 mi_X7_keptSet im_X7_keptSet se_X7_keptSet (r_keptSet e hv) rfl rfl (by decide) rfl (Nat.le_of_ble_eq_true rfl) (Nat.zero_le _) (Nat.zero_le _) rfl ?_
          exact fh_iret C T dX7_toldOf_46 (by unfold a_td; rw [if_neg q3, if_neg q4, if_neg q5, if_pos q6]) rfl
        · refine fc_tableIn (off := 46) (tgt := 47) C dX7_toldOf_1 (fc_Rm (by omega)) (by omega) hw.2 (by have : w = 6 := (by omega); subst this; rfl) (by decide) ?_
          refine fc_aload_n C dX7_toldOf_47 rfl rfl ?_
          refine fh_getf C dX7_toldOf_48 fl_X7_56 rfl rfl ?_
          exact fh_iret C T dX7_toldOf_51 (by unfold a_td; rw [if_neg q3, if_neg q4, if_neg q5, if_neg q6, h3]) rfl
theorem q_told (RC : m_RC A F v ps st rf tx tl) {w : Int} (hw : fc_R w) : fh_E mX7_told 3 [vR 143, vI w] A F (m_an A F (x_td w) (a_td v st rf tl w) v ps st rf tx tl) := by
  refine fh_E.of mi_X7_told (Nat.le_of_ble_eq_true rfl) ?_
  intro X C T
  refine fc_iload_n C dX7_told_0 rfl rfl ?_
  refine fc_i2l C dX7_told_1 hw ?_
  refine fc_lconst (z := 0) C dX7_told_2 rfl ?_
  refine fc_ldc2_w C dX7_told_3 kc_X7_351 ?_
  refine fh_callS (y := mX7_in) C dX7_told_6 ml_X7_64 mi_X7_in st_X7_in (r_in hw.L (fc_RLm (by omega)) (fc_RLm (by omega))) (by decide) rfl (Nat.le_of_ble_eq_true rfl) (Nat.zero_le _) (Nat.zero_le _) rfl ?_
  refine fc_if_eq (tgt := 20) C dX7_told_9 (by decide) (fc_ind_R _) (fun c9 => ?_) (fun c9 => ?_)
  · have c9 := fc_ind_0 c9
    refine fc_aload_n C dX7_told_20 rfl rfl ?_
    refine fc_bipush C dX7_told_21 (by decide) ?_
    refine fh_callV (y := mX7_refuses) C dX7_told_23 ml_X7_80 mi_X7_refuses im_X7_refuses se_X7_refuses (r_refuses (Or.inl rfl)) rfl rfl (by decide) rfl (Nat.le_of_ble_eq_true rfl) (Nat.zero_le _) (Nat.zero_le _) rfl ?_
    exact fh_iretE C T dX7_told_26 (Or.inl rfl) (m_an.no RC (if_neg c9) (Or.inl rfl))
  · have c9 := fc_ind_ne c9
    refine fc_aload_n C dX7_told_12 rfl rfl ?_
    refine fc_iload_n C dX7_told_13 rfl rfl ?_
    refine fh_callV (y := mX7_toldOf) C dX7_told_14 ml_X7_353 mi_X7_toldOf im_X7_toldOf se_X7_toldOf (r_toldOf RC c9) rfl rfl (by decide) rfl (Nat.le_of_ble_eq_true rfl) (Nat.zero_le _) (Nat.zero_le _) rfl ?_
    refine fc_goto (tgt := 26) C dX7_told_17 (by decide) ?_
    exact fh_iretE C T dX7_told_26 (Or.inl rfl) (m_an.id RC (if_pos c9) rfl)
theorem q_type (RC : m_RC A F v ps st rf tx tl) {c : Int} (hc : fc_R c) : fh_E mX7_type 1 [vR 143, vI c] A F (m_ans A F (if x_ty tl c = 0 then tl + 1 else x_ty tl c) v ps st (if x_ty tl c = 0 then rf else h_rf rf (x_ty tl c)) (if x_ty tl c = 0 then fc_set tx tl c else tx) (if x_ty tl c = 0 then tl + 1 else tl)) := by
  obtain ⟨e, hv, hst, htl, htx, h3, hps, hrf, h15, ht⟩ := id RC
  refine fh_E.of mi_X7_type (Nat.le_of_ble_eq_true rfl) ?_
  intro X C T
  refine fc_iload_n C dX7_type_0 rfl rfl ?_
  refine fc_i2l C dX7_type_1 hc ?_
  refine fc_lconst (z := 0) C dX7_type_2 rfl ?_
  refine fc_ldc2_w C dX7_type_3 kc_X7_295 ?_
  refine fh_callS (y := mX7_in) C dX7_type_6 ml_X7_64 mi_X7_in st_X7_in (r_in hc.L (fc_RLm (by omega)) (fc_RLm (by omega))) (by decide) rfl (Nat.le_of_ble_eq_true rfl) (Nat.zero_le _) (Nat.zero_le _) rfl ?_
  refine fc_if_ne (tgt := 19) C dX7_type_9 (by decide) (fc_ind_R _) (fun c9 => ?_) (fun c9 => ?_)
  · have c9 := fc_ind_ne c9
    refine fc_aload_n C dX7_type_19 rfl rfl ?_
    refine fh_getf C dX7_type_20 fl_X7_297 rfl rfl ?_
    refine fc_bipush C dX7_type_23 (by decide) ?_
    refine fc_icmp_ne (tgt := 35) C dX7_type_25 (by decide) (fc_Rm (by omega)) (fc_Rm (by omega)) (fun c25 => ?_) (fun c25 => ?_)
    · have hx : x_ty tl c = 0 := by unfold x_ty; rw [if_pos c9, if_pos (by omega)]
      refine fc_aload_n C dX7_type_35 rfl rfl ?_
      refine fh_getf C dX7_type_36 fl_X7_50 rfl rfl ?_
      refine fc_aload_n C dX7_type_39 rfl rfl ?_
      refine fh_getf C dX7_type_40 fl_X7_297 rfl rfl ?_
      refine fc_iload_n C dX7_type_43 rfl rfl ?_
      refine fh_iastore C dX7_type_44 (fun _ _ => rfl) (by omega) (by omega) (by decide) ?_
      refine fc_aload_n C dX7_type_45 rfl rfl ?_
      refine fc_dup C dX7_type_46 rfl ?_
      refine fh_getf C dX7_type_47 fl_X7_297 rfl rfl ?_
      refine fc_iconst C dX7_type_50 ?_
      refine fc_iadd C dX7_type_51 ?_
      refine fh_putf _ C dX7_type_52 fl_X7_297 rfl (Nat.le_of_ble_eq_true rfl) rfl rfl ?_
      refine fc_aload_n C dX7_type_55 rfl rfl ?_
      refine fh_getf C dX7_type_56 fl_X7_297 rfl rfl ?_
      refine fh_iretE C T dX7_type_59 (Or.inl rfl) ?_
      rw [if_pos hx, if_pos hx, if_pos hx, if_pos hx]
      refine ⟨by rw [ff_s, h15], v_eq.of (by rw [fa_n _ _ (by omega)]; exact e), ⟨by rw [ff_k (by omega)]; exact h3, fun j k j0 j1 k0 k1 => by rw [fa_n _ _ (by omega)]; exact hps j k j0 j1 k0 k1, fun i i0 i1 => by rw [fa_n _ _ (by omega)]; exact hrf i i0 i1, by rw [ff_s, h15], fun i i0 i1 => ?_⟩, fun i hi => ⟨fa_n _ _ (by omega), ff_n (by omega)⟩⟩
      rw [fa_s, h15]
      unfold fc_set
      by_cases q : i = tl
      · rw [if_pos q, if_pos q]
      · rw [if_neg q, if_neg q]; exact ht i i0 (by omega)
    · have hx : x_ty tl c = -4 := by unfold x_ty; rw [if_pos c9, if_neg (by omega)]
      refine fc_aload_n C dX7_type_28 rfl rfl ?_
      refine fc_bipush C dX7_type_29 (by decide) ?_
      refine fh_callV (y := mX7_refuses) C dX7_type_31 ml_X7_80 mi_X7_refuses im_X7_refuses se_X7_refuses (r_refuses (Or.inr (Or.inr rfl))) rfl rfl (by decide) rfl (Nat.le_of_ble_eq_true rfl) (Nat.zero_le _) (Nat.zero_le _) rfl ?_
      refine fh_iretE C T dX7_type_34 (Or.inl rfl) ?_
      rw [hx]
      exact m_ans.ref RC (Or.inr (Or.inr rfl))
  · have c9 := fc_ind_0 c9
    have hx : x_ty tl c = -2 := if_neg c9
    refine fc_aload_n C dX7_type_12 rfl rfl ?_
    refine fc_bipush C dX7_type_13 (by decide) ?_
    refine fh_callV (y := mX7_refuses) C dX7_type_15 ml_X7_80 mi_X7_refuses im_X7_refuses se_X7_refuses (r_refuses (Or.inl rfl)) rfl rfl (by decide) rfl (Nat.le_of_ble_eq_true rfl) (Nat.zero_le _) (Nat.zero_le _) rfl ?_
    refine fh_iretE C T dX7_type_18 (Or.inl rfl) ?_
    rw [hx]
    exact m_ans.ref RC (Or.inl rfl)
theorem q_clear (RC : m_RC A F v ps st rf tx tl) : fh_E mX7_clear 0 [vR 143] A F (m_ans A F tl v ps st rf tx 0) := by
  obtain ⟨e, hv, hst, htl, htx, h3, hps, hrf, h15, ht⟩ := id RC
  refine fh_E.of mi_X7_clear (Nat.le_of_ble_eq_true rfl) ?_
  intro X C T
  refine fc_aload_n C dX7_clear_0 rfl rfl ?_
  refine fh_getf C dX7_clear_1 fl_X7_297 rfl rfl ?_
  refine fc_istore_n C dX7_clear_4 rfl (by decide) ?_
  refine fc_aload_n C dX7_clear_5 rfl rfl ?_
  refine fc_iconst C dX7_clear_6 ?_
  refine fh_putf _ C dX7_clear_7 fl_X7_297 rfl (Nat.le_of_ble_eq_true rfl) rfl rfl ?_
  refine fc_iload_n C dX7_clear_10 rfl rfl ?_
  exact fh_iretE C T dX7_clear_11 (Or.inl rfl) ⟨by rw [h15], v_eq.of e, ⟨by rw [ff_k (by omega)]; exact h3, hps, hrf, ff_s, fun i i0 i1 => by omega⟩, fun i hi => ⟨rfl, ff_n (by omega)⟩⟩
theorem q_back (RC : m_RC A F v ps st rf tx tl) : fh_E mX7_back 1 [vR 143] A F (m_ans A F (if x_bk st = 0 then st - 1 else x_bk st) (if x_bk st = 0 then ps (st - 1) else v) ps (if x_bk st = 0 then st - 1 else st) (if x_bk st = 0 then rf else h_rf rf (x_bk st)) tx tl) := by
  obtain ⟨e, hv, hst, htl, htx, h3, hps, hrf, h15, ht⟩ := id RC
  refine fh_E.of mi_X7_back (Nat.le_of_ble_eq_true rfl) ?_
  intro X C T
  refine fc_aload_n C dX7_back_0 rfl rfl ?_
  refine fh_getf C dX7_back_1 fl_X7_56 rfl rfl ?_
  refine fc_if_ne (tgt := 14) C dX7_back_4 (by decide) (fc_Rm (by omega)) (fun c4 => ?_) (fun c4 => ?_)
  · have hx : x_bk st = 0 := if_pos (by omega)
    have loop : ∀ (m : Nat) (k : Int) (A1 : Nat → Int → Int), 0 ≤ k → k ≤ 54 → 54 - k < m → (∀ j : Nat, j ≠ 144 → A1 j = A j) → (∀ j : Int, 0 ≤ j → j < k → A1 144 j = ps (st - 1) j) → fc_W X 0 0 159 (fc_H A1 (ff_up F 143 3 (st - 1))) 26 [some (vR 143), some (vI k)] [] := by
      intro m
      induction m with
      | zero => intro k A1 z0 z1 z2; exfalso; omega
      | succ m ih =>
        intro k A1 z0 z1 z2 frA hk
        have e3 : ff_up F 143 3 (st - 1) 143 3 = st - 1 := ff_s
        refine fc_iload_n C dX7_back_26 rfl rfl ?_
        refine fc_bipush C dX7_back_27 (by decide) ?_
        refine fc_icmp_ge (tgt := 58) C dX7_back_29 (by decide) (fc_Rm (by omega)) (fc_Rm (by omega)) (fun c29 => ?_) (fun c29 => ?_)
        · refine fc_aload_n C dX7_back_58 rfl rfl ?_
          refine fh_getf C dX7_back_59 fl_X7_56 rfl rfl ?_
          refine fh_iretE C T dX7_back_62 (Or.inl rfl) ?_
          rw [if_pos hx, if_pos hx, if_pos hx, if_pos hx]
          exact ⟨by rw [e3], fun j j0 j1 => hk j j0 (by omega), ⟨e3, fun j k j0 j1 k0 k1 => by rw [frA 145 (by omega)]; exact hps j k j0 (by omega) k0 k1, fun i i0 i1 => by rw [frA 147 (by omega)]; exact hrf i i0 i1, by rw [ff_k (by omega)]; exact h15, fun i i0 i1 => by rw [frA 157 (by omega)]; exact ht i i0 i1⟩, fun i hi => ⟨frA i (by omega), ff_n (by omega)⟩⟩
        · refine fc_aload_n C dX7_back_32 rfl rfl ?_
          refine fh_getf C dX7_back_33 fl_X7_7 rfl rfl ?_
          refine fc_iload_n C dX7_back_36 rfl rfl ?_
          refine fc_aload_n C dX7_back_37 rfl rfl ?_
          refine fh_getf C dX7_back_38 fl_X7_13 rfl rfl ?_
          refine fc_bipush C dX7_back_41 (by decide) ?_
          refine fc_aload_n C dX7_back_43 rfl rfl ?_
          refine fh_getf C dX7_back_44 fl_X7_56 rfl rfl ?_
          refine fc_imul C dX7_back_47 ?_
          refine fc_iload_n C dX7_back_48 rfl rfl ?_
          refine fc_iadd C dX7_back_49 ?_
          refine fh_iaload C dX7_back_50 (fun _ _ => rfl) (by omega) (by omega) (by decide) ?_
          refine fh_iastore C dX7_back_51 (fun _ _ => rfl) (by omega) (by omega) (by decide) ?_
          refine fc_iinc C dX7_back_52 rfl (by decide) ?_
          refine fc_goto (tgt := 26) C dX7_back_55 (by decide) ?_
          refine ih (k + 1) _ (by omega) (by omega) (by omega) (fun j hj => by rw [fa_n _ _ hj]; exact frA j hj) (fun j j0 j1 => ?_)
          rw [fa_s, e3, frA 145 (by omega)]
          unfold fc_set
          by_cases q : j = k
          · rw [if_pos q, hps (st - 1) k (by omega) (by omega) z0 (by omega), q]
          · rw [if_neg q]; exact hk j j0 (by omega)
    refine fc_aload_n C dX7_back_14 rfl rfl ?_
    refine fc_dup C dX7_back_15 rfl ?_
    refine fh_getf C dX7_back_16 fl_X7_56 rfl rfl ?_
    refine fc_iconst C dX7_back_19 ?_
    refine fc_isub C dX7_back_20 ?_
    refine fh_putf _ C dX7_back_21 fl_X7_56 rfl (Nat.le_of_ble_eq_true rfl) rfl rfl ?_
    refine fc_iconst C dX7_back_24 ?_
    refine fc_istore_n C dX7_back_25 rfl (by decide) ?_
    refine fc_heq (h' := fc_H A (ff_up F 143 3 (st - 1))) (by rw [h3]) ?_
    exact loop 55 0 A (by omega) (by omega) (by omega) (fun _ _ => rfl) (fun j j0 j1 => by omega)
  · have hx : x_bk st = -3 := if_neg (by omega)
    refine fc_aload_n C dX7_back_7 rfl rfl ?_
    refine fc_bipush C dX7_back_8 (by decide) ?_
    refine fh_callV (y := mX7_refuses) C dX7_back_10 ml_X7_80 mi_X7_refuses im_X7_refuses se_X7_refuses (r_refuses (Or.inr (Or.inl rfl))) rfl rfl (by decide) rfl (Nat.le_of_ble_eq_true rfl) (Nat.zero_le _) (Nat.zero_le _) rfl ?_
    refine fh_iretE C T dX7_back_13 (Or.inl rfl) ?_
    rw [hx]
    exact m_ans.ref RC (Or.inr (Or.inl rfl))
theorem r_degree (e : A 144 = v) (hn : 2 ≤ v 0 ∧ v 0 ≤ 5) : fh_M mX7_degree 1 [vR 143] A F (some (vI (fs_sum (v_c v) (v 0).toNat))) A F := by
  refine fh_M.of mi_X7_degree (Nat.le_of_ble_eq_true rfl) ?_
  intro X C T
  have loop : ∀ (m : Nat) (k : Int), 0 ≤ k → k ≤ v 0 → v 0 - k < m → fc_W X 0 0 159 (fc_H A F) 4 [some (vR 143), some (vI (fs_sum (v_c v) k.toNat)), some (vI k)] [] := by
    intro m
    induction m with
    | zero => intro k z0 z1 z2; exfalso; omega
    | succ m ih =>
      intro k z0 z1 z2
      refine fc_iload_n C dX7_degree_4 rfl rfl ?_
      refine fc_aload_n C dX7_degree_5 rfl rfl ?_
      refine fh_callV (y := mX7_many) C dX7_degree_6 ml_X7_60 mi_X7_many im_X7_many se_X7_many (r_many e) rfl rfl (by decide) rfl (Nat.le_of_ble_eq_true rfl) (Nat.zero_le _) (Nat.zero_le _) rfl ?_
      refine fc_icmp_ge (tgt := 26) C dX7_degree_9 (by decide) (fc_Rm (by omega)) (fc_Rm (by omega)) (fun c9 => ?_) (fun c9 => ?_)
      · refine fc_iload_n C dX7_degree_26 rfl rfl ?_
        exact fh_iret C T dX7_degree_27 (by rw [show k = v 0 by omega]) rfl
      · refine fc_iload_n C dX7_degree_12 rfl rfl ?_
        refine fc_aload_n C dX7_degree_13 rfl rfl ?_
        refine fc_iload_n C dX7_degree_14 rfl rfl ?_
        refine fh_callV (y := mX7_chips) C dX7_degree_15 ml_X7_126 mi_X7_chips im_X7_chips se_X7_chips (r_chips e ⟨z0, by omega⟩) rfl rfl (by decide) rfl (Nat.le_of_ble_eq_true rfl) (Nat.zero_le _) (Nat.zero_le _) rfl ?_
        refine fc_iadd C dX7_degree_18 ?_
        refine fc_istore_n C dX7_degree_19 rfl (by decide) ?_
        refine fc_iinc C dX7_degree_20 rfl (by decide) ?_
        refine fc_goto (tgt := 4) C dX7_degree_23 (by decide) ?_
        exact fc_eq (by rw [fs_step z0]; rfl) rfl (ih (k + 1) (by omega) (by omega) (by omega))
  refine fc_iconst C dX7_degree_0 ?_
  refine fc_istore_n C dX7_degree_1 rfl (by decide) ?_
  refine fc_iconst C dX7_degree_2 ?_
  refine fc_istore_n C dX7_degree_3 rfl (by decide) ?_
  exact loop 6 0 (by omega) (by omega) (by omega)
theorem r_dualDegree (e : A 144 = v) (hv : v_ok v) : fh_M mX7_dualDegree 3 [vR 143] A F (some (vI (2 * s_lc (v_L v) (v 0) - 2 * v 0 - fs_sum (v_c v) (v 0).toNat))) A F := by
  have hn := hv.n
  refine fh_M.of mi_X7_dualDegree (Nat.le_of_ble_eq_true rfl) ?_
  intro X C T
  refine fc_iconst C dX7_dualDegree_0 ?_
  refine fc_aload_n C dX7_dualDegree_1 rfl rfl ?_
  refine fh_callV (y := mX7_allLines) C dX7_dualDegree_2 ml_X7_115 mi_X7_allLines im_X7_allLines se_X7_allLines (r_allLines e hn hv.g) rfl rfl (by decide) rfl (Nat.le_of_ble_eq_true rfl) (Nat.zero_le _) (Nat.zero_le _) rfl ?_
  refine fc_imul C dX7_dualDegree_5 ?_
  refine fc_iconst C dX7_dualDegree_6 ?_
  refine fc_aload_n C dX7_dualDegree_7 rfl rfl ?_
  refine fh_callV (y := mX7_many) C dX7_dualDegree_8 ml_X7_60 mi_X7_many im_X7_many se_X7_many (r_many e) rfl rfl (by decide) rfl (Nat.le_of_ble_eq_true rfl) (Nat.zero_le _) (Nat.zero_le _) rfl ?_
  refine fc_imul C dX7_dualDegree_11 ?_
  refine fc_isub C dX7_dualDegree_12 ?_
  refine fc_aload_n C dX7_dualDegree_13 rfl rfl ?_
  refine fh_callV (y := mX7_degree) C dX7_dualDegree_14 ml_X7_257 mi_X7_degree im_X7_degree se_X7_degree (r_degree e hn) rfl rfl (by decide) rfl (Nat.le_of_ble_eq_true rfl) (Nat.zero_le _) (Nat.zero_le _) rfl ?_
  refine fc_isub C dX7_dualDegree_17 ?_
  exact fh_iret C T dX7_dualDegree_18 rfl rfl
theorem q_keeps (RC : m_RC A F v ps st rf tx tl) {s : Int} (hs : fc_R s) : fh_E mX7_keeps 2 [vR 143, vI s] A F (m_st A F (x_kp s) (fs_sum (v_c v) (v 0).toNat + 10000) v ps st rf tx tl (p_kp v s)) := by
  obtain ⟨e, hv, -⟩ := id RC
  have hn := hv.n
  refine fh_E.of mi_X7_keeps (Nat.le_of_ble_eq_true rfl) ?_
  intro X C T
  refine fc_iload_n C dX7_keeps_0 rfl rfl ?_
  refine fc_i2l C dX7_keeps_1 hs ?_
  refine fc_lconst (z := 0) C dX7_keeps_2 rfl ?_
  refine fc_ldc2_w C dX7_keeps_3 kc_X7_76 ?_
  refine fh_callS (y := mX7_in) C dX7_keeps_6 ml_X7_64 mi_X7_in st_X7_in (r_in hs.L (fc_RLm (by omega)) (fc_RLm (by omega))) (by decide) rfl (Nat.le_of_ble_eq_true rfl) (Nat.zero_le _) (Nat.zero_le _) rfl ?_
  refine fc_if_ne (tgt := 19) C dX7_keeps_9 (by decide) (fc_ind_R _) (fun c9 => ?_) (fun c9 => ?_)
  · have c9 := fc_ind_ne c9
    have hx : x_kp s = 0 := if_pos (by omega)
    refine fc_aload_n C dX7_keeps_19 rfl rfl ?_
    refine fh_callVE (y := mX7_keep) C dX7_keeps_20 ml_X7_83 mi_X7_keep im_X7_keep se_X7_keep (r_keep RC) rfl rfl (by decide) rfl (Nat.le_of_ble_eq_true rfl) (Nat.zero_le _) (Nat.zero_le _) rfl ?_
    rintro r A0 F0 ⟨rfl, hm, aj, fj, fk⟩
    refine fc_eq (st' := []) rfl rfl ?_
    have e0 := (aj 144 (by omega)).trans e
    have loop : ∀ (m : Nat) (k : Int) (A1 : Nat → Int → Int), 0 ≤ k → k ≤ 5 → 5 - k < m → (∀ j : Nat, j ≠ 144 → A1 j = A0 j) → (∀ j : Int, A1 144 j = if j = 36 + 6 * s then v 0 else if 37 + 6 * s ≤ j ∧ j < 37 + 6 * s + k then v (26 + (j - 37 - 6 * s)) else v j) → fc_W X 0 0 159 (fc_H A1 F0) 41 [some (vR 143), some (vI s), some (vI k)] [] := by
      intro m
      induction m with
      | zero => intro k A1 z0 z1 z2; exfalso; omega
      | succ m ih =>
        intro k A1 z0 z1 z2 frA h1
        have lo : ∀ j : Int, j < 36 → A1 144 j = v j := fun j hj => by rw [h1, if_neg (by omega), if_neg (by omega)]
        have h00 : A1 144 0 = v 0 := lo 0 (by omega)
        refine fc_iload_n C dX7_keeps_41 rfl rfl ?_
        refine fc_iconst C dX7_keeps_42 ?_
        refine fc_icmp_ge (tgt := 85) C dX7_keeps_43 (by decide) (fc_Rm (by omega)) (fc_Rm (by omega)) (fun c43 => ?_) (fun c43 => ?_)
        · refine fc_aload_n C dX7_keeps_85 rfl rfl ?_
          refine fh_callV (y := mX7_degree) C dX7_keeps_86 ml_X7_257 mi_X7_degree im_X7_degree se_X7_degree (r_degree (v := A1 144) rfl (by omega)) rfl rfl (by decide) rfl (Nat.le_of_ble_eq_true rfl) (Nat.zero_le _) (Nat.zero_le _) rfl ?_
          refine fc_sipush C dX7_keeps_89 (by decide) ?_
          refine fc_iadd C dX7_keeps_92 ?_
          refine fh_iretE C T dX7_keeps_93 (Or.inl rfl) (m_st.yes (fun j j0 j1 => ?_) (hm.fr (frA 145 (by omega)) (frA 147 (by omega)) (frA 157 (by omega)) rfl rfl) (fun i hi => ⟨by rw [frA i (by omega)]; exact aj i (by omega), fj i (by omega)⟩) hx ?_)
          · rw [h1, p_kp_at, show k = 5 by omega, show 37 + 6 * s + 5 = 42 + 6 * s by omega]
          · rw [h00, fs_sum_congr (f := v_c (A1 144)) (g := v_c v) (fun p p0 p1 => lo (26 + p) (by omega))]
        · have nxt : ∀ x : Int, x = v (26 + k) → fc_W X 0 0 159 (fc_H A1 F0) 78 [some (vR 143), some (vI s), some (vI k)] [vI x, vI (36 + 6 * s + 1 + k), vR 144] := by
            intro x ex
            refine fh_iastore C dX7_keeps_78 (fun _ _ => rfl) (by omega) (by omega) (by decide) ?_
            refine fc_iinc C dX7_keeps_79 rfl (by decide) ?_
            refine fc_goto (tgt := 41) C dX7_keeps_82 (by decide) ?_
            refine ih (k + 1) _ (by omega) (by omega) (by omega) (fun j hj => by rw [fa_n _ _ hj]; exact frA j hj) (fun j => ?_)
            rw [fa_s]
            unfold fc_set
            by_cases c1 : j = 36 + 6 * s + 1 + k
            · rw [if_pos c1, if_neg (by omega), if_pos (by omega), ex, show j - 37 - 6 * s = k by omega]
            · rw [if_neg c1, h1 j]
              by_cases c2 : j = 36 + 6 * s
              · rw [if_pos c2, if_pos c2]
              · rw [if_neg c2, if_neg c2]
                by_cases c3 : 37 + 6 * s ≤ j ∧ j < 37 + 6 * s + k
                · rw [if_pos c3, if_pos (show 37 + 6 * s ≤ j ∧ j < 37 + 6 * s + (k + 1) by omega)]
                · rw [if_neg c3, if_neg (show ¬ (37 + 6 * s ≤ j ∧ j < 37 + 6 * s + (k + 1)) by omega)]
          refine fc_aload_n C dX7_keeps_46 rfl rfl ?_
          refine fh_getf C dX7_keeps_47 fl_X7_7 rfl rfl ?_
          refine fc_bipush C dX7_keeps_50 (by decide) ?_
          refine fc_bipush C dX7_keeps_52 (by decide) ?_
          refine fc_iload_n C dX7_keeps_54 rfl rfl ?_
          refine fc_imul C dX7_keeps_55 ?_
          refine fc_iadd C dX7_keeps_56 ?_
          refine fc_iconst C dX7_keeps_57 ?_
          refine fc_iadd C dX7_keeps_58 ?_
          refine fc_iload_n C dX7_keeps_59 rfl rfl ?_
          refine fc_iadd C dX7_keeps_60 ?_
          refine fc_iload_n C dX7_keeps_61 rfl rfl ?_
          refine fc_aload_n C dX7_keeps_62 rfl rfl ?_
          refine fh_callV (y := mX7_many) C dX7_keeps_63 ml_X7_60 mi_X7_many im_X7_many se_X7_many (r_many (v := A1 144) rfl) rfl rfl (by decide) rfl (Nat.le_of_ble_eq_true rfl) (Nat.zero_le _) (Nat.zero_le _) rfl ?_
          rw [h00]
          refine fc_icmp_ge (tgt := 77) C dX7_keeps_66 (by decide) (fc_Rm (by omega)) (fc_Rm (by omega)) (fun c66 => ?_) (fun c66 => ?_)
          · refine fc_iconst C dX7_keeps_77 ?_
            exact nxt 0 (by rw [(hv.2.2.2.2.1 k (by omega) (by omega)).1])
          · refine fc_aload_n C dX7_keeps_69 rfl rfl ?_
            refine fc_iload_n C dX7_keeps_70 rfl rfl ?_
            refine fh_callV (y := mX7_chips) C dX7_keeps_71 ml_X7_126 mi_X7_chips im_X7_chips se_X7_chips (r_chips (v := A1 144) rfl ⟨z0, by omega⟩) rfl rfl (by decide) rfl (Nat.le_of_ble_eq_true rfl) (Nat.zero_le _) (Nat.zero_le _) rfl ?_
            refine fc_goto (tgt := 78) C dX7_keeps_74 (by decide) ?_
            exact nxt _ (lo _ (by omega))
    refine fc_aload_n C dX7_keeps_23 rfl rfl ?_
    refine fh_getf C dX7_keeps_24 fl_X7_7 rfl rfl ?_
    refine fc_bipush C dX7_keeps_27 (by decide) ?_
    refine fc_bipush C dX7_keeps_29 (by decide) ?_
    refine fc_iload_n C dX7_keeps_31 rfl rfl ?_
    refine fc_imul C dX7_keeps_32 ?_
    refine fc_iadd C dX7_keeps_33 ?_
    refine fc_aload_n C dX7_keeps_34 rfl rfl ?_
    refine fh_callV (y := mX7_many) C dX7_keeps_35 ml_X7_60 mi_X7_many im_X7_many se_X7_many (r_many e0) rfl rfl (by decide) rfl (Nat.le_of_ble_eq_true rfl) (Nat.zero_le _) (Nat.zero_le _) rfl ?_
    refine fh_iastore C dX7_keeps_38 (fun _ _ => rfl) (by omega) (by omega) (by decide) ?_
    refine fc_iconst C dX7_keeps_39 ?_
    refine fc_istore_n C dX7_keeps_40 rfl (by decide) ?_
    refine loop 6 0 _ (by omega) (by omega) (by omega) (fun j hj => fa_n _ _ hj) (fun j => ?_)
    rw [fa_s, e0]
    unfold fc_set
    by_cases c1 : j = 36 + 6 * s
    · rw [if_pos c1, if_pos c1]
    · rw [if_neg c1, if_neg c1, if_neg (by omega)]
  · have c9 := fc_ind_0 c9
    refine fc_aload_n C dX7_keeps_12 rfl rfl ?_
    refine fc_bipush C dX7_keeps_13 (by decide) ?_
    refine fh_callV (y := mX7_refuses) C dX7_keeps_15 ml_X7_80 mi_X7_refuses im_X7_refuses se_X7_refuses (r_refuses (Or.inl rfl)) rfl rfl (by decide) rfl (Nat.le_of_ble_eq_true rfl) (Nat.zero_le _) (Nat.zero_le _) rfl ?_
    exact fh_iretE C T dX7_keeps_18 (Or.inl rfl) (m_st.no RC (if_neg (by omega)) (Or.inl rfl))
end REF6
