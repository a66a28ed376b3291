/-! the reference: settles, what only looks, texts' bytes, back, keeps -/
theorem s_pc_lt {S T : Int} (h0 : 0 ≤ S) (h1 : S < 32) (h2 : 0 ≤ T) (h3 : T < 32) (hs : ∀ o : Int, 0 ≤ o → o < 5 → fb_t S o = 1 → fb_t T o = 1) (hne : T ≠ S) : s_pc S + 1 ≤ s_pc T := by
  apply Classical.byContradiction
  intro hc
  have e1 := s_pc5 S
  have e2 := s_pc5 T
  have hb : ∀ o : Int, 0 ≤ o → o < 5 → fb_t S o ≤ fb_t T o := fun o o0 o1 => by
    have := hs o o0 o1
    have := fb_01 S o
    have := fb_01 T o
    omega
  have b0 := hb 0 (by omega) (by omega)
  have b1 := hb 1 (by omega) (by omega)
  have b2 := hb 2 (by omega) (by omega)
  have b3 := hb 3 (by omega) (by omega)
  have b4 := hb 4 (by omega) (by omega)
  refine hne (fb_ext h2 h3 h0 h1 fun o o0 o1 => ?_)
  have ho : o = 0 ∨ o = 1 ∨ o = 2 ∨ o = 3 ∨ o = 4 := by omega
  rcases ho with rfl | rfl | rfl | rfl | rfl <;> omega
theorem s_pc_n {S n : Int} (hn : 2 ≤ n ∧ n ≤ 5) (hb : ∀ o : Int, 0 ≤ o → o < 5 → fb_t S o = 1 → o < n) : s_pc S ≤ n := by
  have e1 := s_pc5 S
  have b0 := fb_01 S 0
  have b1 := fb_01 S 1
  have b2 := fb_01 S 2
  have b3 := fb_01 S 3
  have b4 := fb_01 S 4
  have c2 := hb 2 (by omega) (by omega)
  have c3 := hb 3 (by omega) (by omega)
  have c4 := hb 4 (by omega) (by omega)
  omega
theorem s_bn_fix {L : Int → Int → Int} {n : Int} {c : Int → Int} {k : Nat} (h : s_bn L n c (k + 1) = s_bn L n c k) : ∀ d : Nat, s_bn L n c (k + d) = s_bn L n c k ∧ s_wv L n c (k + d) = s_wv L n c k
  | 0 => ⟨rfl, rfl⟩
  | d + 1 => by
    have ih := s_bn_fix h d
    have e : s_bn L n c (k + d + 1) = s_bn L n c k := by
      show s_bs L n c (s_bn L n c (k + d)) = _
      rw [ih.1]
      exact h
    refine ⟨e, ?_⟩
    show s_wv L n c (k + d) + (if s_bn L n c (k + d + 1) = s_bn L n c (k + d) then 0 else 1) = _
    rw [if_pos (by rw [e, ih.1]), ih.2, Int.add_zero]
section REF5
variable {A : Nat → Int → Int} {F : Nat → Nat → Int} {v : Int → Int} {ps : Int → Int → Int} {st : Int} {rf tx : Int → Int} {tl : Int}
theorem r_laysChips (e : A 144 = v) (hv : v_ok v) : fh_E mX7_laysChips 1 [vR 143] A F (fun r A' F' => r = none ∧ F' = F ∧ (∀ j : Nat, j ≠ 148 → A' j = A j) ∧ ∀ p : Int, 0 ≤ p → p < v 0 → A' 148 p = v_c v p) := by
  have hn := hv.n
  refine fh_E.of mi_X7_laysChips (Nat.le_of_ble_eq_true rfl) ?_
  intro X C T
  have loop : ∀ (m : Nat) (k : Int) (A1 : Nat → Int → Int), 0 ≤ k → k ≤ v 0 → v 0 - k < m → (∀ j : Nat, j ≠ 148 → A1 j = A j) → (∀ p : Int, 0 ≤ p → p < k → A1 148 p = v_c v p) → fc_W X 0 0 159 (fc_H A1 F) 2 [some (vR 143), some (vI k)] [] := by
    intro m
    induction m with
    | zero => intro k A1 z0 z1 z2; exfalso; omega
    | succ m ih =>
      intro k A1 z0 z1 z2 frA hk
      have e1 := (frA 144 (by omega)).trans e
      refine fc_iload_n C dX7_laysChips_2 rfl rfl ?_
      refine fc_aload_n C dX7_laysChips_3 rfl rfl ?_
      refine fh_callV (y := mX7_many) C dX7_laysChips_4 ml_X7_60 mi_X7_many im_X7_many se_X7_many (r_many e1) rfl rfl (by decide) rfl (Nat.le_of_ble_eq_true rfl) (Nat.zero_le _) (Nat.zero_le _) rfl ?_
      refine fc_icmp_ge (tgt := 28) C dX7_laysChips_7 (by decide) (fc_Rm (by omega)) (fc_Rm (by omega)) (fun c7 => ?_) (fun c7 => ?_)
      · exact fh_vretE C T dX7_laysChips_28 ⟨rfl, rfl, frA, fun p p0 p1 => hk p p0 (by omega)⟩
      · have hc := hv.2.2.2.1 k z0 (by omega)
        refine fc_aload_n C dX7_laysChips_10 rfl rfl ?_
        refine fh_getf C dX7_laysChips_11 fl_X7_22 rfl rfl ?_
        refine fc_iload_n C dX7_laysChips_14 rfl rfl ?_
        refine fc_aload_n C dX7_laysChips_15 rfl rfl ?_
        refine fc_iload_n C dX7_laysChips_16 rfl rfl ?_
        refine fh_callV (y := mX7_chips) C dX7_laysChips_17 ml_X7_126 mi_X7_chips im_X7_chips se_X7_chips (r_chips e1 ⟨z0, by omega⟩) rfl rfl (by decide) rfl (Nat.le_of_ble_eq_true rfl) (Nat.zero_le _) (Nat.zero_le _) rfl ?_
        refine fc_i2l C dX7_laysChips_20 (fc_Rm (by omega)) ?_
        refine fh_lastore C dX7_laysChips_21 (fun _ _ => rfl) (by omega) (by omega) (by decide) ?_
        refine fc_iinc C dX7_laysChips_22 rfl (by decide) ?_
        refine fc_goto (tgt := 2) C dX7_laysChips_25 (by decide) ?_
        refine ih (k + 1) _ (by omega) (by omega) (by omega) (fun j hj => by rw [fa_n _ _ hj]; exact frA j hj) (fun p p0 p1 => ?_)
        rw [fa_s]
        unfold fc_set
        by_cases c : p = k
        · rw [if_pos c, c]; rfl
        · rw [if_neg c]; exact hk p p0 (by omega)
  refine fc_iconst C dX7_laysChips_0 ?_
  refine fc_istore_n C dX7_laysChips_1 rfl (by decide) ?_
  exact loop 6 0 A (by omega) (by omega) (by omega) (fun _ _ => rfl) (fun p p0 p1 => by omega)
theorem r_isHeap (e : A 144 = v) (hv : v_ok v) : fh_M mX7_isHeap 1 [vR 143] A F (some (vI (fc_ind (s_hp v)))) A F := by
  have hn := hv.n
  refine fh_M.of mi_X7_isHeap (Nat.le_of_ble_eq_true rfl) ?_
  intro X C T
  have loop : ∀ (m : Nat) (k b : Int), 1 ≤ k → k ≤ v 0 → v 0 - k < m → b = fc_ind (∀ p : Int, 1 ≤ p → p < k → 0 ≤ v (26 + p)) → fc_W X 0 0 159 (fc_H A F) 4 [some (vR 143), some (vI b), some (vI k)] [] := by
    intro m
    induction m with
    | zero => intro k b z0 z1 z2; exfalso; omega
    | succ m ih =>
      intro k b z0 z1 z2 hb
      have hbR : fc_R b := by rw [hb]; exact fc_ind_R _
      refine fc_iload_n C dX7_isHeap_4 rfl rfl ?_
      refine fc_aload_n C dX7_isHeap_5 rfl rfl ?_
      refine fh_callV (y := mX7_many) C dX7_isHeap_6 ml_X7_60 mi_X7_many im_X7_many se_X7_many (r_many e) rfl rfl (by decide) rfl (Nat.le_of_ble_eq_true rfl) (Nat.zero_le _) (Nat.zero_le _) rfl ?_
      refine fc_icmp_ge (tgt := 36) C dX7_isHeap_9 (by decide) (fc_Rm (by omega)) (fc_Rm (by omega)) (fun c9 => ?_) (fun c9 => ?_)
      · refine fc_iload_n C dX7_isHeap_36 rfl rfl ?_
        exact fh_zret C T dX7_isHeap_37 (by rw [hb]; exact fc_ind_01 _) (by rw [hb, show k = v 0 by omega]; rfl) rfl
      · have nxt : ∀ x : Int, x = fc_ind (∀ p : Int, 1 ≤ p → p < k + 1 → 0 ≤ v (26 + p)) → fc_W X 0 0 159 (fc_H A F) 29 [some (vR 143), some (vI b), some (vI k)] [vI x] := by
          intro x hx
          refine fc_istore_n C dX7_isHeap_29 rfl (by decide) ?_
          refine fc_iinc C dX7_isHeap_30 rfl (by decide) ?_
          refine fc_goto (tgt := 4) C dX7_isHeap_33 (by decide) ?_
          exact ih (k + 1) x (by omega) (by omega) (by omega) hx
        have hc := hv.2.2.2.1 k (by omega) (by omega)
        refine fc_iload_n C dX7_isHeap_12 rfl rfl ?_
        refine fc_if_eq (tgt := 28) C dX7_isHeap_13 (by decide) (hbR) (fun c13 => ?_) (fun c13 => ?_)
        · refine fc_iconst C dX7_isHeap_28 ?_
          have := fc_ind_0 (hb.symm.trans c13)
          exact nxt 0 (by rw [fc_ind_f (fun h => this (fun p p0 p1 => h p p0 (by omega)))])
        · have h9 := fc_ind_ne (P := ∀ p : Int, 1 ≤ p → p < k → 0 ≤ v (26 + p)) (by rw [← hb]; exact c13)
          refine fc_aload_n C dX7_isHeap_16 rfl rfl ?_
          refine fc_iload_n C dX7_isHeap_17 rfl rfl ?_
          refine fh_callV (y := mX7_chips) C dX7_isHeap_18 ml_X7_126 mi_X7_chips im_X7_chips se_X7_chips (r_chips e ⟨by omega, by omega⟩) rfl rfl (by decide) rfl (Nat.le_of_ble_eq_true rfl) (Nat.zero_le _) (Nat.zero_le _) rfl ?_
          refine fc_if_lt (tgt := 28) C dX7_isHeap_21 (by decide) (fc_Rm (by omega)) (fun c21 => ?_) (fun c21 => ?_)
          · refine fc_iconst C dX7_isHeap_28 ?_
            exact nxt 0 (by rw [fc_ind_f (fun h => by have := h k z0 (by omega); omega)])
          · refine fc_iconst C dX7_isHeap_24 ?_
            refine fc_goto (tgt := 29) C dX7_isHeap_25 (by decide) ?_
            refine nxt 1 ?_
            rw [fc_ind_t (fun p p0 p1 => ?_)]
            by_cases c : p = k
            · rw [c]; omega
            · exact h9 p p0 (by omega)
  refine fc_iconst C dX7_isHeap_0 ?_
  refine fc_istore_n C dX7_isHeap_1 rfl (by decide) ?_
  refine fc_iconst C dX7_isHeap_2 ?_
  refine fc_istore_n C dX7_isHeap_3 rfl (by decide) ?_
  exact loop 6 1 1 (by omega) (by omega) (by omega) (by rw [fc_ind_t (fun p p0 p1 => by omega)])
theorem r_canSettle (e : A 144 = v) (hv : v_ok v) : fh_E mX7_canSettle 3 [vR 143] A F (fun r A' F' => r = some (vI (x_stl v)) ∧ F' = F ∧ (∀ j : Nat, j ≠ 148 → j ≠ 149 → A' j = A j) ∧ (x_stl v = 0 → ∀ p : Int, 0 ≤ p → p < v 0 → A' 148 p = (s_r v).1 p ∧ A' 149 p = (s_r v).2 p)) := by
  have hn := hv.n
  refine fh_E.of mi_X7_canSettle (Nat.le_of_ble_eq_true rfl) ?_
  intro X C T
  have no : ¬ (s_J (v_L v) (v 0) ∧ s_hp v) → fc_W X 0 0 159 (fc_H A F) 14 [some (vR 143)] [] := by
    intro h
    have e3 : x_stl v = -3 := by unfold x_stl; rw [if_neg (by rw [fc_ind_f h]; decide)]
    refine fc_bipush C dX7_canSettle_14 (by decide) ?_
    exact fh_iretE C T dX7_canSettle_16 (Or.inl rfl) ⟨by rw [e3], rfl, fun _ _ _ => rfl, fun z => by rw [e3] at z; omega⟩
  refine fc_aload_n C dX7_canSettle_0 rfl rfl ?_
  refine fh_callV (y := mX7_isJoined) C dX7_canSettle_1 ml_X7_118 mi_X7_isJoined im_X7_isJoined se_X7_isJoined (r_isJoined e hn hv.g) rfl rfl (by decide) rfl (Nat.le_of_ble_eq_true rfl) (Nat.zero_le _) (Nat.zero_le _) rfl ?_
  refine fc_if_eq (tgt := 14) C dX7_canSettle_4 (by decide) (fc_ind_R _) (fun c4 => ?_) (fun c4 => ?_)
  · have c4 := fc_ind_0 c4
    exact no (fun h => c4 h.1)
  · have hJ := fc_ind_ne c4
    refine fc_aload_n C dX7_canSettle_7 rfl rfl ?_
    refine fh_callV (y := mX7_isHeap) C dX7_canSettle_8 ml_X7_157 mi_X7_isHeap im_X7_isHeap se_X7_isHeap (r_isHeap e hv) rfl rfl (by decide) rfl (Nat.le_of_ble_eq_true rfl) (Nat.zero_le _) (Nat.zero_le _) rfl ?_
    refine fc_if_ne (tgt := 17) C dX7_canSettle_11 (by decide) (fc_ind_R _) (fun c11 => ?_) (fun c11 => ?_)
    · have hh := fc_ind_ne c11
      refine fc_aload_n C dX7_canSettle_17 rfl rfl ?_
      refine fh_callVE (y := mX7_laysChips) C dX7_canSettle_18 ml_X7_160 mi_X7_laysChips im_X7_laysChips se_X7_laysChips (r_laysChips e hv) rfl rfl (by decide) rfl (Nat.le_of_ble_eq_true rfl) (Nat.zero_le _) (Nat.zero_le _) rfl ?_
      rintro r A1 F1 ⟨rfl, rfl, frA, hc⟩
      refine fc_eq (st' := []) rfl rfl ?_
      have hcb : ∀ p : Int, 0 ≤ p → p < v 0 → -999 ≤ A1 148 p ∧ A1 148 p ≤ 999 := fun p p0 p1 => by rw [hc p p0 p1]; exact hv.2.2.2.1 p p0 (by omega)
      refine fc_aload_n C dX7_canSettle_21 rfl rfl ?_
      refine fc_iconst C dX7_canSettle_22 ?_
      refine fh_callVE (y := mX7_settlesAt) C dX7_canSettle_23 ml_X7_163 mi_X7_settlesAt im_X7_settlesAt se_X7_settlesAt (r_settlesAt ((frA 144 (by omega)).trans e) hv hJ (q := 0) ⟨by omega, by omega⟩ (fun p p0 p1 p2 => by have := hcb p p0 p1; have h9 := hh p (by omega) p1; rw [hc p p0 p1] at this ⊢; unfold v_c at this ⊢; omega)) rfl rfl (by decide) rfl (Nat.le_of_ble_eq_true rfl) (Nat.zero_le _) (Nat.zero_le _) rfl ?_
      rintro r A2 F2 ⟨rfl, rfl, frB, g, hg0, hfz⟩
      refine fc_eq (st' := []) rfl rfl ?_
      have hu := s_fz.uniq (by omega) hfz (s_stl_r hv hJ hh).fz hc hg0
      have hnn : s_nn (v 0) 0 (A2 148) := by
        obtain ⟨K, -, -, -, ha, -⟩ := hfz
        have hT : s_tot (v 0) 0 (A1 148) ≤ 5000 := by
          have := fs_sum5 (f := fun o => if o = 0 then 0 else A1 148 o) (n := v 0) (B := 1000) (by omega) (by omega) (fun k k0 k1 => by
            have := hcb k k0 k1
            split <;> omega)
          unfold s_tot
          omega
        exact ha.bd ⟨by omega, hn.2⟩ ⟨by omega, by omega⟩ hT (by omega) (by have := hcb 0 (by omega) (by omega); omega)
      have h0 := hnn 0 (by omega) (by omega)
      have e0 : A2 148 0 = (s_r v).1 0 := hu.1 0 (by omega) (by omega)
      have ev : ∀ p : Int, 0 ≤ p → p < v 0 → A2 148 p = (s_r v).1 p ∧ A2 149 p = (s_r v).2 p := fun p p0 p1 => ⟨hu.1 p p0 p1, hu.2 p p0 p1⟩
      have ex : x_stl v = if A2 148 0 ≤ 999 then 0 else -3 := by
        unfold x_stl
        rw [if_pos (fc_ind_t ⟨hJ, hh⟩), e0]
      have frC : ∀ j : Nat, j ≠ 148 → j ≠ 149 → A2 j = A j := fun j j1 j2 => by rw [frB j j1 j2, frA j j1]
      refine fc_aload_n C dX7_canSettle_26 rfl rfl ?_
      refine fh_getf C dX7_canSettle_27 fl_X7_22 rfl rfl ?_
      refine fc_iconst C dX7_canSettle_30 ?_
      refine fh_laload C dX7_canSettle_31 (fun _ _ => rfl) (by omega) (by omega) (by decide) ?_
      refine fc_ldc2_w C dX7_canSettle_32 kc_X7_131 ?_
      refine fc_lcmp C dX7_canSettle_35 (fc_RLm (by omega)) (fc_RLm (by omega)) ?_
      refine fc_if_le (tgt := 44) C dX7_canSettle_36 (by decide) (fc_cmp_R _ _) (fun c36 => ?_) (fun c36 => ?_)
      · have c36 : ¬ 999 < A2 148 0 := fun z => by have := fc_cmp_gt.2 z; omega
        refine fc_iconst C dX7_canSettle_44 ?_
        exact fh_iretE C T dX7_canSettle_45 (Or.inl rfl) ⟨by rw [ex, if_pos (by omega)], rfl, frC, fun _ => ev⟩
      · have c36 := fc_cmp_gt.1 (show 0 < fc_cmp (A2 148 0) 999 by omega)
        refine fc_bipush C dX7_canSettle_39 (by decide) ?_
        refine fc_goto (tgt := 45) C dX7_canSettle_41 (by decide) ?_
        exact fh_iretE C T dX7_canSettle_45 (Or.inl rfl) ⟨by rw [ex, if_neg (by omega)], rfl, frC, fun _ => ev⟩
    · have c11 := fc_ind_0 c11
      exact no (fun h => c11 h.2)
theorem r_settleNow (e : A 144 = v) (hn : 2 ≤ v 0 ∧ v 0 ≤ 5) {x f : Int → Int} (hx : ∀ p : Int, 0 ≤ p → p < v 0 → A 148 p = x p ∧ A 149 p = f p) : fh_E mX7_settleNow 1 [vR 143] A F (fun r A' F' => r = some (vI (fs_sum f (v 0).toNat)) ∧ F' = F ∧ (∀ j : Nat, j ≠ 144 → A' j = A j) ∧ A' 144 = p_fs (p_ch v x) f) := by
  refine fh_E.of mi_X7_settleNow (Nat.le_of_ble_eq_true rfl) ?_
  intro X C T
  have loop : ∀ (m : Nat) (k : Int) (A1 : Nat → Int → Int), 0 ≤ k → k ≤ v 0 → v 0 - k < m → (∀ j : Nat, j ≠ 144 → A1 j = A j) → (∀ j : Int, A1 144 j = if 26 ≤ j ∧ j < 26 + k then x (j - 26) else if 31 ≤ j ∧ j < 31 + k then f (j - 31) else v j) → fc_W X 0 0 159 (fc_H A1 F) 4 [some (vR 143), some (vI (fs_sum f k.toNat)), some (vI k)] [] := by
    intro m
    induction m with
    | zero => intro k A1 z0 z1 z2; exfalso; omega
    | succ m ih =>
      intro k A1 z0 z1 z2 frA h1
      have h00 : A1 144 0 = v 0 := by rw [h1, if_neg (by omega), if_neg (by omega)]
      refine fc_iload_n C dX7_settleNow_4 rfl rfl ?_
      refine fc_aload_n C dX7_settleNow_5 rfl rfl ?_
      refine fh_callV (y := mX7_many) C dX7_settleNow_6 ml_X7_60 mi_X7_many im_X7_many se_X7_many (r_many (v := A1 144) rfl) rfl rfl (by decide) rfl (Nat.le_of_ble_eq_true rfl) (Nat.zero_le _) (Nat.zero_le _) rfl ?_
      rw [h00]
      refine fc_icmp_ge (tgt := 60) C dX7_settleNow_9 (by decide) (fc_Rm (by omega)) (fc_Rm (by omega)) (fun c9 => ?_) (fun c9 => ?_)
      · have ek : k = v 0 := by omega
        refine fc_iload_n C dX7_settleNow_60 rfl rfl ?_
        refine fh_iretE C T dX7_settleNow_61 (Or.inl rfl) ⟨by rw [ek], rfl, frA, ?_⟩
        funext j
        rw [h1, p_fs_at, show p_ch v x 0 = v 0 from by rw [p_ch_at, if_neg (by omega)], p_ch_at, ek]
        by_cases c : 26 ≤ j ∧ j < 26 + v 0
        · rw [if_pos c, if_neg (show ¬ (31 ≤ j ∧ j < 31 + v 0) by omega), if_pos c]
        · rw [if_neg c, if_neg c]
      · have hk := hx k z0 (by omega)
        have e148 : A1 148 k = x k := by rw [frA 148 (by omega)]; exact hk.1
        have e149 : A1 149 k = f k := by rw [frA 149 (by omega)]; exact hk.2
        refine fc_aload_n C dX7_settleNow_12 rfl rfl ?_
        refine fh_getf C dX7_settleNow_13 fl_X7_7 rfl rfl ?_
        refine fc_bipush C dX7_settleNow_16 (by decide) ?_
        refine fc_iload_n C dX7_settleNow_18 rfl rfl ?_
        refine fc_iadd C dX7_settleNow_19 ?_
        refine fc_aload_n C dX7_settleNow_20 rfl rfl ?_
        refine fh_getf C dX7_settleNow_21 fl_X7_22 rfl rfl ?_
        refine fc_iload_n C dX7_settleNow_24 rfl rfl ?_
        refine fh_laload C dX7_settleNow_25 (fun _ _ => rfl) (by omega) (by omega) (by decide) ?_
        refine fc_eq (st' := [vL (x k), vI (26 + k), vR 144]) rfl (by rw [e148]) ?_
        refine fc_l2i C dX7_settleNow_26 ?_
        refine fh_iastore C dX7_settleNow_27 (fun _ _ => rfl) (by omega) (by omega) (by decide) ?_
        refine fc_aload_n C dX7_settleNow_28 rfl rfl ?_
        refine fh_getf C dX7_settleNow_29 fl_X7_7 rfl rfl ?_
        refine fc_bipush C dX7_settleNow_32 (by decide) ?_
        refine fc_iload_n C dX7_settleNow_34 rfl rfl ?_
        refine fc_iadd C dX7_settleNow_35 ?_
        refine fc_aload_n C dX7_settleNow_36 rfl rfl ?_
        refine fh_getf C dX7_settleNow_37 fl_X7_26 rfl rfl ?_
        refine fc_iload_n C dX7_settleNow_40 rfl rfl ?_
        refine fh_laload C dX7_settleNow_41 (fun _ _ => rfl) (by omega) (by omega) (by decide) ?_
        refine fc_eq (st' := [vL (f k), vI (31 + k), vR 144]) rfl (by rw [fa_n _ _ (by omega), e149]) ?_
        refine fc_l2i C dX7_settleNow_42 ?_
        refine fh_iastore C dX7_settleNow_43 (fun _ _ => rfl) (by omega) (by omega) (by decide) ?_
        refine fc_iload_n C dX7_settleNow_44 rfl rfl ?_
        refine fc_aload_n C dX7_settleNow_45 rfl rfl ?_
        refine fh_getf C dX7_settleNow_46 fl_X7_26 rfl rfl ?_
        refine fc_iload_n C dX7_settleNow_49 rfl rfl ?_
        refine fh_laload C dX7_settleNow_50 (fun _ _ => rfl) (by omega) (by omega) (by decide) ?_
        refine fc_eq (st' := [vL (f k), vI (fs_sum f k.toNat)]) rfl (by rw [fa_n _ _ (by omega), fa_n _ _ (by omega), e149]) ?_
        refine fc_l2i C dX7_settleNow_51 ?_
        refine fc_iadd C dX7_settleNow_52 ?_
        refine fc_istore_n C dX7_settleNow_53 rfl (by decide) ?_
        refine fc_iinc C dX7_settleNow_54 rfl (by decide) ?_
        refine fc_goto (tgt := 4) C dX7_settleNow_57 (by decide) ?_
        refine fc_eq (by rw [fs_step z0]; rfl) rfl (ih (k + 1) _ (by omega) (by omega) (by omega) (fun j hj => by rw [fa_n _ _ hj, fa_n _ _ hj]; exact frA j hj) (fun j => ?_))
        rw [fa_s, fa_s]
        unfold fc_set
        by_cases c1 : j = 31 + k
        · rw [if_pos c1, if_neg (by omega), if_pos (by omega), show j - 31 = k by omega]
        · rw [if_neg c1]
          by_cases c2 : j = 26 + k
          · rw [if_pos c2, if_pos (by omega), show j - 26 = k by omega]
          · rw [if_neg c2, h1 j]
            by_cases c3 : 26 ≤ j ∧ j < 26 + k
            · rw [if_pos c3, if_pos (by omega)]
            · rw [if_neg c3, if_neg (show ¬ (26 ≤ j ∧ j < 26 + (k + 1)) by omega)]
              by_cases c4 : 31 ≤ j ∧ j < 31 + k
              · rw [if_pos c4, if_pos (by omega)]
              · rw [if_neg c4, if_neg (by omega)]
  refine fc_iconst C dX7_settleNow_0 ?_
  refine fc_istore_n C dX7_settleNow_1 rfl (by decide) ?_
  refine fc_iconst C dX7_settleNow_2 ?_
  refine fc_istore_n C dX7_settleNow_3 rfl (by decide) ?_
  exact loop 6 0 A (by omega) (by omega) (by omega) (fun _ _ => rfl) (fun j => by rw [if_neg (by omega), if_neg (by omega), e])
theorem q_settles (RC : m_RC A F v ps st rf tx tl) : fh_E mX7_settles 4 [vR 143] A F (m_st A F (x_stl v) (fs_sum (s_r v).2 (v 0).toNat) v ps st rf tx tl (p_stl v)) := by
  obtain ⟨e, hv, hst, htl, htx, hm⟩ := id RC
  have hn := hv.n
  have hxc := x_stl_c v
  refine fh_E.of mi_X7_settles (Nat.le_of_ble_eq_true rfl) ?_
  intro X C T
  refine fc_aload_n C dX7_settles_0 rfl rfl ?_
  refine fh_callVE (y := mX7_canSettle) C dX7_settles_1 ml_X7_167 mi_X7_canSettle im_X7_canSettle se_X7_canSettle (r_canSettle e hv) rfl rfl (by decide) rfl (Nat.le_of_ble_eq_true rfl) (Nat.zero_le _) (Nat.zero_le _) rfl ?_
  rintro r A1 F1 ⟨rfl, rfl, frA, hs⟩
  refine fc_eq (st' := [vI (x_stl v)]) rfl rfl ?_
  have e1 := (frA 144 (by omega) (by omega)).trans e
  have RC1 : m_RC A1 F1 v ps st rf tx tl := ⟨e1, hv, hst, htl, htx, hm.fr (frA 145 (by omega) (by omega)) (frA 147 (by omega) (by omega)) (frA 157 (by omega) (by omega)) rfl rfl⟩
  have fr1 : k_fr 143 158 A F1 A1 F1 := fun i hi => ⟨frA i (by omega) (by omega), rfl⟩
  refine fc_istore_n C dX7_settles_4 rfl (by decide) ?_
  refine fc_iload_n C dX7_settles_5 rfl rfl ?_
  refine fc_if_ge (tgt := 15) C dX7_settles_6 (by decide) (fc_Rm (by omega)) (fun c6 => ?_) (fun c6 => ?_)
  · have h0 : x_stl v = 0 := by omega
    refine fc_aload_n C dX7_settles_15 rfl rfl ?_
    refine fh_callVE (y := mX7_keep) C dX7_settles_16 ml_X7_83 mi_X7_keep im_X7_keep se_X7_keep (r_keep RC1) rfl rfl (by decide) rfl (Nat.le_of_ble_eq_true rfl) (Nat.zero_le _) (Nat.zero_le _) rfl ?_
    rintro r A2 F2 ⟨rfl, hm2, aj, fj, fk⟩
    refine fc_eq (st' := []) rfl rfl ?_
    refine fc_aload_n C dX7_settles_19 rfl rfl ?_
    refine fh_callVE (y := mX7_settleNow) C dX7_settles_20 ml_X7_170 mi_X7_settleNow im_X7_settleNow se_X7_settleNow (r_settleNow (v := v) ((aj 144 (by omega)).trans e1) hn (x := (s_r v).1) (f := (s_r v).2) (fun p p0 p1 => by rw [aj 148 (by omega), aj 149 (by omega)]; exact hs h0 p p0 p1)) rfl rfl (by decide) rfl (Nat.le_of_ble_eq_true rfl) (Nat.zero_le _) (Nat.zero_le _) rfl ?_
    rintro r A3 F3 ⟨rfl, rfl, frC, e3⟩
    refine fc_eq (st' := [vI (fs_sum (s_r v).2 (v 0).toNat)]) rfl rfl ?_
    exact fh_iretE C T dX7_settles_23 (Or.inl rfl) (m_st.yes (v_eq.of e3) (hm2.fr (frC 145 (by omega)) (frC 147 (by omega)) (frC 157 (by omega)) rfl rfl) (fun i hi => ⟨by rw [frC i (by omega), aj i (by omega), frA i (by omega) (by omega)], fj i (by omega)⟩) h0 rfl)
  · have h1 : x_stl v = -2 ∨ x_stl v = -3 ∨ x_stl v = -4 := by omega
    refine fc_aload_n C dX7_settles_9 rfl rfl ?_
    refine fc_iload_n C dX7_settles_10 rfl rfl ?_
    refine fh_callV (y := mX7_refuses) C dX7_settles_11 ml_X7_80 mi_X7_refuses im_X7_refuses se_X7_refuses (r_refuses h1) rfl rfl (by decide) rfl (Nat.le_of_ble_eq_true rfl) (Nat.zero_le _) (Nat.zero_le _) rfl ?_
    have := m_st.no (ans := fs_sum (s_r v).2 (v 0).toNat) (w := p_stl v) RC1 rfl h1
    exact fh_iretE C T dX7_settles_14 (Or.inl rfl) ⟨this.1, this.2.1, this.2.2.1, fr1.tr this.2.2.2⟩
theorem q_script (RC : m_RC A F v ps st rf tx tl) {p : Int} (hp : fc_R p) : fh_E mX7_script 2 [vR 143, vI p] A F (m_an A F (x_pt v p) (v (31 + p)) v ps st rf tx tl) := by
  obtain ⟨e, hv, -⟩ := id RC
  have hn := hv.n
  refine fh_E.of mi_X7_script (Nat.le_of_ble_eq_true rfl) ?_
  intro X C T
  refine fc_aload_n C dX7_script_0 rfl rfl ?_
  refine fc_iload_n C dX7_script_1 rfl rfl ?_
  refine fh_callV (y := mX7_isPoint) C dX7_script_2 ml_X7_89 mi_X7_isPoint im_X7_isPoint se_X7_isPoint (r_isPoint e hn hp) rfl rfl (by decide) rfl (Nat.le_of_ble_eq_true rfl) (Nat.zero_le _) (Nat.zero_le _) rfl ?_
  refine fc_if_eq (tgt := 20) C dX7_script_5 (by decide) (fc_ind_R _) (fun c5 => ?_) (fun c5 => ?_)
  · have c5 := fc_ind_0 c5
    refine fc_aload_n C dX7_script_20 rfl rfl ?_
    refine fc_bipush C dX7_script_21 (by decide) ?_
    refine fh_callV (y := mX7_refuses) C dX7_script_23 ml_X7_80 mi_X7_refuses im_X7_refuses se_X7_refuses (r_refuses (Or.inl rfl)) rfl rfl (by decide) rfl (Nat.le_of_ble_eq_true rfl) (Nat.zero_le _) (Nat.zero_le _) rfl ?_
    exact fh_iretE C T dX7_script_26 (Or.inl rfl) (m_an.no RC (if_neg c5) (Or.inl rfl))
  · have c5 := fc_ind_ne c5
    refine fc_aload_n C dX7_script_8 rfl rfl ?_
    refine fh_getf C dX7_script_9 fl_X7_7 rfl rfl ?_
    refine fc_bipush C dX7_script_12 (by decide) ?_
    refine fc_iload_n C dX7_script_14 rfl rfl ?_
    refine fc_iadd C dX7_script_15 ?_
    refine fh_iaload C dX7_script_16 (fun _ _ => rfl) (by omega) (by omega) (by decide) ?_
    refine fc_goto (tgt := 26) C dX7_script_17 (by decide) ?_
    exact fh_iretE C T dX7_script_26 (Or.inl rfl) (m_an.id RC (if_pos c5) (by rw [e]))
theorem r_isFull (e : A 144 = v) (hv : v_ok v) {p : Int} (hp : 0 ≤ p ∧ p < v 0) : fh_M mX7_isFull 2 [vR 143, vI p] A F (some (vI (fc_ind (s_full (v_L v) (v 0) (v_c v) p)))) A F := by
  have hn := hv.n
  have hvb := s_val_bd hv.g (n := v 0) (p := p) (by omega) hn.2 hp.1 (by omega)
  have hc := hv.2.2.2.1 p hp.1 (by omega)
  have ec : v_c v p = v (26 + p) := rfl
  refine fh_M.of mi_X7_isFull (Nat.le_of_ble_eq_true rfl) ?_
  intro X C T
  have no : ¬ s_full (v_L v) (v 0) (v_c v) p → fc_W X 0 0 159 (fc_H A F) 29 [some (vR 143), some (vI p)] [] := by
    intro h
    refine fc_iconst C dX7_isFull_29 ?_
    exact fh_zret C T dX7_isFull_30 (by omega) (by rw [fc_ind_f h]) rfl
  refine fc_iload_n C dX7_isFull_0 rfl rfl ?_
  refine fc_if_le (tgt := 29) C dX7_isFull_1 (by decide) (fc_Rm (by omega)) (fun c1 => ?_) (fun c1 => ?_)
  · exact no (fun h => h.1 (by omega))
  · refine fc_aload_n C dX7_isFull_4 rfl rfl ?_
    refine fc_iload_n C dX7_isFull_5 rfl rfl ?_
    refine fh_callV (y := mX7_valence) C dX7_isFull_6 ml_X7_72 mi_X7_valence im_X7_valence se_X7_valence (r_valence e hn ⟨hp.1, by omega⟩) rfl rfl (by decide) rfl (Nat.le_of_ble_eq_true rfl) (Nat.zero_le _) (Nat.zero_le _) rfl ?_
    refine fc_if_le (tgt := 29) C dX7_isFull_9 (by decide) (fc_Rm (by omega)) (fun c9 => ?_) (fun c9 => ?_)
    · exact no (fun h => by have := h.2.1; omega)
    · refine fc_aload_n C dX7_isFull_12 rfl rfl ?_
      refine fc_iload_n C dX7_isFull_13 rfl rfl ?_
      refine fh_callV (y := mX7_chips) C dX7_isFull_14 ml_X7_126 mi_X7_chips im_X7_chips se_X7_chips (r_chips e ⟨hp.1, by omega⟩) rfl rfl (by decide) rfl (Nat.le_of_ble_eq_true rfl) (Nat.zero_le _) (Nat.zero_le _) rfl ?_
      refine fc_aload_n C dX7_isFull_17 rfl rfl ?_
      refine fc_iload_n C dX7_isFull_18 rfl rfl ?_
      refine fh_callV (y := mX7_valence) C dX7_isFull_19 ml_X7_72 mi_X7_valence im_X7_valence se_X7_valence (r_valence e hn ⟨hp.1, by omega⟩) rfl rfl (by decide) rfl (Nat.le_of_ble_eq_true rfl) (Nat.zero_le _) (Nat.zero_le _) rfl ?_
      refine fc_icmp_lt (tgt := 29) C dX7_isFull_22 (by decide) (fc_Rm (by omega)) (fc_Rm (by omega)) (fun c22 => ?_) (fun c22 => ?_)
      · exact no (fun h => by have := h.2.2; omega)
      · refine fc_iconst C dX7_isFull_25 ?_
        refine fc_goto (tgt := 30) C dX7_isFull_26 (by decide) ?_
        exact fh_zret C T dX7_isFull_30 (by omega) (by rw [fc_ind_t ⟨by omega, by omega, by omega⟩]) rfl
theorem r_ofNow (e : A 144 = v) (hv : v_ok v) {p w : Int} (hp : 0 ≤ p ∧ p < v 0) (hw : 0 ≤ w ∧ w ≤ 2) : fh_M mX7_ofNow 3 [vR 143, vI p, vI w] A F (some (vI (a_of v p w))) A F := by
  have hn := hv.n
  refine fh_M.of mi_X7_ofNow (Nat.le_of_ble_eq_true rfl) ?_
  intro X C T
  refine fc_iload_n C dX7_ofNow_0 rfl rfl ?_
  refine fc_if_ne (tgt := 16) C dX7_ofNow_1 (by decide) (fc_Rm (by omega)) (fun c1 => ?_) (fun c1 => ?_)
  · refine fc_iload_n C dX7_ofNow_16 rfl rfl ?_
    refine fc_iconst C dX7_ofNow_17 ?_
    refine fc_icmp_ne (tgt := 29) C dX7_ofNow_18 (by decide) (fc_Rm (by omega)) (fc_Rm (by omega)) (fun c18 => ?_) (fun c18 => ?_)
    · refine fc_aload_n C dX7_ofNow_29 rfl rfl ?_
      refine fc_iload_n C dX7_ofNow_30 rfl rfl ?_
      refine fh_callV (y := mX7_isFull) C dX7_ofNow_31 ml_X7_173 mi_X7_isFull im_X7_isFull se_X7_isFull (r_isFull e hv hp) rfl rfl (by decide) rfl (Nat.le_of_ble_eq_true rfl) (Nat.zero_le _) (Nat.zero_le _) rfl ?_
      refine fc_if_eq (tgt := 41) C dX7_ofNow_34 (by decide) (fc_ind_R _) (fun c34 => ?_) (fun c34 => ?_)
      · refine fc_iconst C dX7_ofNow_41 ?_
        exact fh_iret C T dX7_ofNow_42 (by unfold a_of; rw [if_neg c1, if_neg c18, c34]) rfl
      · refine fc_iconst C dX7_ofNow_37 ?_
        refine fc_goto (tgt := 42) C dX7_ofNow_38 (by decide) ?_
        exact fh_iret C T dX7_ofNow_42 (by unfold a_of; rw [if_neg c1, if_neg c18, fc_ind_t (fc_ind_ne c34)]) rfl
    · refine fc_aload_n C dX7_ofNow_21 rfl rfl ?_
      refine fc_iload_n C dX7_ofNow_22 rfl rfl ?_
      refine fh_callV (y := mX7_valence) C dX7_ofNow_23 ml_X7_72 mi_X7_valence im_X7_valence se_X7_valence (r_valence e hn ⟨hp.1, by omega⟩) rfl rfl (by decide) rfl (Nat.le_of_ble_eq_true rfl) (Nat.zero_le _) (Nat.zero_le _) rfl ?_
      refine fc_goto (tgt := 42) C dX7_ofNow_26 (by decide) ?_
      exact fh_iret C T dX7_ofNow_42 (by unfold a_of; rw [if_neg c1, if_pos (by omega)]) rfl
  · refine fc_aload_n C dX7_ofNow_4 rfl rfl ?_
    refine fc_iload_n C dX7_ofNow_5 rfl rfl ?_
    refine fh_callV (y := mX7_chips) C dX7_ofNow_6 ml_X7_126 mi_X7_chips im_X7_chips se_X7_chips (r_chips e ⟨hp.1, by omega⟩) rfl rfl (by decide) rfl (Nat.le_of_ble_eq_true rfl) (Nat.zero_le _) (Nat.zero_le _) rfl ?_
    refine fc_sipush C dX7_ofNow_9 (by decide) ?_
    refine fc_iadd C dX7_ofNow_12 ?_
    refine fc_goto (tgt := 42) C dX7_ofNow_13 (by decide) ?_
    exact fh_iret C T dX7_ofNow_42 (by unfold a_of; rw [if_pos (by omega)]) rfl
theorem q_of (RC : m_RC A F v ps st rf tx tl) {p w : Int} (hp : fc_R p) (hw : fc_R w) : fh_E mX7_of 4 [vR 143, vI p, vI w] A F (m_an A F (x_of v p w) (a_of v p w) v ps st rf tx tl) := by
  obtain ⟨e, hv, -⟩ := id RC
  have hn := hv.n
  refine fh_E.of mi_X7_of (Nat.le_of_ble_eq_true rfl) ?_
  intro X C T
  have no : ¬ ((0 ≤ p ∧ p < v 0) ∧ 0 ≤ w ∧ w ≤ 2) → fc_W X 0 0 159 (fc_H A F) 29 [some (vR 143), some (vI p), some (vI w)] [] := by
    intro h
    refine fc_aload_n C dX7_of_29 rfl rfl ?_
    refine fc_bipush C dX7_of_30 (by decide) ?_
    refine fh_callV (y := mX7_refuses) C dX7_of_32 ml_X7_80 mi_X7_refuses im_X7_refuses se_X7_refuses (r_refuses (Or.inl rfl)) rfl rfl (by decide) rfl (Nat.le_of_ble_eq_true rfl) (Nat.zero_le _) (Nat.zero_le _) rfl ?_
    exact fh_iretE C T dX7_of_35 (Or.inl rfl) (m_an.no RC (if_neg h) (Or.inl rfl))
  refine fc_aload_n C dX7_of_0 rfl rfl ?_
  refine fc_iload_n C dX7_of_1 rfl rfl ?_
  refine fh_callV (y := mX7_isPoint) C dX7_of_2 ml_X7_89 mi_X7_isPoint im_X7_isPoint se_X7_isPoint (r_isPoint e hn hp) rfl rfl (by decide) rfl (Nat.le_of_ble_eq_true rfl) (Nat.zero_le _) (Nat.zero_le _) rfl ?_
  refine fc_if_eq (tgt := 29) C dX7_of_5 (by decide) (fc_ind_R _) (fun c5 => ?_) (fun c5 => ?_)
  · have c5 := fc_ind_0 c5
    exact no (fun h => c5 h.1)
  · have c5 := fc_ind_ne c5
    refine fc_iload_n C dX7_of_8 rfl rfl ?_
    refine fc_i2l C dX7_of_9 hw ?_
    refine fc_lconst (z := 0) C dX7_of_10 rfl ?_
    refine fc_ldc2_w C dX7_of_11 kc_X7_76 ?_
    refine fh_callS (y := mX7_in) C dX7_of_14 ml_X7_64 mi_X7_in st_X7_in (r_in hw.L (fc_RLm (by omega)) (fc_RLm (by omega))) (by decide) rfl (Nat.le_of_ble_eq_true rfl) (Nat.zero_le _) (Nat.zero_le _) rfl ?_
    refine fc_if_eq (tgt := 29) C dX7_of_17 (by decide) (fc_ind_R _) (fun c17 => ?_) (fun c17 => ?_)
    · have c17 := fc_ind_0 c17
      exact no (fun h => c17 h.2)
    · have c17 := fc_ind_ne c17
      refine fc_aload_n C dX7_of_20 rfl rfl ?_
      refine fc_iload_n C dX7_of_21 rfl rfl ?_
      refine fc_iload_n C dX7_of_22 rfl rfl ?_
      refine fh_callV (y := mX7_ofNow) C dX7_of_23 ml_X7_176 mi_X7_ofNow im_X7_ofNow se_X7_ofNow (r_ofNow e hv c5 c17) rfl rfl (by decide) rfl (Nat.le_of_ble_eq_true rfl) (Nat.zero_le _) (Nat.zero_le _) rfl ?_
      refine fc_goto (tgt := 35) C dX7_of_26 (by decide) ?_
      exact fh_iretE C T dX7_of_35 (Or.inl rfl) (m_an.id RC (if_pos ⟨c5, c17⟩) rfl)
theorem r_isStable (e : A 144 = v) (hv : v_ok v) : fh_M mX7_isStable 3 [vR 143] A F (some (vI (fc_ind (s_stable (v_L v) (v 0) (v_c v))))) A F := by
  have hn := hv.n
  refine fh_M.of mi_X7_isStable (Nat.le_of_ble_eq_true rfl) ?_
  intro X C T
  have loop : ∀ (m : Nat) (k b : Int), 1 ≤ k → k ≤ v 0 → v 0 - k < m → b = fc_ind ((∀ p : Int, 1 ≤ p → p < k → ¬ s_full (v_L v) (v 0) (v_c v) p) ∧ s_hp v) → fc_W X 0 0 159 (fc_H A F) 7 [some (vR 143), some (vI b), some (vI k)] [] := by
    intro m
    induction m with
    | zero => intro k b z0 z1 z2; exfalso; omega
    | succ m ih =>
      intro k b z0 z1 z2 hb
      have hbR : fc_R b := by rw [hb]; exact fc_ind_R _
      refine fc_iload_n C dX7_isStable_7 rfl rfl ?_
      refine fc_aload_n C dX7_isStable_8 rfl rfl ?_
      refine fh_callV (y := mX7_many) C dX7_isStable_9 ml_X7_60 mi_X7_many im_X7_many se_X7_many (r_many e) rfl rfl (by decide) rfl (Nat.le_of_ble_eq_true rfl) (Nat.zero_le _) (Nat.zero_le _) rfl ?_
      refine fc_icmp_ge (tgt := 39) C dX7_isStable_12 (by decide) (fc_Rm (by omega)) (fc_Rm (by omega)) (fun c12 => ?_) (fun c12 => ?_)
      · refine fc_iload_n C dX7_isStable_39 rfl rfl ?_
        exact fh_zret C T dX7_isStable_40 (by rw [hb]; exact fc_ind_01 _) (by rw [hb, show k = v 0 by omega]; rfl) rfl
      · have nxt : ∀ x : Int, x = fc_ind ((∀ p : Int, 1 ≤ p → p < k + 1 → ¬ s_full (v_L v) (v 0) (v_c v) p) ∧ s_hp v) → fc_W X 0 0 159 (fc_H A F) 32 [some (vR 143), some (vI b), some (vI k)] [vI x] := by
          intro x hx
          refine fc_istore_n C dX7_isStable_32 rfl (by decide) ?_
          refine fc_iinc C dX7_isStable_33 rfl (by decide) ?_
          refine fc_goto (tgt := 7) C dX7_isStable_36 (by decide) ?_
          exact ih (k + 1) x (by omega) (by omega) (by omega) hx
        refine fc_iload_n C dX7_isStable_15 rfl rfl ?_
        refine fc_if_eq (tgt := 31) C dX7_isStable_16 (by decide) (hbR) (fun c16 => ?_) (fun c16 => ?_)
        · refine fc_iconst C dX7_isStable_31 ?_
          have := fc_ind_0 (hb.symm.trans c16)
          exact nxt 0 (by rw [fc_ind_f (fun h => this ⟨fun p p0 p1 => h.1 p p0 (by omega), h.2⟩)])
        · have h9 := fc_ind_ne (P := (∀ p : Int, 1 ≤ p → p < k → ¬ s_full (v_L v) (v 0) (v_c v) p) ∧ s_hp v) (by rw [← hb]; exact c16)
          refine fc_aload_n C dX7_isStable_19 rfl rfl ?_
          refine fc_iload_n C dX7_isStable_20 rfl rfl ?_
          refine fh_callV (y := mX7_isFull) C dX7_isStable_21 ml_X7_173 mi_X7_isFull im_X7_isFull se_X7_isFull (r_isFull e hv ⟨by omega, by omega⟩) rfl rfl (by decide) rfl (Nat.le_of_ble_eq_true rfl) (Nat.zero_le _) (Nat.zero_le _) rfl ?_
          refine fc_if_ne (tgt := 31) C dX7_isStable_24 (by decide) (fc_ind_R _) (fun c24 => ?_) (fun c24 => ?_)
          · have c24 := fc_ind_ne c24
            refine fc_iconst C dX7_isStable_31 ?_
            exact nxt 0 (by rw [fc_ind_f (fun h => h.1 k z0 (by omega) c24)])
          · have c24 := fc_ind_0 c24
            refine fc_iconst C dX7_isStable_27 ?_
            refine fc_goto (tgt := 32) C dX7_isStable_28 (by decide) ?_
            refine nxt 1 ?_
            refine (fc_ind_t ⟨fun p p0 p1 => ?_, h9.2⟩).symm
            by_cases c : p = k
            · rw [c]; exact c24
            · exact h9.1 p p0 (by omega)
  refine fc_aload_n C dX7_isStable_0 rfl rfl ?_
  refine fh_callV (y := mX7_isHeap) C dX7_isStable_1 ml_X7_157 mi_X7_isHeap im_X7_isHeap se_X7_isHeap (r_isHeap e hv) rfl rfl (by decide) rfl (Nat.le_of_ble_eq_true rfl) (Nat.zero_le _) (Nat.zero_le _) rfl ?_
  refine fc_istore_n C dX7_isStable_4 rfl (by decide) ?_
  refine fc_iconst C dX7_isStable_5 ?_
  refine fc_istore_n C dX7_isStable_6 rfl (by decide) ?_
  exact loop 6 1 _ (by omega) (by omega) (by omega) (fc_ind_congr ⟨fun h => ⟨fun p p0 p1 => by omega, h⟩, fun h => h.2⟩)
theorem q_stable (RC : m_RC A F v ps st rf tx tl) : fh_E mX7_stable 4 [vR 143] A F (m_an A F 0 (fc_ind (s_stable (v_L v) (v 0) (v_c v))) v ps st rf tx tl) := by
  refine fh_E.of mi_X7_stable (Nat.le_of_ble_eq_true rfl) ?_
  intro X C T
  refine fc_aload_n C dX7_stable_0 rfl rfl ?_
  refine fh_callV (y := mX7_isStable) C dX7_stable_1 ml_X7_179 mi_X7_isStable im_X7_isStable se_X7_isStable (r_isStable RC.1 RC.2.1) rfl rfl (by decide) rfl (Nat.le_of_ble_eq_true rfl) (Nat.zero_le _) (Nat.zero_le _) rfl ?_
  refine fc_if_eq (tgt := 11) C dX7_stable_4 (by decide) (fc_ind_R _) (fun c4 => ?_) (fun c4 => ?_)
  · refine fc_iconst C dX7_stable_11 ?_
    exact fh_iretE C T dX7_stable_12 (Or.inl rfl) (m_an.id RC rfl c4)
  · refine fc_iconst C dX7_stable_7 ?_
    refine fc_goto (tgt := 12) C dX7_stable_8 (by decide) ?_
    exact fh_iretE C T dX7_stable_12 (Or.inl rfl) (m_an.id RC rfl (fc_ind_t (fc_ind_ne c4)))
theorem r_linesTo (e : A 144 = v) (hn : 2 ≤ v 0 ∧ v 0 ≤ 5) {p S : Int} (hp : 0 ≤ p ∧ p < 5) (hS0 : 0 ≤ S) (hS1 : S < 32) : fh_M mX7_linesTo 1 [vR 143, vI p, vI S] A F (some (vI (s_li (v_L v) (v 0) S p))) A F := by
  refine fh_M.of mi_X7_linesTo (Nat.le_of_ble_eq_true rfl) ?_
  intro X C T
  have loop : ∀ (m : Nat) (k : Int), 0 ≤ k → k ≤ v 0 → v 0 - k < m → fc_W X 0 0 159 (fc_H A F) 5 [some (vR 143), some (vI p), some (vI S), some (vI (fs_sum (fun o => if fb_t S o = 1 then v_L v p o else 0) k.toNat)), some (vI k)] [] := by
    intro m
    induction m with
    | zero => intro k z0 z1 z2; exfalso; omega
    | succ m ih =>
      intro k z0 z1 z2
      refine fc_iload C dX7_linesTo_5 rfl ?_
      refine fc_aload_n C dX7_linesTo_7 rfl rfl ?_
      refine fh_callV (y := mX7_many) C dX7_linesTo_8 ml_X7_60 mi_X7_many im_X7_many se_X7_many (r_many e) rfl rfl (by decide) rfl (Nat.le_of_ble_eq_true rfl) (Nat.zero_le _) (Nat.zero_le _) rfl ?_
      refine fc_icmp_ge (tgt := 44) C dX7_linesTo_11 (by decide) (fc_Rm (by omega)) (fc_Rm (by omega)) (fun c11 => ?_) (fun c11 => ?_)
      · refine fc_iload_n C dX7_linesTo_44 rfl rfl ?_
        exact fh_iret C T dX7_linesTo_45 (by rw [show k = v 0 by omega]; rfl) rfl
      · have h01 := fb_01 S k
        refine fc_iload_n C dX7_linesTo_14 rfl rfl ?_
        refine fc_iload_n C dX7_linesTo_15 rfl rfl ?_
        refine fc_iload C dX7_linesTo_16 rfl ?_
        refine fc_ishr C dX7_linesTo_18 ?_
        refine fc_iconst C dX7_linesTo_19 ?_
        refine fc_iand C dX7_linesTo_20 ?_
        refine fc_eq (st' := [vI (fb_t S k), vI (fs_sum (fun o => if fb_t S o = 1 then v_L v p o else 0) k.toNat)]) rfl (by rw [fb_and hS0 hS1 z0 (by omega)]) ?_
        refine fc_iconst C dX7_linesTo_21 ?_
        refine fc_icmp_ne (tgt := 35) C dX7_linesTo_22 (by decide) (fc_Rm (by omega)) (fc_Rm (by omega)) (fun c22 => ?_) (fun c22 => ?_)
        · refine fc_iconst C dX7_linesTo_35 ?_
          refine fc_iadd C dX7_linesTo_36 ?_
          refine fc_istore_n C dX7_linesTo_37 rfl (by decide) ?_
          refine fc_iinc C dX7_linesTo_38 rfl (by decide) ?_
          refine fc_goto (tgt := 5) C dX7_linesTo_41 (by decide) ?_
          exact fc_eq (by rw [fs_step z0, if_neg c22]; rfl) rfl (ih (k + 1) (by omega) (by omega) (by omega))
        · refine fc_aload_n C dX7_linesTo_25 rfl rfl ?_
          refine fc_iload_n C dX7_linesTo_26 rfl rfl ?_
          refine fc_iload C dX7_linesTo_27 rfl ?_
          refine fh_callV (y := mX7_linesOf) C dX7_linesTo_29 ml_X7_68 mi_X7_linesOf im_X7_linesOf se_X7_linesOf (r_linesOf e hp ⟨z0, by omega⟩) rfl rfl (by decide) rfl (Nat.le_of_ble_eq_true rfl) (Nat.zero_le _) (Nat.zero_le _) rfl ?_
          refine fc_goto (tgt := 36) C dX7_linesTo_32 (by decide) ?_
          refine fc_iadd C dX7_linesTo_36 ?_
          refine fc_istore_n C dX7_linesTo_37 rfl (by decide) ?_
          refine fc_iinc C dX7_linesTo_38 rfl (by decide) ?_
          refine fc_goto (tgt := 5) C dX7_linesTo_41 (by decide) ?_
          exact fc_eq (by rw [fs_step z0, if_pos (by omega)]; rfl) rfl (ih (k + 1) (by omega) (by omega) (by omega))
  refine fc_iconst C dX7_linesTo_0 ?_
  refine fc_istore_n C dX7_linesTo_1 rfl (by decide) ?_
  refine fc_iconst C dX7_linesTo_2 ?_
  refine fc_istore C dX7_linesTo_3 (by decide) ?_
  exact loop 6 0 (by omega) (by omega) (by omega)
theorem r_burnsNow (e : A 144 = v) (hv : v_ok v) {w : Int} (hw : fc_R w) : fh_M mX7_burnsNow 2 [vR 143, vI w] A F (some (vI (a_burn v w))) A F := by
  have hn := hv.n
  have hg := hv.g
  refine fh_M.of mi_X7_burnsNow (Nat.le_of_ble_eq_true rfl) ?_
  intro X C T
  have fin : ∀ (S : Int) (y5 : Option fc_AV), S = s_bn (v_L v) (v 0) (v_c v) (v 0).toNat → 0 ≤ S → S < 32 → fc_W X 0 0 159 (fc_H A F) 7 [some (vR 143), some (vI w), some (vI S), some (vI S), some (vI (s_wv (v_L v) (v 0) (v_c v) (v 0).toNat)), y5] [] := by
    intro S y5 eS s0 s1
    refine fc_iload_n C dX7_burnsNow_7 rfl rfl ?_
    refine fc_iload_n C dX7_burnsNow_8 rfl rfl ?_
    refine fc_icmp_eq (tgt := 84) C dX7_burnsNow_9 (by decide) (fc_Rm (by omega)) (fc_Rm (by omega)) (fun c9 => ?_) (fun c9 => ?_)
    · refine fc_iload_n C dX7_burnsNow_84 rfl rfl ?_
      refine fc_if_ne (tgt := 92) C dX7_burnsNow_85 (by decide) (hw) (fun c85 => ?_) (fun c85 => ?_)
      · refine fc_iload_n C dX7_burnsNow_92 rfl rfl ?_
        refine fc_iconst C dX7_burnsNow_93 ?_
        refine fc_icmp_ne (tgt := 102) C dX7_burnsNow_94 (by decide) (hw) (fc_Rm (by omega)) (fun c94 => ?_) (fun c94 => ?_)
        · have hb := fb_all_bd (n := v 0) (by omega) (by omega)
          refine fc_iload_n C dX7_burnsNow_102 rfl rfl ?_
          refine fc_iconst C dX7_burnsNow_103 ?_
          refine fc_aload_n C dX7_burnsNow_104 rfl rfl ?_
          refine fh_callV (y := mX7_many) C dX7_burnsNow_105 ml_X7_60 mi_X7_many im_X7_many se_X7_many (r_many e) rfl rfl (by decide) rfl (Nat.le_of_ble_eq_true rfl) (Nat.zero_le _) (Nat.zero_le _) rfl ?_
          refine fc_ishl C dX7_burnsNow_108 ?_
          refine fc_iconst C dX7_burnsNow_109 ?_
          refine fc_isub C dX7_burnsNow_110 ?_
          refine fc_eq (st' := [vI (fb_all (v 0)), vI S]) rfl (by rw [fb_shl1 (by omega) (by omega)]; rfl) ?_
          refine fc_icmp_ne (tgt := 118) C dX7_burnsNow_111 (by decide) (fc_Rm (by omega)) (fc_Rm (by omega)) (fun c111 => ?_) (fun c111 => ?_)
          · refine fc_iconst C dX7_burnsNow_118 ?_
            exact fh_iret C T dX7_burnsNow_119 (by unfold a_burn; rw [if_neg c85, if_neg c94, ← eS, fc_ind_f c111]) rfl
          · refine fc_iconst C dX7_burnsNow_114 ?_
            refine fc_goto (tgt := 119) C dX7_burnsNow_115 (by decide) ?_
            exact fh_iret C T dX7_burnsNow_119 (by unfold a_burn; rw [if_neg c85, if_neg c94, ← eS, fc_ind_t (by omega)]) rfl
        · refine fc_iload C dX7_burnsNow_97 rfl ?_
          refine fc_goto (tgt := 119) C dX7_burnsNow_99 (by decide) ?_
          exact fh_iret C T dX7_burnsNow_119 (by unfold a_burn; rw [if_neg c85, if_pos (by omega)]) rfl
      · refine fc_iload_n C dX7_burnsNow_88 rfl rfl ?_
        refine fc_goto (tgt := 119) C dX7_burnsNow_89 (by decide) ?_
        exact fh_iret C T dX7_burnsNow_119 (by unfold a_burn; rw [if_pos (by omega), eS]) rfl
    · exact absurd rfl c9
  have outer : ∀ (m k : Nat) (S had : Int) (y5 : Option fc_AV), v 0 - k < m → S = s_bn (v_L v) (v 0) (v_c v) k → 0 ≤ S → S < 32 → fb_t S 0 = 1 → (∀ o : Int, 0 ≤ o → o < 5 → fb_t S o = 1 → o < v 0) → (k : Int) + 1 ≤ s_pc S → fc_R had → S ≠ had → fc_W X 0 0 159 (fc_H A F) 7 [some (vR 143), some (vI w), some (vI S), some (vI had), some (vI (s_wv (v_L v) (v 0) (v_c v) k)), y5] [] := by
    intro m
    induction m with
    | zero =>
      intro k S had y5 z0 eS s0 s1 s2 s3 s4
      have := s_pc_n hn s3
      exfalso; omega
    | succ m ih =>
      intro k S had y5 z0 eS s0 s1 s2 s3 s4 hR hne
      have hpn := s_pc_n hn s3
      have inner : ∀ (m2 : Nat) (p r2 : Int), 1 ≤ p → p ≤ v 0 → v 0 - p < m2 → 0 ≤ r2 → r2 < 32 → (∀ o : Int, 0 ≤ o → o < 5 → (fb_t r2 o = 1 ↔ fb_t S o = 1 ∨ (1 ≤ o ∧ o < p ∧ s_bc (v_L v) (v 0) (v_c v) S o))) → fc_W X 0 0 159 (fc_H A F) 17 [some (vR 143), some (vI w), some (vI r2), some (vI S), some (vI (s_wv (v_L v) (v 0) (v_c v) k)), some (vI p)] [] := by
        intro m2
        induction m2 with
        | zero => intro p r2 q0 q1 q2; exfalso; omega
        | succ m2 ih2 =>
          intro p r2 q0 q1 q2 r0 r1 hr
          refine fc_iload C dX7_burnsNow_17 rfl ?_
          refine fc_aload_n C dX7_burnsNow_19 rfl rfl ?_
          refine fh_callV (y := mX7_many) C dX7_burnsNow_20 ml_X7_60 mi_X7_many im_X7_many se_X7_many (r_many e) rfl rfl (by decide) rfl (Nat.le_of_ble_eq_true rfl) (Nat.zero_le _) (Nat.zero_le _) rfl ?_
          refine fc_icmp_ge (tgt := 66) C dX7_burnsNow_23 (by decide) (fc_Rm (by omega)) (fc_Rm (by omega)) (fun c23 => ?_) (fun c23 => ?_)
          · have hnb : s_nb (v_L v) (v 0) (v_c v) S r2 := ⟨r0, r1, fun o o0 o1 => by
              rw [hr o o0 o1]
              constructor
              · rintro (h | ⟨h1, h2, h3⟩)
                · exact Or.inl h
                · exact Or.inr ⟨by omega, h3⟩
              · rintro (h | ⟨h1, h2⟩)
                · exact Or.inl h
                · by_cases c : o = 0
                  · rw [c]; exact Or.inl s2
                  · exact Or.inr ⟨by omega, by omega, h2⟩⟩
            have eT : s_bn (v_L v) (v 0) (v_c v) (k + 1) = r2 := by
              show s_bs (v_L v) (v 0) (v_c v) (s_bn (v_L v) (v 0) (v_c v) k) = r2
              rw [← eS]
              exact s_bs_eq hnb
            have hsub : ∀ o : Int, 0 ≤ o → o < 5 → fb_t S o = 1 → fb_t r2 o = 1 := fun o o0 o1 h => (hr o o0 o1).2 (Or.inl h)
            have ewv : s_wv (v_L v) (v 0) (v_c v) (k + 1) = s_wv (v_L v) (v 0) (v_c v) k + (if r2 = S then 0 else 1) := by
              show s_wv (v_L v) (v 0) (v_c v) k + (if s_bn (v_L v) (v 0) (v_c v) (k + 1) = s_bn (v_L v) (v 0) (v_c v) k then 0 else 1) = _
              rw [eT, ← eS]
            refine fc_iload C dX7_burnsNow_66 rfl ?_
            refine fc_iload_n C dX7_burnsNow_68 rfl rfl ?_
            refine fc_iload_n C dX7_burnsNow_69 rfl rfl ?_
            refine fc_icmp_eq (tgt := 77) C dX7_burnsNow_70 (by decide) (fc_Rm (by omega)) (fc_Rm (by omega)) (fun c70 => ?_) (fun c70 => ?_)
            · rw [c70]
              have hfix := s_bn_fix (L := v_L v) (n := v 0) (c := v_c v) (k := k) (by rw [eT, ← eS]; exact c70) ((v 0).toNat - k)
              rw [show k + ((v 0).toNat - k) = (v 0).toNat by omega] at hfix
              refine fc_iconst C dX7_burnsNow_77 ?_
              refine fc_iadd C dX7_burnsNow_78 ?_
              refine fc_istore C dX7_burnsNow_79 (by decide) ?_
              refine fc_goto (tgt := 7) C dX7_burnsNow_81 (by decide) ?_
              have := fin S (some (vI p)) (by rw [hfix.1]; exact eS) s0 s1
              rw [hfix.2] at this
              rw [Int.add_zero]
              exact this
            · have hlt := s_pc_lt s0 s1 r0 r1 hsub c70
              refine fc_iconst C dX7_burnsNow_73 ?_
              refine fc_goto (tgt := 78) C dX7_burnsNow_74 (by decide) ?_
              refine fc_iadd C dX7_burnsNow_78 ?_
              refine fc_istore C dX7_burnsNow_79 (by decide) ?_
              refine fc_goto (tgt := 7) C dX7_burnsNow_81 (by decide) ?_
              have := ih (k + 1) r2 S (some (vI p)) (by omega) eT.symm r0 r1 (hsub 0 (by omega) (by omega) s2) (fun o o0 o1 h => by
                rcases (hr o o0 o1).1 h with g | g
                · exact s3 o o0 o1 g
                · omega) (by omega) (fc_Rm (by omega)) c70
              rw [ewv, if_neg c70] at this
              exact this
          · have hvb := s_val_bd hg (n := v 0) (p := p) (by omega) hn.2 (by omega) (by omega)
            have hlb := s_li_bd hg (n := v 0) (set := S) (p := p) (by omega) hn.2 (by omega) (by omega)
            have hc := hv.2.2.2.1 p (by omega) (by omega)
            have nxt : ∀ (x r3 : Int), fc_or r2 x = r3 → 0 ≤ r3 → r3 < 32 → (∀ o : Int, 0 ≤ o → o < 5 → (fb_t r3 o = 1 ↔ fb_t S o = 1 ∨ (1 ≤ o ∧ o < p + 1 ∧ s_bc (v_L v) (v 0) (v_c v) S o))) → fc_W X 0 0 159 (fc_H A F) 58 [some (vR 143), some (vI w), some (vI r2), some (vI S), some (vI (s_wv (v_L v) (v 0) (v_c v) k)), some (vI p)] [vI x, vI r2] := by
              intro x r3 ex g0 g1 g2
              refine fc_ior C dX7_burnsNow_58 ?_
              rw [ex]
              refine fc_istore_n C dX7_burnsNow_59 rfl (by decide) ?_
              refine fc_iinc C dX7_burnsNow_60 rfl (by decide) ?_
              refine fc_goto (tgt := 17) C dX7_burnsNow_63 (by decide) ?_
              exact ih2 (p + 1) r3 (by omega) (by omega) (by omega) g0 g1 g2
            refine fc_iload_n C dX7_burnsNow_26 rfl rfl ?_
            refine fc_aload_n C dX7_burnsNow_27 rfl rfl ?_
            refine fc_iload C dX7_burnsNow_28 rfl ?_
            refine fh_callV (y := mX7_chips) C dX7_burnsNow_30 ml_X7_126 mi_X7_chips im_X7_chips se_X7_chips (r_chips e ⟨by omega, by omega⟩) rfl rfl (by decide) rfl (Nat.le_of_ble_eq_true rfl) (Nat.zero_le _) (Nat.zero_le _) rfl ?_
            refine fc_aload_n C dX7_burnsNow_33 rfl rfl ?_
            refine fc_iload C dX7_burnsNow_34 rfl ?_
            refine fc_iload_n C dX7_burnsNow_36 rfl rfl ?_
            refine fh_callV (y := mX7_linesTo) C dX7_burnsNow_37 ml_X7_182 mi_X7_linesTo im_X7_linesTo se_X7_linesTo (r_linesTo e hn ⟨by omega, by omega⟩ s0 s1) rfl rfl (by decide) rfl (Nat.le_of_ble_eq_true rfl) (Nat.zero_le _) (Nat.zero_le _) rfl ?_
            refine fc_iadd C dX7_burnsNow_40 ?_
            refine fc_aload_n C dX7_burnsNow_41 rfl rfl ?_
            refine fc_iload C dX7_burnsNow_42 rfl ?_
            refine fh_callV (y := mX7_valence) C dX7_burnsNow_44 ml_X7_72 mi_X7_valence im_X7_valence se_X7_valence (r_valence e hn ⟨by omega, by omega⟩) rfl rfl (by decide) rfl (Nat.le_of_ble_eq_true rfl) (Nat.zero_le _) (Nat.zero_le _) rfl ?_
            refine fc_icmp_lt (tgt := 57) C dX7_burnsNow_47 (by decide) (fc_Rm (by omega)) (fc_Rm (by omega)) (fun c47 => ?_) (fun c47 => ?_)
            · refine fc_iconst C dX7_burnsNow_57 ?_
              refine nxt 0 r2 (fb_or0 r0 r1) r0 r1 (fun o o0 o1 => ?_)
              rw [hr o o0 o1]
              constructor
              · rintro (h | ⟨h1, h2, h3⟩)
                · exact Or.inl h
                · exact Or.inr ⟨h1, by omega, h3⟩
              · rintro (h | ⟨h1, h2, h3⟩)
                · exact Or.inl h
                · by_cases c : o = p
                  · exfalso
                    rw [c] at h3
                    have h4 : s_val (v_L v) (v 0) p ≤ v (26 + p) + s_li (v_L v) (v 0) S p := h3
                    omega
                  · exact Or.inr ⟨h1, by omega, h3⟩
            · have hbc : s_bc (v_L v) (v 0) (v_c v) S p := by
                show s_val (v_L v) (v 0) p ≤ v (26 + p) + s_li (v_L v) (v 0) S p
                omega
              have hin := fb_or r0 r1 (show 0 ≤ p by omega) (show p < 5 by omega)
              refine fc_iconst C dX7_burnsNow_50 ?_
              refine fc_iload C dX7_burnsNow_51 rfl ?_
              refine fc_ishl C dX7_burnsNow_53 ?_
              refine fc_goto (tgt := 58) C dX7_burnsNow_54 (by decide) ?_
              refine nxt _ (fb_in r2 p) (by rw [fb_shl1 (by omega) (by omega)]; exact hin.1) hin.2.1 hin.2.2 (fun o o0 o1 => ?_)
              rw [fb_in_t r0 r1 (by omega) (by omega) o0 o1]
              by_cases c : o = p
              · rw [if_pos c]
                exact ⟨fun _ => Or.inr ⟨by omega, by omega, by rw [c]; exact hbc⟩, fun _ => rfl⟩
              · rw [if_neg c, hr o o0 o1]
                constructor
                · rintro (h | ⟨h1, h2, h3⟩)
                  · exact Or.inl h
                  · exact Or.inr ⟨h1, by omega, h3⟩
                · rintro (h | ⟨h1, h2, h3⟩)
                  · exact Or.inl h
                  · exact Or.inr ⟨h1, by omega, h3⟩
      refine fc_iload_n C dX7_burnsNow_7 rfl rfl ?_
      refine fc_iload_n C dX7_burnsNow_8 rfl rfl ?_
      refine fc_icmp_eq (tgt := 84) C dX7_burnsNow_9 (by decide) (fc_Rm (by omega)) (hR) (fun c9 => ?_) (fun c9 => ?_)
      · exact absurd c9 hne
      · refine fc_iload_n C dX7_burnsNow_12 rfl rfl ?_
        refine fc_istore_n C dX7_burnsNow_13 rfl (by decide) ?_
        refine fc_iconst C dX7_burnsNow_14 ?_
        refine fc_istore C dX7_burnsNow_15 (by decide) ?_
        exact inner 6 1 S (by omega) (by omega) (by omega) s0 s1 (fun o o0 o1 => ⟨fun h => Or.inl h, fun h => h.elim id (fun h => by omega)⟩)
  refine fc_iconst C dX7_burnsNow_0 ?_
  refine fc_istore_n C dX7_burnsNow_1 rfl (by decide) ?_
  refine fc_iconst C dX7_burnsNow_2 ?_
  refine fc_istore_n C dX7_burnsNow_3 rfl (by decide) ?_
  refine fc_iconst C dX7_burnsNow_4 ?_
  refine fc_istore C dX7_burnsNow_5 (by decide) ?_
  exact outer 6 0 1 0 none (by omega) rfl (by omega) (by omega) (by decide) (fun o o0 o1 h => by
    have e1 : ∀ o : Fin 5, fb_t 1 ((o.val : Nat) : Int) = 1 → ((o.val : Nat) : Int) < 1 := by decide +kernel
    have := e1 ⟨o.toNat, by omega⟩
    simp only [Int.toNat_of_nonneg o0] at this
    have := this h
    omega) (by decide) (fc_Rm (by omega)) (by decide)
theorem q_burns (RC : m_RC A F v ps st rf tx tl) {w : Int} (hw : fc_R w) : fh_E mX7_burns 4 [vR 143, vI w] A F (m_an A F (x_burn v w) (a_burn v w) v ps st rf tx tl) := by
  obtain ⟨e, hv, -⟩ := id RC
  refine fh_E.of mi_X7_burns (Nat.le_of_ble_eq_true rfl) ?_
  intro X C T
  refine fc_iload_n C dX7_burns_0 rfl rfl ?_
  refine fc_i2l C dX7_burns_1 hw ?_
  refine fc_lconst (z := 0) C dX7_burns_2 rfl ?_
  refine fc_ldc2_w C dX7_burns_3 kc_X7_76 ?_
  refine fh_callS (y := mX7_in) C dX7_burns_6 ml_X7_64 mi_X7_in st_X7_in (r_in hw.L (fc_RLm (by omega)) (fc_RLm (by omega))) (by decide) rfl (Nat.le_of_ble_eq_true rfl) (Nat.zero_le _) (Nat.zero_le _) rfl ?_
  refine fc_if_ne (tgt := 19) C dX7_burns_9 (by decide) (fc_ind_R _) (fun c9 => ?_) (fun c9 => ?_)
  · have c9 := fc_ind_ne c9
    refine fc_aload_n C dX7_burns_19 rfl rfl ?_
    refine fh_callV (y := mX7_isStable) C dX7_burns_20 ml_X7_179 mi_X7_isStable im_X7_isStable se_X7_isStable (r_isStable e hv) rfl rfl (by decide) rfl (Nat.le_of_ble_eq_true rfl) (Nat.zero_le _) (Nat.zero_le _) rfl ?_
    refine fc_if_eq (tgt := 34) C dX7_burns_23 (by decide) (fc_ind_R _) (fun c23 => ?_) (fun c23 => ?_)
    · refine fc_aload_n C dX7_burns_34 rfl rfl ?_
      refine fc_bipush C dX7_burns_35 (by decide) ?_
      refine fh_callV (y := mX7_refuses) C dX7_burns_37 ml_X7_80 mi_X7_refuses im_X7_refuses se_X7_refuses (r_refuses (Or.inr (Or.inl rfl))) rfl rfl (by decide) rfl (Nat.le_of_ble_eq_true rfl) (Nat.zero_le _) (Nat.zero_le _) rfl ?_
      exact fh_iretE C T dX7_burns_40 (Or.inl rfl) (m_an.no RC (by unfold x_burn; rw [if_pos c9, c23]; rfl) (Or.inr (Or.inl rfl)))
    · have c23 := fc_ind_ne c23
      refine fc_aload_n C dX7_burns_26 rfl rfl ?_
      refine fc_iload_n C dX7_burns_27 rfl rfl ?_
      refine fh_callV (y := mX7_burnsNow) C dX7_burns_28 ml_X7_185 mi_X7_burnsNow im_X7_burnsNow se_X7_burnsNow (r_burnsNow e hv hw) rfl rfl (by decide) rfl (Nat.le_of_ble_eq_true rfl) (Nat.zero_le _) (Nat.zero_le _) rfl ?_
      refine fc_goto (tgt := 40) C dX7_burns_31 (by decide) ?_
      exact fh_iretE C T dX7_burns_40 (Or.inl rfl) (m_an.id RC (by unfold x_burn; rw [if_pos c9, fc_ind_t c23]; rfl) rfl)
  · have c9 := fc_ind_0 c9
    refine fc_aload_n C dX7_burns_12 rfl rfl ?_
    refine fc_bipush C dX7_burns_13 (by decide) ?_
    refine fh_callV (y := mX7_refuses) C dX7_burns_15 ml_X7_80 mi_X7_refuses im_X7_refuses se_X7_refuses (r_refuses (Or.inl rfl)) rfl rfl (by decide) rfl (Nat.le_of_ble_eq_true rfl) (Nat.zero_le _) (Nat.zero_le _) rfl ?_
    exact fh_iretE C T dX7_burns_18 (Or.inl rfl) (m_an.no RC (if_neg c9) (Or.inl rfl))
end REF5
