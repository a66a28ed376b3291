/-! publics: order, equal, way, heaps -/
noncomputable def x_ke (v : Int → Int) (s : Int) : Int := if 0 ≤ s ∧ s < 3 then (if fc_ind (s_J (v_L v) (v 0) ∧ v (36 + 6 * s) = v 0) = 1 then 0 else -3) else -2
noncomputable def x_kw (v : Int → Int) (s p : Int) : Int := if (0 ≤ s ∧ s < 3) ∧ (0 ≤ p ∧ p < v 0) then (if fc_ind (s_J (v_L v) (v 0) ∧ v (36 + 6 * s) = v 0) = 1 then 0 else -3) else -2
def v_d (v : Int → Int) (s : Int) : Int → Int := fun p => v (26 + p) - v (37 + 6 * s + p)
/-- the k-th kept row can be turned into by firing -/
def s_eq (v : Int → Int) (s : Int) : Prop := fs_sum (v_d v s) (v 0).toNat = 0 ∧ ∀ p : Int, 0 ≤ p → p < v 0 → (d_sv (v_L v) (v 0) 0 (v_d v s) p).tmod (d_T (v_L v) (v 0) 0) = 0
section PUB6
variable {A : Nat → Int → Int} {F : Nat → Nat → Int} {v : Int → Int} {ps : Int → Int → Int} {st : Int} {rf tx : Int → Int} {tl : Int}
theorem o_order (RC : k_RC A F v ps st rf tx tl) : fh_E mX6_order 8 [vR 0] A F (fun r A' F' => ∃ g : Nat, (x_ord v = 0 → 0 < g ∧ ∀ d : Nat, d ∣ g ↔ (d : Int) ∣ d_T (v_L v) (v 0) 0 ∧ ∀ p : Int, 0 ≤ p → p < v 0 → (d : Int) ∣ d_sv (v_L v) (v 0) 0 (v_c v) p) ∧ k_an A F (x_ord v) ((d_T (v_L v) (v 0) 0).tdiv g) v ps st rf tx tl r A' F') := by
  obtain ⟨E, hv, H, R⟩ := id RC
  have hn := hv.n
  refine fh_E.of mi_X6_order (Nat.le_of_ble_eq_true rfl) ?_
  intro X C T
  have bad : ¬ (s_J (v_L v) (v 0) ∧ s_hp v) → ∀ ls : List (Option fc_AV), fc_W X 0 0 159 (fc_H A F) 20 (some (vR 0) :: ls) [] := by
    intro h ls
    have e : x_ord v = -3 := by unfold x_ord; rw [if_neg (by unfold fc_ind; rw [if_neg h]; decide)]
    refine fc_aload_n C dX6_order_20 rfl rfl ?_
    refine fc_bipush C dX6_order_21 (by decide) ?_
    refine fh_callV (y := mX6_refuse) C dX6_order_23 ml_X6_80 mi_X6_refuse im_X6_refuse se_X6_refuse (c_refuse (Or.inr (Or.inl rfl))) rfl rfl (by decide) rfl (Nat.le_of_ble_eq_true rfl) (Nat.zero_le _) (Nat.zero_le _) rfl ?_
    exact fh_iretE C T dX6_order_26 (Or.inl rfl) ⟨1, fun q => by rw [e] at q; omega, k_an.no RC e (Or.inr (Or.inl rfl))⟩
  refine fc_aload_n C dX6_order_0 rfl rfl ?_
  refine fh_getf C dX6_order_1 fl_X6_24 rfl rfl ?_
  refine fh_callV (y := mX3_isJoined) C dX6_order_4 ml_X6_98 mi_X3_isJoined im_X3_isJoined se_X3_isJoined (c_isJoined (E.net hv) hv.g) rfl rfl (by decide) rfl (Nat.le_of_ble_eq_true rfl) (Nat.zero_le _) (Nat.zero_le _) rfl ?_
  refine fc_if_eq (tgt := 20) C dX6_order_7 (by decide) (fc_ind_R _) (fun c7 => ?_) (fun c7 => ?_)
  · have c7 := fc_ind_0 c7
    exact bad (fun h => c7 h.1) _
  · have c7 := fc_ind_ne c7
    refine fc_aload_n C dX6_order_10 rfl rfl ?_
    refine fh_getf C dX6_order_11 fl_X6_24 rfl rfl ?_
    refine fh_callV (y := mX3_isHeap) C dX6_order_14 ml_X6_182 mi_X3_isHeap im_X3_isHeap se_X3_isHeap (c_isHeap (E.net hv) E.ch hv.cR) rfl rfl (by decide) rfl (Nat.le_of_ble_eq_true rfl) (Nat.zero_le _) (Nat.zero_le _) rfl ?_
    refine fc_if_ne (tgt := 27) C dX6_order_17 (by decide) (fc_ind_R _) (fun c17 => ?_) (fun c17 => ?_)
    · have c17 := fc_ind_ne c17
      have hx : x_ord v = 0 := by unfold x_ord; rw [if_pos (by unfold fc_ind; rw [if_pos ⟨c7, c17⟩])]
      refine fc_aload_n C dX6_order_27 rfl rfl ?_
      refine fh_getf C dX6_order_28 fl_X6_29 rfl rfl ?_
      refine fc_aload_n C dX6_order_31 rfl rfl ?_
      refine fh_getf C dX6_order_32 fl_X6_24 rfl rfl ?_
      refine fc_iconst C dX6_order_35 ?_
      refine fh_callVE (y := mX1_takeWhole) C dX6_order_36 ml_X6_175 mi_X1_takeWhole im_X1_takeWhole se_X1_takeWhole (c_takeWhole (E.net hv) hv.g (q := 0) ⟨by omega, by omega⟩ c7) rfl rfl (by decide) rfl (Nat.le_of_ble_eq_true rfl) (Nat.zero_le _) (Nat.zero_le _) rfl ?_
      rintro r A1 F1 ⟨rfl, G1, fr1⟩
      refine fc_eq (st' := []) rfl rfl ?_
      have h10 : ∀ o : Int, 0 ≤ o → o < v 0 → A1 10 o = v_c v o := fun o o0 o1 => by rw [(fr1 10 (by omega)).1]; exact E.2.2.1 o o0 (by omega)
      refine fc_aload_n C dX6_order_39 rfl rfl ?_
      refine fh_getf C dX6_order_40 fl_X6_29 rfl rfl ?_
      refine fc_aload_n C dX6_order_43 rfl rfl ?_
      refine fh_getf C dX6_order_44 fl_X6_24 rfl rfl ?_
      refine fh_getf C dX6_order_47 fl_X6_114 rfl rfl ?_
      refine fh_callVE (y := mX1_leastMultiple) C dX6_order_50 ml_X6_189 mi_X1_leastMultiple im_X1_leastMultiple se_X1_leastMultiple (c_leastMultiple G1 hv.g hn ⟨by omega, by omega⟩ (d_T_pos hv.g hn ⟨by omega, by omega⟩ c7) (i := 10) (fun _ _ => rfl) (by omega) (fun o o0 o1 => by rw [h10 o o0 o1]; have := hv.2.2.2.1 o o0 (by omega); unfold v_c; omega)) rfl rfl (by decide) rfl (Nat.le_of_ble_eq_true rfl) (Nat.zero_le _) (Nat.zero_le _) rfl ?_
      rintro r A2 F2 ⟨rfl, fr2, g, g0, rfl, hd⟩
      refine fc_eq (st' := [vL ((d_T (v_L v) (v 0) 0).tdiv g)]) rfl rfl ?_
      have hsv : ∀ a : Int, d_sv (v_L v) (v 0) 0 (A1 10) a = d_sv (v_L v) (v 0) 0 (v_c v) a := fun a => by
        unfold d_sv
        split
        · rfl
        · refine fs_sum_congr fun k k0 k1 => ?_
          split
          · rfl
          · rw [h10 k k0 (by omega)]
      have g1 := RC.gr (A' := A2) (F' := F2) (fun i a b c => ⟨by rw [fr2 i (by omega)]; exact (fr1 i (by omega)).1, (fr1 i (by omega)).2⟩)
      refine fc_l2i C dX6_order_53 ?_
      exact fh_iretE C T dX6_order_54 (Or.inl rfl) ⟨g, fun _ => ⟨g0, fun d => (hd d).trans ⟨fun h => ⟨h.1, fun p p0 p1 => by rw [← hsv]; exact h.2 p p0 p1⟩, fun h => ⟨h.1, fun p p0 p1 => by rw [hsv]; exact h.2 p p0 p1⟩⟩⟩, k_an.yes g1.1 g1.2 hx rfl⟩
    · have c17 := fc_ind_0 c17
      exact bad (fun h => c17 h.2) _
theorem c_canCompare (E : k_enc A F 3 v) (hv : v_ok v) {s : Int} (hs : 0 ≤ s ∧ s < 3) : fh_M mX6_canCompareWith 2 [vR 0, vI s] A F (some (vI (fc_ind (s_J (v_L v) (v 0) ∧ v (36 + 6 * s) = v 0)))) A F := by
  have hn := hv.n
  have e0 := E.1
  have e9 := E.2.2.2.2.1 s hs.1 hs.2
  rw [show (3 + 9 : Nat) = 12 from rfl] at e9
  have hk := hv.2.2.2.2.2.2.1 s hs.1 hs.2
  refine fh_M.of mi_X6_canCompareWith (Nat.le_of_ble_eq_true rfl) ?_
  intro X C T
  refine fc_aload_n C dX6_canCompareWith_0 rfl rfl ?_
  refine fh_getf C dX6_canCompareWith_1 fl_X6_24 rfl rfl ?_
  refine fh_callV (y := mX3_isJoined) C dX6_canCompareWith_4 ml_X6_98 mi_X3_isJoined im_X3_isJoined se_X3_isJoined (c_isJoined (E.net hv) hv.g) rfl rfl (by decide) rfl (Nat.le_of_ble_eq_true rfl) (Nat.zero_le _) (Nat.zero_le _) rfl ?_
  refine fc_if_eq (tgt := 33) C dX6_canCompareWith_7 (by decide) (fc_ind_R _) (fun c7 => ?_) (fun c7 => ?_)
  · have c7 := fc_ind_0 c7
    refine fc_iconst C dX6_canCompareWith_33 ?_
    exact fh_zret C T dX6_canCompareWith_34 (by omega) (by unfold fc_ind; rw [if_neg (fun h => c7 h.1)]) rfl
  · have c7 := fc_ind_ne c7
    refine fc_aload_n C dX6_canCompareWith_10 rfl rfl ?_
    refine fh_getf C dX6_canCompareWith_11 fl_X6_24 rfl rfl ?_
    refine fh_getf C dX6_canCompareWith_14 fl_X6_287 rfl rfl ?_
    refine fc_iload_n C dX6_canCompareWith_17 rfl rfl ?_
    refine fh_iaload C dX6_canCompareWith_18 (fun _ _ => rfl) (by omega) (by omega) (by decide) ?_
    refine fc_aload_n C dX6_canCompareWith_19 rfl rfl ?_
    refine fh_getf C dX6_canCompareWith_20 fl_X6_24 rfl rfl ?_
    refine fh_getf C dX6_canCompareWith_23 fl_X6_54 rfl rfl ?_
    refine fc_icmp_ne (tgt := 33) C dX6_canCompareWith_26 (by decide) (fc_Rm (by omega)) (fc_Rm (by omega)) (fun c26 => ?_) (fun c26 => ?_)
    · refine fc_iconst C dX6_canCompareWith_33 ?_
      exact fh_zret C T dX6_canCompareWith_34 (by omega) (by unfold fc_ind; rw [if_neg (fun h => by have := h.2; omega)]) rfl
    · refine fc_iconst C dX6_canCompareWith_29 ?_
      refine fc_goto (tgt := 34) C dX6_canCompareWith_30 (by decide) ?_
      exact fh_zret C T dX6_canCompareWith_34 (by omega) (by unfold fc_ind; rw [if_pos ⟨c7, by omega⟩]) rfl
theorem c_findWay0 (E : k_enc A F 3 v) (hv : v_ok v) (hJ : s_J (v_L v) (v 0)) {s : Int} (hs : 0 ≤ s ∧ s < 3) : fh_E mX6_findWay 8 [vR 0, vI s] A F (fun r A' F' => r = some (vI (fc_ind (s_eq v s))) ∧ k_gw A' F' (v 0) 0 (v_L v) ∧ (s_eq v s → ∀ p : Int, 0 ≤ p → p < v 0 → A' 30 p = d_sv (v_L v) (v 0) 0 (v_d v s) p) ∧ ∀ i : Nat, ¬ (17 ≤ i ∧ i ≤ 33) → A' i = A i ∧ F' i = F i) := by
  have hn := hv.n
  refine fh_E.of mi_X6_findWay (Nat.le_of_ble_eq_true rfl) ?_
  intro X C T
  refine fc_aload_n C dX6_findWay_0 rfl rfl ?_
  refine fh_getf C dX6_findWay_1 fl_X6_29 rfl rfl ?_
  refine fc_aload_n C dX6_findWay_4 rfl rfl ?_
  refine fh_getf C dX6_findWay_5 fl_X6_24 rfl rfl ?_
  refine fc_iconst C dX6_findWay_8 ?_
  refine fh_callVE (y := mX1_takeWhole) C dX6_findWay_9 ml_X6_175 mi_X1_takeWhole im_X1_takeWhole se_X1_takeWhole (c_takeWhole (E.net hv) hv.g (q := 0) ⟨by omega, by omega⟩ hJ) rfl rfl (by decide) rfl (Nat.le_of_ble_eq_true rfl) (Nat.zero_le _) (Nat.zero_le _) rfl ?_
  rintro r A1 F1 ⟨rfl, G1, fr1⟩
  refine fc_eq (st' := []) rfl rfl ?_
  have h10 : ∀ o : Int, 0 ≤ o → o < v 0 → A1 10 o = v (26 + o) := fun o o0 o1 => by rw [(fr1 10 (by omega)).1]; exact E.2.2.1 o o0 (by omega)
  have h14 : ∀ o : Int, 0 ≤ o → o < v 0 → A1 (14 + s.toNat) o = v (37 + 6 * s + o) := fun o o0 o1 => by rw [(fr1 (14 + s.toNat) (by omega)).1]; exact E.2.2.2.2.2 s o hs.1 hs.2 o0 (by omega)
  have hd : ∀ o : Int, 0 ≤ o → o < v 0 → A1 10 o - A1 (14 + s.toNat) o = v_d v s o := fun o o0 o1 => by rw [h10 o o0 o1, h14 o o0 o1]; rfl
  have hdeg : fs_sum (fun p => A1 10 p - A1 (14 + s.toNat) p) (v 0).toNat = fs_sum (v_d v s) (v 0).toNat := fs_sum_congr fun k k0 k1 => hd k k0 (by omega)
  have hsv : ∀ a : Int, d_sv (v_L v) (v 0) 0 (fun p => A1 10 p - A1 (14 + s.toNat) p) a = d_sv (v_L v) (v 0) 0 (v_d v s) a := fun a => by
    unfold d_sv
    split
    · rfl
    · refine fs_sum_congr fun k k0 k1 => ?_
      split
      · rfl
      · exact congrArg (fun z => d_cf (v_L v) (v 0) 0 a k * z) (hd k k0 (by omega))
  have hiff : (fs_sum (fun p => A1 10 p - A1 (14 + s.toNat) p) (v 0).toNat = 0 ∧ ∀ p : Int, 0 ≤ p → p < v 0 → (d_sv (v_L v) (v 0) 0 (fun p => A1 10 p - A1 (14 + s.toNat) p) p).tmod (d_T (v_L v) (v 0) 0) = 0) ↔ s_eq v s := by
    unfold s_eq
    rw [hdeg]
    exact ⟨fun h => ⟨h.1, fun p p0 p1 => by rw [← hsv]; exact h.2 p p0 p1⟩, fun h => ⟨h.1, fun p p0 p1 => by rw [hsv]; exact h.2 p p0 p1⟩⟩
  refine fc_aload_n C dX6_findWay_12 rfl rfl ?_
  refine fh_getf C dX6_findWay_13 fl_X6_29 rfl rfl ?_
  refine fc_aload_n C dX6_findWay_16 rfl rfl ?_
  refine fh_getf C dX6_findWay_17 fl_X6_24 rfl rfl ?_
  refine fh_getf C dX6_findWay_20 fl_X6_114 rfl rfl ?_
  refine fc_aload_n C dX6_findWay_23 rfl rfl ?_
  refine fh_getf C dX6_findWay_24 fl_X6_24 rfl rfl ?_
  refine fh_getf C dX6_findWay_27 fl_X6_290 rfl rfl ?_
  refine fc_iload_n C dX6_findWay_30 rfl rfl ?_
  refine fh_aaload C dX6_findWay_31 (Or.inl rfl) rfl (by omega) (by omega) (by decide) (fg_14 s) ?_
  refine fh_callVE (y := mX1_findWay) C dX6_findWay_32 ml_X6_294 mi_X1_findWay im_X1_findWay se_X1_findWay (c_findWay G1 hv.g hn ⟨by omega, by omega⟩ (d_T_pos hv.g hn ⟨by omega, by omega⟩ hJ) (i := 10) (j := 14 + s.toNat) (fun _ _ => rfl) (by omega) (fS_14 hs.1 hs.2) (by omega) (fun o o0 o1 => by rw [h10 o o0 o1]; have := hv.2.2.2.1 o o0 (by omega); omega) (fun o o0 o1 => by rw [h14 o o0 o1]; have := hv.2.2.2.2.2.2.2 s o hs.1 hs.2 o0 (by omega); omega)) rfl rfl (by decide) rfl (Nat.le_of_ble_eq_true rfl) (Nat.zero_le _) (Nat.zero_le _) rfl ?_
  rintro r A2 F2 ⟨rfl, fr2, rfl, h30⟩
  rw [propext hiff] at h30 ⊢
  refine fc_eq (st' := [vI (fc_ind (s_eq v s))]) rfl rfl ?_
  refine fh_iretE C T dX6_findWay_35 (Or.inr ⟨rfl, fc_ind_01 _⟩) ⟨rfl, G1.fr hn (fun i i0 i1 => ?_) (fr2 32 (by omega) (by omega)) rfl, fun h p p0 p1 => by rw [← hsv]; exact h30 h p p0 p1, fun i a => ⟨by rw [fr2 i (by omega) (by omega)]; exact (fr1 i (by omega)).1, (fr1 i (by omega)).2⟩⟩
  exact fr2 i (by omega) (by omega)
theorem o_equal (RC : k_RC A F v ps st rf tx tl) {s : Int} (hs : fc_R s) : fh_E mX6_equal 9 [vR 0, vI s] A F (k_an A F (x_ke v s) (fc_ind (s_eq v s)) v ps st rf tx tl) := by
  obtain ⟨E, hv, H, R⟩ := id RC
  have hn := hv.n
  refine fh_E.of mi_X6_equal (Nat.le_of_ble_eq_true rfl) ?_
  intro X C T
  refine fc_iload_n C dX6_equal_0 rfl rfl ?_
  refine fh_callS (y := mX6_isKeptNumber) C dX6_equal_1 ml_X6_216 mi_X6_isKeptNumber st_X6_isKeptNumber (c_isKeptNumber hs) (by decide) rfl (Nat.le_of_ble_eq_true rfl) (Nat.zero_le _) (Nat.zero_le _) rfl ?_
  refine fc_if_ne (tgt := 14) C dX6_equal_4 (by decide) (fc_ind_R _) (fun c4 => ?_) (fun c4 => ?_)
  · have c4 := fc_ind_ne c4
    refine fc_aload_n C dX6_equal_14 rfl rfl ?_
    refine fc_iload_n C dX6_equal_15 rfl rfl ?_
    refine fh_callV (y := mX6_canCompareWith) C dX6_equal_16 ml_X6_222 mi_X6_canCompareWith im_X6_canCompareWith se_X6_canCompareWith (c_canCompare E hv c4) rfl rfl (by decide) rfl (Nat.le_of_ble_eq_true rfl) (Nat.zero_le _) (Nat.zero_le _) rfl ?_
    refine fc_if_ne (tgt := 29) C dX6_equal_19 (by decide) (fc_ind_R _) (fun c19 => ?_) (fun c19 => ?_)
    · have c19 := fc_ind_ne c19
      have hx : x_ke v s = 0 := by unfold x_ke; rw [if_pos c4, if_pos (fc_ind_t c19)]
      refine fc_aload_n C dX6_equal_29 rfl rfl ?_
      refine fc_iload_n C dX6_equal_30 rfl rfl ?_
      refine fh_callVE (y := mX6_findWay) C dX6_equal_31 ml_X6_225 mi_X6_findWay im_X6_findWay se_X6_findWay (c_findWay0 E hv c19.1 c4) rfl rfl (by decide) rfl (Nat.le_of_ble_eq_true rfl) (Nat.zero_le _) (Nat.zero_le _) rfl ?_
      rintro r A1 F1 ⟨rfl, G1, h30, fr1⟩
      refine fc_eq (st' := [vI (fc_ind (s_eq v s))]) rfl rfl ?_
      have g := RC.gr (A' := A1) (F' := F1) (fun i a b c => fr1 i (by omega))
      refine fh_callS (y := mX6_bit) C dX6_equal_34 ml_X6_102 mi_X6_bit st_X6_bit (c_bit) (by decide) rfl (Nat.le_of_ble_eq_true rfl) (Nat.zero_le _) (Nat.zero_le _) rfl ?_
      exact fh_iretE C T dX6_equal_37 (Or.inl rfl) (k_an.yes g.1 g.2 hx rfl)
    · have c19 := fc_ind_0 c19
      refine fc_aload_n C dX6_equal_22 rfl rfl ?_
      refine fc_bipush C dX6_equal_23 (by decide) ?_
      refine fh_callV (y := mX6_refuse) C dX6_equal_25 ml_X6_80 mi_X6_refuse im_X6_refuse se_X6_refuse (c_refuse (Or.inr (Or.inl rfl))) rfl rfl (by decide) rfl (Nat.le_of_ble_eq_true rfl) (Nat.zero_le _) (Nat.zero_le _) rfl ?_
      exact fh_iretE C T dX6_equal_28 (Or.inl rfl) (k_an.no RC (by unfold x_ke; rw [if_pos c4, if_neg (by rw [fc_ind_f c19]; decide)]) (Or.inr (Or.inl rfl)))
  · have c4 := fc_ind_0 c4
    refine fc_aload_n C dX6_equal_7 rfl rfl ?_
    refine fc_bipush C dX6_equal_8 (by decide) ?_
    refine fh_callV (y := mX6_refuse) C dX6_equal_10 ml_X6_80 mi_X6_refuse im_X6_refuse se_X6_refuse (c_refuse (Or.inl rfl)) rfl rfl (by decide) rfl (Nat.le_of_ble_eq_true rfl) (Nat.zero_le _) (Nat.zero_le _) rfl ?_
    exact fh_iretE C T dX6_equal_13 (Or.inl rfl) (k_an.no RC (if_neg c4) (Or.inl rfl))
noncomputable def a_way (v : Int → Int) (s p : Int) : Int := if fc_ind (s_eq v s) = 1 then (d_sv (v_L v) (v 0) 0 (v_d v s) p).tdiv (d_T (v_L v) (v 0) 0) + 100000 else -1
theorem o_way (RC : k_RC A F v ps st rf tx tl) {s p : Int} (hs : fc_R s) (hp : fc_R p) : fh_E mX6_way 9 [vR 0, vI s, vI p] A F (k_an A F (x_kw v s p) (a_way v s p) v ps st rf tx tl) := by
  obtain ⟨E, hv, H, R⟩ := id RC
  have hn := hv.n
  refine fh_E.of mi_X6_way (Nat.le_of_ble_eq_true rfl) ?_
  intro X C T
  have bad : ¬ ((0 ≤ s ∧ s < 3) ∧ (0 ≤ p ∧ p < v 0)) → ∀ ls : List (Option fc_AV), fc_W X 0 0 159 (fc_H A F) 18 (some (vR 0) :: ls) [] := by
    intro h ls
    refine fc_aload_n C dX6_way_18 rfl rfl ?_
    refine fc_bipush C dX6_way_19 (by decide) ?_
    refine fh_callV (y := mX6_refuse) C dX6_way_21 ml_X6_80 mi_X6_refuse im_X6_refuse se_X6_refuse (c_refuse (Or.inl rfl)) rfl rfl (by decide) rfl (Nat.le_of_ble_eq_true rfl) (Nat.zero_le _) (Nat.zero_le _) rfl ?_
    exact fh_iretE C T dX6_way_24 (Or.inl rfl) (k_an.no RC (if_neg h) (Or.inl rfl))
  refine fc_iload_n C dX6_way_0 rfl rfl ?_
  refine fh_callS (y := mX6_isKeptNumber) C dX6_way_1 ml_X6_216 mi_X6_isKeptNumber st_X6_isKeptNumber (c_isKeptNumber hs) (by decide) rfl (Nat.le_of_ble_eq_true rfl) (Nat.zero_le _) (Nat.zero_le _) rfl ?_
  refine fc_if_eq (tgt := 18) C dX6_way_4 (by decide) (fc_ind_R _) (fun c4 => ?_) (fun c4 => ?_)
  · have := fc_ind_0 c4
    exact bad (by omega) _
  · have c4 := fc_ind_ne c4
    refine fc_aload_n C dX6_way_7 rfl rfl ?_
    refine fh_getf C dX6_way_8 fl_X6_24 rfl rfl ?_
    refine fc_iload_n C dX6_way_11 rfl rfl ?_
    refine fh_callV (y := mX3_hasPoint) C dX6_way_12 ml_X6_91 mi_X3_hasPoint im_X3_hasPoint se_X3_hasPoint (c_hasPoint (E.net hv) hp) rfl rfl (by decide) rfl (Nat.le_of_ble_eq_true rfl) (Nat.zero_le _) (Nat.zero_le _) rfl ?_
    refine fc_if_ne (tgt := 25) C dX6_way_15 (by decide) (fc_ind_R _) (fun c15 => ?_) (fun c15 => ?_)
    · have c15 := fc_ind_ne c15
      refine fc_aload_n C dX6_way_25 rfl rfl ?_
      refine fc_iload_n C dX6_way_26 rfl rfl ?_
      refine fh_callV (y := mX6_canCompareWith) C dX6_way_27 ml_X6_222 mi_X6_canCompareWith im_X6_canCompareWith se_X6_canCompareWith (c_canCompare E hv c4) rfl rfl (by decide) rfl (Nat.le_of_ble_eq_true rfl) (Nat.zero_le _) (Nat.zero_le _) rfl ?_
      refine fc_if_ne (tgt := 40) C dX6_way_30 (by decide) (fc_ind_R _) (fun c30 => ?_) (fun c30 => ?_)
      · have c30 := fc_ind_ne c30
        have hx : x_kw v s p = 0 := by unfold x_kw; rw [if_pos ⟨c4, c15⟩, if_pos (fc_ind_t c30)]
        refine fc_aload_n C dX6_way_40 rfl rfl ?_
        refine fc_iload_n C dX6_way_41 rfl rfl ?_
        refine fh_callVE (y := mX6_findWay) C dX6_way_42 ml_X6_225 mi_X6_findWay im_X6_findWay se_X6_findWay (c_findWay0 E hv c30.1 c4) rfl rfl (by decide) rfl (Nat.le_of_ble_eq_true rfl) (Nat.zero_le _) (Nat.zero_le _) rfl ?_
        rintro r A1 F1 ⟨rfl, G1, h30, fr1⟩
        refine fc_eq (st' := [vI (fc_ind (s_eq v s))]) rfl rfl ?_
        have g := RC.gr (A' := A1) (F' := F1) (fun i a b c => fr1 i (by omega))
        refine fc_if_eq (tgt := 62) C dX6_way_45 (by decide) (fc_ind_R _) (fun c45 => ?_) (fun c45 => ?_)
        · have c45 := fc_ind_0 c45
          refine fc_iconst C dX6_way_62 ?_
          exact fh_iretE C T dX6_way_63 (Or.inl rfl) (k_an.yes g.1 g.2 hx (by unfold a_way; rw [if_neg (by rw [fc_ind_f c45]; decide)]))
        · have c45 := fc_ind_ne c45
          have hb := d_sv_bd hv.g hn (q := 0) (a := p) (x := v_d v s) (fun o o0 o1 => by
            have := hv.2.2.2.1 o o0 (by omega)
            have := hv.2.2.2.2.2.2.2 s o c4.1 c4.2 o0 (by omega)
            unfold v_d
            omega)
          refine fc_aload_n C dX6_way_48 rfl rfl ?_
          refine fh_getf C dX6_way_49 fl_X6_29 rfl rfl ?_
          refine fc_iload_n C dX6_way_52 rfl rfl ?_
          refine fh_callV (y := mX1_wayOf) C dX6_way_53 ml_X6_228 mi_X1_wayOf im_X1_wayOf se_X1_wayOf (c_wayOf G1 hv.g hn c15 (h30 c45 p c15.1 c15.2) (fc_RLm (by omega)) (d_T_pos hv.g hn ⟨by omega, by omega⟩ c30.1)) rfl rfl (by decide) rfl (Nat.le_of_ble_eq_true rfl) (Nat.zero_le _) (Nat.zero_le _) rfl ?_
          refine fc_ldc C dX6_way_56 kc_X6_231 ?_
          refine fc_iadd C dX6_way_58 ?_
          refine fc_goto (tgt := 63) C dX6_way_59 (by decide) ?_
          exact fh_iretE C T dX6_way_63 (Or.inl rfl) (k_an.yes g.1 g.2 hx (by unfold a_way; rw [if_pos (fc_ind_t c45)]))
      · have c30 := fc_ind_0 c30
        refine fc_aload_n C dX6_way_33 rfl rfl ?_
        refine fc_bipush C dX6_way_34 (by decide) ?_
        refine fh_callV (y := mX6_refuse) C dX6_way_36 ml_X6_80 mi_X6_refuse im_X6_refuse se_X6_refuse (c_refuse (Or.inr (Or.inl rfl))) rfl rfl (by decide) rfl (Nat.le_of_ble_eq_true rfl) (Nat.zero_le _) (Nat.zero_le _) rfl ?_
        exact fh_iretE C T dX6_way_39 (Or.inl rfl) (k_an.no RC (by unfold x_kw; rw [if_pos ⟨c4, c15⟩, if_neg (by rw [fc_ind_f c30]; decide)]) (Or.inr (Or.inl rfl)))
    · have := fc_ind_0 c15
      exact bad (by omega) _
theorem o_heaps (RC : k_RC A F v ps st rf tx tl) {w : Int} (hw : fc_R w) : fh_E mX6_heaps 8 [vR 0, vI w] A F (k_an A F (x_hps v w) (a_hps v w) v ps st rf tx tl) := by
  obtain ⟨E, hv, H, R⟩ := id RC
  have hn := hv.n
  refine fh_E.of mi_X6_heaps (Nat.le_of_ble_eq_true rfl) ?_
  intro X C T
  have bad : ¬ (0 ≤ w ∧ w ≤ 1) → ∀ ls : List (Option fc_AV), fc_W X 0 0 159 (fc_H A F) 9 (some (vR 0) :: ls) [] := by
    intro h ls
    refine fc_aload_n C dX6_heaps_9 rfl rfl ?_
    refine fc_bipush C dX6_heaps_10 (by decide) ?_
    refine fh_callV (y := mX6_refuse) C dX6_heaps_12 ml_X6_80 mi_X6_refuse im_X6_refuse se_X6_refuse (c_refuse (Or.inl rfl)) rfl rfl (by decide) rfl (Nat.le_of_ble_eq_true rfl) (Nat.zero_le _) (Nat.zero_le _) rfl ?_
    exact fh_iretE C T dX6_heaps_15 (Or.inl rfl) (k_an.no RC (if_neg h) (Or.inl rfl))
  refine fc_iload_n C dX6_heaps_0 rfl rfl ?_
  refine fc_if_lt (tgt := 9) C dX6_heaps_1 (by decide) (hw) (fun c1 => ?_) (fun c1 => ?_)
  · exact bad (by omega) _
  · refine fc_iload_n C dX6_heaps_4 rfl rfl ?_
    refine fc_iconst C dX6_heaps_5 ?_
    refine fc_icmp_le (tgt := 16) C dX6_heaps_6 (by decide) (hw) (fc_Rm (by omega)) (fun c6 => ?_) (fun c6 => ?_)
    · have hxx : x_hps v w = x_J v := if_pos ⟨c1, c6⟩
      refine fc_aload_n C dX6_heaps_16 rfl rfl ?_
      refine fh_getf C dX6_heaps_17 fl_X6_24 rfl rfl ?_
      refine fh_callV (y := mX3_isJoined) C dX6_heaps_20 ml_X6_98 mi_X3_isJoined im_X3_isJoined se_X3_isJoined (c_isJoined (E.net hv) hv.g) rfl rfl (by decide) rfl (Nat.le_of_ble_eq_true rfl) (Nat.zero_le _) (Nat.zero_le _) rfl ?_
      refine fc_if_ne (tgt := 33) C dX6_heaps_23 (by decide) (fc_ind_R _) (fun c23 => ?_) (fun c23 => ?_)
      · have c23 := fc_ind_ne c23
        refine fc_iload_n C dX6_heaps_33 rfl rfl ?_
        refine fc_if_ne (tgt := 47) C dX6_heaps_34 (by decide) (hw) (fun c34 => ?_) (fun c34 => ?_)
        · refine fc_aload_n C dX6_heaps_47 rfl rfl ?_
          refine fh_callVE (y := mX6_trees) C dX6_heaps_48 ml_X6_196 mi_X6_trees im_X6_trees se_X6_trees (o_trees RC) rfl rfl (by decide) rfl (Nat.le_of_ble_eq_true rfl) (Nat.zero_le _) (Nat.zero_le _) rfl ?_
          rintro r A1 F1 ⟨rfl, g1, g2⟩
          refine fc_eq (st' := [vI (d_T (v_L v) (v 0) 0)]) rfl rfl ?_
          rw [if_pos rfl] at g1
          exact fh_iretE C T dX6_heaps_51 (Or.inl rfl) (k_an.yes g1 g2 (by rw [hxx]; exact x_J_0 c23) (by unfold a_hps; rw [if_neg c34]))
        · have c34 : w = 0 := by omega
          refine fc_aload_n C dX6_heaps_37 rfl rfl ?_
          refine fh_getf C dX6_heaps_38 fl_X6_24 rfl rfl ?_
          refine fh_callV (y := mX3_stableHeapCount) C dX6_heaps_41 ml_X6_193 mi_X3_stableHeapCount im_X3_stableHeapCount se_X3_stableHeapCount (c_stableHeapCount (E.net hv)) rfl rfl (by decide) rfl (Nat.le_of_ble_eq_true rfl) (Nat.zero_le _) (Nat.zero_le _) rfl ?_
          refine fc_goto (tgt := 51) C dX6_heaps_44 (by decide) ?_
          exact fh_iretE C T dX6_heaps_51 (Or.inl rfl) (k_an.yes RC k_fr.rf (by rw [hxx]; exact x_J_0 c23) (by unfold a_hps; rw [if_pos c34]))
      · have c23 := fc_ind_0 c23
        refine fc_aload_n C dX6_heaps_26 rfl rfl ?_
        refine fc_bipush C dX6_heaps_27 (by decide) ?_
        refine fh_callV (y := mX6_refuse) C dX6_heaps_29 ml_X6_80 mi_X6_refuse im_X6_refuse se_X6_refuse (c_refuse (Or.inr (Or.inl rfl))) rfl rfl (by decide) rfl (Nat.le_of_ble_eq_true rfl) (Nat.zero_le _) (Nat.zero_le _) rfl ?_
        exact fh_iretE C T dX6_heaps_32 (Or.inl rfl) (k_an.no RC (by rw [hxx]; exact x_J_3 c23) (Or.inr (Or.inl rfl)))
    · exact bad (by omega) _
end PUB6
