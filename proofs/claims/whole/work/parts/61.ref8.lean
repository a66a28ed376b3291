/-! the reference: ORDERS -/
theorem t_sk_sk {tx : Int → Int} {tl i : Int} (h : i ≤ tl) : t_sk tx tl (t_sk tx tl i) = t_sk tx tl i := t_sk_no (t_sk_bd h).2.2
theorem v_ok.cg {u v : Int → Int} (h : v_eq u v) (hv : v_ok v) : v_ok u := by
  obtain ⟨h2, h3, h4, h5, h6, h7, h8, h9⟩ := hv
  have e0 : u 0 = v 0 := h 0 (by omega) (by omega)
  refine ⟨by rw [e0]; exact h2, by rw [e0]; exact h3, fun a b a0 a1 b0 b1 => ?_, fun p p0 p1 => ?_, fun p p0 p1 => ?_, fun p p0 p1 => ?_, fun s s0 s1 => ?_, fun s p s0 s1 p0 p1 => ?_⟩
  · unfold v_L
    rw [h _ (by omega) (by omega), h _ (by omega) (by omega), h _ (by omega) (by omega)]
    exact h4 a b a0 a1 b0 b1
  · rw [h _ (by omega) (by omega)]; exact h5 p p0 p1
  · rw [e0] at p0; rw [h _ (by omega) (by omega), h _ (by omega) (by omega)]; exact h6 p p0 p1
  · rw [h _ (by omega) (by omega)]; exact h7 p p0 p1
  · rw [h _ (by omega) (by omega)]; exact h8 s s0 s1
  · rw [h _ (by omega) (by omega)]; exact h9 s p s0 s1 p0 p1
theorem e_x_c (c : Int) (a v : Int → Int) : e_x c a v = 0 ∨ e_x c a v = -2 ∨ e_x c a v = -3 := by
  unfold e_x
  split
  · exact x_pts_c _ _
  · split
    · exact x_ln_c _ _ _ _
    · split
      · exact x_one_c _ _ _
      · split
        · exact x_one_c _ _ _
        · split
          · exact x_stl_c _
          · split
            · exact x_add_c _ _ _
            · exact Or.inl rfl
section REF8
variable {A : Nat → Int → Int} {F : Nat → Nat → Int} {tx : Int → Int} {tl i vl pt nt : Int} {v : Int → Int}
abbrev t_nk (tx : Int → Int) (tl m p : Int) : Prop := (t_oN tx tl m p).1 = 1 ∧ ¬ (t_b tx tl p = 110 ∧ ¬ (2 ≤ (t_oN tx tl m p).2.2 0 ∧ (t_oN tx tl m p).2.2 0 ≤ 5))
def m_nm (A : Nat → Int → Int) (F : Nat → Nat → Int) (tx : Int → Int) (tl p pt nt : Int) : Option fc_AV → (Nat → Int → Int) → (Nat → Nat → Int) → Prop := fun r A' F' => r = some (vI (fc_ind (t_nk tx tl pt p))) ∧ (∀ j : Nat, j ≠ 158 → A' j = A j) ∧ m_tf F F' ∧ ∃ vl' pt' : Int, m_T A' F' tx tl (if (t_oN tx tl pt p).1 = 1 ∧ ¬ t_nk tx tl pt p then t_sk tx tl (p + 1) else (t_oN tx tl pt p).2.1) vl' pt' nt ∧ (t_nk tx tl pt p → pt' = (if t_b tx tl p = 110 then (t_oN tx tl pt p).2.2 0 else pt) ∧ ∀ k : Int, 0 ≤ k → k < t_cnt (t_b tx tl p) pt → A' 158 k = (t_oN tx tl pt p).2.2 k)
theorem r_takesPoints {p : Int} (T0 : m_T A F tx tl (p + 1) vl pt nt) (h0 : 0 ≤ p + 1) (h1 : p + 1 ≤ tl) (hc : t_b tx tl p = 110) : fh_E mX7_takesPoints 3 [vR 143] A F (m_nm A F tx tl p pt nt) := by
  have hs := t_sk_bd (tx := tx) h1
  have ec : t_cnt (t_b tx tl p) pt = 1 := by rw [hc]; rfl
  have eN : t_oN tx tl pt p = (t_no tx tl 0 (t_sk tx tl (p + 1)), t_np tx tl 0 (t_sk tx tl (p + 1)), fc_set (fun _ => 0) 0 (t_nv tx tl 0 (t_sk tx tl (p + 1)))) := by
    unfold t_oN
    rw [ec, hc]
    rfl
  have eN0 : (t_oN tx tl pt p).2.2 0 = t_nv tx tl 0 (t_sk tx tl (p + 1)) := by rw [eN]; rfl
  have eN1 : (t_oN tx tl pt p).1 = t_no tx tl 0 (t_sk tx tl (p + 1)) := by rw [eN]
  have eN2 : (t_oN tx tl pt p).2.1 = t_np tx tl 0 (t_sk tx tl (p + 1)) := by rw [eN]
  have hnv := t_nv_bd (tx := tx) (sg := 0) hs.2.1
  have h01 := t_no_01 (tx := tx) (tl := tl) (sg := 0) (i := t_sk tx tl (p + 1))
  have htl := T0.2.1
  refine fh_E.of mi_X7_takesPoints (Nat.le_of_ble_eq_true rfl) ?_
  intro X C T
  refine fc_aload_n C dX7_takesPoints_0 rfl rfl ?_
  refine fh_callVE (y := mX7_here) C dX7_takesPoints_1 ml_X7_307 mi_X7_here im_X7_here se_X7_here (r_here T0 h0 h1) rfl rfl (by decide) rfl (Nat.le_of_ble_eq_true rfl) (Nat.zero_le _) (Nat.zero_le _) rfl ?_
  rintro r A1 F1 ⟨rfl, rfl, T1, fr1⟩
  refine fc_eq (st' := [vI (t_b tx tl (t_sk tx tl (p + 1)))]) rfl rfl ?_
  have e16 := T1.2.2.2.1
  refine fc_istore_n C dX7_takesPoints_4 rfl (by decide) ?_
  refine fc_aload_n C dX7_takesPoints_5 rfl rfl ?_
  refine fh_getf C dX7_takesPoints_6 fl_X7_300 rfl rfl ?_
  refine fc_istore_n C dX7_takesPoints_9 rfl (by decide) ?_
  refine fc_aload_n C dX7_takesPoints_10 rfl rfl ?_
  refine fc_iconst C dX7_takesPoints_11 ?_
  rw [e16]
  refine fh_callVE (y := mX7_takes) C dX7_takesPoints_12 ml_X7_316 mi_X7_takes im_X7_takes se_X7_takes (r_takes T1 (by omega) hs.2.1 (sg := 0) (Or.inl rfl)) rfl rfl (by decide) rfl (Nat.le_of_ble_eq_true rfl) (Nat.zero_le _) (Nat.zero_le _) rfl ?_
  rintro r A2 F2 ⟨rfl, rfl, T2, fr2⟩
  rw [t_sk_sk h1] at T2
  refine fc_eq (st' := [vI (t_no tx tl 0 (t_sk tx tl (p + 1)))]) rfl (by rw [t_sk_sk h1]; rfl) ?_
  refine fc_if_ne (tgt := 20) C dX7_takesPoints_15 (by decide) (fc_Rm (by omega)) (fun c15 => ?_) (fun c15 => ?_)
  · have hok : (t_oN tx tl pt p).1 = 1 := by rw [eN1]; omega
    have e17 := T2.2.2.2.2.1
    refine fc_aload_n C dX7_takesPoints_20 rfl rfl ?_
    refine fh_getf C dX7_takesPoints_21 fl_X7_310 rfl rfl ?_
    rw [e17]
    refine fc_i2l C dX7_takesPoints_24 (fc_Rm (by omega)) ?_
    refine fc_ldc2_w C dX7_takesPoints_25 kc_X7_76 ?_
    refine fc_ldc2_w C dX7_takesPoints_28 kc_X7_78 ?_
    refine fh_callS (y := mX7_in) C dX7_takesPoints_31 ml_X7_64 mi_X7_in st_X7_in (r_in (fc_RLm (by omega)) (fc_RLm (by omega)) (fc_RLm (by omega))) (by decide) rfl (Nat.le_of_ble_eq_true rfl) (Nat.zero_le _) (Nat.zero_le _) rfl ?_
    refine fc_if_ne (tgt := 44) C dX7_takesPoints_34 (by decide) (fc_ind_R _) (fun c34 => ?_) (fun c34 => ?_)
    · have c34 := fc_ind_ne c34
      have hnk : t_nk tx tl pt p := ⟨hok, fun h => h.2 (by rw [eN0]; exact c34)⟩
      refine fc_aload_n C dX7_takesPoints_44 rfl rfl ?_
      refine fh_getf C dX7_takesPoints_45 fl_X7_53 rfl rfl ?_
      refine fc_iconst C dX7_takesPoints_48 ?_
      refine fc_aload_n C dX7_takesPoints_49 rfl rfl ?_
      refine fh_getf C dX7_takesPoints_50 fl_X7_310 rfl rfl ?_
      rw [e17]
      refine fh_iastore C dX7_takesPoints_53 (fun _ _ => rfl) (by omega) (by omega) (by decide) ?_
      refine fc_aload_n C dX7_takesPoints_54 rfl rfl ?_
      refine fc_aload_n C dX7_takesPoints_55 rfl rfl ?_
      refine fh_getf C dX7_takesPoints_56 fl_X7_310 rfl rfl ?_
      refine fc_eq (st' := [vI (t_nv tx tl 0 (t_sk tx tl (p + 1))), vR 143]) rfl (by rw [e17]) ?_
      refine fh_putf _ C dX7_takesPoints_59 fl_X7_320 rfl (Nat.le_of_ble_eq_true rfl) rfl rfl ?_
      refine fc_iconst C dX7_takesPoints_62 ?_
      refine fh_iretE C T dX7_takesPoints_63 (Or.inr ⟨rfl, by omega⟩) ⟨by rw [fc_ind_t hnk], fun j hj => fa_n _ _ hj, (fr1.tr fr2).up (by omega) (by omega), t_nv tx tl 0 (t_sk tx tl (p + 1)), t_nv tx tl 0 (t_sk tx tl (p + 1)), ?_, fun _ => ⟨by rw [if_pos hc, eN0], fun k k0 k1 => ?_⟩⟩
      · rw [if_neg (fun h => h.2 hnk), eN2]
        exact (T2.pt_ _).ar (fa_n _ _ (by omega))
      · rw [ec] at k1
        rw [show k = 0 by omega, eN0, fa_s]
        unfold fc_set
        rw [if_pos rfl]
    · have c34 := fc_ind_0 c34
      have hnk : ¬ t_nk tx tl pt p := fun h => h.2 ⟨hc, by rw [eN0]; exact c34⟩
      refine fc_aload_n C dX7_takesPoints_37 rfl rfl ?_
      refine fc_iload_n C dX7_takesPoints_38 rfl rfl ?_
      refine fh_putf _ C dX7_takesPoints_39 fl_X7_300 rfl (Nat.le_of_ble_eq_true rfl) rfl rfl ?_
      refine fc_iconst C dX7_takesPoints_42 ?_
      refine fh_iretE C T dX7_takesPoints_43 (Or.inr ⟨rfl, by omega⟩) ⟨by rw [fc_ind_f hnk], fun _ _ => rfl, (fr1.tr fr2).up (by omega) (by omega), t_nv tx tl 0 (t_sk tx tl (p + 1)), pt, ?_, fun h => absurd h hnk⟩
      rw [if_pos ⟨hok, hnk⟩]
      exact T2.at_ _
  · have hnk : ¬ t_nk tx tl pt p := fun h => by have := h.1; rw [eN1] at this; omega
    refine fc_iconst C dX7_takesPoints_18 ?_
    refine fh_iretE C T dX7_takesPoints_19 (Or.inr ⟨rfl, by omega⟩) ⟨by rw [fc_ind_f hnk], fun _ _ => rfl, fr1.tr fr2, t_nv tx tl 0 (t_sk tx tl (p + 1)), pt, ?_, fun h => absurd h hnk⟩
    rw [if_neg (fun h => by have := h.1; rw [eN1] at this; omega), eN2]
    exact T2
theorem r_takesNumbers {p c : Int} (T0 : m_T A F tx tl (p + 1) vl pt nt) (h0 : 0 ≤ p + 1) (h1 : p + 1 ≤ tl) (hm : 2 ≤ pt ∧ pt ≤ 5) (ec : t_b tx tl p = c) (hc : c = 110 ∨ c = 108 ∨ c = 99 ∨ c = 102 ∨ c = 98 ∨ c = 122 ∨ c = 97) : fh_E mX7_takesNumbers 4 [vR 143, vI c] A F (m_nm A F tx tl p pt nt) := by
  refine fh_E.of mi_X7_takesNumbers (Nat.le_of_ble_eq_true rfl) ?_
  intro X C T
  -- what takesAll leaves
  have fromAll : c ≠ 110 → ∀ (r : Option fc_AV) (A1 : Nat → Int → Int) (F1 : Nat → Nat → Int), (r = some (vI (t_ns tx tl (t_sg c) (p + 1) (t_cnt c pt).toNat).1) ∧ (∀ j : Nat, j ≠ 158 → A1 j = A j) ∧ (∃ vl' : Int, m_T A1 F1 tx tl (t_ns tx tl (t_sg c) (p + 1) (t_cnt c pt).toNat).2.1 vl' pt nt) ∧ m_tf F F1 ∧ ((t_ns tx tl (t_sg c) (p + 1) (t_cnt c pt).toNat).1 = 1 → ∀ k : Int, 0 ≤ k → k < t_cnt c pt → A1 158 k = (t_ns tx tl (t_sg c) (p + 1) (t_cnt c pt).toNat).2.2 k)) → m_nm A F tx tl p pt nt r A1 F1 := by
    intro hne r A1 F1 hh
    obtain ⟨rfl, frA, ⟨vl', T1⟩, fr, hk⟩ := hh
    have eN : t_oN tx tl pt p = t_ns tx tl (t_sg c) (p + 1) (t_cnt c pt).toNat := by unfold t_oN; rw [ec]
    have hb := t_ns_bd (tx := tx) (sg := t_sg c) h1 (k := (t_cnt c pt).toNat)
    have hnk : t_nk tx tl pt p ↔ (t_ns tx tl (t_sg c) (p + 1) (t_cnt c pt).toNat).1 = 1 := by
      unfold t_nk
      rw [eN, ec]
      exact ⟨fun h => h.1, fun h => ⟨h, fun z => hne z.1⟩⟩
    refine ⟨?_, frA, fr, vl', pt, ?_, fun h => ⟨by rw [ec, if_neg hne], fun k k0 k1 => ?_⟩⟩
    · rw [fc_ind_congr hnk]
      rcases hb.2.2.1 with q | q
      · rw [q, fc_ind_f (by omega)]
      · rw [q, fc_ind_t rfl]
    · rw [if_neg (fun z => z.2 (hnk.2 (by rw [← eN]; exact z.1))), eN]
      exact T1
    · rw [eN]
      rw [ec] at k1
      exact hk (hnk.1 h) k k0 k1
  refine fc_iload_n C dX7_takesNumbers_0 rfl rfl ?_
  rcases hc with e | e | e | e | e | e | e
  · subst e
    refine fc_lookup (off := 51) (tgt := 52) C dX7_takesNumbers_1 (fc_Rm (by omega)) (by decide) (by decide) (by decide) ?_
    refine fc_aload_n C dX7_takesNumbers_52 rfl rfl ?_
    refine fh_callVE (y := mX7_takesPoints) C dX7_takesNumbers_53 ml_X7_323 mi_X7_takesPoints im_X7_takesPoints se_X7_takesPoints (r_takesPoints T0 h0 h1 ec) rfl rfl (by decide) rfl (Nat.le_of_ble_eq_true rfl) (Nat.zero_le _) (Nat.zero_le _) rfl ?_
    rintro r A1 F1 ⟨rfl, hh⟩
    refine fc_eq (st' := [_]) rfl rfl ?_
    exact fh_iretE C T dX7_takesNumbers_56 (Or.inr ⟨rfl, fc_ind_01 _⟩) ⟨rfl, hh⟩
  · subst e
    refine fc_lookup (off := 56) (tgt := 57) C dX7_takesNumbers_1 (fc_Rm (by omega)) (by decide) (by decide) (by decide) ?_
    refine fc_aload_n C dX7_takesNumbers_57 rfl rfl ?_
    refine fc_iconst C dX7_takesNumbers_58 ?_
    refine fc_iconst C dX7_takesNumbers_59 ?_
    refine fh_callVE (y := mX7_takesAll) C dX7_takesNumbers_60 ml_X7_326 mi_X7_takesAll im_X7_takesAll se_X7_takesAll (r_takesAll T0 h0 h1 (n := 3) (s := 3) ⟨by omega, by omega⟩ ⟨by omega, by omega⟩ (sg := t_sg 108) (fun k k0 k1 => by rw [if_neg (by omega)]; unfold t_sg; rw [if_neg (by omega)])) rfl rfl (by decide) rfl (Nat.le_of_ble_eq_true rfl) (Nat.zero_le _) (Nat.zero_le _) rfl ?_
    rintro r A1 F1 ⟨rfl, hh⟩
    refine fc_eq (st' := [_]) rfl rfl ?_
    have hb := t_ns_bd (tx := tx) (sg := t_sg 108) h1 (k := 3)
    exact fh_iretE C T dX7_takesNumbers_63 (Or.inr ⟨rfl, hb.2.2.1⟩) (fromAll (by omega) _ A1 F1 ⟨rfl, hh⟩)
  · subst e
    have e19 := T0.2.2.2.2.2.1
    refine fc_lookup (off := 63) (tgt := 64) C dX7_takesNumbers_1 (fc_Rm (by omega)) (by decide) (by decide) (by decide) ?_
    refine fc_aload_n C dX7_takesNumbers_64 rfl rfl ?_
    refine fc_aload_n C dX7_takesNumbers_65 rfl rfl ?_
    refine fh_getf C dX7_takesNumbers_66 fl_X7_320 rfl rfl ?_
    rw [e19]
    refine fc_iconst C dX7_takesNumbers_69 ?_
    refine fh_callVE (y := mX7_takesAll) C dX7_takesNumbers_70 ml_X7_326 mi_X7_takesAll im_X7_takesAll se_X7_takesAll (r_takesAll T0 h0 h1 (n := pt) (s := 0) ⟨by omega, by omega⟩ ⟨by omega, by omega⟩ (sg := t_sg 99) (fun k k0 k1 => by rw [if_pos (by omega)]; unfold t_sg; rw [if_pos (Or.inl rfl)])) rfl rfl (by decide) rfl (Nat.le_of_ble_eq_true rfl) (Nat.zero_le _) (Nat.zero_le _) rfl ?_
    rintro r A1 F1 ⟨rfl, hh⟩
    refine fc_eq (st' := [_]) rfl rfl ?_
    have hb := t_ns_bd (tx := tx) (sg := t_sg 99) h1 (k := pt.toNat)
    exact fh_iretE C T dX7_takesNumbers_73 (Or.inr ⟨rfl, hb.2.2.1⟩) (fromAll (by omega) _ A1 F1 ⟨rfl, hh⟩)
  · subst e
    refine fc_lookup (off := 82) (tgt := 83) C dX7_takesNumbers_1 (fc_Rm (by omega)) (by decide) (by decide) (by decide) ?_
    refine fc_aload_n C dX7_takesNumbers_83 rfl rfl ?_
    refine fc_iconst C dX7_takesNumbers_84 ?_
    refine fc_iconst C dX7_takesNumbers_85 ?_
    refine fh_callVE (y := mX7_takesAll) C dX7_takesNumbers_86 ml_X7_326 mi_X7_takesAll im_X7_takesAll se_X7_takesAll (r_takesAll T0 h0 h1 (n := 1) (s := 1) ⟨by omega, by omega⟩ ⟨by omega, by omega⟩ (sg := t_sg 102) (fun k k0 k1 => by rw [if_neg (by omega)]; unfold t_sg; rw [if_neg (by omega)])) rfl rfl (by decide) rfl (Nat.le_of_ble_eq_true rfl) (Nat.zero_le _) (Nat.zero_le _) rfl ?_
    rintro r A1 F1 ⟨rfl, hh⟩
    refine fc_eq (st' := [_]) rfl rfl ?_
    have hb := t_ns_bd (tx := tx) (sg := t_sg 102) h1 (k := 1)
    exact fh_iretE C T dX7_takesNumbers_89 (Or.inr ⟨rfl, hb.2.2.1⟩) (fromAll (by omega) _ A1 F1 ⟨rfl, hh⟩)
  · subst e
    refine fc_lookup (off := 82) (tgt := 83) C dX7_takesNumbers_1 (fc_Rm (by omega)) (by decide) (by decide) (by decide) ?_
    refine fc_aload_n C dX7_takesNumbers_83 rfl rfl ?_
    refine fc_iconst C dX7_takesNumbers_84 ?_
    refine fc_iconst C dX7_takesNumbers_85 ?_
    refine fh_callVE (y := mX7_takesAll) C dX7_takesNumbers_86 ml_X7_326 mi_X7_takesAll im_X7_takesAll se_X7_takesAll (r_takesAll T0 h0 h1 (n := 1) (s := 1) ⟨by omega, by omega⟩ ⟨by omega, by omega⟩ (sg := t_sg 98) (fun k k0 k1 => by rw [if_neg (by omega)]; unfold t_sg; rw [if_neg (by omega)])) rfl rfl (by decide) rfl (Nat.le_of_ble_eq_true rfl) (Nat.zero_le _) (Nat.zero_le _) rfl ?_
    rintro r A1 F1 ⟨rfl, hh⟩
    refine fc_eq (st' := [_]) rfl rfl ?_
    have hb := t_ns_bd (tx := tx) (sg := t_sg 98) h1 (k := 1)
    exact fh_iretE C T dX7_takesNumbers_89 (Or.inr ⟨rfl, hb.2.2.1⟩) (fromAll (by omega) _ A1 F1 ⟨rfl, hh⟩)
  · subst e
    refine fc_lookup (off := 80) (tgt := 81) C dX7_takesNumbers_1 (fc_Rm (by omega)) (by decide) (by decide) (by decide) ?_
    refine fc_iconst C dX7_takesNumbers_81 ?_
    exact fh_iretE C T dX7_takesNumbers_82 (Or.inr ⟨rfl, by omega⟩) (fromAll (by omega) _ A F ⟨rfl, fun _ _ => rfl, ⟨vl, T0⟩, m_tf.rf, fun _ k k0 k1 => by have : k < (0 : Int) := k1; omega⟩)
  · subst e
    refine fc_lookup (off := 73) (tgt := 74) C dX7_takesNumbers_1 (fc_Rm (by omega)) (by decide) (by decide) (by decide) ?_
    have hsg : ∀ k : Int, 0 ≤ k → k < 2 → t_sg 97 k = if 1 ≤ k then 1 else 0 := fun k k0 k1 => by
      unfold t_sg
      by_cases q : k = 1
      · rw [if_pos (Or.inr ⟨rfl, q⟩), if_pos (by omega)]
      · rw [if_neg (by omega), if_neg (by omega)]
    refine fc_aload_n C dX7_takesNumbers_74 rfl rfl ?_
    refine fc_iconst C dX7_takesNumbers_75 ?_
    refine fc_iconst C dX7_takesNumbers_76 ?_
    refine fh_callVE (y := mX7_takesAll) C dX7_takesNumbers_77 ml_X7_326 mi_X7_takesAll im_X7_takesAll se_X7_takesAll (r_takesAll T0 h0 h1 (n := 2) (s := 1) ⟨by omega, by omega⟩ ⟨by omega, by omega⟩ (sg := t_sg 97) hsg) rfl rfl (by decide) rfl (Nat.le_of_ble_eq_true rfl) (Nat.zero_le _) (Nat.zero_le _) rfl ?_
    rintro r A1 F1 ⟨rfl, hh⟩
    refine fc_eq (st' := [_]) rfl rfl ?_
    have hb := t_ns_bd (tx := tx) (sg := t_sg 97) h1 (k := 2)
    exact fh_iretE C T dX7_takesNumbers_80 (Or.inr ⟨rfl, hb.2.2.1⟩) (fromAll (by omega) _ A1 F1 ⟨rfl, hh⟩)
/-- heaps beside, as canSettle leaves them -/
def m_hp (A : Nat → Int → Int) (v : Int → Int) : Prop := ∀ p : Int, 0 ≤ p → p < v 0 → A 148 p = (s_r v).1 p ∧ A 149 p = (s_r v).2 p
theorem r_can (e : A 144 = v) (hv : v_ok v) {c : Int} {a : Int → Int} (hc : c = 110 ∨ c = 108 ∨ c = 99 ∨ c = 102 ∨ c = 98 ∨ c = 122 ∨ c = 97) (ha : ∀ k : Int, 0 ≤ k → k < t_cnt c (v 0) → A 158 k = a k) (hR : ∀ k : Int, -999 ≤ a k ∧ a k ≤ 999) (h110 : c = 110 → 2 ≤ a 0 ∧ a 0 ≤ 5) : fh_E mX7_can 5 [vR 143, vI c] A F (fun r A' F' => r = some (vI (e_x c a v)) ∧ F' = F ∧ (∀ j : Nat, j ≠ 148 → j ≠ 149 → A' j = A j) ∧ (c = 122 → e_x c a v = 0 → m_hp A' v)) := by
  have hn := hv.n
  have b0 := hR 0
  have b1 := hR 1
  have b2 := hR 2
  refine fh_E.of mi_X7_can (Nat.le_of_ble_eq_true rfl) ?_
  intro X C T
  refine fc_iload_n C dX7_can_0 rfl rfl ?_
  rcases hc with q | q | q | q | q | q | q
  · subst q
    refine fc_lookup (off := 129) (tgt := 130) C dX7_can_1 (fc_Rm (by omega)) (by decide) (by decide) (by decide) ?_
    refine fc_iconst C dX7_can_130 ?_
    exact fh_iretE C T dX7_can_131 (Or.inl rfl) ⟨by unfold e_x; rw [if_pos rfl]; unfold x_pts; rw [if_pos (h110 rfl)], rfl, fun _ _ _ => rfl, fun z => by omega⟩
  · subst q
    have a0 := ha 0 (by omega) (by show (0 : Int) < 3; omega)
    have a1 := ha 1 (by omega) (by show (1 : Int) < 3; omega)
    have a2 := ha 2 (by omega) (by show (2 : Int) < 3; omega)
    refine fc_lookup (off := 51) (tgt := 52) C dX7_can_1 (fc_Rm (by omega)) (by decide) (by decide) (by decide) ?_
    refine fc_aload_n C dX7_can_52 rfl rfl ?_
    refine fc_aload_n C dX7_can_53 rfl rfl ?_
    refine fh_getf C dX7_can_54 fl_X7_53 rfl rfl ?_
    refine fc_iconst C dX7_can_57 ?_
    refine fh_iaload C dX7_can_58 (fun _ _ => rfl) (by omega) (by omega) (by decide) ?_
    refine fc_aload_n C dX7_can_59 rfl rfl ?_
    refine fh_getf C dX7_can_60 fl_X7_53 rfl rfl ?_
    refine fc_iconst C dX7_can_63 ?_
    refine fh_iaload C dX7_can_64 (fun _ _ => rfl) (by omega) (by omega) (by decide) ?_
    refine fc_aload_n C dX7_can_65 rfl rfl ?_
    refine fh_getf C dX7_can_66 fl_X7_53 rfl rfl ?_
    refine fc_iconst C dX7_can_69 ?_
    refine fh_iaload C dX7_can_70 (fun _ _ => rfl) (by omega) (by omega) (by decide) ?_
    rw [a0, a1, a2]
    refine fh_callV (y := mX7_areLines) C dX7_can_71 ml_X7_95 mi_X7_areLines im_X7_areLines se_X7_areLines (r_areLines e hn (fc_Rm (by omega)) (fc_Rm (by omega)) (fc_Rm (by omega))) rfl rfl (by decide) rfl (Nat.le_of_ble_eq_true rfl) (Nat.zero_le _) (Nat.zero_le _) rfl ?_
    have ex : e_x 108 a v = x_ln v (a 0) (a 1) (a 2) := by unfold e_x; rw [if_neg (by omega), if_pos rfl]
    refine fc_if_eq (tgt := 81) C dX7_can_74 (by decide) (fc_ind_R _) (fun c74 => ?_) (fun c74 => ?_)
    · have c74 := fc_ind_0 c74
      refine fc_bipush C dX7_can_81 (by decide) ?_
      exact fh_iretE C T dX7_can_83 (Or.inl rfl) ⟨by rw [ex]; unfold x_ln; rw [if_neg c74], rfl, fun _ _ _ => rfl, fun z => by omega⟩
    · have c74 := fc_ind_ne c74
      refine fc_iconst C dX7_can_77 ?_
      refine fc_goto (tgt := 83) C dX7_can_78 (by decide) ?_
      exact fh_iretE C T dX7_can_83 (Or.inl rfl) ⟨by rw [ex]; unfold x_ln; rw [if_pos c74], rfl, fun _ _ _ => rfl, fun z => by omega⟩
  · subst q
    refine fc_lookup (off := 129) (tgt := 130) C dX7_can_1 (fc_Rm (by omega)) (by decide) (by decide) (by decide) ?_
    refine fc_iconst C dX7_can_130 ?_
    exact fh_iretE C T dX7_can_131 (Or.inl rfl) ⟨by unfold e_x; rw [if_neg (by omega), if_neg (by omega), if_neg (by omega), if_neg (by omega), if_neg (by omega), if_neg (by omega)], rfl, fun _ _ _ => rfl, fun z => by omega⟩
  · subst q
    have a0 := ha 0 (by omega) (by show (0 : Int) < 1; omega)
    refine fc_lookup (off := 83) (tgt := 84) C dX7_can_1 (fc_Rm (by omega)) (by decide) (by decide) (by decide) ?_
    refine fc_aload_n C dX7_can_84 rfl rfl ?_
    refine fc_aload_n C dX7_can_85 rfl rfl ?_
    refine fh_getf C dX7_can_86 fl_X7_53 rfl rfl ?_
    refine fc_iconst C dX7_can_89 ?_
    refine fh_iaload C dX7_can_90 (fun _ _ => rfl) (by omega) (by omega) (by decide) ?_
    rw [a0]
    refine fc_iconst C dX7_can_91 ?_
    refine fh_callV (y := mX7_canFireOne) C dX7_can_92 ml_X7_148 mi_X7_canFireOne im_X7_canFireOne se_X7_canFireOne (r_canFireOne e hv (fc_Rm (by omega)) (Or.inl rfl)) rfl rfl (by decide) rfl (Nat.le_of_ble_eq_true rfl) (Nat.zero_le _) (Nat.zero_le _) rfl ?_
    exact fh_iretE C T dX7_can_95 (Or.inl rfl) ⟨by unfold e_x; rw [if_neg (by omega), if_neg (by omega), if_pos rfl], rfl, fun _ _ _ => rfl, fun z => by omega⟩
  · subst q
    have a0 := ha 0 (by omega) (by show (0 : Int) < 1; omega)
    refine fc_lookup (off := 95) (tgt := 96) C dX7_can_1 (fc_Rm (by omega)) (by decide) (by decide) (by decide) ?_
    refine fc_aload_n C dX7_can_96 rfl rfl ?_
    refine fc_aload_n C dX7_can_97 rfl rfl ?_
    refine fh_getf C dX7_can_98 fl_X7_53 rfl rfl ?_
    refine fc_iconst C dX7_can_101 ?_
    refine fh_iaload C dX7_can_102 (fun _ _ => rfl) (by omega) (by omega) (by decide) ?_
    rw [a0]
    refine fc_iconst C dX7_can_103 ?_
    refine fh_callV (y := mX7_canFireOne) C dX7_can_104 ml_X7_148 mi_X7_canFireOne im_X7_canFireOne se_X7_canFireOne (r_canFireOne e hv (fc_Rm (by omega)) (Or.inr rfl)) rfl rfl (by decide) rfl (Nat.le_of_ble_eq_true rfl) (Nat.zero_le _) (Nat.zero_le _) rfl ?_
    exact fh_iretE C T dX7_can_107 (Or.inl rfl) ⟨by unfold e_x; rw [if_neg (by omega), if_neg (by omega), if_neg (by omega), if_pos rfl], rfl, fun _ _ _ => rfl, fun z => by omega⟩
  · subst q
    have ex : e_x 122 a v = x_stl v := by unfold e_x; rw [if_neg (by omega), if_neg (by omega), if_neg (by omega), if_neg (by omega), if_pos rfl]
    refine fc_lookup (off := 107) (tgt := 108) C dX7_can_1 (fc_Rm (by omega)) (by decide) (by decide) (by decide) ?_
    refine fc_aload_n C dX7_can_108 rfl rfl ?_
    refine fh_callVE (y := mX7_canSettle) C dX7_can_109 ml_X7_167 mi_X7_canSettle im_X7_canSettle se_X7_canSettle (r_canSettle e hv) rfl rfl (by decide) rfl (Nat.le_of_ble_eq_true rfl) (Nat.zero_le _) (Nat.zero_le _) rfl ?_
    rintro r A1 F1 ⟨rfl, rfl, frA, hh⟩
    refine fc_eq (st' := [vI (x_stl v)]) rfl rfl ?_
    exact fh_iretE C T dX7_can_112 (Or.inl rfl) ⟨by rw [ex], rfl, frA, fun _ z => hh (by rw [← ex]; exact z)⟩
  · subst q
    have a0 := ha 0 (by omega) (by show (0 : Int) < 2; omega)
    have a1 := ha 1 (by omega) (by show (1 : Int) < 2; omega)
    refine fc_lookup (off := 112) (tgt := 113) C dX7_can_1 (fc_Rm (by omega)) (by decide) (by decide) (by decide) ?_
    refine fc_aload_n C dX7_can_113 rfl rfl ?_
    refine fc_aload_n C dX7_can_114 rfl rfl ?_
    refine fh_getf C dX7_can_115 fl_X7_53 rfl rfl ?_
    refine fc_iconst C dX7_can_118 ?_
    refine fh_iaload C dX7_can_119 (fun _ _ => rfl) (by omega) (by omega) (by decide) ?_
    refine fc_aload_n C dX7_can_120 rfl rfl ?_
    refine fh_getf C dX7_can_121 fl_X7_53 rfl rfl ?_
    refine fc_iconst C dX7_can_124 ?_
    refine fh_iaload C dX7_can_125 (fun _ _ => rfl) (by omega) (by omega) (by decide) ?_
    rw [a0, a1]
    refine fh_callV (y := mX7_canAdd) C dX7_can_126 ml_X7_136 mi_X7_canAdd im_X7_canAdd se_X7_canAdd (r_canAdd e hv (fc_Rm (by omega)) (fc_Rm (by omega))) rfl rfl (by decide) rfl (Nat.le_of_ble_eq_true rfl) (Nat.zero_le _) (Nat.zero_le _) rfl ?_
    exact fh_iretE C T dX7_can_129 (Or.inl rfl) ⟨by unfold e_x; rw [if_neg (by omega), if_neg (by omega), if_neg (by omega), if_neg (by omega), if_neg (by omega), if_pos rfl], rfl, fun _ _ _ => rfl, fun z => by omega⟩
theorem r_does (e : A 144 = v) (hv : v_ok v) {c : Int} {a : Int → Int} (hc : c = 110 ∨ c = 108 ∨ c = 99 ∨ c = 102 ∨ c = 98 ∨ c = 122 ∨ c = 97) (ha : ∀ k : Int, 0 ≤ k → k < t_cnt c (v 0) → A 158 k = a k) (h0 : e_x c a v = 0) (hh : c = 122 → m_hp A v) : fh_E mX7_does 4 [vR 143, vI c] A F (fun r A' F' => (∃ z : Int, r = some (vI z)) ∧ F' = F ∧ A' = fa_up A 144 (e_p c a v)) := by
  have hn := hv.n
  refine fh_E.of mi_X7_does (Nat.le_of_ble_eq_true rfl) ?_
  intro X C T
  refine fc_iload_n C dX7_does_0 rfl rfl ?_
  rcases hc with q | q | q | q | q | q | q
  · subst q
    have a0 := ha 0 (by omega) (by show (0 : Int) < 1; omega)
    refine fc_lookup (off := 59) (tgt := 60) C dX7_does_1 (fc_Rm (by omega)) (by decide) (by decide) (by decide) ?_
    refine fc_aload_n C dX7_does_60 rfl rfl ?_
    refine fc_aload_n C dX7_does_61 rfl rfl ?_
    refine fh_getf C dX7_does_62 fl_X7_53 rfl rfl ?_
    refine fc_iconst C dX7_does_65 ?_
    refine fh_iaload C dX7_does_66 (fun _ _ => rfl) (by omega) (by omega) (by decide) ?_
    rw [a0]
    refine fh_callV (y := mX7_pointsNow) C dX7_does_67 ml_X7_86 mi_X7_pointsNow im_X7_pointsNow se_X7_pointsNow (r_pointsNow e) rfl rfl (by decide) rfl (Nat.le_of_ble_eq_true rfl) (Nat.zero_le _) (Nat.zero_le _) rfl ?_
    exact fh_iretE C T dX7_does_70 (Or.inl rfl) ⟨⟨_, rfl⟩, rfl, by unfold e_p; rw [if_pos rfl]⟩
  · subst q
    have a0 := ha 0 (by omega) (by show (0 : Int) < 3; omega)
    have a1 := ha 1 (by omega) (by show (1 : Int) < 3; omega)
    have a2 := ha 2 (by omega) (by show (2 : Int) < 3; omega)
    have ex : e_x 108 a v = x_ln v (a 0) (a 1) (a 2) := by unfold e_x; rw [if_neg (by omega), if_pos rfl]
    have h9 := x_ln_0 (ex.symm.trans h0)
    refine fc_lookup (off := 70) (tgt := 71) C dX7_does_1 (fc_Rm (by omega)) (by decide) (by decide) (by decide) ?_
    refine fc_aload_n C dX7_does_71 rfl rfl ?_
    refine fc_aload_n C dX7_does_72 rfl rfl ?_
    refine fh_getf C dX7_does_73 fl_X7_53 rfl rfl ?_
    refine fc_iconst C dX7_does_76 ?_
    refine fh_iaload C dX7_does_77 (fun _ _ => rfl) (by omega) (by omega) (by decide) ?_
    refine fc_aload_n C dX7_does_78 rfl rfl ?_
    refine fh_getf C dX7_does_79 fl_X7_53 rfl rfl ?_
    refine fc_iconst C dX7_does_82 ?_
    refine fh_iaload C dX7_does_83 (fun _ _ => rfl) (by omega) (by omega) (by decide) ?_
    refine fc_aload_n C dX7_does_84 rfl rfl ?_
    refine fh_getf C dX7_does_85 fl_X7_53 rfl rfl ?_
    refine fc_iconst C dX7_does_88 ?_
    refine fh_iaload C dX7_does_89 (fun _ _ => rfl) (by omega) (by omega) (by decide) ?_
    rw [a0, a1, a2]
    refine fh_callV (y := mX7_linesNow) C dX7_does_90 ml_X7_99 mi_X7_linesNow im_X7_linesNow se_X7_linesNow (r_linesNow e ⟨by omega, by omega⟩ ⟨by omega, by omega⟩) rfl rfl (by decide) rfl (Nat.le_of_ble_eq_true rfl) (Nat.zero_le _) (Nat.zero_le _) rfl ?_
    exact fh_iretE C T dX7_does_93 (Or.inl rfl) ⟨⟨_, rfl⟩, rfl, by unfold e_p; rw [if_neg (by omega), if_pos rfl]⟩
  · subst q
    refine fc_lookup (off := 143) (tgt := 144) C dX7_does_1 (fc_Rm (by omega)) (by decide) (by decide) (by decide) ?_
    have ep : e_p 99 a v = p_ch v a := by unfold e_p; rw [if_neg (by omega), if_neg (by omega), if_neg (by omega), if_neg (by omega), if_neg (by omega), if_neg (by omega)]
    have loop : ∀ (m : Nat) (k : Int), 0 ≤ k → k ≤ v 0 → v 0 - k < m → fc_W X 0 0 159 (fc_H (fa_up A 144 (p_cp v a k)) F) 146 [some (vR 143), some (vI 99), some (vI k)] [] := by
      intro m
      induction m with
      | zero => intro k z0 z1 z2; exfalso; omega
      | succ m ih =>
        intro k z0 z1 z2
        have u0 : p_cp v a k 0 = v 0 := by rw [p_cp_at, if_neg (by omega)]
        refine fc_iload_n C dX7_does_146 rfl rfl ?_
        refine fc_aload_n C dX7_does_147 rfl rfl ?_
        refine fh_callV (y := mX7_many) C dX7_does_148 ml_X7_60 mi_X7_many im_X7_many se_X7_many (r_many (v := p_cp v a k) (fa_s _ _ _)) rfl rfl (by decide) rfl (Nat.le_of_ble_eq_true rfl) (Nat.zero_le _) (Nat.zero_le _) rfl ?_
        rw [u0]
        refine fc_icmp_ge (tgt := 175) C dX7_does_151 (by decide) (fc_Rm (by omega)) (fc_Rm (by omega)) (fun c151 => ?_) (fun c151 => ?_)
        · refine fc_iconst C dX7_does_175 ?_
          refine fh_iretE C T dX7_does_176 (Or.inl rfl) ⟨⟨_, rfl⟩, rfl, ?_⟩
          rw [ep, show k = v 0 by omega]
          rfl
        · have ak := ha k z0 (by show k < v 0; omega)
          refine fc_aload_n C dX7_does_154 rfl rfl ?_
          refine fh_getf C dX7_does_155 fl_X7_7 rfl rfl ?_
          refine fc_bipush C dX7_does_158 (by decide) ?_
          refine fc_iload_n C dX7_does_160 rfl rfl ?_
          refine fc_iadd C dX7_does_161 ?_
          refine fc_aload_n C dX7_does_162 rfl rfl ?_
          refine fh_getf C dX7_does_163 fl_X7_53 rfl rfl ?_
          refine fc_iload_n C dX7_does_166 rfl rfl ?_
          refine fh_iaload C dX7_does_167 (fun _ _ => rfl) (by omega) (by omega) (by decide) ?_
          refine fc_eq (st' := [vI (a k), vI (26 + k), vR 144]) rfl (by rw [fa_n _ _ (by omega), ak]) ?_
          refine fh_iastore C dX7_does_168 (fun _ _ => rfl) (by omega) (by omega) (by decide) ?_
          refine fc_iinc C dX7_does_169 rfl (by decide) ?_
          refine fc_goto (tgt := 146) C dX7_does_172 (by decide) ?_
          refine fc_heq ?_ (ih (k + 1) (by omega) (by omega) (by omega))
          rw [fa_up2, fa_s]
          congr 2
          funext j
          unfold fc_set
          rw [p_cp_at, p_cp_at]
          by_cases q : j = 26 + k
          · rw [if_pos q, if_pos (by omega), show j - 26 = k by omega]
          · rw [if_neg q]
            by_cases q2 : 26 ≤ j ∧ j < 26 + k
            · rw [if_pos q2, if_pos (show 26 ≤ j ∧ j < 26 + (k + 1) by omega)]
            · rw [if_neg q2, if_neg (show ¬ (26 ≤ j ∧ j < 26 + (k + 1)) by omega)]
    refine fc_iconst C dX7_does_144 ?_
    refine fc_istore_n C dX7_does_145 rfl (by decide) ?_
    refine fc_heq ?_ (loop 6 0 (by omega) (by omega) (by omega))
    congr 1
    funext j
    by_cases q : j = 144
    · rw [q, fa_s, e]
      funext k
      rw [p_cp_at, if_neg (by omega)]
    · rw [fa_n _ _ q]
  · subst q
    have a0 := ha 0 (by omega) (by show (0 : Int) < 1; omega)
    have ex : e_x 102 a v = x_one v (a 0) 1 := by unfold e_x; rw [if_neg (by omega), if_neg (by omega), if_pos rfl]
    have h9 := x_one_0 (ex.symm.trans h0)
    have hpw := fb_pow5 (p := a 0) h9.1.1 (by omega)
    refine fc_lookup (off := 93) (tgt := 94) C dX7_does_1 (fc_Rm (by omega)) (by decide) (by decide) (by decide) ?_
    refine fc_aload_n C dX7_does_94 rfl rfl ?_
    refine fc_iconst C dX7_does_95 ?_
    refine fc_aload_n C dX7_does_96 rfl rfl ?_
    refine fh_getf C dX7_does_97 fl_X7_53 rfl rfl ?_
    refine fc_iconst C dX7_does_100 ?_
    refine fh_iaload C dX7_does_101 (fun _ _ => rfl) (by omega) (by omega) (by decide) ?_
    refine fc_ishl C dX7_does_102 ?_
    refine fc_eq (st' := [vI (2 ^ (a 0).toNat), vR 143]) rfl (by rw [a0, fb_shl1 h9.1.1 (by omega)]) ?_
    refine fc_iconst C dX7_does_103 ?_
    refine fh_callV (y := mX7_fireNow) C dX7_does_104 ml_X7_151 mi_X7_fireNow im_X7_fireNow se_X7_fireNow (r_fireNow e hv (by omega) (by omega) (Or.inl rfl)) rfl rfl (by decide) rfl (Nat.le_of_ble_eq_true rfl) (Nat.zero_le _) (Nat.zero_le _) rfl ?_
    exact fh_iretE C T dX7_does_107 (Or.inl rfl) ⟨⟨_, rfl⟩, rfl, by unfold e_p; rw [if_neg (by omega), if_neg (by omega), if_pos rfl]⟩
  · subst q
    have a0 := ha 0 (by omega) (by show (0 : Int) < 1; omega)
    have ex : e_x 98 a v = x_one v (a 0) (-1) := by unfold e_x; rw [if_neg (by omega), if_neg (by omega), if_neg (by omega), if_pos rfl]
    have h9 := x_one_0 (ex.symm.trans h0)
    have hpw := fb_pow5 (p := a 0) h9.1.1 (by omega)
    refine fc_lookup (off := 107) (tgt := 108) C dX7_does_1 (fc_Rm (by omega)) (by decide) (by decide) (by decide) ?_
    refine fc_aload_n C dX7_does_108 rfl rfl ?_
    refine fc_iconst C dX7_does_109 ?_
    refine fc_aload_n C dX7_does_110 rfl rfl ?_
    refine fh_getf C dX7_does_111 fl_X7_53 rfl rfl ?_
    refine fc_iconst C dX7_does_114 ?_
    refine fh_iaload C dX7_does_115 (fun _ _ => rfl) (by omega) (by omega) (by decide) ?_
    refine fc_ishl C dX7_does_116 ?_
    refine fc_eq (st' := [vI (2 ^ (a 0).toNat), vR 143]) rfl (by rw [a0, fb_shl1 h9.1.1 (by omega)]) ?_
    refine fc_iconst C dX7_does_117 ?_
    refine fh_callV (y := mX7_fireNow) C dX7_does_118 ml_X7_151 mi_X7_fireNow im_X7_fireNow se_X7_fireNow (r_fireNow e hv (by omega) (by omega) (Or.inr rfl)) rfl rfl (by decide) rfl (Nat.le_of_ble_eq_true rfl) (Nat.zero_le _) (Nat.zero_le _) rfl ?_
    exact fh_iretE C T dX7_does_121 (Or.inl rfl) ⟨⟨_, rfl⟩, rfl, by unfold e_p; rw [if_neg (by omega), if_neg (by omega), if_neg (by omega), if_pos rfl]⟩
  · subst q
    refine fc_lookup (off := 121) (tgt := 122) C dX7_does_1 (fc_Rm (by omega)) (by decide) (by decide) (by decide) ?_
    refine fc_aload_n C dX7_does_122 rfl rfl ?_
    refine fh_callVE (y := mX7_settleNow) C dX7_does_123 ml_X7_170 mi_X7_settleNow im_X7_settleNow se_X7_settleNow (r_settleNow e hn (x := (s_r v).1) (f := (s_r v).2) (hh rfl)) rfl rfl (by decide) rfl (Nat.le_of_ble_eq_true rfl) (Nat.zero_le _) (Nat.zero_le _) rfl ?_
    rintro r A1 F1 ⟨rfl, rfl, frA, e1⟩
    refine fc_eq (st' := [_]) rfl rfl ?_
    refine fh_iretE C T dX7_does_126 (Or.inl rfl) ⟨⟨_, rfl⟩, rfl, ?_⟩
    have ep : e_p 122 a v = p_stl v := by unfold e_p; rw [if_neg (by omega), if_neg (by omega), if_neg (by omega), if_neg (by omega), if_pos rfl]
    funext j
    by_cases q : j = 144
    · rw [q, fa_s, ep]; exact e1
    · rw [fa_n _ _ q]; exact frA j q
  · subst q
    have a0 := ha 0 (by omega) (by show (0 : Int) < 2; omega)
    have a1 := ha 1 (by omega) (by show (1 : Int) < 2; omega)
    have ex : e_x 97 a v = x_add v (a 0) (a 1) := by unfold e_x; rw [if_neg (by omega), if_neg (by omega), if_neg (by omega), if_neg (by omega), if_neg (by omega), if_pos rfl]
    have h9 := x_add_0 (ex.symm.trans h0)
    refine fc_lookup (off := 126) (tgt := 127) C dX7_does_1 (fc_Rm (by omega)) (by decide) (by decide) (by decide) ?_
    refine fc_aload_n C dX7_does_127 rfl rfl ?_
    refine fc_aload_n C dX7_does_128 rfl rfl ?_
    refine fh_getf C dX7_does_129 fl_X7_53 rfl rfl ?_
    refine fc_iconst C dX7_does_132 ?_
    refine fh_iaload C dX7_does_133 (fun _ _ => rfl) (by omega) (by omega) (by decide) ?_
    refine fc_aload_n C dX7_does_134 rfl rfl ?_
    refine fh_getf C dX7_does_135 fl_X7_53 rfl rfl ?_
    refine fc_iconst C dX7_does_138 ?_
    refine fh_iaload C dX7_does_139 (fun _ _ => rfl) (by omega) (by omega) (by decide) ?_
    rw [a0, a1]
    refine fh_callV (y := mX7_addNow) C dX7_does_140 ml_X7_139 mi_X7_addNow im_X7_addNow se_X7_addNow (r_addNow e ⟨by omega, by omega⟩) rfl rfl (by decide) rfl (Nat.le_of_ble_eq_true rfl) (Nat.zero_le _) (Nat.zero_le _) rfl ?_
    exact fh_iretE C T dX7_does_143 (Or.inl rfl) ⟨⟨_, rfl⟩, rfl, by unfold e_p; rw [if_neg (by omega), if_neg (by omega), if_neg (by omega), if_neg (by omega), if_neg (by omega), if_pos rfl]⟩
end REF8
