/-! the class's public methods: draws, sets, keeps; those that only look -/
theorem s_din_ok {L : Int → Int → Int} (hg : g_ok L) {x b : Int} : ∀ {k : Nat}, (k : Int) ≤ b → 0 ≤ x → g_ok (s_din L x b k).1 ∧ 0 ≤ (s_din L x b k).2
  | 0, _, hx => ⟨hg, hx⟩
  | k + 1, h, hx => by
    have ih := s_din_ok hg (x := x) (b := b) (k := k) (by omega) hx
    have hnx := s_nx_bd ih.2
    have h0 : 0 ≤ (s_nx (s_din L x b k).2).tdiv 65536 := Int.tdiv_nonneg hnx.1 (by decide)
    have h1 : 0 ≤ ((s_nx (s_din L x b k).2).tdiv 65536).tmod 3 := Int.tmod_nonneg _ h0
    have h2 : ((s_nx (s_din L x b k).2).tdiv 65536).tmod 3 < 3 := Int.tmod_lt_of_pos _ (by decide)
    exact ⟨s_put_ok ih.1 (by omega) h1 (by omega), hnx.1⟩
theorem s_dout_ok {L : Int → Int → Int} (hg : g_ok L) {x : Int} (hx : 0 ≤ x) : ∀ {k : Nat}, g_ok (s_dout L x k).1 ∧ 0 ≤ (s_dout L x k).2
  | 0 => ⟨hg, hx⟩
  | k + 1 => by
    have ih := s_dout_ok hg hx (k := k)
    exact s_din_ok ih.1 (by omega) ih.2
theorem s_dch_ok {c : Int → Int} {x : Int} (hx : 0 ≤ x) : ∀ {k : Nat}, 0 ≤ (s_dch c x k).2 ∧ (∀ p : Int, (0 ≤ p ∧ p < k → 0 ≤ (s_dch c x k).1 p ∧ (s_dch c x k).1 p ≤ 6) ∧ ((k : Int) ≤ p → (s_dch c x k).1 p = c p))
  | 0 => ⟨hx, fun p => ⟨fun h => by exfalso; omega, fun _ => rfl⟩⟩
  | k + 1 => by
    have ih := s_dch_ok (c := c) hx (k := k)
    have hnx := s_nx_bd ih.1
    have h0 : 0 ≤ (s_nx (s_dch c x k).2).tdiv 65536 := Int.tdiv_nonneg hnx.1 (by decide)
    have h1 : 0 ≤ ((s_nx (s_dch c x k).2).tdiv 65536).tmod 7 := Int.tmod_nonneg _ h0
    have h2 : ((s_nx (s_dch c x k).2).tdiv 65536).tmod 7 < 7 := Int.tmod_lt_of_pos _ (by decide)
    refine ⟨hnx.1, fun p => ?_⟩
    show (_ → 0 ≤ fc_set (s_dch c x k).1 k (((s_nx (s_dch c x k).2).tdiv 65536).tmod 7) p ∧ fc_set (s_dch c x k).1 k (((s_nx (s_dch c x k).2).tdiv 65536).tmod 7) p ≤ 6) ∧ (_ → fc_set (s_dch c x k).1 k (((s_nx (s_dch c x k).2).tdiv 65536).tmod 7) p = c p)
    unfold fc_set
    by_cases e : p = (k : Int)
    · rw [if_pos e]
      exact ⟨fun _ => ⟨h1, by omega⟩, fun h => by exfalso; omega⟩
    · rw [if_neg e]
      exact ⟨fun h => (ih.2 p).1 ⟨h.1, by omega⟩, fun h => (ih.2 p).2 (by omega)⟩
def p_dr (v : Int → Int) (seed : Int) : Int → Int := fun i => if 1 ≤ i ∧ i < 26 then (s_dout (v_L v) seed (v 0 - 1).toNat).1 ((i - 1) / 5) ((i - 1) % 5) else if 26 ≤ i ∧ i < 31 then (s_dch (v_c v) (s_dout (v_L v) seed (v 0 - 1).toNat).2 (v 0).toNat).1 (i - 26) else v i
theorem p_dr_L {v : Int → Int} {seed a b : Int} (a0 : 0 ≤ a) (a1 : a < 5) (b0 : 0 ≤ b) (b1 : b < 5) : p_dr v seed (1 + 5 * a + b) = (s_dout (v_L v) seed (v 0 - 1).toNat).1 a b := by
  unfold p_dr
  rw [if_pos (by omega), show (1 + 5 * a + b - 1) / 5 = a by omega, show (1 + 5 * a + b - 1) % 5 = b by omega]
theorem p_dr_c {v : Int → Int} {seed p : Int} (p0 : 0 ≤ p) (p1 : p < 5) : p_dr v seed (26 + p) = (s_dch (v_c v) (s_dout (v_L v) seed (v 0 - 1).toNat).2 (v 0).toNat).1 p := by
  unfold p_dr
  rw [if_neg (by omega), if_pos (by omega), show 26 + p - 26 = p by omega]
theorem p_dr_n {v : Int → Int} {seed i : Int} (h : i < 1 ∨ 31 ≤ i) : p_dr v seed i = v i := by
  unfold p_dr
  rw [if_neg (by omega), if_neg (by omega)]
theorem v_ok_dr {v : Int → Int} (hv : v_ok v) {seed : Int} (hs : 0 ≤ seed) : v_ok (p_dr v seed) := by
  have hg := s_dout_ok hv.g hs (k := (v 0 - 1).toNat)
  have hc := s_dch_ok (c := v_c v) hg.2 (k := (v 0).toNat)
  obtain ⟨h2, h3, h4, h5, h6, h7, h8, h9⟩ := hv
  have e0 : p_dr v seed 0 = v 0 := p_dr_n (by omega)
  refine ⟨by rw [e0]; exact h2, by rw [e0]; exact h3, ?_, fun p p0 p1 => ?_, fun p p0 p1 => ?_, fun p p0 p1 => ?_, fun s s0 s1 => ?_, fun s p s0 s1 p0 p1 => ?_⟩
  · intro a b a0 a1 b0 b1
    unfold v_L
    rw [p_dr_L a0 a1 b0 b1, p_dr_L b0 b1 a0 a1, p_dr_L a0 a1 a0 a1]
    exact hg.1 a b a0 a1 b0 b1
  · rw [p_dr_c p0 p1]
    by_cases q : p < v 0
    · have := (hc.2 p).1 ⟨p0, by omega⟩; omega
    · rw [(hc.2 p).2 (by omega)]; exact h5 p p0 p1
  · rw [e0] at p0
    rw [p_dr_c (by omega) p1, p_dr_n (by omega), (hc.2 p).2 (by omega)]
    exact h6 p p0 p1
  · rw [p_dr_n (by omega)]; exact h7 p p0 p1
  · rw [p_dr_n (by omega)]; exact h8 s s0 s1
  · rw [p_dr_n (by omega)]; exact h9 s p s0 s1 p0 p1
def p_kp (v : Int → Int) (s : Int) : Int → Int := fun i => if i = 36 + 6 * s then v 0 else if 37 + 6 * s ≤ i ∧ i < 42 + 6 * s then v (26 + (i - 37 - 6 * s)) else v i
theorem p_kp_at {v : Int → Int} {s i : Int} : p_kp v s i = if i = 36 + 6 * s then v 0 else if 37 + 6 * s ≤ i ∧ i < 42 + 6 * s then v (26 + (i - 37 - 6 * s)) else v i := rfl
theorem v_ok_kp {v : Int → Int} (hv : v_ok v) {s : Int} (hs0 : 0 ≤ s) (hs1 : s < 3) : v_ok (p_kp v s) := by
  obtain ⟨h2, h3, h4, h5, h6, h7, h8, h9⟩ := hv
  have e : ∀ i : Int, i < 36 → p_kp v s i = v i := fun i hi => by rw [p_kp_at, if_neg (by omega), if_neg (by omega)]
  refine ⟨by rw [e 0 (by omega)]; exact h2, by rw [e 0 (by omega)]; exact h3, ?_, fun p p0 p1 => ?_, fun p p0 p1 => ?_, fun p p0 p1 => ?_, fun t s0 s1 => ?_, fun t p s0 s1 p0 p1 => ?_⟩
  · intro a b a0 a1 b0 b1
    unfold v_L
    rw [e _ (by omega), e _ (by omega), e _ (by omega)]
    exact h4 a b a0 a1 b0 b1
  · rw [e _ (by omega)]; exact h5 p p0 p1
  · rw [e 0 (by omega)] at p0; rw [e _ (by omega), e _ (by omega)]; exact h6 p p0 p1
  · rw [e _ (by omega)]; exact h7 p p0 p1
  · rw [p_kp_at]
    by_cases q : t = s
    · rw [if_pos (by omega)]; omega
    · rw [if_neg (by omega), if_neg (by omega)]; exact h8 t s0 s1
  · rw [p_kp_at, if_neg (by omega)]
    by_cases q : t = s
    · rw [if_pos (by omega)]; exact h5 _ (by omega) (by omega)
    · rw [if_neg (by omega)]; exact h9 t p s0 s1 p0 p1
def x_dr (seed : Int) : Int := if 0 ≤ seed ∧ seed ≤ 999999 then 0 else -2
def x_set (v : Int → Int) (p x : Int) : Int := if (0 ≤ p ∧ p < v 0) ∧ -99 ≤ x ∧ x ≤ 99 then 0 else -2
def x_kp (s : Int) : Int := if 0 ≤ s ∧ s < 3 then 0 else -2
/-- an answer that leaves all as it is, or a refusal -/
def k_an (A : Nat → Int → Int) (F : Nat → Nat → Int) (x ans : Int) (v : Int → Int) (ps : Int → Int → Int) (st : Int) (rf tx : Int → Int) (tl : Int) : Option fc_AV → (Nat → Int → Int) → (Nat → Nat → Int) → Prop := k_ans A F (if x = 0 then ans else x) v ps st (if x = 0 then rf else h_rf rf x) tx tl
section PUB2
variable {A : Nat → Int → Int} {F : Nat → Nat → Int} {v : Int → Int} {ps : Int → Int → Int} {st : Int} {rf tx : Int → Int} {tl : Int}
theorem k_an.no {x y ans : Int} (h : k_RC A F v ps st rf tx tl) (e : x = y) (hx : y = -2 ∨ y = -3 ∨ y = -4) : k_an A F x ans v ps st rf tx tl (some (vI y)) (fa_up A 1 (fc_set (A 1) (-2 - y) (A 1 (-2 - y) + 1))) F := by
  subst e
  have e : x ≠ 0 := by omega
  unfold k_an
  rw [if_neg e, if_neg e]
  exact ⟨rfl, (h.ref hx).1, (h.ref hx).2⟩
theorem k_an.yes {A' : Nat → Int → Int} {F' : Nat → Nat → Int} {x y ans : Int} (h : k_RC A' F' v ps st rf tx tl) (fr : k_fr 0 142 A F A' F') (hx : x = 0) (e : ans = y) : k_an A F x ans v ps st rf tx tl (some (vI y)) A' F' := by
  subst e
  unfold k_an
  rw [if_pos hx, if_pos hx]
  exact ⟨rfl, h, fr⟩
theorem c_bit {P : Prop} : fh_M mX6_bit 0 [vI (fc_ind P)] A F (some (vI (fc_ind P))) A F := by
  refine fh_M.of mi_X6_bit (Nat.le_of_ble_eq_true rfl) ?_
  intro X C T
  refine fc_iload_n C dX6_bit_0 rfl rfl ?_
  refine fc_if_eq (tgt := 8) C dX6_bit_1 (by decide) (fc_ind_R _) (fun c1 => ?_) (fun c1 => ?_)
  · refine fc_iconst C dX6_bit_8 ?_
    exact fh_iret C T dX6_bit_9 (by rw [c1]) rfl
  · have := fc_ind_ne c1
    refine fc_iconst C dX6_bit_4 ?_
    refine fc_goto (tgt := 9) C dX6_bit_5 (by decide) ?_
    exact fh_iret C T dX6_bit_9 (by unfold fc_ind; rw [if_pos this]) rfl
theorem c_isKeptNumber {s : Int} (hs : fc_R s) : fh_M mX6_isKeptNumber 0 [vI s] A F (some (vI (fc_ind (0 ≤ s ∧ s < 3)))) A F := by
  refine fh_M.of mi_X6_isKeptNumber (Nat.le_of_ble_eq_true rfl) ?_
  intro X C T
  refine fc_iload_n C dX6_isKeptNumber_0 rfl rfl ?_
  refine fc_if_lt (tgt := 13) C dX6_isKeptNumber_1 (by decide) (hs) (fun c1 => ?_) (fun c1 => ?_)
  · refine fc_iconst C dX6_isKeptNumber_13 ?_
    exact fh_zret C T dX6_isKeptNumber_14 (by omega) (by unfold fc_ind; rw [if_neg (by omega)]) rfl
  · refine fc_iload_n C dX6_isKeptNumber_4 rfl rfl ?_
    refine fc_iconst C dX6_isKeptNumber_5 ?_
    refine fc_icmp_ge (tgt := 13) C dX6_isKeptNumber_6 (by decide) (hs) (fc_Rm (by omega)) (fun c6 => ?_) (fun c6 => ?_)
    · refine fc_iconst C dX6_isKeptNumber_13 ?_
      exact fh_zret C T dX6_isKeptNumber_14 (by omega) (by unfold fc_ind; rw [if_neg (by omega)]) rfl
    · refine fc_iconst C dX6_isKeptNumber_9 ?_
      refine fc_goto (tgt := 14) C dX6_isKeptNumber_10 (by decide) ?_
      exact fh_zret C T dX6_isKeptNumber_14 (by omega) (by unfold fc_ind; rw [if_pos (by omega)]) rfl
theorem o_draws (RC : k_RC A F v ps st rf tx tl) {seed : Int} (hs : fc_R seed) : fh_E mX6_draws 4 [vR 0, vI seed] A F (k_st A F (x_dr seed) (s_lc (v_L (p_dr v seed)) (v 0)) v ps st rf tx tl (p_dr v seed)) := by
  obtain ⟨E, hv, H, R⟩ := id RC
  have hn := hv.n
  refine fh_E.of mi_X6_draws (Nat.le_of_ble_eq_true rfl) ?_
  intro X C T
  have bad : ¬ (0 ≤ seed ∧ seed ≤ 999999) → ∀ ls : List (Option fc_AV), fc_W X 0 0 159 (fc_H A F) 10 (some (vR 0) :: ls) [] := by
    intro h ls
    refine fc_aload_n C dX6_draws_10 rfl rfl ?_
    refine fc_bipush C dX6_draws_11 (by decide) ?_
    refine fh_callV (y := mX6_refuse) C dX6_draws_13 ml_X6_80 mi_X6_refuse im_X6_refuse se_X6_refuse (c_refuse (Or.inl rfl)) rfl rfl (by decide) rfl (Nat.le_of_ble_eq_true rfl) (Nat.zero_le _) (Nat.zero_le _) rfl ?_
    have e : x_dr seed = -2 := if_neg h
    exact fh_iretE C T dX6_draws_16 (Or.inl rfl) (by rw [e]; exact k_st.no RC (Or.inl rfl))
  refine fc_iload_n C dX6_draws_0 rfl rfl ?_
  refine fc_if_lt (tgt := 10) C dX6_draws_1 (by decide) (hs) (fun c1 => ?_) (fun c1 => ?_)
  · exact bad (by omega) _
  · refine fc_iload_n C dX6_draws_4 rfl rfl ?_
    refine fc_ldc C dX6_draws_5 kc_X6_79 ?_
    refine fc_icmp_le (tgt := 17) C dX6_draws_7 (by decide) (hs) (fc_Rm (by omega)) (fun c7 => ?_) (fun c7 => ?_)
    · have hx : x_dr seed = 0 := if_pos ⟨c1, c7⟩
      refine fc_aload_n C dX6_draws_17 rfl rfl ?_
      refine fh_getf C dX6_draws_18 fl_X6_33 rfl rfl ?_
      refine fc_aload_n C dX6_draws_21 rfl rfl ?_
      refine fh_getf C dX6_draws_22 fl_X6_24 rfl rfl ?_
      refine fh_callVE (y := mX2_hold) C dX6_draws_25 ml_X6_60 mi_X2_hold im_X2_hold se_X2_hold (c_holdE E hv H) rfl rfl (by decide) rfl (Nat.le_of_ble_eq_true rfl) (Nat.zero_le _) (Nat.zero_le _) rfl ?_
      rintro r A1 F1 ⟨rfl, E1, H1, Hd1, fr1, hw1⟩
      refine fc_eq (st' := []) rfl rfl ?_
      refine fc_aload_n C dX6_draws_28 rfl rfl ?_
      refine fh_getf C dX6_draws_29 fl_X6_24 rfl rfl ?_
      refine fc_iload_n C dX6_draws_32 rfl rfl ?_
      refine fh_callVE (y := mX3_draw) C dX6_draws_33 ml_X6_83 mi_X3_draw im_X3_draw se_X3_draw (c_draw (E1.net hv) E1.ch c1 c7) rfl rfl (by decide) rfl (Nat.le_of_ble_eq_true rfl) (Nat.zero_le _) (Nat.zero_le _) rfl ?_
      rintro r A2 F2 ⟨rfl, rfl, K2, H2', fr2⟩
      refine fc_eq (st' := []) rfl rfl ?_
      have E2 : k_enc A2 F2 3 (p_dr v seed) := by
        obtain ⟨a1, a2, a3, a4, a5, a6⟩ := E1
        refine ⟨by rw [p_dr_n (by omega)]; exact a1, fun a c a0 a1 c0 c1 => ?_, fun p p0 p1 => ?_, fun p p0 p1 => ?_, fun s s0 s1 => ?_, fun s p s0 s1 p0 p1 => ?_⟩
        · rw [p_dr_L a0 a1 c0 c1]; exact K2.2.2.2 a c a0 a1 c0 c1
        · rw [p_dr_c p0 p1]; exact H2' p p0 p1
        · rw [fr2 _ (by omega), p_dr_n (by omega)]; exact a4 p p0 p1
        · rw [fr2 _ (by omega), p_dr_n (by omega)]; exact a5 s s0 s1
        · rw [fr2 _ (by omega), p_dr_n (by omega)]; exact a6 s p s0 s1 p0 p1
      have hw2 := v_ok_dr hv c1
      have frk : k_fr 3 35 A1 F2 A2 F2 := fun i hi => ⟨fr2 i (by omega), rfl⟩
      obtain ⟨H2, Hd2, R2⟩ := k_over H1 Hd1 hw1 frk (R.hold fr1)
      refine fc_aload_n C dX6_draws_36 rfl rfl ?_
      refine fc_iconst C dX6_draws_37 ?_
      refine fc_aload_n C dX6_draws_38 rfl rfl ?_
      refine fh_getf C dX6_draws_39 fl_X6_24 rfl rfl ?_
      refine fh_callV (y := mX3_lineCount) C dX6_draws_42 ml_X6_87 mi_X3_lineCount im_X3_lineCount se_X3_lineCount (c_lineCount (E2.net hw2) hw2.g) rfl rfl (by decide) rfl (Nat.le_of_ble_eq_true rfl) (Nat.zero_le _) (Nat.zero_le _) rfl ?_
      refine fh_callVE (y := mX6_ended) C dX6_draws_45 ml_X6_68 mi_X6_ended im_X6_ended se_X6_ended (c_ended (x := 0) (w := p_dr v seed) (Or.inl rfl) (by rw [if_pos rfl]; exact E2) hv (fun _ => hw2) H2 Hd2 R2) rfl rfl (by decide) rfl (Nat.le_of_ble_eq_true rfl) (Nat.zero_le _) (Nat.zero_le _) rfl ?_
      rintro r A3 F3 h3
      have hr := h3.1
      subst hr
      refine fc_eq (st' := [vI (if (0 : Int) = 0 then s_lc (v_L (p_dr v seed)) (p_dr v seed 0) else 0)]) rfl rfl ?_
      refine fh_iretE C T dX6_draws_48 (Or.inl rfl) ?_
      have h4 := h3.toS ((fr1.wd (by omega) (by omega)).tr (frk.wd (by omega) (by omega)))
      rw [hx]
      rw [p_dr_n (Or.inl (by omega))] at h4 ⊢
      exact h4
    · exact bad (by omega) _
theorem o_sets (RC : k_RC A F v ps st rf tx tl) {p x : Int} (hp : fc_R p) (hx : fc_R x) : fh_E mX6_sets 4 [vR 0, vI p, vI x] A F (k_st A F (x_set v p x) (v (26 + p)) v ps st rf tx tl (p_set v (26 + p) x)) := by
  obtain ⟨E, hv, H, R⟩ := id RC
  have hn := hv.n
  refine fh_E.of mi_X6_sets (Nat.le_of_ble_eq_true rfl) ?_
  intro X C T
  have bad : ¬ ((0 ≤ p ∧ p < v 0) ∧ -99 ≤ x ∧ x ≤ 99) → ∀ ls : List (Option fc_AV), fc_W X 0 0 159 (fc_H A F) 23 (some (vR 0) :: ls) [] := by
    intro h ls
    refine fc_aload_n C dX6_sets_23 rfl rfl ?_
    refine fc_bipush C dX6_sets_24 (by decide) ?_
    refine fh_callV (y := mX6_refuse) C dX6_sets_26 ml_X6_80 mi_X6_refuse im_X6_refuse se_X6_refuse (c_refuse (Or.inl rfl)) rfl rfl (by decide) rfl (Nat.le_of_ble_eq_true rfl) (Nat.zero_le _) (Nat.zero_le _) rfl ?_
    have e : x_set v p x = -2 := if_neg h
    exact fh_iretE C T dX6_sets_29 (Or.inl rfl) (by rw [e]; exact k_st.no RC (Or.inl rfl))
  refine fc_aload_n C dX6_sets_0 rfl rfl ?_
  refine fh_getf C dX6_sets_1 fl_X6_24 rfl rfl ?_
  refine fc_iload_n C dX6_sets_4 rfl rfl ?_
  refine fh_callV (y := mX3_hasPoint) C dX6_sets_5 ml_X6_91 mi_X3_hasPoint im_X3_hasPoint se_X3_hasPoint (c_hasPoint (E.net hv) hp) rfl rfl (by decide) rfl (Nat.le_of_ble_eq_true rfl) (Nat.zero_le _) (Nat.zero_le _) rfl ?_
  refine fc_if_eq (tgt := 23) C dX6_sets_8 (by decide) (fc_ind_R _) (fun c8 => ?_) (fun c8 => ?_)
  · have := fc_ind_0 c8
    exact bad (by omega) _
  · have c8 := fc_ind_ne c8
    refine fc_iload_n C dX6_sets_11 rfl rfl ?_
    refine fc_i2l C dX6_sets_12 hx ?_
    refine fh_callS (y := mJ9_abs_067f4) C dX6_sets_13 ml_X6_106 mi_J9_abs_067f4 st_J9_abs_067f4 (c_labs (by unfold fc_R at hx; exact fc_RLm (by omega))) (by decide) rfl (Nat.le_of_ble_eq_true rfl) (Nat.zero_le _) (Nat.zero_le _) rfl ?_
    refine fc_ldc2_w C dX6_sets_16 kc_X6_112 ?_
    refine fc_lcmp C dX6_sets_19 (by unfold fc_R at hx; exact fc_RLm (by omega)) (fc_RLm (by omega)) ?_
    refine fc_if_le (tgt := 30) C dX6_sets_20 (by decide) (fc_cmp_R _ _) (fun c20 => ?_) (fun c20 => ?_)
    · have c20 : ¬ ((x.natAbs : Int) > 99) := fun h => by
        have := fc_cmp_gt.2 h
        omega
      have e : x_set v p x = 0 := if_pos ⟨c8, by omega, by omega⟩
      have h26 := E.2.2.1 p c8.1 (by omega)
      rw [show (3 + 7 : Nat) = 10 from rfl] at h26
      refine fc_aload_n C dX6_sets_30 rfl rfl ?_
      refine fh_getf C dX6_sets_31 fl_X6_24 rfl rfl ?_
      refine fh_getf C dX6_sets_34 fl_X6_114 rfl rfl ?_
      refine fc_iload_n C dX6_sets_37 rfl rfl ?_
      refine fh_iaload C dX6_sets_38 (fun _ _ => rfl) (by omega) (by omega) (by decide) ?_
      refine fc_istore_n C dX6_sets_39 rfl (by decide) ?_
      refine fc_aload_n C dX6_sets_40 rfl rfl ?_
      refine fh_getf C dX6_sets_41 fl_X6_33 rfl rfl ?_
      refine fc_aload_n C dX6_sets_44 rfl rfl ?_
      refine fh_getf C dX6_sets_45 fl_X6_24 rfl rfl ?_
      refine fh_callVE (y := mX2_hold) C dX6_sets_48 ml_X6_60 mi_X2_hold im_X2_hold se_X2_hold (c_holdE E hv H) rfl rfl (by decide) rfl (Nat.le_of_ble_eq_true rfl) (Nat.zero_le _) (Nat.zero_le _) rfl ?_
      rintro r A1 F1 ⟨rfl, E1, H1, Hd1, fr1, hw1⟩
      refine fc_eq (st' := []) rfl rfl ?_
      refine fc_aload_n C dX6_sets_51 rfl rfl ?_
      refine fh_getf C dX6_sets_52 fl_X6_24 rfl rfl ?_
      refine fh_getf C dX6_sets_55 fl_X6_114 rfl rfl ?_
      refine fc_iload_n C dX6_sets_58 rfl rfl ?_
      refine fc_iload_n C dX6_sets_59 rfl rfl ?_
      refine fh_iastore C dX6_sets_60 (fun _ _ => rfl) (by omega) (by omega) (by decide) ?_
      have frk : k_fr 3 35 A1 F1 (fa_up A1 10 (fc_set (A1 10) p x)) F1 := fun i hi => ⟨fa_n _ _ (by omega), rfl⟩
      have hw2 := v_ok_set hv (x := x) c8.1 c8.2 (by omega) (by omega)
      have E2 : k_enc (fa_up A1 10 (fc_set (A1 10) p x)) F1 3 (p_set v (26 + p) x) := by
        obtain ⟨a1, a2, a3, a4, a5, a6⟩ := E1
        refine ⟨by rw [p_set_at, if_neg (by omega)]; exact a1, fun a c a0 a1 c0 c1 => ?_, fun o p0 p1 => ?_, fun o p0 p1 => ?_, fun s s0 s1 => ?_, fun s o s0 s1 p0 p1 => ?_⟩
        · rw [fa_n _ _ (by omega), p_set_at, if_neg (by omega)]; exact a2 a c a0 a1 c0 c1
        · rw [fa_s, p_set_at]
          unfold fc_set
          by_cases q : o = p
          · rw [if_pos q, if_pos (by omega)]
          · rw [if_neg q, if_neg (by omega)]; exact a3 o p0 p1
        · rw [fa_n _ _ (by omega), p_set_at, if_neg (by omega)]; exact a4 o p0 p1
        · rw [fa_n _ _ (by omega), p_set_at, if_neg (by omega)]; exact a5 s s0 s1
        · rw [fa_n _ _ (by omega), p_set_at, if_neg (by omega)]; exact a6 s o s0 s1 p0 p1
      obtain ⟨H2, Hd2, R2⟩ := k_over H1 Hd1 hw1 frk (R.hold fr1)
      refine fc_aload_n C dX6_sets_61 rfl rfl ?_
      refine fc_iconst C dX6_sets_62 ?_
      refine fc_iload_n C dX6_sets_63 rfl rfl ?_
      refine fh_callVE (y := mX6_ended) C dX6_sets_64 ml_X6_68 mi_X6_ended im_X6_ended se_X6_ended (c_ended (x := 0) (w := p_set v (26 + p) x) (Or.inl rfl) (by rw [if_pos rfl]; exact E2) hv (fun _ => hw2) H2 Hd2 R2) rfl rfl (by decide) rfl (Nat.le_of_ble_eq_true rfl) (Nat.zero_le _) (Nat.zero_le _) rfl ?_
      rintro r A3 F3 h3
      have hr := h3.1
      subst hr
      refine fc_eq (st' := [vI (if (0 : Int) = 0 then A 10 p else 0)]) rfl rfl ?_
      refine fh_iretE C T dX6_sets_67 (Or.inl rfl) ?_
      have h4 := h3.toS ((fr1.wd (by omega) (by omega)).tr (frk.wd (by omega) (by omega)))
      rw [e]
      rw [h26] at h4 ⊢
      exact h4
    · exact bad (fun h => by have := fc_cmp_gt.1 c20; omega) _
theorem o_keeps (RC : k_RC A F v ps st rf tx tl) {s : Int} (hs : fc_R s) : fh_E mX6_keeps 4 [vR 0, vI s] A F (k_st A F (x_kp s) (fs_sum (v_c v) (v 0).toNat + 10000) v ps st rf tx tl (p_kp v s)) := by
  obtain ⟨E, hv, H, R⟩ := id RC
  have hn := hv.n
  refine fh_E.of mi_X6_keeps (Nat.le_of_ble_eq_true rfl) ?_
  intro X C T
  refine fc_iload_n C dX6_keeps_0 rfl rfl ?_
  refine fh_callS (y := mX6_isKeptNumber) C dX6_keeps_1 ml_X6_216 mi_X6_isKeptNumber st_X6_isKeptNumber (c_isKeptNumber hs) (by decide) rfl (Nat.le_of_ble_eq_true rfl) (Nat.zero_le _) (Nat.zero_le _) rfl ?_
  refine fc_if_ne (tgt := 14) C dX6_keeps_4 (by decide) (fc_ind_R _) (fun c4 => ?_) (fun c4 => ?_)
  · have c4 := fc_ind_ne c4
    have e : x_kp s = 0 := if_pos c4
    refine fc_aload_n C dX6_keeps_14 rfl rfl ?_
    refine fh_getf C dX6_keeps_15 fl_X6_33 rfl rfl ?_
    refine fc_aload_n C dX6_keeps_18 rfl rfl ?_
    refine fh_getf C dX6_keeps_19 fl_X6_24 rfl rfl ?_
    refine fh_callVE (y := mX2_hold) C dX6_keeps_22 ml_X6_60 mi_X2_hold im_X2_hold se_X2_hold (c_holdE E hv H) rfl rfl (by decide) rfl (Nat.le_of_ble_eq_true rfl) (Nat.zero_le _) (Nat.zero_le _) rfl ?_
    rintro r A1 F1 ⟨rfl, E1, H1, Hd1, fr1, hw1⟩
    refine fc_eq (st' := []) rfl rfl ?_
    refine fc_aload_n C dX6_keeps_25 rfl rfl ?_
    refine fh_getf C dX6_keeps_26 fl_X6_24 rfl rfl ?_
    refine fc_iload_n C dX6_keeps_29 rfl rfl ?_
    refine fh_callVv (y := mX3_keepChips) C dX6_keeps_30 ml_X6_219 mi_X3_keepChips im_X3_keepChips se_X3_keepChips (c_keepChips c4.1 c4.2) rfl rfl (by decide) rfl (Nat.le_of_ble_eq_true rfl) (Nat.zero_le _) (Nat.zero_le _) rfl ?_
    have frk : k_fr 3 35 A1 F1 (fa_up (fa_up A1 12 (fc_set (A1 12) s (F1 3 0))) (14 + s.toNat) (fc_cpy (A1 10) (A1 (14 + s.toNat)) 5)) F1 := fun i hi => ⟨by rw [fa_n _ _ (by omega), fa_n _ _ (by omega)], rfl⟩
    have hw2 := v_ok_kp hv c4.1 c4.2
    have E2 : k_enc (fa_up (fa_up A1 12 (fc_set (A1 12) s (F1 3 0))) (14 + s.toNat) (fc_cpy (A1 10) (A1 (14 + s.toNat)) 5)) F1 3 (p_kp v s) := by
      obtain ⟨a1, a2, a3, a4, a5, a6⟩ := E1
      refine ⟨by rw [p_kp_at, if_neg (by omega), if_neg (by omega)]; exact a1, fun a c a0 a1 c0 c1 => ?_, fun o p0 p1 => ?_, fun o p0 p1 => ?_, fun t s0 s1 => ?_, fun t o s0 s1 p0 p1 => ?_⟩
      · rw [fa_n _ _ (by omega), fa_n _ _ (by omega), p_kp_at, if_neg (by omega), if_neg (by omega)]; exact a2 a c a0 a1 c0 c1
      · rw [fa_n _ _ (by omega), fa_n _ _ (by omega), p_kp_at, if_neg (by omega), if_neg (by omega)]; exact a3 o p0 p1
      · rw [fa_n _ _ (by omega), fa_n _ _ (by omega), p_kp_at, if_neg (by omega), if_neg (by omega)]; exact a4 o p0 p1
      · rw [fa_n _ _ (by omega), fa_s, p_kp_at]
        unfold fc_set
        by_cases q : t = s
        · rw [if_pos q, if_pos (by omega)]; exact a1
        · rw [if_neg q, if_neg (by omega), if_neg (by omega)]; exact a5 t s0 s1
      · rw [p_kp_at, if_neg (by omega)]
        by_cases q : t = s
        · rw [if_pos (by omega), q, show 3 + 11 + s.toNat = 14 + s.toNat by omega, fa_s, fc_cpy_in p0 p1, show 26 + (37 + 6 * s + o - 37 - 6 * s) = 26 + o by omega]; exact a3 o p0 p1
        · rw [fa_n _ _ (by omega), fa_n _ _ (by omega), if_neg (by omega)]; exact a6 t o s0 s1 p0 p1
    obtain ⟨H2, Hd2, R2⟩ := k_over H1 Hd1 hw1 frk (R.hold fr1)
    have hdeg : fs_sum (fa_up (fa_up A1 12 (fc_set (A1 12) s (F1 3 0))) (14 + s.toNat) (fc_cpy (A1 10) (A1 (14 + s.toNat)) 5) 10) (F1 3 0).toNat = fs_sum (v_c v) (v 0).toNat := by
      rw [E1.1, fa_n _ _ (by omega), fa_n _ _ (by omega)]
      exact fs_sum_congr fun k k0 k1 => E1.2.2.1 k k0 (by omega)
    refine fc_aload_n C dX6_keeps_33 rfl rfl ?_
    refine fc_iconst C dX6_keeps_34 ?_
    refine fc_aload_n C dX6_keeps_35 rfl rfl ?_
    refine fh_getf C dX6_keeps_36 fl_X6_24 rfl rfl ?_
    refine fh_getf C dX6_keeps_39 fl_X6_114 rfl rfl ?_
    refine fc_aload_n C dX6_keeps_42 rfl rfl ?_
    refine fh_getf C dX6_keeps_43 fl_X6_24 rfl rfl ?_
    refine fh_getf C dX6_keeps_46 fl_X6_54 rfl rfl ?_
    refine fh_callS (y := mX6_degreeOf) C dX6_keeps_49 ml_X6_199 mi_X6_degreeOf st_X6_degreeOf (c_degreeOf (fun _ _ => rfl) (by rw [E1.1]; omega) (by rw [E1.1]; omega)) (by decide) rfl (Nat.le_of_ble_eq_true rfl) (Nat.zero_le _) (Nat.zero_le _) rfl ?_
    refine fc_sipush C dX6_keeps_52 (by decide) ?_
    refine fc_iadd C dX6_keeps_55 ?_
    refine fc_eq (st' := [vI (fs_sum (v_c v) (v 0).toNat + 10000), vI 0, vR 0]) rfl (by rw [← hdeg]) ?_
    refine fh_callVE (y := mX6_ended) C dX6_keeps_56 ml_X6_68 mi_X6_ended im_X6_ended se_X6_ended (c_ended (x := 0) (w := p_kp v s) (Or.inl rfl) (by rw [if_pos rfl]; exact E2) hv (fun _ => hw2) H2 Hd2 R2) rfl rfl (by decide) rfl (Nat.le_of_ble_eq_true rfl) (Nat.zero_le _) (Nat.zero_le _) rfl ?_
    rintro r A3 F3 h3
    have hr := h3.1
    subst hr
    refine fc_eq (st' := [vI (if (0 : Int) = 0 then fs_sum (v_c v) (v 0).toNat + 10000 else 0)]) rfl rfl ?_
    refine fh_iretE C T dX6_keeps_59 (Or.inl rfl) ?_
    have h4 := h3.toS ((fr1.wd (by omega) (by omega)).tr (frk.wd (by omega) (by omega)))
    rw [e]
    exact h4
  · have c4 : ¬ (0 ≤ s ∧ s < 3) := fc_ind_0 c4
    have e : x_kp s = -2 := if_neg c4
    refine fc_aload_n C dX6_keeps_7 rfl rfl ?_
    refine fc_bipush C dX6_keeps_8 (by decide) ?_
    refine fh_callV (y := mX6_refuse) C dX6_keeps_10 ml_X6_80 mi_X6_refuse im_X6_refuse se_X6_refuse (c_refuse (Or.inl rfl)) rfl rfl (by decide) rfl (Nat.le_of_ble_eq_true rfl) (Nat.zero_le _) (Nat.zero_le _) rfl ?_
    exact fh_iretE C T dX6_keeps_13 (Or.inl rfl) (by rw [e]; exact k_st.no RC (Or.inl rfl))
end PUB2
