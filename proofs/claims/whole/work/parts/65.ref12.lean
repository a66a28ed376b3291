/-! the reference: reduced, won, equal -/
section EQ
variable {L : Int → Int → Int} {n q : Int}
theorem r_rd_is (hg : g_ok L) (hn : 2 ≤ n ∧ n ≤ 5) (hq : 0 ≤ q ∧ q < n) (hJ : s_J L n) {x y : Int → Int} (h : z_ss L n q y) (he : z_ev L n y x) : ∀ p : Int, 0 ≤ p → p < n → y p = r_rd L n q x p := by
  obtain ⟨h1, h2⟩ := r_rd_ss hg hn hq hJ x
  exact h.uniq hg hn hq h1 (he.tr h2.sy)
theorem z_ss_cg {x y : Int → Int} (h : z_ss L n q x) (e : ∀ p : Int, 0 ≤ p → p < n → y p = x p) : z_ss L n q y :=
  ⟨fun p p0 p1 p2 => by rw [e p p0 p1]; exact h.1 p p0 p1 p2, h.2.mono fun p p0 p1 _ => by show _ ≤ s_val L n p - 1 - y p; rw [e p p0 p1]; exact Int.le_refl _⟩
end EQ
theorem s_eq_ev {v : Int → Int} (hv : v_ok v) (hJ : s_J (v_L v) (v 0)) {s : Int} : s_eq v s ↔ z_ev (v_L v) (v 0) (v_c v) (fun p => v (37 + 6 * s + p)) := by
  have hn := hv.n
  have hg := hv.g
  have hq : (0 : Int) ≤ 0 ∧ (0 : Int) < v 0 := ⟨by omega, by omega⟩
  have hd : fs_sum (v_d v s) (v 0).toNat = fs_sum (v_c v) (v 0).toNat - fs_sum (fun p => v (37 + 6 * s + p)) (v 0).toNat := fs_sum_sub
  have h9 : (∀ p : Int, 0 ≤ p → p < v 0 → (d_sv (v_L v) (v 0) 0 (v_d v s) p).tmod (d_T (v_L v) (v 0) 0) = 0) ↔ z_e0 (v_L v) (v 0) 0 (v_d v s) (fun _ => 0) := by
    rw [z_e0_dvd hg hn hq hJ]
    exact ⟨fun h p p0 p1 => Int.dvd_of_tmod_eq_zero (h p p0 p1), fun h p p0 p1 => Int.tmod_eq_zero_of_dvd (h p p0 p1)⟩
  unfold s_eq
  rw [h9, hd]
  constructor
  · rintro ⟨h1, h2⟩
    have h3 := h2.ev hg hn hq (by rw [fs_sum_zero, hd]; exact h1)
    exact ((z_ev.of fun p _ _ => by show v_c v p = (v_c v p - v (37 + 6 * s + p)) + v (37 + 6 * s + p); omega).tr (h3.add (z_ev.rf (x := fun p => v (37 + 6 * s + p))))).tr (z_ev.of fun p _ _ => by show 0 + v (37 + 6 * s + p) = _; omega)
  · intro h
    refine ⟨by rw [h.deg hg hn]; omega, z_ev.e0 ?_⟩
    exact (h.sub (z_ev.rf (x := fun p => v (37 + 6 * s + p)))).tr (z_ev.of fun p _ _ => by show v (37 + 6 * s + p) - v (37 + 6 * s + p) = 0; omega)
section REF12
variable {A : Nat → Int → Int} {F : Nat → Nat → Int} {v : Int → Int} {ps : Int → Int → Int} {st : Int} {rf tx : Int → Int} {tl : Int}
theorem m_an.red {A' : Nat → Int → Int} {x y ans : Int} (RC : m_RC A F v ps st rf tx tl) (frA : ∀ j : Nat, j ≠ 148 → j ≠ 149 → j ≠ 153 → j ≠ 156 → j ≠ 154 → j ≠ 155 → j ≠ 150 → A' j = A j) (hx : x = 0) (e : ans = y) : m_an A F x ans v ps st rf tx tl (some (vI y)) A' F :=
  m_an.yes RC (frA 144 (by omega) (by omega) (by omega) (by omega) (by omega) (by omega) (by omega)) (RC.2.2.2.2.2.fr (frA 145 (by omega) (by omega) (by omega) (by omega) (by omega) (by omega) (by omega)) (frA 147 (by omega) (by omega) (by omega) (by omega) (by omega) (by omega) (by omega)) (frA 157 (by omega) (by omega) (by omega) (by omega) (by omega) (by omega) (by omega)) rfl rfl) (fun i hi => ⟨frA i (by omega) (by omega) (by omega) (by omega) (by omega) (by omega) (by omega), rfl⟩) hx e
theorem q_reduced (RC : m_RC A F v ps st rf tx tl) {q p : Int} (hq : fc_R q) (hp : fc_R p) : fh_E mX7_reduced 5 [vR 143, vI q, vI p] A F (m_an A F (x_red v q p) (r_rd (v_L v) (v 0) q (v_c v) p + 10000) v ps st rf tx tl) := by
  obtain ⟨e, hv, -, -, -, hm⟩ := id RC
  have hn := hv.n
  refine fh_E.of mi_X7_reduced (Nat.le_of_ble_eq_true rfl) ?_
  intro X C T
  have no : ¬ ((0 ≤ q ∧ q < v 0) ∧ (0 ≤ p ∧ p < v 0)) → fc_W X 0 0 159 (fc_H A F) 16 [some (vR 143), some (vI q), some (vI p)] [] := by
    intro h
    refine fc_aload_n C dX7_reduced_16 rfl rfl ?_
    refine fc_bipush C dX7_reduced_17 (by decide) ?_
    refine fh_callV (y := mX7_refuses) C dX7_reduced_19 ml_X7_80 mi_X7_refuses im_X7_refuses se_X7_refuses (r_refuses (Or.inl rfl)) rfl rfl (by decide) rfl (Nat.le_of_ble_eq_true rfl) (Nat.zero_le _) (Nat.zero_le _) rfl ?_
    exact fh_iretE C T dX7_reduced_22 (Or.inl rfl) (m_an.no RC (if_neg h) (Or.inl rfl))
  refine fc_aload_n C dX7_reduced_0 rfl rfl ?_
  refine fc_iload_n C dX7_reduced_1 rfl rfl ?_
  refine fh_callV (y := mX7_isPoint) C dX7_reduced_2 ml_X7_89 mi_X7_isPoint im_X7_isPoint se_X7_isPoint (r_isPoint e hn hq) rfl rfl (by decide) rfl (Nat.le_of_ble_eq_true rfl) (Nat.zero_le _) (Nat.zero_le _) rfl ?_
  refine fc_if_eq (tgt := 16) C dX7_reduced_5 (by decide) (fc_ind_R _) (fun c5 => ?_) (fun c5 => ?_)
  · have c5 := fc_ind_0 c5
    exact no (fun h => c5 h.1)
  · have c5 := fc_ind_ne c5
    refine fc_aload_n C dX7_reduced_8 rfl rfl ?_
    refine fc_iload_n C dX7_reduced_9 rfl rfl ?_
    refine fh_callV (y := mX7_isPoint) C dX7_reduced_10 ml_X7_89 mi_X7_isPoint im_X7_isPoint se_X7_isPoint (r_isPoint e hn hp) rfl rfl (by decide) rfl (Nat.le_of_ble_eq_true rfl) (Nat.zero_le _) (Nat.zero_le _) rfl ?_
    refine fc_if_ne (tgt := 23) C dX7_reduced_13 (by decide) (fc_ind_R _) (fun c13 => ?_) (fun c13 => ?_)
    · have c13 := fc_ind_ne c13
      refine fc_aload_n C dX7_reduced_23 rfl rfl ?_
      refine fh_callV (y := mX7_isJoined) C dX7_reduced_24 ml_X7_118 mi_X7_isJoined im_X7_isJoined se_X7_isJoined (r_isJoined e hn hv.g) rfl rfl (by decide) rfl (Nat.le_of_ble_eq_true rfl) (Nat.zero_le _) (Nat.zero_le _) rfl ?_
      refine fc_if_ne (tgt := 37) C dX7_reduced_27 (by decide) (fc_ind_R _) (fun c27 => ?_) (fun c27 => ?_)
      · have hJ := fc_ind_ne c27
        have hx : x_red v q p = 0 := by unfold x_red; rw [if_pos ⟨c5, c13⟩]; exact x_J_0 hJ
        refine fc_aload_n C dX7_reduced_37 rfl rfl ?_
        refine fh_callVE (y := mX7_laysChips) C dX7_reduced_38 ml_X7_160 mi_X7_laysChips im_X7_laysChips se_X7_laysChips (r_laysChips e hv) rfl rfl (by decide) rfl (Nat.le_of_ble_eq_true rfl) (Nat.zero_le _) (Nat.zero_le _) rfl ?_
        rintro r A1 F1 ⟨rfl, rfl, frA, h8⟩
        refine fc_eq (st' := []) rfl rfl ?_
        refine fc_aload_n C dX7_reduced_41 rfl rfl ?_
        refine fc_iload_n C dX7_reduced_42 rfl rfl ?_
        refine fh_callVE (y := mX7_reduces) C dX7_reduced_43 ml_X7_251 mi_X7_reduces im_X7_reduces se_X7_reduces (r_reduces ((frA 144 (by omega)).trans e) hv hJ c5 (fun o o0 o1 => by rw [h8 o o0 o1]; have := hv.2.2.2.1 o o0 (by omega); unfold v_c; omega)) rfl rfl (by decide) rfl (Nat.le_of_ble_eq_true rfl) (Nat.zero_le _) (Nat.zero_le _) rfl ?_
        rintro r A2 F2 ⟨rfl, rfl, frB, hss, hev⟩
        refine fc_eq (st' := []) rfl rfl ?_
        refine fc_aload_n C dX7_reduced_46 rfl rfl ?_
        refine fh_getf C dX7_reduced_47 fl_X7_22 rfl rfl ?_
        refine fc_iload_n C dX7_reduced_50 rfl rfl ?_
        refine fh_laload C dX7_reduced_51 (fun _ _ => rfl) (by omega) (by omega) (by decide) ?_
        refine fc_l2i C dX7_reduced_52 ?_
        refine fc_sipush C dX7_reduced_53 (by decide) ?_
        refine fc_iadd C dX7_reduced_56 ?_
        refine fh_iretE C T dX7_reduced_57 (Or.inl rfl) (m_an.red RC (fun j j1 j2 j3 _ _ _ _ => by rw [frB j j1 j2 j3]; exact frA j j1) hx ?_)
        rw [r_rd_is hv.g hn c5 hJ hss (hev.tr (z_ev.of h8)) p c13.1 c13.2]
      · have c27 := fc_ind_0 c27
        refine fc_aload_n C dX7_reduced_30 rfl rfl ?_
        refine fc_bipush C dX7_reduced_31 (by decide) ?_
        refine fh_callV (y := mX7_refuses) C dX7_reduced_33 ml_X7_80 mi_X7_refuses im_X7_refuses se_X7_refuses (r_refuses (Or.inr (Or.inl rfl))) rfl rfl (by decide) rfl (Nat.le_of_ble_eq_true rfl) (Nat.zero_le _) (Nat.zero_le _) rfl ?_
        exact fh_iretE C T dX7_reduced_36 (Or.inl rfl) (m_an.no RC (by unfold x_red; rw [if_pos ⟨c5, c13⟩]; exact x_J_3 c27) (Or.inr (Or.inl rfl)))
    · have c13 := fc_ind_0 c13
      exact no (fun h => c13 h.2)
theorem r_isWon (e : A 144 = v) (hv : v_ok v) (hJ : s_J (v_L v) (v 0)) (hx : ∀ p : Int, 0 ≤ p → p < v 0 → -2000 ≤ A 148 p ∧ A 148 p ≤ 2000) : fh_E mX7_isWon 5 [vR 143] A F (fun r A' F' => r = some (vI (fc_ind (z_wn (v_L v) (v 0) (A 148)))) ∧ F' = F ∧ (∀ j : Nat, j ≠ 148 → j ≠ 149 → j ≠ 153 → A' j = A j)) := by
  have hn := hv.n
  have hg := hv.g
  have hq : (0 : Int) ≤ 0 ∧ (0 : Int) < v 0 := ⟨by omega, by omega⟩
  have hdx := fs_sum5 (f := A 148) (n := v 0) (B := 2000) (by omega) (by omega) hx
  refine fh_E.of mi_X7_isWon (Nat.le_of_ble_eq_true rfl) ?_
  intro X C T
  refine fc_aload_n C dX7_isWon_0 rfl rfl ?_
  refine fc_iconst C dX7_isWon_1 ?_
  refine fh_callVE (y := mX7_reduces) C dX7_isWon_2 ml_X7_251 mi_X7_reduces im_X7_reduces se_X7_reduces (r_reduces e hv hJ (q := 0) hq hx) rfl rfl (by decide) rfl (Nat.le_of_ble_eq_true rfl) (Nat.zero_le _) (Nat.zero_le _) rfl ?_
  rintro r A1 F1 ⟨rfl, rfl, frA, hss, hev⟩
  refine fc_eq (st' := []) rfl rfl ?_
  have hw : z_wn (v_L v) (v 0) (A 148) ↔ 0 ≤ A1 148 0 := by
    rw [← z_ss_wn hg hn hq hss]
    exact ⟨fun h => h.ev hev.sy, fun h => h.ev hev⟩
  have hdeg := hev.deg hg hn
  have hle := z_deg_g hg hn hq hss
  have hlc := s_lc_bd hg (n := v 0) (by omega) hn.2
  have hlc2 : 0 ≤ s_lc (v_L v) (v 0) ∧ s_lc (v_L v) (v 0) ≤ 75 := by
    unfold s_lc
    rw [Int.tdiv_eq_ediv_of_nonneg hlc.1]
    omega
  have hup : A1 148 0 ≤ fs_sum (A1 148) (v 0).toNat := by
    have h1 := fs_sum_le (f := fun p => if p = 0 then A1 148 0 else 0) (g := A1 148) (m := (v 0).toNat) (fun p p0 p1 => by
      by_cases c : p = 0
      · rw [if_pos c, c]; exact Int.le_refl _
      · rw [if_neg c]; exact hss.1 p p0 (by omega) c)
    rw [fs_sum_one (by omega) (by omega)] at h1
    exact h1
  refine fc_aload_n C dX7_isWon_5 rfl rfl ?_
  refine fh_getf C dX7_isWon_6 fl_X7_22 rfl rfl ?_
  refine fc_iconst C dX7_isWon_9 ?_
  refine fh_laload C dX7_isWon_10 (fun _ _ => rfl) (by omega) (by omega) (by decide) ?_
  refine fc_lconst (z := 0) C dX7_isWon_11 rfl ?_
  refine fc_lcmp C dX7_isWon_12 (fc_RLm (by omega)) (fc_RLm (by omega)) ?_
  refine fc_if_lt (tgt := 20) C dX7_isWon_13 (by decide) (fc_cmp_R _ _) (fun c13 => ?_) (fun c13 => ?_)
  · have c13 := fc_cmp_lt.1 c13
    refine fc_iconst C dX7_isWon_20 ?_
    exact fh_iretE C T dX7_isWon_21 (Or.inr ⟨rfl, by omega⟩) ⟨by rw [fc_ind_f (fun h => by have := hw.1 h; omega)], rfl, frA⟩
  · have c13 : ¬ A1 148 0 < 0 := fun z => by have := fc_cmp_lt.2 z; omega
    refine fc_iconst C dX7_isWon_16 ?_
    refine fc_goto (tgt := 21) C dX7_isWon_17 (by decide) ?_
    exact fh_iretE C T dX7_isWon_21 (Or.inr ⟨rfl, by omega⟩) ⟨by rw [fc_ind_t (hw.2 (by omega))], rfl, frA⟩
theorem q_won (RC : m_RC A F v ps st rf tx tl) : fh_E mX7_won 6 [vR 143] A F (m_an A F (x_J v) (fc_ind (0 ≤ r_rd (v_L v) (v 0) 0 (v_c v) 0)) v ps st rf tx tl) := by
  obtain ⟨e, hv, -, -, -, hm⟩ := id RC
  have hn := hv.n
  have hq : (0 : Int) ≤ 0 ∧ (0 : Int) < v 0 := ⟨by omega, by omega⟩
  refine fh_E.of mi_X7_won (Nat.le_of_ble_eq_true rfl) ?_
  intro X C T
  refine fc_aload_n C dX7_won_0 rfl rfl ?_
  refine fh_callV (y := mX7_isJoined) C dX7_won_1 ml_X7_118 mi_X7_isJoined im_X7_isJoined se_X7_isJoined (r_isJoined e hn hv.g) rfl rfl (by decide) rfl (Nat.le_of_ble_eq_true rfl) (Nat.zero_le _) (Nat.zero_le _) rfl ?_
  refine fc_if_ne (tgt := 14) C dX7_won_4 (by decide) (fc_ind_R _) (fun c4 => ?_) (fun c4 => ?_)
  · have hJ := fc_ind_ne c4
    obtain ⟨h1, h2⟩ := r_rd_ss hv.g hn hq hJ (v_c v)
    refine fc_aload_n C dX7_won_14 rfl rfl ?_
    refine fh_callVE (y := mX7_laysChips) C dX7_won_15 ml_X7_160 mi_X7_laysChips im_X7_laysChips se_X7_laysChips (r_laysChips e hv) rfl rfl (by decide) rfl (Nat.le_of_ble_eq_true rfl) (Nat.zero_le _) (Nat.zero_le _) rfl ?_
    rintro r A1 F1 ⟨rfl, rfl, frA, h8⟩
    refine fc_eq (st' := []) rfl rfl ?_
    have hw : z_wn (v_L v) (v 0) (A1 148) ↔ 0 ≤ r_rd (v_L v) (v 0) 0 (v_c v) 0 := by
      rw [← z_ss_wn hv.g hn hq h1]
      exact ⟨fun h => h.ev ((z_ev.of h8).tr h2.sy), fun h => h.ev (h2.tr (z_ev.of h8).sy)⟩
    refine fc_aload_n C dX7_won_18 rfl rfl ?_
    refine fh_callVE (y := mX7_isWon) C dX7_won_19 ml_X7_254 mi_X7_isWon im_X7_isWon se_X7_isWon (r_isWon ((frA 144 (by omega)).trans e) hv hJ (fun o o0 o1 => by rw [h8 o o0 o1]; have := hv.2.2.2.1 o o0 (by omega); unfold v_c; omega)) rfl rfl (by decide) rfl (Nat.le_of_ble_eq_true rfl) (Nat.zero_le _) (Nat.zero_le _) rfl ?_
    rintro r A2 F2 ⟨rfl, rfl, frB⟩
    refine fc_eq (st' := [vI (fc_ind (z_wn (v_L v) (v 0) (A1 148)))]) rfl rfl ?_
    have fin : ∀ j : Nat, j ≠ 148 → j ≠ 149 → j ≠ 153 → j ≠ 156 → j ≠ 154 → j ≠ 155 → j ≠ 150 → A2 j = A j := fun j j1 j2 j3 _ _ _ _ => by rw [frB j j1 j2 j3]; exact frA j j1
    refine fc_if_eq (tgt := 29) C dX7_won_22 (by decide) (fc_ind_R _) (fun c22 => ?_) (fun c22 => ?_)
    · have c22 := fc_ind_0 c22
      refine fc_iconst C dX7_won_29 ?_
      exact fh_iretE C T dX7_won_30 (Or.inl rfl) (m_an.red RC fin (x_J_0 hJ) (fc_ind_f (fun h => c22 (hw.2 h))))
    · have c22 := fc_ind_ne c22
      refine fc_iconst C dX7_won_25 ?_
      refine fc_goto (tgt := 30) C dX7_won_26 (by decide) ?_
      exact fh_iretE C T dX7_won_30 (Or.inl rfl) (m_an.red RC fin (x_J_0 hJ) (fc_ind_t (hw.1 c22)))
  · have c4 := fc_ind_0 c4
    refine fc_aload_n C dX7_won_7 rfl rfl ?_
    refine fc_bipush C dX7_won_8 (by decide) ?_
    refine fh_callV (y := mX7_refuses) C dX7_won_10 ml_X7_80 mi_X7_refuses im_X7_refuses se_X7_refuses (r_refuses (Or.inr (Or.inl rfl))) rfl rfl (by decide) rfl (Nat.le_of_ble_eq_true rfl) (Nat.zero_le _) (Nat.zero_le _) rfl ?_
    exact fh_iretE C T dX7_won_13 (Or.inl rfl) (m_an.no RC (x_J_3 c4) (Or.inr (Or.inl rfl)))
theorem r_isLike (e : A 144 = v) (hv : v_ok v) {s : Int} (hs : 0 ≤ s ∧ s < 3) : fh_M mX7_isLike 2 [vR 143, vI s] A F (some (vI (fc_ind (s_J (v_L v) (v 0) ∧ v (36 + 6 * s) = v 0)))) A F := by
  have hn := hv.n
  have hk := hv.2.2.2.2.2.2.1 s hs.1 hs.2
  refine fh_M.of mi_X7_isLike (Nat.le_of_ble_eq_true rfl) ?_
  intro X C T
  have no : ¬ (s_J (v_L v) (v 0) ∧ v (36 + 6 * s) = v 0) → fc_W X 0 0 159 (fc_H A F) 23 [some (vR 143), some (vI s)] [] := by
    intro h
    refine fc_iconst C dX7_isLike_23 ?_
    exact fh_zret C T dX7_isLike_24 (by omega) (by rw [fc_ind_f h]) rfl
  refine fc_aload_n C dX7_isLike_0 rfl rfl ?_
  refine fh_callV (y := mX7_isJoined) C dX7_isLike_1 ml_X7_118 mi_X7_isJoined im_X7_isJoined se_X7_isJoined (r_isJoined e hn hv.g) rfl rfl (by decide) rfl (Nat.le_of_ble_eq_true rfl) (Nat.zero_le _) (Nat.zero_le _) rfl ?_
  refine fc_if_eq (tgt := 23) C dX7_isLike_4 (by decide) (fc_ind_R _) (fun c4 => ?_) (fun c4 => ?_)
  · have c4 := fc_ind_0 c4
    exact no (fun h => c4 h.1)
  · have hJ := fc_ind_ne c4
    refine fc_aload_n C dX7_isLike_7 rfl rfl ?_
    refine fc_iload_n C dX7_isLike_8 rfl rfl ?_
    refine fh_callV (y := mX7_keptMany) C dX7_isLike_9 ml_X7_279 mi_X7_keptMany im_X7_keptMany se_X7_keptMany (r_keptMany e hs) rfl rfl (by decide) rfl (Nat.le_of_ble_eq_true rfl) (Nat.zero_le _) (Nat.zero_le _) rfl ?_
    refine fc_aload_n C dX7_isLike_12 rfl rfl ?_
    refine fh_callV (y := mX7_many) C dX7_isLike_13 ml_X7_60 mi_X7_many im_X7_many se_X7_many (r_many e) rfl rfl (by decide) rfl (Nat.le_of_ble_eq_true rfl) (Nat.zero_le _) (Nat.zero_le _) rfl ?_
    refine fc_icmp_ne (tgt := 23) C dX7_isLike_16 (by decide) (fc_Rm (by omega)) (fc_Rm (by omega)) (fun c16 => ?_) (fun c16 => ?_)
    · exact no (fun h => c16 h.2)
    · refine fc_iconst C dX7_isLike_19 ?_
      refine fc_goto (tgt := 24) C dX7_isLike_20 (by decide) ?_
      exact fh_zret C T dX7_isLike_24 (by omega) (by rw [fc_ind_t ⟨hJ, by omega⟩]) rfl
theorem r_isEqual (e : A 144 = v) (hv : v_ok v) (hJ : s_J (v_L v) (v 0)) {s : Int} (hs : 0 ≤ s ∧ s < 3) : fh_E mX7_isEqual 5 [vR 143, vI s] A F (fun r A' F' => r = some (vI (fc_ind (s_eq v s))) ∧ F' = F ∧ (∀ j : Nat, j ≠ 148 → j ≠ 149 → j ≠ 153 → j ≠ 156 → A' j = A j)) := by
  have hn := hv.n
  have hg := hv.g
  have hq : (0 : Int) ≤ 0 ∧ (0 : Int) < v 0 := ⟨by omega, by omega⟩
  have hkb : ∀ p : Int, 0 ≤ p → p < v 0 → -999 ≤ v (37 + 6 * s + p) ∧ v (37 + 6 * s + p) ≤ 999 := fun p p0 p1 => hv.2.2.2.2.2.2.2 s p hs.1 hs.2 p0 (by omega)
  have hcb : ∀ p : Int, 0 ≤ p → p < v 0 → -999 ≤ v_c v p ∧ v_c v p ≤ 999 := fun p p0 p1 => hv.2.2.2.1 p p0 (by omega)
  -- bounds of a reduced row
  have hlc := s_lc_bd hg (n := v 0) (by omega) hn.2
  have hlc2 : 0 ≤ s_lc (v_L v) (v 0) ∧ s_lc (v_L v) (v 0) ≤ 75 := by
    unfold s_lc
    rw [Int.tdiv_eq_ediv_of_nonneg hlc.1]
    omega
  have bnd : ∀ x y : Int → Int, z_ss (v_L v) (v 0) 0 y → z_ev (v_L v) (v 0) y x → (∀ p : Int, 0 ≤ p → p < v 0 → -999 ≤ x p ∧ x p ≤ 999) → ∀ p : Int, 0 ≤ p → p < v 0 → -1000000 ≤ y p ∧ y p ≤ 1000000 := by
    intro x y hss hev hx p p0 p1
    have h1 := fs_sum5 (f := x) (n := v 0) (B := 999) (by omega) (by omega) hx
    have h2 := hev.deg hg hn
    have h3 := z_deg_g hg hn hq hss
    have h4 : fs_sum y (v 0).toNat = s_tot (v 0) 0 y + y 0 := s_tot_q hq
    have h5 := fs_sum_le (f := fun _ => 0) (g := fun o => if o = 0 then 0 else y o) (m := (v 0).toNat) (fun k k0 k1 => by
      by_cases c : k = 0
      · rw [if_pos c]; omega
      · rw [if_neg c]; exact hss.1 k k0 (by omega) c)
    rw [fs_sum_zero] at h5
    unfold s_tot at h4
    by_cases c : p = 0
    · rw [c]; omega
    · have h6 := fs_sum_mem (f := fun o => if o = 0 then 0 else y o) (m := (v 0).toNat) (k := p) (fun j j0 j1 => by
        by_cases c : j = 0
        · rw [if_pos c]; omega
        · rw [if_neg c]; exact hss.1 j j0 (by omega) c) p0 (by omega)
      rw [if_neg c] at h6
      have := hss.1 p p0 p1 c
      omega
  refine fh_E.of mi_X7_isEqual (Nat.le_of_ble_eq_true rfl) ?_
  intro X C T
  -- both rows lie there, reduced
  have cmp : ∀ (m : Nat) (k b : Int) (A1 : Nat → Int → Int), 0 ≤ k → k ≤ v 0 → v 0 - k < m → b = fc_ind (∀ p : Int, 0 ≤ p → p < k → A1 148 p = A1 156 p) → (∀ p : Int, 0 ≤ p → p < v 0 → -1000000 ≤ A1 148 p ∧ A1 148 p ≤ 1000000) → (∀ p : Int, 0 ≤ p → p < v 0 → -1000000 ≤ A1 156 p ∧ A1 156 p ≤ 1000000) → ((∀ p : Int, 0 ≤ p → p < v 0 → A1 148 p = A1 156 p) ↔ s_eq v s) → (∀ j : Nat, j ≠ 148 → j ≠ 149 → j ≠ 153 → j ≠ 156 → A1 j = A j) → fc_W X 0 0 159 (fc_H A1 F) 75 [some (vR 143), some (vI s), some (vI b), some (vI k)] [] := by
    intro m
    induction m with
    | zero => intro k b A1 z0 z1 z2; exfalso; omega
    | succ m ih =>
      intro k b A1 z0 z1 z2 hb b8 b6 hiff frA
      have hbR : fc_R b := by rw [hb]; exact fc_ind_R _
      refine fc_iload_n C dX7_isEqual_75 rfl rfl ?_
      refine fc_aload_n C dX7_isEqual_76 rfl rfl ?_
      refine fh_callV (y := mX7_many) C dX7_isEqual_77 ml_X7_60 mi_X7_many im_X7_many se_X7_many (r_many ((frA 144 (by omega) (by omega) (by omega) (by omega)).trans e)) rfl rfl (by decide) rfl (Nat.le_of_ble_eq_true rfl) (Nat.zero_le _) (Nat.zero_le _) rfl ?_
      refine fc_icmp_ge (tgt := 115) C dX7_isEqual_80 (by decide) (fc_Rm (by omega)) (fc_Rm (by omega)) (fun c80 => ?_) (fun c80 => ?_)
      · refine fc_iload_n C dX7_isEqual_115 rfl rfl ?_
        refine fh_iretE C T dX7_isEqual_116 (Or.inr ⟨rfl, by rw [hb]; exact fc_ind_01 _⟩) ⟨?_, rfl, frA⟩
        rw [hb, show k = v 0 by omega, fc_ind_congr hiff]
      · have nxt : ∀ x : Int, x = fc_ind (∀ p : Int, 0 ≤ p → p < k + 1 → A1 148 p = A1 156 p) → fc_W X 0 0 159 (fc_H A1 F) 108 [some (vR 143), some (vI s), some (vI b), some (vI k)] [vI x] := by
          intro x hx
          refine fc_istore_n C dX7_isEqual_108 rfl (by decide) ?_
          refine fc_iinc C dX7_isEqual_109 rfl (by decide) ?_
          refine fc_goto (tgt := 75) C dX7_isEqual_112 (by decide) ?_
          exact ih (k + 1) x A1 (by omega) (by omega) (by omega) hx b8 b6 hiff frA
        have c8 := b8 k z0 (by omega)
        have c6 := b6 k z0 (by omega)
        refine fc_iload_n C dX7_isEqual_83 rfl rfl ?_
        refine fc_if_eq (tgt := 107) C dX7_isEqual_84 (by decide) (hbR) (fun c84 => ?_) (fun c84 => ?_)
        · refine fc_iconst C dX7_isEqual_107 ?_
          have := fc_ind_0 (hb.symm.trans c84)
          exact nxt 0 (fc_ind_f (fun h => this (fun p p0 p1 => h p p0 (by omega)))).symm
        · have h9 := fc_ind_ne (P := ∀ p : Int, 0 ≤ p → p < k → A1 148 p = A1 156 p) (by rw [← hb]; exact c84)
          refine fc_aload_n C dX7_isEqual_87 rfl rfl ?_
          refine fh_getf C dX7_isEqual_88 fl_X7_22 rfl rfl ?_
          refine fc_iload_n C dX7_isEqual_91 rfl rfl ?_
          refine fh_laload C dX7_isEqual_92 (fun _ _ => rfl) (by omega) (by omega) (by decide) ?_
          refine fc_aload_n C dX7_isEqual_93 rfl rfl ?_
          refine fh_getf C dX7_isEqual_94 fl_X7_47 rfl rfl ?_
          refine fc_iload_n C dX7_isEqual_97 rfl rfl ?_
          refine fh_laload C dX7_isEqual_98 (fun _ _ => rfl) (by omega) (by omega) (by decide) ?_
          refine fc_lcmp C dX7_isEqual_99 (fc_RLm (by omega)) (fc_RLm (by omega)) ?_
          refine fc_if_ne (tgt := 107) C dX7_isEqual_100 (by decide) (fc_cmp_R _ _) (fun c100 => ?_) (fun c100 => ?_)
          · refine fc_iconst C dX7_isEqual_107 ?_
            exact nxt 0 (fc_ind_f (fun h => c100 (fc_cmp_eq.2 (h k z0 (by omega))))).symm
          · have c100 := fc_cmp_eq.1 c100
            refine fc_iconst C dX7_isEqual_103 ?_
            refine fc_goto (tgt := 108) C dX7_isEqual_104 (by decide) ?_
            refine nxt 1 (fc_ind_t (fun p p0 p1 => ?_)).symm
            by_cases c : p = k
            · rw [c]; exact c100
            · exact h9 p p0 (by omega)
  have keep : ∀ (m : Nat) (k : Int) (A1 : Nat → Int → Int) (y3 : Option fc_AV), 0 ≤ k → k ≤ v 0 → v 0 - k < m → z_ss (v_L v) (v 0) 0 (A1 148) → z_ev (v_L v) (v 0) (A1 148) (fun p => v (37 + 6 * s + p)) → (∀ p : Int, 0 ≤ p → p < k → A1 156 p = A1 148 p) → (∀ j : Nat, j ≠ 148 → j ≠ 149 → j ≠ 153 → j ≠ 156 → A1 j = A j) → fc_W X 0 0 159 (fc_H A1 F) 36 [some (vR 143), some (vI s), some (vI k), y3] [] := by
    intro m
    induction m with
    | zero => intro k A1 y3 z0 z1 z2; exfalso; omega
    | succ m ih =>
      intro k A1 y3 z0 z1 z2 hss hev h6 frA
      have e1 := (frA 144 (by omega) (by omega) (by omega) (by omega)).trans e
      refine fc_iload_n C dX7_isEqual_36 rfl rfl ?_
      refine fc_aload_n C dX7_isEqual_37 rfl rfl ?_
      refine fh_callV (y := mX7_many) C dX7_isEqual_38 ml_X7_60 mi_X7_many im_X7_many se_X7_many (r_many e1) rfl rfl (by decide) rfl (Nat.le_of_ble_eq_true rfl) (Nat.zero_le _) (Nat.zero_le _) rfl ?_
      refine fc_icmp_ge (tgt := 62) C dX7_isEqual_41 (by decide) (fc_Rm (by omega)) (fc_Rm (by omega)) (fun c41 => ?_) (fun c41 => ?_)
      · refine fc_aload_n C dX7_isEqual_62 rfl rfl ?_
        refine fh_callVE (y := mX7_laysChips) C dX7_isEqual_63 ml_X7_160 mi_X7_laysChips im_X7_laysChips se_X7_laysChips (r_laysChips e1 hv) rfl rfl (by decide) rfl (Nat.le_of_ble_eq_true rfl) (Nat.zero_le _) (Nat.zero_le _) rfl ?_
        rintro r A2 F2 ⟨rfl, rfl, frB, h8⟩
        refine fc_eq (st' := []) rfl rfl ?_
        refine fc_aload_n C dX7_isEqual_66 rfl rfl ?_
        refine fc_iconst C dX7_isEqual_67 ?_
        refine fh_callVE (y := mX7_reduces) C dX7_isEqual_68 ml_X7_251 mi_X7_reduces im_X7_reduces se_X7_reduces (r_reduces ((frB 144 (by omega)).trans e1) hv hJ (q := 0) hq (fun o o0 o1 => by rw [h8 o o0 o1]; have := hcb o o0 o1; omega)) rfl rfl (by decide) rfl (Nat.le_of_ble_eq_true rfl) (Nat.zero_le _) (Nat.zero_le _) rfl ?_
        rintro r A3 F3 ⟨rfl, rfl, frC, hss3, hev3⟩
        refine fc_eq (st' := []) rfl rfl ?_
        have hev3' := hev3.tr (z_ev.of h8)
        have h156 : ∀ p : Int, 0 ≤ p → p < v 0 → A3 156 p = A1 148 p := fun p p0 p1 => by rw [frC 156 (by omega) (by omega) (by omega), frB 156 (by omega)]; exact h6 p p0 (by omega)
        refine fc_iconst C dX7_isEqual_71 ?_
        refine fc_istore_n C dX7_isEqual_72 rfl (by decide) ?_
        refine fc_iconst C dX7_isEqual_73 ?_
        refine fc_istore_n C dX7_isEqual_74 rfl (by decide) ?_
        refine cmp 6 0 1 A3 (by omega) (by omega) (by omega) (fc_ind_t (fun p p0 p1 => by omega)).symm (bnd _ _ hss3 hev3' hcb) (fun p p0 p1 => by rw [h156 p p0 p1]; exact bnd _ _ hss hev hkb p p0 p1) ?_ (fun j j1 j2 j3 j4 => by rw [frC j j1 j2 j3, frB j j1]; exact frA j j1 j2 j3 j4)
        rw [s_eq_ev hv hJ]
        constructor
        · intro h
          have : z_ev (v_L v) (v 0) (A3 148) (A1 148) := z_ev.of fun p p0 p1 => by rw [h p p0 p1]; exact h156 p p0 p1
          exact (hev3'.sy.tr this).tr hev
        · intro h p p0 p1
          rw [h156 p p0 p1]
          exact hss3.uniq hg hn hq hss ((hev3'.tr h).tr hev.sy) p p0 p1
      · refine fc_aload_n C dX7_isEqual_44 rfl rfl ?_
        refine fh_getf C dX7_isEqual_45 fl_X7_47 rfl rfl ?_
        refine fc_iload_n C dX7_isEqual_48 rfl rfl ?_
        refine fc_aload_n C dX7_isEqual_49 rfl rfl ?_
        refine fh_getf C dX7_isEqual_50 fl_X7_22 rfl rfl ?_
        refine fc_iload_n C dX7_isEqual_53 rfl rfl ?_
        refine fh_laload C dX7_isEqual_54 (fun _ _ => rfl) (by omega) (by omega) (by decide) ?_
        refine fh_lastore C dX7_isEqual_55 (fun _ _ => rfl) (by omega) (by omega) (by decide) ?_
        refine fc_iinc C dX7_isEqual_56 rfl (by decide) ?_
        refine fc_goto (tgt := 36) C dX7_isEqual_59 (by decide) ?_
        refine ih (k + 1) _ _ (by omega) (by omega) (by omega) (by rw [fa_n _ _ (by omega)]; exact hss) (by rw [fa_n _ _ (by omega)]; exact hev) (fun p p0 p1 => ?_) (fun j j1 j2 j3 j4 => by rw [fa_n _ _ j4]; exact frA j j1 j2 j3 j4)
        rw [fa_s, fa_n _ _ (by omega)]
        unfold fc_set
        by_cases c : p = k
        · rw [if_pos c, c]
        · rw [if_neg c]; exact h6 p p0 (by omega)
  have lay : ∀ (m : Nat) (k : Int) (A1 : Nat → Int → Int), 0 ≤ k → k ≤ v 0 → v 0 - k < m → (∀ p : Int, 0 ≤ p → p < k → A1 148 p = v (37 + 6 * s + p)) → (∀ j : Nat, j ≠ 148 → A1 j = A j) → fc_W X 0 0 159 (fc_H A1 F) 2 [some (vR 143), some (vI s), some (vI k), none] [] := by
    intro m
    induction m with
    | zero => intro k A1 z0 z1 z2; exfalso; omega
    | succ m ih =>
      intro k A1 z0 z1 z2 h8 frA
      have e1 := (frA 144 (by omega)).trans e
      refine fc_iload_n C dX7_isEqual_2 rfl rfl ?_
      refine fc_aload_n C dX7_isEqual_3 rfl rfl ?_
      refine fh_callV (y := mX7_many) C dX7_isEqual_4 ml_X7_60 mi_X7_many im_X7_many se_X7_many (r_many e1) rfl rfl (by decide) rfl (Nat.le_of_ble_eq_true rfl) (Nat.zero_le _) (Nat.zero_le _) rfl ?_
      refine fc_icmp_ge (tgt := 29) C dX7_isEqual_7 (by decide) (fc_Rm (by omega)) (fc_Rm (by omega)) (fun c7 => ?_) (fun c7 => ?_)
      · have h8' : ∀ p : Int, 0 ≤ p → p < v 0 → A1 148 p = v (37 + 6 * s + p) := fun p p0 p1 => h8 p p0 (by omega)
        refine fc_aload_n C dX7_isEqual_29 rfl rfl ?_
        refine fc_iconst C dX7_isEqual_30 ?_
        refine fh_callVE (y := mX7_reduces) C dX7_isEqual_31 ml_X7_251 mi_X7_reduces im_X7_reduces se_X7_reduces (r_reduces e1 hv hJ (q := 0) hq (fun o o0 o1 => by rw [h8' o o0 o1]; have := hkb o o0 o1; omega)) rfl rfl (by decide) rfl (Nat.le_of_ble_eq_true rfl) (Nat.zero_le _) (Nat.zero_le _) rfl ?_
        rintro r A2 F2 ⟨rfl, rfl, frB, hss, hev⟩
        refine fc_eq (st' := []) rfl rfl ?_
        refine fc_iconst C dX7_isEqual_34 ?_
        refine fc_istore_n C dX7_isEqual_35 rfl (by decide) ?_
        exact keep 6 0 A2 _ (by omega) (by omega) (by omega) hss (hev.tr (z_ev.of h8')) (fun p p0 p1 => by omega) (fun j j1 j2 j3 _ => by rw [frB j j1 j2 j3]; exact frA j j1)
      · have hb := hkb k z0 (by omega)
        refine fc_aload_n C dX7_isEqual_10 rfl rfl ?_
        refine fh_getf C dX7_isEqual_11 fl_X7_22 rfl rfl ?_
        refine fc_iload_n C dX7_isEqual_14 rfl rfl ?_
        refine fc_aload_n C dX7_isEqual_15 rfl rfl ?_
        refine fc_iload_n C dX7_isEqual_16 rfl rfl ?_
        refine fc_iload_n C dX7_isEqual_17 rfl rfl ?_
        refine fh_callV (y := mX7_kept) C dX7_isEqual_18 ml_X7_282 mi_X7_kept im_X7_kept se_X7_kept (r_kept e1 hs ⟨z0, by omega⟩) rfl rfl (by decide) rfl (Nat.le_of_ble_eq_true rfl) (Nat.zero_le _) (Nat.zero_le _) rfl ?_
        refine fc_i2l C dX7_isEqual_21 (fc_Rm (by omega)) ?_
        refine fh_lastore C dX7_isEqual_22 (fun _ _ => rfl) (by omega) (by omega) (by decide) ?_
        refine fc_iinc C dX7_isEqual_23 rfl (by decide) ?_
        refine fc_goto (tgt := 2) C dX7_isEqual_26 (by decide) ?_
        refine ih (k + 1) _ (by omega) (by omega) (by omega) (fun p p0 p1 => ?_) (fun j hj => by rw [fa_n _ _ hj]; exact frA j hj)
        rw [fa_s]
        unfold fc_set
        by_cases c : p = k
        · rw [if_pos c, c]
        · rw [if_neg c]; exact h8 p p0 (by omega)
  refine fc_iconst C dX7_isEqual_0 ?_
  refine fc_istore_n C dX7_isEqual_1 rfl (by decide) ?_
  exact lay 6 0 A (by omega) (by omega) (by omega) (fun p p0 p1 => by omega) (fun _ _ => rfl)
theorem q_equal (RC : m_RC A F v ps st rf tx tl) {s : Int} (hs : fc_R s) : fh_E mX7_equal 6 [vR 143, vI s] A F (m_an A F (x_ke v s) (fc_ind (s_eq v s)) v ps st rf tx tl) := by
  obtain ⟨e, hv, -, -, -, hm⟩ := id RC
  have hn := hv.n
  refine fh_E.of mi_X7_equal (Nat.le_of_ble_eq_true rfl) ?_
  intro X C T
  refine fc_iload_n C dX7_equal_0 rfl rfl ?_
  refine fc_i2l C dX7_equal_1 hs ?_
  refine fc_lconst (z := 0) C dX7_equal_2 rfl ?_
  refine fc_ldc2_w C dX7_equal_3 kc_X7_76 ?_
  refine fh_callS (y := mX7_in) C dX7_equal_6 ml_X7_64 mi_X7_in st_X7_in (r_in hs.L (fc_RLm (by omega)) (fc_RLm (by omega))) (by decide) rfl (Nat.le_of_ble_eq_true rfl) (Nat.zero_le _) (Nat.zero_le _) rfl ?_
  refine fc_if_ne (tgt := 19) C dX7_equal_9 (by decide) (fc_ind_R _) (fun c9 => ?_) (fun c9 => ?_)
  · have c9 := fc_ind_ne c9
    have hs3 : 0 ≤ s ∧ s < 3 := by omega
    refine fc_aload_n C dX7_equal_19 rfl rfl ?_
    refine fc_iload_n C dX7_equal_20 rfl rfl ?_
    refine fh_callV (y := mX7_isLike) C dX7_equal_21 ml_X7_285 mi_X7_isLike im_X7_isLike se_X7_isLike (r_isLike e hv hs3) rfl rfl (by decide) rfl (Nat.le_of_ble_eq_true rfl) (Nat.zero_le _) (Nat.zero_le _) rfl ?_
    refine fc_if_ne (tgt := 36) C dX7_equal_24 (by decide) (fc_ind_R _) (fun c24 => ?_) (fun c24 => ?_)
    · have c24 := fc_ind_ne c24
      have hx : x_ke v s = 0 := by unfold x_ke; rw [if_pos hs3, if_pos (fc_ind_t c24)]
      refine fc_aload_n C dX7_equal_36 rfl rfl ?_
      refine fc_iload_n C dX7_equal_37 rfl rfl ?_
      refine fh_callVE (y := mX7_isEqual) C dX7_equal_38 ml_X7_288 mi_X7_isEqual im_X7_isEqual se_X7_isEqual (r_isEqual e hv c24.1 hs3) rfl rfl (by decide) rfl (Nat.le_of_ble_eq_true rfl) (Nat.zero_le _) (Nat.zero_le _) rfl ?_
      rintro r A1 F1 ⟨rfl, rfl, frA⟩
      refine fc_eq (st' := [vI (fc_ind (s_eq v s))]) rfl rfl ?_
      refine fc_if_eq (tgt := 48) C dX7_equal_41 (by decide) (fc_ind_R _) (fun c41 => ?_) (fun c41 => ?_)
      · refine fc_iconst C dX7_equal_48 ?_
        exact fh_iretE C T dX7_equal_49 (Or.inl rfl) (m_an.red RC (fun j j1 j2 j3 j4 _ _ _ => frA j j1 j2 j3 j4) hx c41)
      · refine fc_iconst C dX7_equal_44 ?_
        refine fc_goto (tgt := 49) C dX7_equal_45 (by decide) ?_
        exact fh_iretE C T dX7_equal_49 (Or.inl rfl) (m_an.red RC (fun j j1 j2 j3 j4 _ _ _ => frA j j1 j2 j3 j4) hx (fc_ind_t (fc_ind_ne c41)))
    · have c24 := fc_ind_0 c24
      refine fc_aload_n C dX7_equal_27 rfl rfl ?_
      refine fc_bipush C dX7_equal_28 (by decide) ?_
      refine fh_callV (y := mX7_refuses) C dX7_equal_30 ml_X7_80 mi_X7_refuses im_X7_refuses se_X7_refuses (r_refuses (Or.inr (Or.inl rfl))) rfl rfl (by decide) rfl (Nat.le_of_ble_eq_true rfl) (Nat.zero_le _) (Nat.zero_le _) rfl ?_
      refine fc_goto (tgt := 49) C dX7_equal_33 (by decide) ?_
      exact fh_iretE C T dX7_equal_49 (Or.inl rfl) (m_an.no RC (by unfold x_ke; rw [if_pos hs3, if_neg (by rw [fc_ind_f c24]; decide)]) (Or.inr (Or.inl rfl)))
  · have c9 := fc_ind_0 c9
    refine fc_aload_n C dX7_equal_12 rfl rfl ?_
    refine fc_bipush C dX7_equal_13 (by decide) ?_
    refine fh_callV (y := mX7_refuses) C dX7_equal_15 ml_X7_80 mi_X7_refuses im_X7_refuses se_X7_refuses (r_refuses (Or.inl rfl)) rfl rfl (by decide) rfl (Nat.le_of_ble_eq_true rfl) (Nat.zero_le _) (Nat.zero_le _) rfl ?_
    exact fh_iretE C T dX7_equal_18 (Or.inl rfl) (m_an.no RC (if_neg (by omega)) (Or.inl rfl))
end REF12
