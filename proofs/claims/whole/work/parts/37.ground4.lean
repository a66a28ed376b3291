/-! Grounded: divisors, the least multiple, ways -/
def fb_b1 (x : Int) : Int := x - fc_and (fc_ushr x 1) 1431655765
def fb_b2 (x : Int) : Int := fc_and x 858993459 + fc_and (fc_ushr x 2) 858993459
def fb_b3 (x : Int) : Int := fc_and (x + fc_ushr x 4) 252645135
def fb_b4 (x : Int) : Int := x + fc_ushr x 8
def fb_b5 (x : Int) : Int := x + fc_ushr x 16
theorem fb_pc {x : Int} (h0 : 0 ≤ x) (h1 : x < 32) : fc_and (fb_b5 (fb_b4 (fb_b3 (fb_b2 (fb_b1 x))))) 63 = s_pc x := by
  have key : ∀ k : Fin 32, fc_and (fb_b5 (fb_b4 (fb_b3 (fb_b2 (fb_b1 ((k.val : Nat) : Int)))))) 63 = s_pc ((k.val : Nat) : Int) := by decide +kernel
  exact fz_lt (P := fun x => fc_and (fb_b5 (fb_b4 (fb_b3 (fb_b2 (fb_b1 x))))) 63 = s_pc x) (N := 32) key h0 h1
section GR4
variable {A : Nat → Int → Int} {F : Nat → Nat → Int} {L : Int → Int → Int} {n q : Int}
theorem c_bitCount {x : Int} (h0 : 0 ≤ x) (h1 : x < 32) : fh_M mJ6_bitCount_0f7a4 0 [vI x] A F (some (vI (s_pc x))) A F := by
  refine fh_M.of mi_J6_bitCount_0f7a4 (Nat.le_of_ble_eq_true rfl) ?_
  intro X C T
  refine fc_iload_n C dJ6_bitCount_0f7a4_0 rfl rfl ?_
  refine fc_iload_n C dJ6_bitCount_0f7a4_1 rfl rfl ?_
  refine fc_iconst C dJ6_bitCount_0f7a4_2 ?_
  refine fc_iushr C dJ6_bitCount_0f7a4_3 ?_
  refine fc_ldc_w C dJ6_bitCount_0f7a4_4 kc_J6_265 ?_
  refine fc_iand C dJ6_bitCount_0f7a4_7 ?_
  refine fc_isub C dJ6_bitCount_0f7a4_8 ?_
  refine fc_istore_n C dJ6_bitCount_0f7a4_9 rfl (by decide) ?_
  refine fc_iload_n C dJ6_bitCount_0f7a4_10 rfl rfl ?_
  refine fc_ldc_w C dJ6_bitCount_0f7a4_11 kc_J6_266 ?_
  refine fc_iand C dJ6_bitCount_0f7a4_14 ?_
  refine fc_iload_n C dJ6_bitCount_0f7a4_15 rfl rfl ?_
  refine fc_iconst C dJ6_bitCount_0f7a4_16 ?_
  refine fc_iushr C dJ6_bitCount_0f7a4_17 ?_
  refine fc_ldc_w C dJ6_bitCount_0f7a4_18 kc_J6_266 ?_
  refine fc_iand C dJ6_bitCount_0f7a4_21 ?_
  refine fc_iadd C dJ6_bitCount_0f7a4_22 ?_
  refine fc_istore_n C dJ6_bitCount_0f7a4_23 rfl (by decide) ?_
  refine fc_iload_n C dJ6_bitCount_0f7a4_24 rfl rfl ?_
  refine fc_iload_n C dJ6_bitCount_0f7a4_25 rfl rfl ?_
  refine fc_iconst C dJ6_bitCount_0f7a4_26 ?_
  refine fc_iushr C dJ6_bitCount_0f7a4_27 ?_
  refine fc_iadd C dJ6_bitCount_0f7a4_28 ?_
  refine fc_ldc_w C dJ6_bitCount_0f7a4_29 kc_J6_267 ?_
  refine fc_iand C dJ6_bitCount_0f7a4_32 ?_
  refine fc_istore_n C dJ6_bitCount_0f7a4_33 rfl (by decide) ?_
  refine fc_iload_n C dJ6_bitCount_0f7a4_34 rfl rfl ?_
  refine fc_iload_n C dJ6_bitCount_0f7a4_35 rfl rfl ?_
  refine fc_bipush C dJ6_bitCount_0f7a4_36 (by decide) ?_
  refine fc_iushr C dJ6_bitCount_0f7a4_38 ?_
  refine fc_iadd C dJ6_bitCount_0f7a4_39 ?_
  refine fc_istore_n C dJ6_bitCount_0f7a4_40 rfl (by decide) ?_
  refine fc_iload_n C dJ6_bitCount_0f7a4_41 rfl rfl ?_
  refine fc_iload_n C dJ6_bitCount_0f7a4_42 rfl rfl ?_
  refine fc_bipush C dJ6_bitCount_0f7a4_43 (by decide) ?_
  refine fc_iushr C dJ6_bitCount_0f7a4_45 ?_
  refine fc_iadd C dJ6_bitCount_0f7a4_46 ?_
  refine fc_istore_n C dJ6_bitCount_0f7a4_47 rfl (by decide) ?_
  refine fc_iload_n C dJ6_bitCount_0f7a4_48 rfl rfl ?_
  refine fc_bipush C dJ6_bitCount_0f7a4_49 (by decide) ?_
  refine fc_iand C dJ6_bitCount_0f7a4_51 ?_
  exact fh_iret C T dJ6_bitCount_0f7a4_52 (by rw [← fb_pc h0 h1]; rfl) rfl
theorem ng_step {H Lo : Nat} : Nat.gcd H Lo = Nat.gcd Lo (H % Lo) := by rw [Nat.gcd_comm H Lo, Nat.gcd_rec Lo H, Nat.gcd_comm]
theorem ng_half {Lo R : Nat} (h0 : 0 < R) (h : R < Lo) : 2 * (Lo % R) < Lo := by
  have h1 := Nat.mod_lt Lo h0
  have h2 : Lo % R ≤ Lo - R := by
    rw [Nat.mod_eq_sub_mod (by omega)]
    exact Nat.mod_le _ _
  omega
theorem c_greatestDivisor {a b : Int} (ha : a.natAbs < 4611686018427387904) (hb : b.natAbs < 4611686018427387904) : fh_M mX1_greatestDivisor 1 [vL a, vL b] A F (some (vL ((Int.gcd a b : Nat) : Int))) A F := by
  refine fh_M.of mi_X1_greatestDivisor (Nat.le_of_ble_eq_true rfl) ?_
  intro X C T
  have ext : ∀ (H : Nat) (t : Int) (y1 y2 : Option fc_AV), 0 ≤ t → t < 1000000 → H = Int.gcd a b → fc_W X 0 0 159 (fc_H A F) 15 [some (vL a), none, some (vL b), none, some (vL (H : Int)), none, some (vL ((0 : Nat) : Int)), none, some (vI t), y1, y2] [] := by
    intro H t y1 y2 t0 t1 e
    refine fc_iload C dX1_greatestDivisor_15 rfl ?_
    refine fc_ldc C dX1_greatestDivisor_17 kc_X1_93 ?_
    refine fc_icmp_ge (tgt := 50) C dX1_greatestDivisor_19 (by decide) (fc_Rm (by omega)) (fc_Rm (by omega)) (fun c19 => ?_) (fun c19 => ?_)
    · exfalso; omega
    · refine fc_lload C dX1_greatestDivisor_22 rfl ?_
      refine fc_lconst (z := 0) C dX1_greatestDivisor_24 rfl ?_
      refine fc_lcmp C dX1_greatestDivisor_25 (fc_RLm (by omega)) (fc_RLm (by omega)) ?_
      refine fc_if_eq (tgt := 50) C dX1_greatestDivisor_26 (by decide) (fc_cmp_R _ _) (fun c26 => ?_) (fun c26 => ?_)
      · refine fc_lload C dX1_greatestDivisor_50 rfl ?_
        exact fh_lret C T dX1_greatestDivisor_52 (by rw [e]) rfl
      · exact absurd (fc_cmp_eq.2 rfl) c26
  have step : ∀ (H Lo : Nat) (t : Int) (y1 y2 : Option fc_AV), 0 ≤ t → t < 1000000 → 0 < Lo → H < 4611686018427387904 → Lo < 4611686018427387904 → (∀ y1 y2 : Option fc_AV, fc_W X 0 0 159 (fc_H A F) 15 [some (vL a), none, some (vL b), none, some (vL (Lo : Int)), none, some (vL ((H % Lo : Nat) : Int)), none, some (vI (t + 1)), y1, y2] []) → fc_W X 0 0 159 (fc_H A F) 15 [some (vL a), none, some (vL b), none, some (vL (H : Int)), none, some (vL (Lo : Int)), none, some (vI t), y1, y2] [] := by
    intro H Lo t y1 y2 t0 t1 hl b1 b2 k
    refine fc_iload C dX1_greatestDivisor_15 rfl ?_
    refine fc_ldc C dX1_greatestDivisor_17 kc_X1_93 ?_
    refine fc_icmp_ge (tgt := 50) C dX1_greatestDivisor_19 (by decide) (fc_Rm (by omega)) (fc_Rm (by omega)) (fun c19 => ?_) (fun c19 => ?_)
    · exfalso; omega
    · refine fc_lload C dX1_greatestDivisor_22 rfl ?_
      refine fc_lconst (z := 0) C dX1_greatestDivisor_24 rfl ?_
      refine fc_lcmp C dX1_greatestDivisor_25 (fc_RLm (by omega)) (fc_RLm (by omega)) ?_
      refine fc_if_eq (tgt := 50) C dX1_greatestDivisor_26 (by decide) (fc_cmp_R _ _) (fun c26 => ?_) (fun c26 => ?_)
      · have := fc_cmp_eq.1 c26
        exfalso; omega
      · refine fc_lload C dX1_greatestDivisor_29 rfl ?_
        refine fc_lload C dX1_greatestDivisor_31 rfl ?_
        refine fc_lrem C dX1_greatestDivisor_33 (fc_RLm (by omega)) (fc_RLm (by omega)) (by omega) ?_
        refine fc_lstore C dX1_greatestDivisor_34 (by decide) ?_
        refine fc_lload C dX1_greatestDivisor_36 rfl ?_
        refine fc_lstore C dX1_greatestDivisor_38 (by decide) ?_
        refine fc_lload C dX1_greatestDivisor_40 rfl ?_
        refine fc_lstore C dX1_greatestDivisor_42 (by decide) ?_
        refine fc_iinc C dX1_greatestDivisor_44 rfl (by decide) ?_
        refine fc_goto (tgt := 15) C dX1_greatestDivisor_47 (by decide) ?_
        have := k (some (vL ((H % Lo : Nat) : Int))) none
        rw [Int.ofNat_tmod] at this
        exact this
  have loop : ∀ (k : Nat) (H Lo : Nat) (t : Int) (y1 y2 : Option fc_AV), 0 ≤ t → t + 2 * k < 999999 → Lo < 2 ^ k → H < 4611686018427387904 → Lo < 4611686018427387904 → Nat.gcd H Lo = Int.gcd a b → fc_W X 0 0 159 (fc_H A F) 15 [some (vL a), none, some (vL b), none, some (vL (H : Int)), none, some (vL (Lo : Int)), none, some (vI t), y1, y2] [] := by
    intro k
    induction k with
    | zero =>
      intro H Lo t y1 y2 t0 t1 h1 h2 h3 e
      have : Lo = 0 := by simp at h1; exact h1
      subst this
      exact ext H t y1 y2 t0 (by omega) (by rw [← e, Nat.gcd_zero_right])
    | succ k ih =>
      intro H Lo t y1 y2 t0 t1 h1 h2 h3 e
      by_cases z : Lo = 0
      · subst z
        exact ext H t y1 y2 t0 (by omega) (by rw [← e, Nat.gcd_zero_right])
      · refine step H Lo t y1 y2 t0 (by omega) (by omega) h2 h3 (fun y1 y2 => ?_)
        have hr := Nat.mod_lt H (show 0 < Lo by omega)
        have e2 : Nat.gcd Lo (H % Lo) = Int.gcd a b := by rw [← ng_step]; exact e
        by_cases z2 : H % Lo = 0
        · rw [z2] at e2 ⊢
          exact ext Lo (t + 1) y1 y2 (by omega) (by omega) (by rw [← e2, Nat.gcd_zero_right])
        · have hh := ng_half (show 0 < H % Lo by omega) hr
          refine step Lo (H % Lo) (t + 1) y1 y2 (by omega) (by omega) (by omega) h3 (by omega) (fun y1 y2 => ?_)
          have hm := Nat.mod_lt Lo (show 0 < H % Lo by omega)
          rw [Nat.pow_succ] at h1
          exact ih _ _ (t + 1 + 1) y1 y2 (by omega) (by omega) (by omega) (by omega) (by omega) (by rw [← ng_step]; exact e2)
  refine fc_lload_n C dX1_greatestDivisor_0 rfl rfl ?_
  refine fh_callS (y := mJ9_abs_067f4) C dX1_greatestDivisor_1 ml_X1_87 mi_J9_abs_067f4 st_J9_abs_067f4 (c_labs (fc_RLm (by omega))) (by decide) rfl (Nat.le_of_ble_eq_true rfl) (Nat.zero_le _) (Nat.zero_le _) rfl ?_
  refine fc_lstore C dX1_greatestDivisor_4 (by decide) ?_
  refine fc_lload_n C dX1_greatestDivisor_6 rfl rfl ?_
  refine fh_callS (y := mJ9_abs_067f4) C dX1_greatestDivisor_7 ml_X1_87 mi_J9_abs_067f4 st_J9_abs_067f4 (c_labs (fc_RLm (by omega))) (by decide) rfl (Nat.le_of_ble_eq_true rfl) (Nat.zero_le _) (Nat.zero_le _) rfl ?_
  refine fc_lstore C dX1_greatestDivisor_10 (by decide) ?_
  refine fc_iconst C dX1_greatestDivisor_12 ?_
  refine fc_istore C dX1_greatestDivisor_13 (by decide) ?_
  exact loop 62 a.natAbs b.natAbs 0 none none (by omega) (by omega) hb ha hb rfl
theorem ig_dvd {d : Nat} {a b : Int} : d ∣ Int.gcd a b ↔ (d : Int) ∣ a ∧ (d : Int) ∣ b := by
  rw [Int.gcd, Nat.dvd_gcd_iff, Int.ofNat_dvd_left, Int.ofNat_dvd_left]
theorem c_leastMultiple (M : k_gw A F n q L) (hg : g_ok L) (hn : 2 ≤ n ∧ n ≤ 5) (hq : 0 ≤ q ∧ q < n) (hT : 0 < d_T L n q) {i : Nat} (hi : ∀ (a : Int → Int) (f : Nat → Int), fc_S i a f = cI 5 a) (hi2 : i ≠ 30) (hx : ∀ p : Int, 0 ≤ p → p < n → -1000000 ≤ A i p ∧ A i p ≤ 1000000) : fh_E mX1_leastMultiple 2 [vR 17, vR i] A F (fun r A' F' => F' = F ∧ (∀ j : Nat, j ≠ 30 → A' j = A j) ∧ ∃ g : Nat, 0 < g ∧ r = some (vL ((d_T L n q).tdiv g)) ∧ ∀ d : Nat, d ∣ g ↔ (d : Int) ∣ d_T L n q ∧ ∀ p : Int, 0 ≤ p → p < n → (d : Int) ∣ d_sv L n q (A i) p) := by
  have e8 := M.2.1
  have e6 := M.1.1
  have hTb := d_T_bd hg hn (q := q)
  refine fh_E.of mi_X1_leastMultiple (Nat.le_of_ble_eq_true rfl) ?_
  intro X C T
  refine fc_aload_n C dX1_leastMultiple_0 rfl rfl ?_
  refine fc_aload_n C dX1_leastMultiple_1 rfl rfl ?_
  refine fh_callVE (y := mX1_solve) C dX1_leastMultiple_2 ml_X1_102 mi_X1_solve im_X1_solve se_X1_solve (c_solve M hn hq hi hi2 hx) rfl rfl (by decide) rfl (Nat.le_of_ble_eq_true rfl) (Nat.zero_le _) (Nat.zero_le _) rfl ?_
  rintro r A1 F1 ⟨rfl, rfl, hsv, fr⟩
  refine fc_eq (st' := []) rfl rfl ?_
  have loop : ∀ (m : Nat) (k : Int) (g : Nat), 0 ≤ k → k ≤ n → n - k < m → 0 < g → g < 4611686018427387904 → (∀ d : Nat, d ∣ g ↔ (d : Int) ∣ d_T L n q ∧ ∀ p : Int, 0 ≤ p → p < k → (d : Int) ∣ d_sv L n q (A i) p) → fc_W X 0 0 159 (fc_H A1 F1) 13 [some (vR 17), some (vR i), some (vL (g : Int)), none, some (vI k)] [] := by
    intro m
    induction m with
    | zero => intro k g z0 z1 z2; exfalso; omega
    | succ m ih =>
      intro k g z0 z1 z2 g0 g1 hd
      refine fc_iload C dX1_leastMultiple_13 rfl ?_
      refine fc_aload_n C dX1_leastMultiple_15 rfl rfl ?_
      refine fh_getf C dX1_leastMultiple_16 fl_X1_35 rfl rfl ?_
      refine fc_icmp_ge (tgt := 40) C dX1_leastMultiple_19 (by decide) (fc_Rm (by omega)) (fc_Rm (by omega)) (fun c19 => ?_) (fun c19 => ?_)
      · refine fc_lload_n C dX1_leastMultiple_40 rfl rfl ?_
        refine fc_lconst (z := 0) C dX1_leastMultiple_41 rfl ?_
        refine fc_lcmp C dX1_leastMultiple_42 (fc_RLm (by omega)) (fc_RLm (by omega)) ?_
        refine fc_if_le (tgt := 55) C dX1_leastMultiple_43 (by decide) (fc_cmp_R _ _) (fun c43 => ?_) (fun c43 => ?_)
        · have := fc_cmp_gt.2 (show (0 : Int) < (g : Int) by omega)
          exfalso; omega
        · refine fc_aload_n C dX1_leastMultiple_46 rfl rfl ?_
          refine fh_getf C dX1_leastMultiple_47 fl_X1_42 rfl rfl ?_
          refine fc_lload_n C dX1_leastMultiple_50 rfl rfl ?_
          refine fc_ldiv C dX1_leastMultiple_51 (by rw [e8]; exact fc_RLm (by omega)) (fc_RLm (by omega)) (by omega) ?_
          refine fc_goto (tgt := 56) C dX1_leastMultiple_52 (by decide) ?_
          exact fh_lretE C T dX1_leastMultiple_56 ⟨rfl, fr, g, g0, by rw [e8], fun d => (hd d).trans ⟨fun h => ⟨h.1, fun p p0 p1 => h.2 p p0 (by omega)⟩, fun h => ⟨h.1, fun p p0 p1 => h.2 p p0 (by omega)⟩⟩⟩
      · have hb := d_sv_bd hg hn (q := q) (a := k) hx
        have hk := hsv k z0 (by omega)
        refine fc_lload_n C dX1_leastMultiple_22 rfl rfl ?_
        refine fc_aload_n C dX1_leastMultiple_23 rfl rfl ?_
        refine fh_getf C dX1_leastMultiple_24 fl_X1_21 rfl rfl ?_
        refine fc_iload C dX1_leastMultiple_27 rfl ?_
        refine fh_laload C dX1_leastMultiple_29 (fun _ _ => rfl) (by omega) (by omega) (by decide) ?_
        refine fh_callS (y := mX1_greatestDivisor) C dX1_leastMultiple_30 ml_X1_83 mi_X1_greatestDivisor st_X1_greatestDivisor (c_greatestDivisor (by omega) (by rw [hk]; omega)) (by decide) rfl (Nat.le_of_ble_eq_true rfl) (Nat.zero_le _) (Nat.zero_le _) rfl ?_
        refine fc_lstore_n C dX1_leastMultiple_33 rfl (by decide) ?_
        refine fc_iinc C dX1_leastMultiple_34 rfl (by decide) ?_
        refine fc_goto (tgt := 13) C dX1_leastMultiple_37 (by decide) ?_
        have hgp : 0 < Int.gcd (g : Int) (A1 30 k) := Int.gcd_pos_of_ne_zero_left _ (by omega)
        have hgl : Int.gcd (g : Int) (A1 30 k) ≤ g := by
          have := Nat.le_of_dvd g0 (Nat.gcd_dvd_left g (A1 30 k).natAbs)
          exact this
        refine ih (k + 1) _ (by omega) (by omega) (by omega) hgp (by omega) (fun d => ?_)
        rw [ig_dvd, Int.natCast_dvd_natCast, hd d, hk]
        constructor
        · intro h
          refine ⟨h.1.1, fun p p0 p1 => ?_⟩
          by_cases e : p = k
          · rw [e]; exact h.2
          · exact h.1.2 p p0 (by omega)
        · intro h
          exact ⟨⟨h.1, fun p p0 p1 => h.2 p p0 (by omega)⟩, h.2 k z0 (by omega)⟩
  refine fc_aload_n C dX1_leastMultiple_5 rfl rfl ?_
  refine fh_getf C dX1_leastMultiple_6 fl_X1_42 rfl rfl ?_
  refine fc_lstore_n C dX1_leastMultiple_9 rfl (by decide) ?_
  refine fc_iconst C dX1_leastMultiple_10 ?_
  refine fc_istore C dX1_leastMultiple_11 (by decide) ?_
  rw [e8]
  have := loop 6 0 (d_T L n q).toNat (by omega) (by omega) (by omega) (by omega) (by omega) (fun d => by
    rw [← Int.natCast_dvd_natCast, Int.toNat_of_nonneg (by omega)]
    exact ⟨fun h => ⟨h, fun p p0 p1 => by exfalso; omega⟩, fun h => h.1⟩)
  rw [Int.toNat_of_nonneg (by omega)] at this
  exact this
theorem c_findWay (M : k_gw A F n q L) (hg : g_ok L) (hn : 2 ≤ n ∧ n ≤ 5) (hq : 0 ≤ q ∧ q < n) (hT : 0 < d_T L n q) {i j : Nat} (hi : ∀ (a : Int → Int) (f : Nat → Int), fc_S i a f = cI 5 a) (hi2 : i ≠ 31) (hj : ∀ (a : Int → Int) (f : Nat → Int), fc_S j a f = cI 5 a) (hj2 : j ≠ 31) (hx : ∀ p : Int, 0 ≤ p → p < n → -1000 ≤ A i p ∧ A i p ≤ 1000) (hy : ∀ p : Int, 0 ≤ p → p < n → -1000 ≤ A j p ∧ A j p ≤ 1000) : fh_E mX1_findWay 1 [vR 17, vR i, vR j] A F (fun r A' F' => F' = F ∧ (∀ k : Nat, k ≠ 30 → k ≠ 31 → A' k = A k) ∧ r = some (vI (fc_ind (fs_sum (fun p => A i p - A j p) n.toNat = 0 ∧ ∀ p : Int, 0 ≤ p → p < n → (d_sv L n q (fun p => A i p - A j p) p).tmod (d_T L n q) = 0))) ∧ ((fs_sum (fun p => A i p - A j p) n.toNat = 0 ∧ ∀ p : Int, 0 ≤ p → p < n → (d_sv L n q (fun p => A i p - A j p) p).tmod (d_T L n q) = 0) → ∀ p : Int, 0 ≤ p → p < n → A' 30 p = d_sv L n q (fun p => A i p - A j p) p)) := by
  have e8 := M.2.1
  have e6 := M.1.1
  have hTb := d_T_bd hg hn (q := q)
  refine fh_E.of mi_X1_findWay (Nat.le_of_ble_eq_true rfl) ?_
  intro X C T
  have hsvc : ∀ (x : Int → Int), (∀ p : Int, 0 ≤ p → p < n → x p = A i p - A j p) → ∀ a : Int, d_sv L n q x a = d_sv L n q (fun p => A i p - A j p) a := fun x hx a => by
    unfold d_sv
    split
    · rfl
    · refine fs_sum_congr fun k k0 k1 => ?_
      split
      · rfl
      · rw [hx k k0 (by omega)]
  have loop1 : ∀ (m : Nat) (k : Int) (A1 : Nat → Int → Int), 0 ≤ k → k ≤ n → n - k < m → (∀ p : Int, 0 ≤ p → p < k → A1 31 p = A i p - A j p) → (∀ o : Nat, o ≠ 31 → A1 o = A o) → fc_W X 0 0 159 (fc_H A1 F) 2 [some (vR 17), some (vR i), some (vR j), some (vI k)] [] := by
    intro m
    induction m with
    | zero => intro k A1 z0 z1 z2; exfalso; omega
    | succ m ih =>
      intro k A1 z0 z1 z2 h31 fr
      refine fc_iload_n C dX1_findWay_2 rfl rfl ?_
      refine fc_aload_n C dX1_findWay_3 rfl rfl ?_
      refine fh_getf C dX1_findWay_4 fl_X1_35 rfl rfl ?_
      refine fc_icmp_ge (tgt := 29) C dX1_findWay_7 (by decide) (fc_Rm (by omega)) (fc_Rm (by omega)) (fun c7 => ?_) (fun c7 => ?_)
      · have ek : k = n := by omega
        have hd : fs_sum (A1 31) n.toNat = fs_sum (fun p => A i p - A j p) n.toNat := fs_sum_congr fun p p0 p1 => h31 p p0 (by omega)
        have hdb : -10000 ≤ fs_sum (fun p => A i p - A j p) n.toNat ∧ fs_sum (fun p => A i p - A j p) n.toNat ≤ 10000 := by
          have := fs_sum5 (f := fun p => A i p - A j p) (B := 2000) (n := n) (by omega) (by omega) (fun p p0 p1 => by have := hx p p0 p1; have := hy p p0 p1; show -2000 ≤ A i p - A j p ∧ A i p - A j p ≤ 2000; omega)
          omega
        refine fc_aload_n C dX1_findWay_29 rfl rfl ?_
        refine fh_getf C dX1_findWay_30 fl_X1_42 rfl rfl ?_
        refine fc_lconst (z := 0) C dX1_findWay_33 rfl ?_
        refine fc_lcmp C dX1_findWay_34 (fc_RLm (by omega)) (fc_RLm (by omega)) ?_
        rw [e8]
        refine fc_if_le (tgt := 52) C dX1_findWay_35 (by decide) (fc_cmp_R _ _) (fun c35 => ?_) (fun c35 => ?_)
        · have := fc_cmp_gt.2 hT
          exfalso; omega
        · refine fc_aload_n C dX1_findWay_38 rfl rfl ?_
          refine fh_getf C dX1_findWay_39 fl_X1_25 rfl rfl ?_
          refine fc_aload_n C dX1_findWay_42 rfl rfl ?_
          refine fh_getf C dX1_findWay_43 fl_X1_35 rfl rfl ?_
          refine fh_callS (y := mX6_degreeOf) C dX1_findWay_46 ml_X1_118 mi_X6_degreeOf st_X6_degreeOf (c_degreeOf (fun _ _ => rfl) (by omega) (by omega)) (by decide) rfl (Nat.le_of_ble_eq_true rfl) (Nat.zero_le _) (Nat.zero_le _) rfl ?_
          refine fc_eq (st' := [vI (fs_sum (fun p => A i p - A j p) n.toNat)]) rfl (by rw [e6, hd]) ?_
          refine fc_if_eq (tgt := 54) C dX1_findWay_49 (by decide) (fc_Rm (by omega)) (fun c49 => ?_) (fun c49 => ?_)
          · have M1 : k_gw A1 F n q L := M.fr hn (fun o o0 o1 => fr o (by omega)) (fr 32 (by omega)) rfl
            refine fc_aload_n C dX1_findWay_54 rfl rfl ?_
            refine fc_aload_n C dX1_findWay_55 rfl rfl ?_
            refine fh_getf C dX1_findWay_56 fl_X1_25 rfl rfl ?_
            refine fh_callVE (y := mX1_solve) C dX1_findWay_59 ml_X1_102 mi_X1_solve im_X1_solve se_X1_solve (c_solve M1 hn hq (i := 31) (fun _ _ => rfl) (by omega) (fun p p0 p1 => by rw [h31 p p0 (by omega)]; have := hx p p0 p1; have := hy p p0 p1; omega)) rfl rfl (by decide) rfl (Nat.le_of_ble_eq_true rfl) (Nat.zero_le _) (Nat.zero_le _) rfl ?_
            rintro r A2 F2 ⟨rfl, rfl, hsv, fr2⟩
            refine fc_eq (st' := []) rfl rfl ?_
            have frA : ∀ o : Nat, o ≠ 30 → o ≠ 31 → A2 o = A o := fun o o0 o1 => (fr2 o o0).trans (fr o o1)
            have hsv2 : ∀ p : Int, 0 ≤ p → p < n → A2 30 p = d_sv L n q (fun p => A i p - A j p) p := fun p p0 p1 => by rw [hsv p p0 p1]; exact hsvc _ (fun o o0 o1 => h31 o o0 (by omega)) p
            have loop2 : ∀ (m2 : Nat) (k2 : Int), 0 ≤ k2 → k2 ≤ n → n - k2 < m2 → (∀ p : Int, 0 ≤ p → p < k2 → (d_sv L n q (fun p => A i p - A j p) p).tmod (d_T L n q) = 0) → fc_W X 0 0 159 (fc_H A2 F2) 64 [some (vR 17), some (vR i), some (vR j), some (vI k2)] [] := by
              intro m2
              induction m2 with
              | zero => intro k2 w0 w1 w2; exfalso; omega
              | succ m2 ih2 =>
                intro k2 w0 w1 w2 hk
                refine fc_iload_n C dX1_findWay_64 rfl rfl ?_
                refine fc_aload_n C dX1_findWay_65 rfl rfl ?_
                refine fh_getf C dX1_findWay_66 fl_X1_35 rfl rfl ?_
                refine fc_icmp_ge (tgt := 96) C dX1_findWay_69 (by decide) (fc_Rm (by omega)) (fc_Rm (by omega)) (fun c69 => ?_) (fun c69 => ?_)
                · refine fc_iconst C dX1_findWay_96 ?_
                  have hyes : fs_sum (fun p => A i p - A j p) n.toNat = 0 ∧ ∀ p : Int, 0 ≤ p → p < n → (d_sv L n q (fun p => A i p - A j p) p).tmod (d_T L n q) = 0 := ⟨c49, fun p p0 p1 => hk p p0 (by omega)⟩
                  exact fh_iretE C T dX1_findWay_97 (Or.inr ⟨rfl, Or.inr rfl⟩) ⟨rfl, frA, by unfold fc_ind; rw [if_pos hyes], fun _ => hsv2⟩
                · have hb := d_sv_bd hg hn (q := q) (a := k2) (x := fun p => A i p - A j p) (fun p p0 p1 => by have := hx p p0 p1; have := hy p p0 p1; show -1000000 ≤ A i p - A j p ∧ A i p - A j p ≤ 1000000; omega)
                  have h30 := hsv2 k2 w0 (by omega)
                  have htm := Int.tmod_lt_of_pos (d_sv L n q (fun p => A i p - A j p) k2) hT
                  have htm2 : -(d_T L n q) < (d_sv L n q (fun p => A i p - A j p) k2).tmod (d_T L n q) := by
                    have h := Int.tmod_lt_of_pos (-(d_sv L n q (fun p => A i p - A j p) k2)) hT
                    rw [Int.neg_tmod] at h
                    omega
                  refine fc_aload_n C dX1_findWay_72 rfl rfl ?_
                  refine fh_getf C dX1_findWay_73 fl_X1_21 rfl rfl ?_
                  refine fc_iload_n C dX1_findWay_76 rfl rfl ?_
                  refine fh_laload C dX1_findWay_77 (fun _ _ => rfl) (by omega) (by omega) (by decide) ?_
                  refine fc_aload_n C dX1_findWay_78 rfl rfl ?_
                  refine fh_getf C dX1_findWay_79 fl_X1_42 rfl rfl ?_
                  refine fc_lrem C dX1_findWay_82 (by rw [h30]; exact fc_RLm (by omega)) (by rw [e8]; exact fc_RLm (by omega)) (by omega) ?_
                  rw [h30, e8]
                  refine fc_lconst (z := 0) C dX1_findWay_83 rfl ?_
                  refine fc_lcmp C dX1_findWay_84 (fc_RLm (by omega)) (fc_RLm (by omega)) ?_
                  refine fc_if_eq (tgt := 90) C dX1_findWay_85 (by decide) (fc_cmp_R _ _) (fun c85 => ?_) (fun c85 => ?_)
                  · have c85 := fc_cmp_eq.1 c85
                    refine fc_iinc C dX1_findWay_90 rfl (by decide) ?_
                    refine fc_goto (tgt := 64) C dX1_findWay_93 (by decide) ?_
                    exact ih2 (k2 + 1) (by omega) (by omega) (by omega) (fun p p0 p1 => by
                      by_cases e : p = k2
                      · rw [e]; exact c85
                      · exact hk p p0 (by omega))
                  · refine fc_iconst C dX1_findWay_88 ?_
                    have hno : ¬ (fs_sum (fun p => A i p - A j p) n.toNat = 0 ∧ ∀ p : Int, 0 ≤ p → p < n → (d_sv L n q (fun p => A i p - A j p) p).tmod (d_T L n q) = 0) := fun h => c85 (fc_cmp_eq.2 (h.2 k2 w0 (by omega)))
                    exact fh_iretE C T dX1_findWay_89 (Or.inr ⟨rfl, Or.inl rfl⟩) ⟨rfl, frA, by unfold fc_ind; rw [if_neg hno], fun h => absurd h hno⟩
            refine fc_iconst C dX1_findWay_62 ?_
            refine fc_istore_n C dX1_findWay_63 rfl (by decide) ?_
            exact loop2 6 0 (by omega) (by omega) (by omega) (fun p p0 p1 => by exfalso; omega)
          · refine fc_iconst C dX1_findWay_52 ?_
            have hno : ¬ (fs_sum (fun p => A i p - A j p) n.toNat = 0 ∧ ∀ p : Int, 0 ≤ p → p < n → (d_sv L n q (fun p => A i p - A j p) p).tmod (d_T L n q) = 0) := fun h => c49 h.1
            exact fh_iretE C T dX1_findWay_53 (Or.inr ⟨rfl, Or.inl rfl⟩) ⟨rfl, fun o _ o1 => fr o o1, by unfold fc_ind; rw [if_neg hno], fun h => absurd h hno⟩
      · refine fc_aload_n C dX1_findWay_10 rfl rfl ?_
        refine fh_getf C dX1_findWay_11 fl_X1_25 rfl rfl ?_
        refine fc_iload_n C dX1_findWay_14 rfl rfl ?_
        refine fc_aload_n C dX1_findWay_15 rfl rfl ?_
        refine fc_iload_n C dX1_findWay_16 rfl rfl ?_
        refine fh_iaload C dX1_findWay_17 hi (by omega) (by omega) (by decide) ?_
        refine fc_aload_n C dX1_findWay_18 rfl rfl ?_
        refine fc_iload_n C dX1_findWay_19 rfl rfl ?_
        refine fh_iaload C dX1_findWay_20 hj (by omega) (by omega) (by decide) ?_
        refine fc_isub C dX1_findWay_21 ?_
        refine fh_iastore C dX1_findWay_22 (fun _ _ => rfl) (by omega) (by omega) (by decide) ?_
        refine fc_iinc C dX1_findWay_23 rfl (by decide) ?_
        refine fc_goto (tgt := 2) C dX1_findWay_26 (by decide) ?_
        refine ih (k + 1) _ (by omega) (by omega) (by omega) (fun p p0 p1 => ?_) (fun o ho => by rw [fa_n _ _ ho]; exact fr o ho)
        rw [fa_s, fr i hi2, fr j hj2]
        unfold fc_set
        by_cases e : p = k
        · rw [if_pos e, e]
        · rw [if_neg e]; exact h31 p p0 (by omega)
  refine fc_iconst C dX1_findWay_0 ?_
  refine fc_istore_n C dX1_findWay_1 rfl (by decide) ?_
  exact loop1 6 0 A (by omega) (by omega) (by omega) (fun p p0 p1 => by exfalso; omega) (fun _ _ => rfl)
end GR4
