/-! makeRecurrent -/
def r_t (L : Int → Int → Int) (n q : Int) (x : Int → Int) (p : Int) : Int := d_sv L n q x p / d_T L n q
def r_y (L : Int → Int → Int) (n q : Int) (x : Int → Int) (o : Int) : Int := x o - fs_sum (fun p => r_t L n q x p * s_M L n p o) n.toNat
section MR
variable {A : Nat → Int → Int} {F : Nat → Nat → Int} {L : Int → Int → Int} {n q : Int}
theorem r_y_bd (hg : g_ok L) (hn : 2 ≤ n ∧ n ≤ 5) (hq : 0 ≤ q ∧ q < n) (hJ : s_J L n) {x : Int → Int} {o : Int} (ho : 0 ≤ o ∧ o < n) (hoq : o ≠ q) : - s_val L n o < r_y L n q x o ∧ r_y L n q x o < s_val L n o := by
  have hT := d_T_pos hg hn hq hJ
  have hv := s_J_val hg hn hJ ho.1 ho.2
  have key : d_T L n q * r_y L n q x o = fs_sum (fun p => (d_sv L n q x p % d_T L n q) * s_M L n p o) n.toNat := by
    unfold r_y
    rw [Int.mul_sub, ← d_sv_M (L := L) hn hq (x := x) ho hoq, ← fs_sum_mul, ← fs_sum_sub]
    refine fs_sum_congr fun p p0 p1 => ?_
    have := Int.emod_add_mul_ediv (d_sv L n q x p) (d_T L n q)
    unfold r_t
    rw [show d_sv L n q x p % d_T L n q = d_sv L n q x p - d_T L n q * (d_sv L n q x p / d_T L n q) by omega, Int.sub_mul, Int.mul_assoc]
  have hr : ∀ p : Int, 0 ≤ d_sv L n q x p % d_T L n q ∧ d_sv L n q x p % d_T L n q ≤ d_T L n q - 1 := fun p => ⟨Int.emod_nonneg _ (by omega), by have := Int.emod_lt_of_pos (d_sv L n q x p) hT; omega⟩
  have up : fs_sum (fun p => (d_sv L n q x p % d_T L n q) * s_M L n p o) n.toNat ≤ (d_T L n q - 1) * s_val L n o := by
    have h1 := fs_sum_le (f := fun p => (d_sv L n q x p % d_T L n q) * s_M L n p o) (g := fun p => if p = o then (d_T L n q - 1) * s_val L n o else 0) (m := n.toNat) (fun p p0 p1 => by
      unfold s_M
      by_cases e : p = o
      · rw [if_pos e, if_pos e, e]
        exact Int.mul_le_mul_of_nonneg_right (hr o).2 (by omega)
      · rw [if_neg e, if_neg e, Int.mul_neg]
        have := Int.mul_nonneg (hr p).1 (hg p o p0 (by omega) ho.1 (by omega)).1
        omega)
    rw [fs_sum_one ho.1 (by omega)] at h1
    exact h1
  have lo : -((d_T L n q - 1) * s_val L n o) ≤ fs_sum (fun p => (d_sv L n q x p % d_T L n q) * s_M L n p o) n.toNat := by
    have h1 := fs_sum_le (f := fun p => (-(d_T L n q - 1)) * L o p) (g := fun p => (d_sv L n q x p % d_T L n q) * s_M L n p o) (m := n.toNat) (fun p p0 p1 => by
      have hl := hg o p ho.1 (by omega) p0 (by omega)
      unfold s_M
      by_cases e : p = o
      · rw [if_pos e, e]
        have h2 := Int.mul_nonneg (hr o).1 (show 0 ≤ s_val L n o by omega)
        have h3 := (hg o o ho.1 (by omega) ho.1 (by omega)).2.2.2
        rw [h3, Int.mul_zero]
        exact h2
      · rw [if_neg e, ← hl.2.2.1, Int.neg_mul, Int.mul_neg]
        have := Int.mul_le_mul_of_nonneg_right (hr p).2 hl.1
        omega)
    rw [fs_sum_mul, Int.neg_mul] at h1
    exact h1
  rw [← key] at up lo
  have e1 : (d_T L n q - 1) * s_val L n o = d_T L n q * s_val L n o - s_val L n o := by rw [Int.sub_mul, Int.one_mul]
  rw [e1] at up lo
  constructor
  · apply Classical.byContradiction
    intro hc
    have := Int.mul_le_mul_of_nonneg_left (show r_y L n q x o ≤ - s_val L n o by omega) (show 0 ≤ d_T L n q by omega)
    rw [Int.mul_neg] at this
    omega
  · apply Classical.byContradiction
    intro hc
    have := Int.mul_le_mul_of_nonneg_left (show s_val L n o ≤ r_y L n q x o by omega) (show 0 ≤ d_T L n q by omega)
    omega
theorem r_y_deg (hg : g_ok L) (hn : 2 ≤ n ∧ n ≤ 5) {x : Int → Int} : fs_sum (r_y L n q x) n.toNat = fs_sum x n.toNat := by
  unfold r_y
  rw [fs_sum_sub, fs_sum_comm, fs_sum_congr (f := fun j => fs_sum (fun i => r_t L n q x j * s_M L n j i) n.toNat) (g := fun _ => 0) (fun p p0 p1 => by rw [fs_sum_mul, s_M_row hg (by omega) p0 (by omega), Int.mul_zero]), fs_sum_zero, Int.sub_zero]
/-- what is neutral lies between VALENCE and twice that -/
theorem d_nt_bd (hg : g_ok L) (hn : 2 ≤ n ∧ n ≤ 5) (hq : 0 ≤ q ∧ q < n) (hJ : s_J L n) {y : Int → Int} (h : d_nt L n q y) : (∀ p : Int, 0 ≤ p → p < n → p ≠ q → s_val L n p < y p ∧ y p ≤ 2 * s_val L n p) ∧ -1000 ≤ y q ∧ y q ≤ 1000 := by
  obtain ⟨g, x, f, hf, hy⟩ := h
  obtain ⟨K, -, -, -, -, hal, hcan⟩ := hf
  refine ⟨fun p p0 p1 p2 => ?_, ?_⟩
  · have h1 := hal.1 p p0 p1 p2
    have h2 := s_J_val hg hn hJ p0 p1
    have h3 := hcan p p0 p1
    have h4 : ¬ s_val L n p ≤ x p := fun z => h3 ⟨p2, h2, z⟩
    rw [hy p p0 p1]
    omega
  · have h1 := hal.2.2.1
    have h2 := hal.2.1
    have h3 : 0 ≤ s_tot n q x := by
      have := fs_sum_le (f := fun _ => 0) (g := fun o => if o = q then 0 else x o) (m := n.toNat) (fun k k0 k1 => by
        by_cases e : k = q
        · rw [if_pos e]; omega
        · rw [if_neg e]; exact hal.1 k k0 (by omega) e)
      rw [fs_sum_zero] at this
      exact this
    have h4 := fs_sum5 (f := fun o => if o = q then 0 else 2 * s_val L n o) (B := 30) (n := n) (by omega) (by omega) (fun k k0 k1 => by
      have := s_val_bd hg (n := n) (p := k) (by omega) hn.2 k0 (by omega)
      split <;> omega)
    have e4 : s_tot n q (fun p => 2 * s_val L n p) = fs_sum (fun o => if o = q then 0 else 2 * s_val L n o) n.toNat := rfl
    have h5 := s_val_bd hg (n := n) (p := q) (by omega) hn.2 hq.1 (by omega)
    rw [hy q hq.1 hq.2]
    rw [e4] at h1 h2
    have h1 : s_tot n q x + x q = fs_sum (fun o => if o = q then 0 else 2 * s_val L n o) n.toNat + 2 * s_val L n q := h1
    omega
theorem r_y_q (hg : g_ok L) (hn : 2 ≤ n ∧ n ≤ 5) (hq : 0 ≤ q ∧ q < n) (hJ : s_J L n) {x : Int → Int} (hx : ∀ p : Int, 0 ≤ p → p < n → -2000 ≤ x p ∧ x p ≤ 2000) : -20000 ≤ r_y L n q x q ∧ r_y L n q x q ≤ 20000 := by
  have h1 := r_y_deg (q := q) hg hn (x := x)
  have h2 := fs_sum5 (f := x) (B := 2000) (n := n) (by omega) (by omega) (fun p p0 p1 => by have := hx p p0 p1; omega)
  have h3 : fs_sum (r_y L n q x) n.toNat = fs_sum (fun p => (if p = q then 0 else r_y L n q x p) + (if p = q then r_y L n q x q else 0)) n.toNat := fs_sum_congr fun p p0 p1 => by
    by_cases e : p = q
    · rw [if_pos e, if_pos e, e]; omega
    · rw [if_neg e, if_neg e]; omega
  rw [fs_sum_add, fs_sum_one hq.1 (by omega)] at h3
  have h4 := fs_sum5 (f := fun p => if p = q then 0 else r_y L n q x p) (B := 15) (n := n) (by omega) (by omega) (fun p p0 p1 => by
    have := s_val_bd hg (n := n) (p := p) (by omega) hn.2 p0 (by omega)
    by_cases e : p = q
    · rw [if_pos e]; omega
    · rw [if_neg e]
      have := r_y_bd hg hn hq hJ (x := x) ⟨p0, p1⟩ e
      omega)
  omega
/-- what makeRecurrent makes of x -/
def r_mk (L : Int → Int → Int) (n q : Int) (x w : Int → Int) : Prop := ∃ y z g f : Int → Int, d_nt L n q y ∧ (∀ p : Int, 0 ≤ p → p < n → z p = r_y L n q x p + 2 * y p) ∧ s_fin L n q z g w f
theorem c_makeRecurrent (M : k_gw A F n q L) (hg : g_ok L) (hn : 2 ≤ n ∧ n ≤ 5) (hq : 0 ≤ q ∧ q < n) (hJ : s_J L n) {i : Nat} (hi : ∀ (a : Int → Int) (f : Nat → Int), fc_S i a f = cI 5 a) (hi2 : ¬ (17 ≤ i ∧ i < 31)) (hi3 : i ≠ 32) (hi4 : i ≠ 33) (hx : ∀ p : Int, 0 ≤ p → p < n → -2000 ≤ A i p ∧ A i p ≤ 2000) : fh_E mX1_makeRecurrent 2 [vR 17, vR i] A F (fun r A' F' => r = none ∧ F' = F ∧ (∃ w : Int → Int, r_mk L n q (A i) w ∧ ∀ p : Int, 0 ≤ p → p < n → A' i p = w p) ∧ ∀ j : Nat, j ≠ i → j ≠ 30 → j ≠ 33 → A' j = A j) := by
  have e8 := M.2.1
  have e6 := M.1.1
  have hTb := d_T_bd hg hn (q := q)
  have hT := d_T_pos hg hn hq hJ
  refine fh_E.of mi_X1_makeRecurrent (Nat.le_of_ble_eq_true rfl) ?_
  intro X C T
  refine fc_aload_n C dX1_makeRecurrent_0 rfl rfl ?_
  refine fh_getf C dX1_makeRecurrent_1 fl_X1_42 rfl rfl ?_
  refine fc_lconst (z := 0) C dX1_makeRecurrent_4 rfl ?_
  refine fc_lcmp C dX1_makeRecurrent_5 (fc_RLm (by omega)) (fc_RLm (by omega)) ?_
  rw [e8]
  refine fc_if_gt (tgt := 10) C dX1_makeRecurrent_6 (by decide) (fc_cmp_R _ _) (fun c6 => ?_) (fun c6 => ?_)
  · refine fc_aload_n C dX1_makeRecurrent_10 rfl rfl ?_
    refine fc_aload_n C dX1_makeRecurrent_11 rfl rfl ?_
    refine fh_callVE (y := mX1_solve) C dX1_makeRecurrent_12 ml_X1_102 mi_X1_solve im_X1_solve se_X1_solve (c_solve M hn hq hi (by omega) (fun p p0 p1 => by have := hx p p0 p1; omega)) rfl rfl (by decide) rfl (Nat.le_of_ble_eq_true rfl) (Nat.zero_le _) (Nat.zero_le _) rfl ?_
    rintro r A1 F1 ⟨rfl, rfl, hsv, fr⟩
    refine fc_eq (st' := []) rfl rfl ?_
    have loop2 : ∀ (m : Nat) (k : Int) (A2 : Nat → Int → Int), 0 ≤ k → k ≤ n → n - k < m → (∀ p : Int, 0 ≤ p → p < k → A2 i p = r_y L n q (A i) p + 2 * A 32 p) → (∀ p : Int, k ≤ p → p < n → A2 i p = r_y L n q (A i) p) → (∀ j : Nat, j ≠ i → j ≠ 30 → A2 j = A j) → fc_W X 0 0 159 (fc_H A2 F1) 53 [some (vR 17), some (vR i), some (vI k)] [] := by
      intro m
      induction m with
      | zero => intro k A2 z0 z1 z2; exfalso; omega
      | succ m ih =>
        intro k A2 z0 z1 z2 h1 h2 fr2
        refine fc_iload_n C dX1_makeRecurrent_53 rfl rfl ?_
        refine fc_aload_n C dX1_makeRecurrent_54 rfl rfl ?_
        refine fh_getf C dX1_makeRecurrent_55 fl_X1_35 rfl rfl ?_
        refine fc_icmp_ge (tgt := 81) C dX1_makeRecurrent_58 (by decide) (fc_Rm (by omega)) (fc_Rm (by omega)) (fun c58 => ?_) (fun c58 => ?_)
        · have M2 : k_gw A2 F1 n q L := M.fr hn (fun j j0 j1 => fr2 j (by omega) (by omega)) (fr2 32 (by omega) (by omega)) rfl
          have hnt := d_nt_bd hg hn hq hJ M.2.2.2
          obtain ⟨w, f, hf, hM⟩ := c_settleE M2.1 hg hn hq hJ (i := i) (j := 33) hi (by omega) (fun _ _ => rfl) (by omega) hi4 (fun p p0 p1 p2 => by
            have a1 := h1 p p0 (by omega)
            have a2 := hnt.1 p p0 p1 p2
            have a3 := r_y_bd hg hn hq hJ (x := A i) ⟨p0, p1⟩ p2
            have a4 := s_val_bd hg (n := n) (p := p) (by omega) hn.2 p0 (by omega)
            omega) (by
            have a1 := h1 q hq.1 (by omega)
            have a2 := hnt.2
            have a3 := r_y_q hg hn hq hJ hx
            omega)
          refine fc_aload_n C dX1_makeRecurrent_81 rfl rfl ?_
          refine fc_aload_n C dX1_makeRecurrent_82 rfl rfl ?_
          refine fc_aload_n C dX1_makeRecurrent_83 rfl rfl ?_
          refine fh_getf C dX1_makeRecurrent_84 fl_X1_32 rfl rfl ?_
          refine fh_callVv (y := mX1_settle) C dX1_makeRecurrent_87 ml_X1_98 mi_X1_settle im_X1_settle se_X1_settle (hM) rfl rfl (by decide) rfl (Nat.le_of_ble_eq_true rfl) (Nat.zero_le _) (Nat.zero_le _) rfl ?_
          refine fh_vretE C T dX1_makeRecurrent_90 ⟨rfl, rfl, ⟨w, ⟨A 32, A2 i, A2 33, f, M.2.2.2, fun p p0 p1 => h1 p p0 (by omega), hf⟩, fun p p0 p1 => by rw [fa_n _ _ hi4, fa_s]⟩, fun j j0 j1 j2 => by rw [fa_n _ _ j2, fa_n _ _ j0]; exact fr2 j j0 j1⟩
        · refine fc_aload_n C dX1_makeRecurrent_61 rfl rfl ?_
          refine fc_iload_n C dX1_makeRecurrent_62 rfl rfl ?_
          refine fc_dup2 C dX1_makeRecurrent_63 rfl rfl ?_
          refine fh_iaload C dX1_makeRecurrent_64 hi (by omega) (by omega) (by decide) ?_
          refine fc_iconst C dX1_makeRecurrent_65 ?_
          refine fc_aload_n C dX1_makeRecurrent_66 rfl rfl ?_
          refine fh_getf C dX1_makeRecurrent_67 fl_X1_29 rfl rfl ?_
          refine fc_iload_n C dX1_makeRecurrent_70 rfl rfl ?_
          refine fh_iaload C dX1_makeRecurrent_71 (fun _ _ => rfl) (by omega) (by omega) (by decide) ?_
          refine fc_imul C dX1_makeRecurrent_72 ?_
          refine fc_iadd C dX1_makeRecurrent_73 ?_
          refine fh_iastore C dX1_makeRecurrent_74 hi (by omega) (by omega) (by decide) ?_
          refine fc_iinc C dX1_makeRecurrent_75 rfl (by decide) ?_
          refine fc_goto (tgt := 53) C dX1_makeRecurrent_78 (by decide) ?_
          refine ih (k + 1) _ (by omega) (by omega) (by omega) (fun p p0 p1 => ?_) (fun p p0 p1 => ?_) (fun j j0 j1 => by rw [fa_n _ _ j0]; exact fr2 j j0 j1)
          · rw [fa_s, fr2 32 (by omega) (by omega)]
            unfold fc_set
            by_cases e : p = k
            · rw [if_pos e, e, h2 k (by omega) (by omega)]
            · rw [if_neg e]; exact h1 p p0 (by omega)
          · rw [fa_s]
            unfold fc_set
            rw [if_neg (by omega)]
            exact h2 p (by omega) p1
    have loop1 : ∀ (m : Nat) (k : Int) (A2 : Nat → Int → Int), 0 ≤ k → k ≤ n → n - k < m → (∀ o : Int, 0 ≤ o → o < n → A2 i o = A i o - fs_sum (fun p => r_t L n q (A i) p * s_M L n p o) k.toNat) → (∀ a : Int, 0 ≤ a → a < n → A2 30 a = d_sv L n q (A i) a) → (∀ j : Nat, j ≠ i → j ≠ 30 → A2 j = A j) → fc_W X 0 0 159 (fc_H A2 F1) 17 [some (vR 17), some (vR i), some (vI k)] [] := by
      intro m
      induction m with
      | zero => intro k A2 z0 z1 z2; exfalso; omega
      | succ m ih =>
        intro k A2 z0 z1 z2 h1 h2 fr2
        refine fc_iload_n C dX1_makeRecurrent_17 rfl rfl ?_
        refine fc_aload_n C dX1_makeRecurrent_18 rfl rfl ?_
        refine fh_getf C dX1_makeRecurrent_19 fl_X1_35 rfl rfl ?_
        refine fc_icmp_ge (tgt := 51) C dX1_makeRecurrent_22 (by decide) (fc_Rm (by omega)) (fc_Rm (by omega)) (fun c22 => ?_) (fun c22 => ?_)
        · have ek : k = n := by omega
          subst ek
          refine fc_iconst C dX1_makeRecurrent_51 ?_
          refine fc_istore_n C dX1_makeRecurrent_52 rfl (by decide) ?_
          exact loop2 6 0 A2 (by omega) (by omega) (by omega) (fun p p0 p1 => by exfalso; omega) (fun p p0 p1 => h1 p p0 p1) fr2
        · have M2 : k_gw A2 F1 n q L := M.fr hn (fun j j0 j1 => by
            by_cases e : j = 30
            · omega
            · exact fr2 j (by omega) e) (fr2 32 (by omega) (by omega)) rfl
          have hb := d_sv_bd hg hn (q := q) (a := k) (x := A i) (fun p p0 p1 => by have := hx p p0 p1; omega)
          have h30 := h2 k z0 (by omega)
          refine fc_aload_n C dX1_makeRecurrent_25 rfl rfl ?_
          refine fc_aload_n C dX1_makeRecurrent_26 rfl rfl ?_
          refine fc_iload_n C dX1_makeRecurrent_27 rfl rfl ?_
          refine fc_aload_n C dX1_makeRecurrent_28 rfl rfl ?_
          refine fh_getf C dX1_makeRecurrent_29 fl_X1_21 rfl rfl ?_
          refine fc_iload_n C dX1_makeRecurrent_32 rfl rfl ?_
          refine fh_laload C dX1_makeRecurrent_33 (fun _ _ => rfl) (by omega) (by omega) (by decide) ?_
          refine fc_aload_n C dX1_makeRecurrent_34 rfl rfl ?_
          refine fh_getf C dX1_makeRecurrent_35 fl_X1_42 rfl rfl ?_
          refine fh_callS (y := mJ9_floorDiv_f86c9) C dX1_makeRecurrent_38 ml_X1_106 mi_J9_floorDiv_f86c9 st_J9_floorDiv_f86c9 (c_floorDiv (by rw [h30]; exact fc_RLm (by omega)) (by rw [e8]; exact fc_RLm (by omega)) (by omega)) (by decide) rfl (Nat.le_of_ble_eq_true rfl) (Nat.zero_le _) (Nat.zero_le _) rfl ?_
          refine fc_l2i C dX1_makeRecurrent_41 ?_
          refine fh_callVv (y := mX1_fire) C dX1_makeRecurrent_42 ml_X1_94 mi_X1_fire im_X1_fire se_X1_fire (c_fire M2.1 hn hi (by omega) z0 (by omega)) rfl rfl (by decide) rfl (Nat.le_of_ble_eq_true rfl) (Nat.zero_le _) (Nat.zero_le _) rfl ?_
          refine fc_iinc C dX1_makeRecurrent_45 rfl (by decide) ?_
          refine fc_goto (tgt := 17) C dX1_makeRecurrent_48 (by decide) ?_
          refine ih (k + 1) _ (by omega) (by omega) (by omega) (fun o o0 o1 => ?_) (fun a a0 a1 => by rw [fa_n _ _ (by omega)]; exact h2 a a0 a1) (fun j j0 j1 => by rw [fa_n _ _ j0]; exact fr2 j j0 j1)
          rw [fa_s, h30, e8]
          unfold s_fire
          rw [if_pos ⟨o0, o1⟩, h1 o o0 o1, fs_step z0]
          unfold r_t
          omega
    refine fc_iconst C dX1_makeRecurrent_15 ?_
    refine fc_istore_n C dX1_makeRecurrent_16 rfl (by decide) ?_
    exact loop1 6 0 A1 (by omega) (by omega) (by omega) (fun o o0 o1 => by rw [fr i (by omega)]; show _ = _ - 0; omega) hsv (fun j _ j1 => fr j j1)
  · have := fc_cmp_gt.2 hT
    exfalso; omega
end MR
