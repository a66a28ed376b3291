/-! the class's cells against its STATE: v, the earlier ones ps (st of them, the oldest first), refusals rf, the text tx of length tl -/
theorem fs_sum_comm {f : Int → Int → Int} {a : Nat} : ∀ {b : Nat}, fs_sum (fun i => fs_sum (fun j => f i j) a) b = fs_sum (fun j => fs_sum (fun i => f i j) b) a
  | 0 => by
    show 0 = fs_sum (fun _ => 0) a
    rw [fs_sum_zero]
  | b + 1 => by
    show fs_sum (fun i => fs_sum (fun j => f i j) a) b + fs_sum (fun j => f b j) a = fs_sum (fun j => fs_sum (fun i => f i j) b + f b j) a
    rw [fs_sum_add, fs_sum_comm (b := b)]
/-- no point fires more than a million times -/
theorem s_fin_fb {L : Int → Int → Int} {n q : Int} (hg : g_ok L) (hn : 2 ≤ n ∧ n ≤ 5) (hq : 0 ≤ q ∧ q < n) (hJ : s_J L n) {z x f : Int → Int} (hz : ∀ p : Int, 0 ≤ p → p < n → p ≠ q → 0 ≤ z p ∧ z p ≤ 999) (h : s_fin L n q z (fun _ => 0) x f) {p : Int} (p0 : 0 ≤ p) (p1 : p < n) : 0 ≤ f p ∧ f p ≤ 1000000 := by
  obtain ⟨w, hw, o0, q0, q1, q2, q3⟩ := s_wt_ex hg hn hq hJ
  have hph : s_ph n w z ≤ 999999 := by
    have h1 := fs_sum_le (f := fun o => w o * z o) (g := fun o => (255744 - (if o = q then 255744 else 0)) - (if o = o0 then 29970 else 0)) (m := n.toNat) (fun k k0 k1 => by
      by_cases e : k = q
      · rw [e, hw.2.1, if_pos rfl, if_neg (by omega)]; omega
      · have hk := hz k k0 (by omega) e
        have hh := hw.1 k k0 (by omega)
        rw [if_neg e]
        by_cases e2 : k = o0
        · rw [if_pos e2, e2]
          rw [e2] at hk
          have := Int.mul_le_mul (show w o0 ≤ 226 from q3) hk.2 hk.1 (by omega)
          omega
        · rw [if_neg e2]
          have := Int.mul_le_mul hh.2 hk.2 hk.1 (by omega)
          omega)
    rw [fs_sum_sub, fs_sum_sub, fs_sum_one hq.1 (by omega), fs_sum_one q0 (by omega)] at h1
    have h2 := fs_sum_bd (f := fun _ => 255744) (lo := 255744) (hi := 255744) (n := n.toNat) (fun k _ _ => ⟨Int.le_refl _, Int.le_refl _⟩)
    unfold s_ph
    omega
  obtain ⟨K, -, -, -, -, hal, -⟩ := h
  obtain ⟨a1, a2, a3, a4, a5, a6, a7⟩ := hal
  have hf : ∀ p : Int, 0 ≤ p → p < n → 0 ≤ f p := fun p p0 p1 => a6 p p0 p1
  have e1 : s_ph n w x + fs_sum (fun p => f p * fs_sum (fun o => s_M L n p o * w o) n.toNat) n.toNat = s_ph n w z := by
    have e2 : fs_sum (fun o => w o * s_kp L n x f o) n.toNat = fs_sum (fun o => w o * s_kp L n z (fun _ => 0) o) n.toNat := fs_sum_congr fun k k0 k1 => by rw [a4 k k0 (by omega)]
    have e3 : fs_sum (fun o => w o * s_kp L n z (fun _ => 0) o) n.toNat = s_ph n w z := fs_sum_congr fun k k0 k1 => by
      unfold s_kp
      rw [fs_sum_congr (g := fun _ => 0) (fun j _ _ => by simp), fs_sum_zero, Int.add_zero]
    have e4 : fs_sum (fun o => w o * s_kp L n x f o) n.toNat = s_ph n w x + fs_sum (fun o => fs_sum (fun p => f p * (s_M L n p o * w o)) n.toNat) n.toNat := by
      unfold s_ph
      rw [← fs_sum_add]
      refine fs_sum_congr fun k k0 k1 => ?_
      unfold s_kp
      rw [Int.mul_add, ← fs_sum_mul]
      congr 1
      refine fs_sum_congr fun j j0 j1 => ?_
      grind
    rw [← e3, ← e2, e4, fs_sum_comm]
    congr 1
    exact fs_sum_congr fun k k0 k1 => by rw [fs_sum_mul]
  have hx0 : 0 ≤ s_ph n w x := by
    have := fs_sum_le (f := fun _ => 0) (g := fun o => w o * x o) (m := n.toNat) (fun k k0 k1 => by
      by_cases e : k = q
      · rw [e, hw.2.1]; omega
      · exact Int.mul_nonneg (hw.1 k k0 (by omega)).1 (a1 k k0 (by omega) e))
    rw [fs_sum_zero] at this
    exact this
  refine ⟨hf p p0 p1, ?_⟩
  by_cases e : p = q
  · rw [e, a5]; show (0 : Int) ≤ 1000000; decide
  · have h5 := fs_sum_mem (f := fun p => f p * fs_sum (fun o => s_M L n p o * w o) n.toNat) (m := n.toNat) (k := p) (fun j j0 j1 => by
      by_cases e : j = q
      · rw [e, a5]; simp
      · have := hw.2.2 j j0 (by omega) e
        exact Int.mul_nonneg (hf j j0 (by omega)) (by omega)) p0 (by omega)
    have h6 := hw.2.2 p p0 p1 e
    have h7 : f p * 1 ≤ f p * fs_sum (fun o => s_M L n p o * w o) n.toNat := Int.mul_le_mul_of_nonneg_left h6 (hf p p0 p1)
    omega
theorem v_ok_pts {v : Int → Int} (hv : v_ok v) {n : Int} (h0 : 2 ≤ n) (h1 : n ≤ 5) : v_ok (p_pts v n) := by
  refine ⟨h0, h1, fun a b a0 a1 b0 b1 => ?_, fun p p0 p1 => ?_, fun p p0 p1 => ?_, fun p p0 p1 => ?_, fun s s0 s1 => ?_, fun s p s0 s1 p0 p1 => ?_⟩
  · unfold v_L
    rw [p_pts_at, if_neg (by omega), if_pos (by omega), p_pts_at, if_neg (by omega), if_pos (by omega), p_pts_at, if_neg (by omega), if_pos (by omega)]
    exact ⟨by omega, by omega, rfl, rfl⟩
  · rw [p_pts_at, if_neg (by omega), if_pos (by omega)]; omega
  · have p0 : n ≤ p := p0
    rw [p_pts_at, if_neg (by omega), if_pos (by omega), p_pts_at, if_neg (by omega), if_pos (by omega)]; exact ⟨rfl, rfl⟩
  · rw [p_pts_at, if_neg (by omega), if_pos (by omega)]; omega
  · rw [p_pts_at, if_neg (by omega), if_neg (by omega)]; exact hv.2.2.2.2.2.2.1 s s0 s1
  · rw [p_pts_at, if_neg (by omega), if_neg (by omega)]; exact hv.2.2.2.2.2.2.2 s p s0 s1 p0 p1
theorem v_ok_ln {v : Int → Int} (hv : v_ok v) {a b k : Int} (ha0 : 0 ≤ a) (ha1 : a < 5) (hb0 : 0 ≤ b) (hb1 : b < 5) (hab : a ≠ b) (h0 : 0 ≤ k) (h1 : k ≤ 3) : v_ok (p_ln v a b k) := by
  obtain ⟨h2, h3, h4, h5, h6, h7, h8, h9⟩ := hv
  have e0 : p_ln v a b k 0 = v 0 := by rw [p_ln_at, if_neg (by omega)]
  refine ⟨by rw [e0]; exact h2, by rw [e0]; exact h3, ?_, fun p p0 p1 => ?_, fun p p0 p1 => ?_, fun p p0 p1 => ?_, fun s s0 s1 => ?_, fun s p s0 s1 p0 p1 => ?_⟩
  · have := s_put_ok (a := a) (b := b) h4 hab h0 h1
    intro x y x0 x1 y0 y1
    have e : ∀ x y : Int, 0 ≤ x → x < 5 → 0 ≤ y → y < 5 → v_L (p_ln v a b k) x y = s_put (v_L v) a b k x y := fun x y x0 x1 y0 y1 => by
      unfold v_L s_put
      rw [p_ln_at]
      by_cases q : (x = a ∧ y = b) ∨ (x = b ∧ y = a)
      · rw [if_pos q, if_pos (by omega)]
      · rw [if_neg q, if_neg (by omega)]
    rw [e x y x0 x1 y0 y1, e y x y0 y1 x0 x1, e x x x0 x1 x0 x1]
    exact this x y x0 x1 y0 y1
  · rw [p_ln_at, if_neg (by omega)]; exact h5 p p0 p1
  · rw [e0] at p0; rw [p_ln_at, if_neg (by omega), p_ln_at, if_neg (by omega)]; exact h6 p p0 p1
  · rw [p_ln_at, if_neg (by omega)]; exact h7 p p0 p1
  · rw [p_ln_at, if_neg (by omega)]; exact h8 s s0 s1
  · rw [p_ln_at, if_neg (by omega)]; exact h9 s p s0 s1 p0 p1
theorem v_ok_ch {v x : Int → Int} (hv : v_ok v) (hx : ∀ p : Int, 0 ≤ p → p < v 0 → -999 ≤ x p ∧ x p ≤ 999) : v_ok (p_ch v x) := by
  obtain ⟨h2, h3, h4, h5, h6, h7, h8, h9⟩ := hv
  have e0 : p_ch v x 0 = v 0 := by rw [p_ch_at, if_neg (by omega)]
  refine ⟨by rw [e0]; exact h2, by rw [e0]; exact h3, ?_, fun p p0 p1 => ?_, fun p p0 p1 => ?_, fun p p0 p1 => ?_, fun s s0 s1 => ?_, fun s p s0 s1 p0 p1 => ?_⟩
  · intro a b a0 a1 b0 b1
    unfold v_L
    rw [p_ch_at, if_neg (by omega), p_ch_at, if_neg (by omega), p_ch_at, if_neg (by omega)]
    exact h4 a b a0 a1 b0 b1
  · rw [p_ch_at]
    by_cases q : p < v 0
    · rw [if_pos (by omega)]; exact hx _ (by omega) (by omega)
    · rw [if_neg (by omega)]; exact h5 p p0 p1
  · rw [e0] at p0; rw [p_ch_at, if_neg (by omega), p_ch_at, if_neg (by omega)]; exact h6 p p0 p1
  · rw [p_ch_at, if_neg (by omega)]; exact h7 p p0 p1
  · rw [p_ch_at, if_neg (by omega)]; exact h8 s s0 s1
  · rw [p_ch_at, if_neg (by omega)]; exact h9 s p s0 s1 p0 p1
theorem v_ok_fs {v f : Int → Int} (hv : v_ok v) (hf : ∀ p : Int, 0 ≤ p → p < v 0 → 0 ≤ f p ∧ f p ≤ 1000000) : v_ok (p_fs v f) := by
  obtain ⟨h2, h3, h4, h5, h6, h7, h8, h9⟩ := hv
  have e0 : p_fs v f 0 = v 0 := by rw [p_fs_at, if_neg (by omega)]
  refine ⟨by rw [e0]; exact h2, by rw [e0]; exact h3, ?_, fun p p0 p1 => ?_, fun p p0 p1 => ?_, fun p p0 p1 => ?_, fun s s0 s1 => ?_, fun s p s0 s1 p0 p1 => ?_⟩
  · intro a b a0 a1 b0 b1
    unfold v_L
    rw [p_fs_at, if_neg (by omega), p_fs_at, if_neg (by omega), p_fs_at, if_neg (by omega)]
    exact h4 a b a0 a1 b0 b1
  · rw [p_fs_at, if_neg (by omega)]; exact h5 p p0 p1
  · rw [e0] at p0; rw [p_fs_at, if_neg (by omega), p_fs_at, if_neg (by omega)]; exact h6 p p0 p1
  · rw [p_fs_at]
    by_cases q : p < v 0
    · rw [if_pos (by omega)]; exact hf _ (by omega) (by omega)
    · rw [if_neg (by omega)]; exact h7 p p0 p1
  · rw [p_fs_at, if_neg (by omega)]; exact h8 s s0 s1
  · rw [p_fs_at, if_neg (by omega)]; exact h9 s p s0 s1 p0 p1
theorem v_ok_set {v : Int → Int} (hv : v_ok v) {p x : Int} (p0 : 0 ≤ p) (p1 : p < v 0) (h0 : -999 ≤ x) (h1 : x ≤ 999) : v_ok (p_set v (26 + p) x) := by
  have := v_ok_ch (x := fun o => if o = p then x else v (26 + o)) hv (fun o o0 o1 => by
    have := hv.2.2.2.1 o o0 (by have := hv.2.1; omega)
    by_cases q : o = p
    · rw [if_pos q]; omega
    · rw [if_neg q]; exact this)
  have e : p_ch v (fun o => if o = p then x else v (26 + o)) = p_set v (26 + p) x := by
    funext k
    rw [p_ch_at, p_set_at]
    by_cases q : 26 ≤ k ∧ k < 26 + v 0
    · rw [if_pos q]
      by_cases q2 : k = 26 + p
      · rw [if_pos q2, if_pos (by omega)]
      · rw [if_neg q2, if_neg (by omega), show 26 + (k - 26) = k by omega]
    · rw [if_neg q, if_neg (by omega)]
  rw [← e]
  exact this
theorem v_ok_fire {v : Int → Int} (hv : v_ok v) {S t : Int} (h : x_fire v S t = 0) : v_ok (p_fire v S t) := by
  refine v_ok_ch hv ?_
  unfold x_fire at h
  split at h
  · split at h
    · rename_i h2; exact fc_ind_1 h2
    · cases h
  · cases h
theorem v_ok_stl {v : Int → Int} (hv : v_ok v) (h : x_stl v = 0) : v_ok (p_stl v) := by
  unfold x_stl at h
  split at h
  · rename_i h1
    obtain ⟨hJ, hh⟩ := fc_ind_1 h1
    split at h
    · rename_i h2
      have hs := s_stl_r hv hJ hh
      have hn := hv.n
      have hz : ∀ p : Int, 0 ≤ p → p < v 0 → p ≠ 0 → 0 ≤ v_c v p ∧ v_c v p ≤ 999 := fun p p0 p1 p2 => by
        have h3 := hv.2.2.2.1 p p0 (by omega)
        have h4 := hh p (by omega) p1
        unfold v_c
        omega
      have hfb := fun p p0 p1 => s_fin_fb hv.g hv.n ⟨by omega, by omega⟩ hJ hz hs (p := p) p0 p1
      obtain ⟨K, hK, hmv, hst, he, hal, hcan⟩ := hs
      have hch : v_ok (p_ch v (s_r v).1) := v_ok_ch hv (fun p p0 p1 => by
        by_cases q : p = 0
        · rw [q]
          have h5 := hal.2.1
          have h6 := hal.2.2.1
          have h7 := hv.2.2.2.1 0 (by omega) (by omega)
          have e0 : v_c v 0 = v (26 + 0) := rfl
          rw [e0] at h6
          omega
        · have h5 := hal.1 p p0 p1 q
          have h6 := s_J_val hv.g hv.n hJ p0 p1
          have h7 := s_val_bd hv.g (n := v 0) (p := p) (by omega) hn.2 p0 (by omega)
          have h8 := hcan p p0 p1
          have : ¬ s_val (v_L v) (v 0) p ≤ (s_r v).1 p := fun z => h8 ⟨q, h6, z⟩
          omega)
      exact v_ok_fs hch (fun p p0 p1 => hfb p p0 (by rw [p_ch_at, if_neg (by omega)] at p1; exact p1))
    · cases h
  · cases h
/-! the relation -/
def k_hist (A : Nat → Int → Int) (F : Nat → Nat → Int) (ps : Int → Int → Int) (st : Int) : Prop := ∃ w : Int, F 36 1 = w ∧ 0 ≤ w ∧ w < 6 ∧ F 36 2 = st ∧ 0 ≤ st ∧ st ≤ 5 ∧ ∀ j : Int, 0 ≤ j → j < st → k_enc A F (38 + 14 * ((w + 7 - st + j) % 6).toNat) (ps j) ∧ v_ok (ps j)
def k_held (A : Nat → Int → Int) (F : Nat → Nat → Int) (v : Int → Int) : Prop := k_enc A F (38 + 14 * ((F 36 1 + 1) % 6).toNat) v ∧ v_ok v
def k_rest (A : Nat → Int → Int) (F : Nat → Nat → Int) (rf tx : Int → Int) (tl : Int) : Prop := (∀ i : Int, 0 ≤ i → i < 3 → A 1 i = rf i) ∧ F 139 1 = tl ∧ 0 ≤ tl ∧ tl ≤ 120 ∧ ∀ i : Int, 0 ≤ i → i < tl → A 140 i = tx i ∧ 0 ≤ tx i ∧ tx i ≤ 127
def k_RC (A : Nat → Int → Int) (F : Nat → Nat → Int) (v : Int → Int) (ps : Int → Int → Int) (st : Int) (rf tx : Int → Int) (tl : Int) : Prop := k_enc A F 3 v ∧ v_ok v ∧ k_hist A F ps st ∧ k_rest A F rf tx tl
def h_ps (ps : Int → Int → Int) (st : Int) (v : Int → Int) : Int → Int → Int := fun j => if st < 5 then (if j = st then v else ps j) else (if j = 4 then v else ps (j + 1))
def h_st (st : Int) : Int := if st < 5 then st + 1 else 5
def h_rf (rf : Int → Int) (x : Int) : Int → Int := fun i => if i = -2 - x then rf i + 1 else rf i
section REL
variable {A A' : Nat → Int → Int} {F F' : Nat → Nat → Int} {v w : Int → Int} {ps : Int → Int → Int} {st : Int} {rf tx : Int → Int} {tl : Int}
theorem k_hist.fr (h : k_hist A F ps st) (hf : ∀ i : Nat, 36 ≤ i → i ≤ 121 → A' i = A i ∧ F' i = F i) : k_hist A' F' ps st := by
  obtain ⟨w, h1, h2, h3, h4, h5, h6, h7⟩ := h
  refine ⟨w, by rw [(hf 36 (by omega) (by omega)).2]; exact h1, h2, h3, by rw [(hf 36 (by omega) (by omega)).2]; exact h4, h5, h6, fun j j0 j1 => ⟨(h7 j j0 j1).1.of_fr (by rw [(hf _ (by omega) (by omega)).2]) (fun i i0 i1 _ => (hf i (by omega) (by omega)).1), (h7 j j0 j1).2⟩⟩
theorem k_held.fr (h : k_held A F v) (hw : 0 ≤ F 36 1 ∧ F 36 1 < 6) (hf : ∀ i : Nat, 36 ≤ i → i ≤ 121 → A' i = A i ∧ F' i = F i) : k_held A' F' v := by
  unfold k_held
  rw [(hf 36 (by omega) (by omega)).2]
  exact ⟨h.1.of_fr (by rw [(hf _ (by omega) (by omega)).2]) (fun i i0 i1 _ => (hf i (by omega) (by omega)).1), h.2⟩
theorem k_rest.fr (h : k_rest A F rf tx tl) (h1 : A' 1 = A 1) (h2 : F' 139 = F 139) (h3 : A' 140 = A 140) : k_rest A' F' rf tx tl := by
  obtain ⟨a1, a2, a3, a4, a5⟩ := h
  exact ⟨fun i i0 i1 => by rw [h1]; exact a1 i i0 i1, by rw [h2]; exact a2, a3, a4, fun i i0 i1 => by rw [h3]; exact a5 i i0 i1⟩
/-- what stands is held -/
theorem c_holdE (E : k_enc A F 3 v) (hv : v_ok v) (H : k_hist A F ps st) : fh_E mX2_hold 3 [vR 36, vR 3] A F (fun r A' F' => r = none ∧ k_enc A' F' 3 v ∧ k_hist A' F' ps st ∧ k_held A' F' v ∧ k_fr 38 121 A F A' F' ∧ (0 ≤ F' 36 1 ∧ F' 36 1 < 6)) := by
  obtain ⟨w, h1, h2, h3, h4, h5, h6, h7⟩ := H
  have hcp := E.cp (b := 38 + 14 * ((w + 1) % 6).toNat) (Or.inr (by omega))
  have hA : ∀ i : Nat, ¬ (38 + 14 * ((w + 1) % 6).toNat + 2 ≤ i ∧ i < 38 + 14 * ((w + 1) % 6).toNat + 14) → k_cp A (38 + 14 * ((w + 1) % 6).toNat) 3 i = A i := fun i hi => by
    unfold k_cp
    rw [fa_sel_no]
    simp
    omega
  refine (c_hold h1 h2 h3).E ⟨rfl, hcp.2, ?_, ?_, fun i hi => ⟨hA i (by omega), ff_n (by omega)⟩, by rw [ff_n (by omega)]; omega⟩
  · refine ⟨w, by rw [ff_n (by omega)]; exact h1, h2, h3, by rw [ff_n (by omega)]; exact h4, h5, h6, fun j j0 j1 => ⟨?_, (h7 j j0 j1).2⟩⟩
    refine (h7 j j0 j1).1.of_fr ?_ (fun i i0 i1 _ => hA i (by omega))
    rw [ff_n (by omega)]
  · unfold k_held
    rw [ff_n (show 36 ≠ 38 + 14 * ((w + 1) % 6).toNat by omega), h1]
    exact ⟨hcp.1, hv⟩
theorem c_refuse {x : Int} (hx : x = -2 ∨ x = -3 ∨ x = -4) : fh_M mX6_refuse 0 [vR 0, vI x] A F (some (vI x)) (fa_up A 1 (fc_set (A 1) (-2 - x) (A 1 (-2 - x) + 1))) F := by
  refine fh_M.of mi_X6_refuse (Nat.le_of_ble_eq_true rfl) ?_
  intro X C T
  refine fc_bipush C dX6_refuse_0 (by decide) ?_
  refine fc_iload_n C dX6_refuse_2 rfl rfl ?_
  refine fc_isub C dX6_refuse_3 ?_
  refine fc_istore_n C dX6_refuse_4 rfl (by decide) ?_
  refine fc_iload_n C dX6_refuse_5 rfl rfl ?_
  refine fc_if_lt (tgt := 28) C dX6_refuse_6 (by decide) (fc_Rm (by omega)) (fun c6 => ?_) (fun c6 => ?_)
  · exfalso; omega
  · refine fc_iload_n C dX6_refuse_9 rfl rfl ?_
    refine fc_aload_n C dX6_refuse_10 rfl rfl ?_
    refine fh_getf C dX6_refuse_11 fl_X6_7 rfl rfl ?_
    refine fh_alenI C dX6_refuse_14 (fun _ _ => rfl) ?_
    refine fc_icmp_ge (tgt := 28) C dX6_refuse_15 (by decide) (fc_Rm (by omega)) (fc_Rm (by omega)) (fun c15 => ?_) (fun c15 => ?_)
    · exfalso; omega
    · refine fc_aload_n C dX6_refuse_18 rfl rfl ?_
      refine fh_getf C dX6_refuse_19 fl_X6_7 rfl rfl ?_
      refine fc_iload_n C dX6_refuse_22 rfl rfl ?_
      refine fc_dup2 C dX6_refuse_23 rfl rfl ?_
      refine fh_iaload C dX6_refuse_24 (fun _ _ => rfl) (by omega) (by omega) (by decide) ?_
      refine fc_iconst C dX6_refuse_25 ?_
      refine fc_iadd C dX6_refuse_26 ?_
      refine fh_iastore C dX6_refuse_27 (fun _ _ => rfl) (by omega) (by omega) (by decide) ?_
      refine fc_iload_n C dX6_refuse_28 rfl rfl ?_
      exact fh_iret C T dX6_refuse_29 rfl rfl
theorem k_rest.ref (h : k_rest A F rf tx tl) {x : Int} (hx : x = -2 ∨ x = -3 ∨ x = -4) : k_rest (fa_up A 1 (fc_set (A 1) (-2 - x) (A 1 (-2 - x) + 1))) F (h_rf rf x) tx tl := by
  obtain ⟨a1, a2, a3, a4, a5⟩ := h
  refine ⟨fun i i0 i1 => ?_, a2, a3, a4, fun i i0 i1 => by rw [fa_n _ _ (by omega)]; exact a5 i i0 i1⟩
  rw [fa_s]
  unfold fc_set h_rf
  by_cases e : i = -2 - x
  · rw [if_pos e, if_pos e, ← e, a1 i i0 i1]
  · rw [if_neg e, if_neg e]; exact a1 i i0 i1
/-- a refusal changes nothing but how often -/
theorem k_RC.ref (h : k_RC A F v ps st rf tx tl) {x : Int} (hx : x = -2 ∨ x = -3 ∨ x = -4) : k_RC (fa_up A 1 (fc_set (A 1) (-2 - x) (A 1 (-2 - x) + 1))) F v ps st (h_rf rf x) tx tl ∧ k_fr 0 142 A F (fa_up A 1 (fc_set (A 1) (-2 - x) (A 1 (-2 - x) + 1))) F :=
  ⟨⟨h.1.of_fr rfl (fun i i0 i1 _ => fa_n _ _ (by omega)), h.2.1, h.2.2.1.fr (fun i i0 i1 => ⟨fa_n _ _ (by omega), rfl⟩), h.2.2.2.ref hx⟩, fun i hi => ⟨fa_n _ _ (by omega), rfl⟩⟩
def k_end (A : Nat → Int → Int) (F : Nat → Nat → Int) (x ans : Int) (v : Int → Int) (ps : Int → Int → Int) (st : Int) (rf tx : Int → Int) (tl : Int) (w : Int → Int) : Option fc_AV → (Nat → Int → Int) → (Nat → Nat → Int) → Prop := fun r A' F' =>
  r = some (vI (if x = 0 then ans else x)) ∧ (if x = 0 then k_RC A' F' w (h_ps ps st v) (h_st st) rf tx tl else k_RC A' F' v ps st (h_rf rf x) tx tl) ∧ k_fr 0 142 A F A' F'
/-- the end of a call that leaves a STATE: v was held, w stands -/
theorem c_ended {x ans : Int} (hx : x = 0 ∨ x = -2 ∨ x = -3) (E : k_enc A F 3 (if x = 0 then w else v)) (hv : v_ok v) (hw : x = 0 → v_ok w) (H : k_hist A F ps st) (Hd : k_held A F v) (R : k_rest A F rf tx tl) : fh_E mX6_ended 2 [vR 0, vI x, vI ans] A F (k_end A F x ans v ps st rf tx tl w) := by
  obtain ⟨u, h1, h2, h3, h4, h5, h6, h7⟩ := id H
  refine fh_E.of mi_X6_ended (Nat.le_of_ble_eq_true rfl) ?_
  intro X C T
  refine fc_iload_n C dX6_ended_0 rfl rfl ?_
  refine fc_if_eq (tgt := 10) C dX6_ended_1 (by decide) (fc_Rm (by omega)) (fun c1 => ?_) (fun c1 => ?_)
  · subst c1
    refine fc_aload_n C dX6_ended_10 rfl rfl ?_
    refine fh_getf C dX6_ended_11 fl_X6_33 rfl rfl ?_
    refine fh_callVv (y := mX2_keepHeld) C dX6_ended_14 ml_X6_247 mi_X2_keepHeld im_X2_keepHeld se_X2_keepHeld (c_keepHeld h1 h4 h2 h3 h5 h6) rfl rfl (by decide) rfl (Nat.le_of_ble_eq_true rfl) (Nat.zero_le _) (Nat.zero_le _) rfl ?_
    refine fc_iload_n C dX6_ended_17 rfl rfl ?_
    refine fh_iretE C T dX6_ended_18 (Or.inl rfl) ⟨rfl, ?_, fun i hi => ⟨rfl, by rw [ff_n (by omega), ff_n (by omega)]⟩⟩
    rw [if_pos rfl]
    rw [if_pos rfl] at E
    refine ⟨E.of_fr (by rw [ff_n (by omega), ff_n (by omega)]) (fun _ _ _ _ => rfl), hw rfl, ?_, R.fr rfl (by rw [ff_n (by omega), ff_n (by omega)]) rfl⟩
    refine ⟨(u + 1) % 6, by simp [ff_up], by omega, by omega, by simp [ff_up, h_st], by unfold h_st; split <;> omega, by unfold h_st; split <;> omega, fun j j0 j1 => ?_⟩
    have of : ∀ {b : Nat} {z : Int → Int}, b ≠ 36 → k_enc A F b z → k_enc A (ff_up (ff_up F 36 1 ((u + 1) % 6)) 36 2 (if st < 5 then st + 1 else 5)) b z := fun hb hk => hk.of_fr (by rw [ff_n hb, ff_n hb]) (fun _ _ _ _ => rfl)
    unfold k_held at Hd
    rw [h1] at Hd
    unfold h_ps
    unfold h_st at j1 ⊢
    by_cases q : st < 5
    · rw [if_pos q] at j1
      rw [if_pos q, if_pos q]
      by_cases q2 : j = st
      · rw [if_pos q2, q2, show ((u + 1) % 6 + 7 - (st + 1) + st) % 6 = (u + 1) % 6 by omega]
        exact ⟨of (by omega) Hd.1, Hd.2⟩
      · rw [if_neg q2, show ((u + 1) % 6 + 7 - (st + 1) + j) % 6 = (u + 7 - st + j) % 6 by omega]
        exact ⟨of (by omega) (h7 j j0 (by omega)).1, (h7 j j0 (by omega)).2⟩
    · rw [if_neg q] at j1
      rw [if_neg q, if_neg q]
      by_cases q2 : j = 4
      · rw [if_pos q2, q2, show ((u + 1) % 6 + 7 - 5 + 4) % 6 = (u + 1) % 6 by omega]
        exact ⟨of (by omega) Hd.1, Hd.2⟩
      · rw [if_neg q2, show ((u + 1) % 6 + 7 - 5 + j) % 6 = (u + 7 - st + (j + 1)) % 6 by omega]
        exact ⟨of (by omega) (h7 (j + 1) (by omega) (by omega)).1, (h7 (j + 1) (by omega) (by omega)).2⟩
  · have hx' : x = -2 ∨ x = -3 ∨ x = -4 := by omega
    refine fc_aload_n C dX6_ended_4 rfl rfl ?_
    refine fc_iload_n C dX6_ended_5 rfl rfl ?_
    refine fh_callV (y := mX6_refuse) C dX6_ended_6 ml_X6_80 mi_X6_refuse im_X6_refuse se_X6_refuse (c_refuse hx') rfl rfl (by decide) rfl (Nat.le_of_ble_eq_true rfl) (Nat.zero_le _) (Nat.zero_le _) rfl ?_
    rw [if_neg c1] at E
    have RC : k_RC A F v ps st rf tx tl := ⟨E, hv, H, R⟩
    refine fh_iretE C T dX6_ended_9 (Or.inl rfl) ⟨by rw [if_neg c1], ?_, (RC.ref hx').2⟩
    rw [if_neg c1]
    exact (RC.ref hx').1
end REL
