/-! what a STATE holds, as one row v of 54 numbers (as the reference lays it): points v 0, lines v (1 + 5 a + b), chips v (26 + p), script v (31 + p), kept rows v (36 + 6 s) and on -/
def v_L (v : Int → Int) : Int → Int → Int := fun a b => v (1 + 5 * a + b)
def v_c (v : Int → Int) : Int → Int := fun p => v (26 + p)
def v_ok (v : Int → Int) : Prop := 2 ≤ v 0 ∧ v 0 ≤ 5 ∧ g_ok (v_L v) ∧ (∀ p : Int, 0 ≤ p → p < 5 → -999 ≤ v (26 + p) ∧ v (26 + p) ≤ 999) ∧ (∀ p : Int, v 0 ≤ p → p < 5 → v (26 + p) = 0 ∧ v (31 + p) = 0) ∧ (∀ p : Int, 0 ≤ p → p < 5 → 0 ≤ v (31 + p) ∧ v (31 + p) ≤ 1000000) ∧ (∀ s : Int, 0 ≤ s → s < 3 → 0 ≤ v (36 + 6 * s) ∧ v (36 + 6 * s) ≤ 5) ∧ ∀ s p : Int, 0 ≤ s → s < 3 → 0 ≤ p → p < 5 → -999 ≤ v (37 + 6 * s + p) ∧ v (37 + 6 * s + p) ≤ 999
/-- the cells from b on hold v -/
def k_enc (A : Nat → Int → Int) (F : Nat → Nat → Int) (b : Nat) (v : Int → Int) : Prop := F b 0 = v 0 ∧ (∀ a c : Int, 0 ≤ a → a < 5 → 0 ≤ c → c < 5 → A (b + 2 + a.toNat) c = v (1 + 5 * a + c)) ∧ (∀ p : Int, 0 ≤ p → p < 5 → A (b + 7) p = v (26 + p)) ∧ (∀ p : Int, 0 ≤ p → p < 5 → A (b + 8) p = v (31 + p)) ∧ (∀ s : Int, 0 ≤ s → s < 3 → A (b + 9) s = v (36 + 6 * s)) ∧ ∀ s p : Int, 0 ≤ s → s < 3 → 0 ≤ p → p < 5 → A (b + 11 + s.toNat) p = v (37 + 6 * s + p)
def v_eq (v w : Int → Int) : Prop := ∀ k : Int, 0 ≤ k → k < 54 → v k = w k
section ENC
variable {A A' : Nat → Int → Int} {F F' : Nat → Nat → Int} {v w : Int → Int}
theorem k_enc.net (h : k_enc A F 3 v) (hv : v_ok v) : k_net A F (v 0) (v_L v) := ⟨h.1, hv.1, hv.2.1, fun a b a0 a1 b0 b1 => h.2.1 a b a0 a1 b0 b1⟩
theorem k_enc.ch (h : k_enc A F 3 v) : k_ch A (v_c v) := fun p p0 p1 => h.2.2.1 p p0 p1
theorem v_ok.cR (hv : v_ok v) : k_cR (v_c v) := fun p p0 p1 => hv.2.2.2.1 p p0 p1
theorem v_ok.g (hv : v_ok v) : g_ok (v_L v) := hv.2.2.1
theorem v_ok.n (hv : v_ok v) : 2 ≤ v 0 ∧ v 0 ≤ 5 := ⟨hv.1, hv.2.1⟩
/-- the position's cells are all that it hangs on -/
theorem k_enc.of_fr {b : Nat} (h : k_enc A F b v) (hF : F' b 0 = F b 0) (hA : ∀ i : Nat, b + 2 ≤ i → i < b + 14 → i ≠ b + 10 → A' i = A i) : k_enc A' F' b v := by
  obtain ⟨h1, h2, h3, h4, h5, h6⟩ := h
  exact ⟨hF.trans h1, fun a c a0 a1 c0 c1 => by rw [hA _ (by omega) (by omega) (by omega)]; exact h2 a c a0 a1 c0 c1, fun p p0 p1 => by rw [hA _ (by omega) (by omega) (by omega)]; exact h3 p p0 p1, fun p p0 p1 => by rw [hA _ (by omega) (by omega) (by omega)]; exact h4 p p0 p1, fun s s0 s1 => by rw [hA _ (by omega) (by omega) (by omega)]; exact h5 s s0 s1, fun s p s0 s1 p0 p1 => by rw [hA _ (by omega) (by omega) (by omega)]; exact h6 s p s0 s1 p0 p1⟩
theorem k_enc.congr {b : Nat} (h : k_enc A F b v) (e : v_eq v w) : k_enc A F b w := by
  obtain ⟨h1, h2, h3, h4, h5, h6⟩ := h
  exact ⟨h1.trans (e 0 (by omega) (by omega)), fun a c a0 a1 c0 c1 => (h2 a c a0 a1 c0 c1).trans (e _ (by omega) (by omega)), fun p p0 p1 => (h3 p p0 p1).trans (e _ (by omega) (by omega)), fun p p0 p1 => (h4 p p0 p1).trans (e _ (by omega) (by omega)), fun s s0 s1 => (h5 s s0 s1).trans (e _ (by omega) (by omega)), fun s p s0 s1 p0 p1 => (h6 s p s0 s1 p0 p1).trans (e _ (by omega) (by omega))⟩
theorem k_enc.uniq {b : Nat} (h : k_enc A F b v) (h' : k_enc A F b w) : v_eq v w := by
  obtain ⟨h1, h2, h3, h4, h5, h6⟩ := h
  obtain ⟨g1, g2, g3, g4, g5, g6⟩ := h'
  intro k k0 k1
  by_cases c0 : k = 0
  · rw [c0]; exact h1.symm.trans g1
  by_cases c1 : k < 26
  · have e1 := h2 ((k - 1) / 5) ((k - 1) % 5) (by omega) (by omega) (by omega) (by omega)
    have e2 := g2 ((k - 1) / 5) ((k - 1) % 5) (by omega) (by omega) (by omega) (by omega)
    rw [show 1 + 5 * ((k - 1) / 5) + (k - 1) % 5 = k by omega] at e1 e2
    exact e1.symm.trans e2
  by_cases c2 : k < 31
  · have e1 := h3 (k - 26) (by omega) (by omega)
    have e2 := g3 (k - 26) (by omega) (by omega)
    rw [show 26 + (k - 26) = k by omega] at e1 e2
    exact e1.symm.trans e2
  by_cases c3 : k < 36
  · have e1 := h4 (k - 31) (by omega) (by omega)
    have e2 := g4 (k - 31) (by omega) (by omega)
    rw [show 31 + (k - 31) = k by omega] at e1 e2
    exact e1.symm.trans e2
  by_cases c4 : (k - 36) % 6 = 0
  · have e1 := h5 ((k - 36) / 6) (by omega) (by omega)
    have e2 := g5 ((k - 36) / 6) (by omega) (by omega)
    rw [show 36 + 6 * ((k - 36) / 6) = k by omega] at e1 e2
    exact e1.symm.trans e2
  · have e1 := h6 ((k - 36) / 6) ((k - 36) % 6 - 1) (by omega) (by omega) (by omega) (by omega)
    have e2 := g6 ((k - 36) / 6) ((k - 36) % 6 - 1) (by omega) (by omega) (by omega) (by omega)
    rw [show 37 + 6 * ((k - 36) / 6) + ((k - 36) % 6 - 1) = k by omega] at e1 e2
    exact e1.symm.trans e2
/-- a copy -/
theorem k_enc.cp {b b0 : Nat} (h : k_enc A F b0 v) (hd : b + 14 ≤ b0 ∨ b0 + 14 ≤ b) : k_enc (k_cp A b b0) (ff_up F b 0 (F b0 0)) b v ∧ k_enc (k_cp A b b0) (ff_up F b 0 (F b0 0)) b0 v := by
  have fr : ∀ i : Nat, ¬ (b + 2 ≤ i ∧ i < b + 14 ∧ i ≠ b + 10) → k_cp A b b0 i = A i := fun i hi => by
    unfold k_cp
    rw [fa_sel_no]
    simp
    omega
  have cp5 : ∀ (i : Nat) (p : Int), b + 2 ≤ i → i < b + 14 → i ≠ b + 10 → i ≠ b + 9 → 0 ≤ p → p < 5 → k_cp A b b0 i p = A (b0 + (i - b)) p := fun i p h1 h2 h3 h4 p0 p1 => by
    unfold k_cp
    rw [fa_sel_in (by simp; omega)]
    unfold k_cpg fc_cpy
    rw [if_neg h4, if_pos ⟨p0, p1⟩]
  obtain ⟨h1, h2, h3, h4, h5, h6⟩ := id h
  constructor
  · refine ⟨by simp [ff_up]; exact h1, fun a c a0 a1 c0 c1 => ?_, fun p p0 p1 => ?_, fun p p0 p1 => ?_, fun s s0 s1 => ?_, fun s p s0 s1 p0 p1 => ?_⟩
    · rw [cp5 _ c (by omega) (by omega) (by omega) (by omega) c0 c1, show b0 + (b + 2 + a.toNat - b) = b0 + 2 + a.toNat by omega]; exact h2 a c a0 a1 c0 c1
    · rw [cp5 _ p (by omega) (by omega) (by omega) (by omega) p0 p1, show b0 + (b + 7 - b) = b0 + 7 by omega]; exact h3 p p0 p1
    · rw [cp5 _ p (by omega) (by omega) (by omega) (by omega) p0 p1, show b0 + (b + 8 - b) = b0 + 8 by omega]; exact h4 p p0 p1
    · unfold k_cp
      rw [fa_sel_in (by simp)]
      unfold k_cpg fc_cpy
      rw [if_pos rfl, if_pos ⟨s0, s1⟩, show b0 + (b + 9 - b) = b0 + 9 by omega]; exact h5 s s0 s1
    · rw [cp5 _ p (by omega) (by omega) (by omega) (by omega) p0 p1, show b0 + (b + 11 + s.toNat - b) = b0 + 11 + s.toNat by omega]; exact h6 s p s0 s1 p0 p1
  · refine h.of_fr ?_ (fun i i0 i1 i2 => fr i (by omega))
    simp [ff_up] <;> omega
end ENC
/-! what the acts do to v: 0 done, -2, -3 refused -/
def p_set (v : Int → Int) (k x : Int) : Int → Int := fun i => if i = k then x else v i
def p_pts (v : Int → Int) (n : Int) : Int → Int := fun k => if k = 0 then n else if 1 ≤ k ∧ k < 36 then 0 else v k
def p_ln (v : Int → Int) (a b k : Int) : Int → Int := fun i => if i = 1 + 5 * a + b ∨ i = 1 + 5 * b + a then k else v i
def p_ch (v x : Int → Int) : Int → Int := fun i => if 26 ≤ i ∧ i < 26 + v 0 then x (i - 26) else v i
def p_fs (v f : Int → Int) : Int → Int := fun i => if 31 ≤ i ∧ i < 31 + v 0 then f (i - 31) else v i
def i_pt (v : Int → Int) (p : Int) : Prop := 0 ≤ p ∧ p < v 0
def x_pts (v : Int → Int) (n : Int) : Int := if 2 ≤ n ∧ n ≤ 5 then 0 else -2
def x_ln (v : Int → Int) (a b k : Int) : Int := if (0 ≤ a ∧ a < v 0) ∧ (0 ≤ b ∧ b < v 0) ∧ a ≠ b ∧ 0 ≤ k ∧ k ≤ 3 then 0 else -2
def x_add (v : Int → Int) (p x : Int) : Int := if (0 ≤ p ∧ p < v 0) ∧ -99 ≤ x ∧ x ≤ 99 then (if -999 ≤ v (26 + p) + x ∧ v (26 + p) + x ≤ 999 then 0 else -3) else -2
/-- what the point o has more when the points of S fire t times -/
def s_mo (v : Int → Int) (S t o : Int) : Int := t * fs_sum (fun p => if fb_t S p = 1 then - s_M (v_L v) (v 0) p o else 0) (v 0).toNat
noncomputable def x_fire (v : Int → Int) (S t : Int) : Int := if 1 ≤ S ∧ S ≤ fb_all (v 0) then (if fc_ind (∀ p : Int, 0 ≤ p → p < v 0 → -999 ≤ v (26 + p) + s_mo v S t p ∧ v (26 + p) + s_mo v S t p ≤ 999) = 1 then 0 else -3) else -2
def p_fire (v : Int → Int) (S t : Int) : Int → Int := p_ch v (fun p => v (26 + p) + s_mo v S t p)
noncomputable def x_one (v : Int → Int) (p t : Int) : Int := if 0 ≤ p ∧ p < v 0 then x_fire v (2 ^ p.toNat) t else -2
def s_hp (v : Int → Int) : Prop := ∀ p : Int, 1 ≤ p → p < v 0 → 0 ≤ v (26 + p)
/-- what settling at the sink comes to -/
def s_stl (v x f : Int → Int) : Prop := s_fin (v_L v) (v 0) 0 (v_c v) (fun _ => 0) x f
noncomputable def s_r (v : Int → Int) : (Int → Int) × (Int → Int) := Classical.epsilon (fun r : (Int → Int) × (Int → Int) => s_stl v r.1 r.2)
noncomputable def x_stl (v : Int → Int) : Int := if fc_ind (s_J (v_L v) (v 0) ∧ s_hp v) = 1 then (if (s_r v).1 0 ≤ 999 then 0 else -3) else -3
noncomputable def p_stl (v : Int → Int) : Int → Int := p_fs (p_ch v (s_r v).1) (s_r v).2
theorem s_stl_r {v : Int → Int} (hv : v_ok v) (hJ : s_J (v_L v) (v 0)) (hh : s_hp v) : s_stl v (s_r v).1 (s_r v).2 := by
  obtain ⟨x, f, h⟩ := s_fin_ex hv.g hv.n (q := 0) ⟨by omega, by have := hv.1; omega⟩ hJ (z := v_c v) (g := fun _ => 0) (fun p p0 p1 p2 => by
    have := hv.2.2.2.1 p p0 (by have := hv.2.1; omega)
    have := hh p (by omega) p1
    unfold v_c
    omega)
  exact Classical.epsilon_spec (p := fun r : (Int → Int) × (Int → Int) => s_stl v r.1 r.2) ⟨(x, f), h⟩
theorem s_J_val {L : Int → Int → Int} (hg : g_ok L) {n : Int} (hn : 2 ≤ n ∧ n ≤ 5) (hJ : s_J L n) {p : Int} (h0 : 0 ≤ p) (h1 : p < n) : 0 < s_val L n p := by
  apply Classical.byContradiction
  intro hc
  have hv := s_val_bd hg (n := n) (p := p) (by omega) hn.2 h0 (by omega)
  have hz : ∀ o : Int, 0 ≤ o → o < n → L p o = 0 := fun o o0 o1 => by
    have h2 := fs_sum_mem (f := L p) (m := n.toNat) (k := o) (fun j j0 j1 => (hg p j h0 (by omega) j0 (by omega)).1) o0 (by omega)
    have h3 := (hg p o h0 (by omega) o0 (by omega)).1
    unfold s_val at hc hv
    omega
  have key : ∀ q : Int, 0 ≤ q → q < n → p ≠ q → False := fun q q0 q1 hpq => by
    obtain ⟨h, hw, -⟩ := s_wt_ex hg hn ⟨q0, q1⟩ hJ
    have h4 := hw.2.2 p h0 h1 hpq
    rw [fs_sum_congr (g := fun _ => 0) (fun k k0 k1 => by
      unfold s_M
      by_cases e : p = k
      · rw [if_pos e, show s_val L n p = 0 by omega, Int.zero_mul]
      · rw [if_neg e, hz k k0 (by omega)]; simp), fs_sum_zero] at h4
    omega
  by_cases e : p = 0
  · exact key 1 (by omega) (by omega) (by omega)
  · exact key 0 (by omega) (by omega) e
