/-! settling, as a method's contract; the same on both sides -/
def s_fin (L : Int → Int → Int) (n q : Int) (z g x f : Int → Int) : Prop := ∃ K : Nat, K < 1000000 ∧ (∀ k : Nat, k < K → (s_sw L n q (s_it L n q z g k).1 (s_it L n q z g k).2 n.toNat).2.2 = 1) ∧ (s_sw L n q (s_it L n q z g K).1 (s_it L n q z g K).2 n.toNat).2.2 = 0 ∧ (x, f) = s_it L n q z g (K + 1) ∧ s_al L n q z g x f ∧ ∀ p : Int, 0 ≤ p → p < n → ¬ s_can L n q x p
section ST2
variable {L : Int → Int → Int} {n q : Int}
theorem s_fin_ex (hg : g_ok L) (hn : 2 ≤ n ∧ n ≤ 5) (hq : 0 ≤ q ∧ q < n) (hJ : s_J L n) {z g : Int → Int} (hz : ∀ p : Int, 0 ≤ p → p < n → p ≠ q → 0 ≤ z p ∧ z p ≤ 999) : ∃ x f : Int → Int, s_fin L n q z g x f := by
  obtain ⟨h, hw, p0, q0, q1, q2, q3⟩ := s_wt_ex hg hn hq hJ
  have hph : s_ph n h z ≤ 999999 := by
    have h1 := fs_sum_le (f := fun o => h o * z o) (g := fun o => (255744 - (if o = q then 255744 else 0)) - (if o = p0 then 29970 else 0)) (m := n.toNat) (fun k k0 k1 => by
      by_cases e : k = q
      · rw [e, hw.2.1, if_pos rfl, if_neg (by omega)]; omega
      · have hk := hz k k0 (by omega) e
        have hh := hw.1 k k0 (by omega)
        rw [if_neg e]
        by_cases e2 : k = p0
        · rw [if_pos e2, e2]
          rw [e2] at hk
          have := Int.mul_le_mul (show h p0 ≤ 226 from q3) hk.2 hk.1 (by omega)
          omega
        · rw [if_neg e2]
          have := Int.mul_le_mul hh.2 hk.2 hk.1 (by omega)
          omega)
    rw [fs_sum_sub, fs_sum_sub, fs_sum_one hq.1 (by omega), fs_sum_one q0 (by omega)] at h1
    have h2 := fs_sum_bd (f := fun _ => 255744) (lo := 255744) (hi := 255744) (n := n.toNat) (fun k _ _ => ⟨Int.le_refl _, Int.le_refl _⟩)
    unfold s_ph
    omega
  obtain ⟨K, hK, hmv, hst, he, hcan⟩ := s_end hg ⟨by omega, hn.2⟩ hq hw (z := z) (g := g) (fun p p0 p1 p2 => (hz p p0 p1 p2).1) (N := 999999) (by omega)
  refine ⟨(s_it L n q z g (K + 1)).1, (s_it L n q z g (K + 1)).2, K, by omega, hmv, hst, rfl, s_al.it hg ⟨by omega, hn.2⟩ hq (fun p p0 p1 p2 => (hz p p0 p1 p2).1) (K + 1), ?_⟩
  rw [he]
  exact hcan
/-- what lies outside 0 .. n - 1 doesn't matter -/
def s_eqn (n : Int) (x y : Int → Int) : Prop := ∀ p : Int, 0 ≤ p → p < n → x p = y p
theorem s_sw_congr {x f x' f' : Int → Int} (hx : s_eqn n x x') (hf : s_eqn n f f') : ∀ k : Nat, (k : Int) ≤ n → s_eqn n (s_sw L n q x f k).1 (s_sw L n q x' f' k).1 ∧ s_eqn n (s_sw L n q x f k).2.1 (s_sw L n q x' f' k).2.1 ∧ (s_sw L n q x f k).2.2 = (s_sw L n q x' f' k).2.2 := by
  intro k
  induction k with
  | zero => intro _; exact ⟨hx, hf, rfl⟩
  | succ k ih =>
    intro hk
    obtain ⟨i1, i2, i3⟩ := ih (by omega)
    have ek := i1 k (by omega) (by omega)
    have ef := i2 k (by omega) (by omega)
    by_cases hc : s_can L n q (s_sw L n q x f k).1 k
    · have hc' : s_can L n q (s_sw L n q x' f' k).1 k := by unfold s_can at hc ⊢; rw [← ek]; exact hc
      have e := s_sw_t (L := L) (n := n) (q := q) (x := x) (f := f) (k := (k : Int)) (by omega) hc
      have e' := s_sw_t (L := L) (n := n) (q := q) (x := x') (f := f') (k := (k : Int)) (by omega) hc'
      rw [show (((k : Nat) : Int) + 1).toNat = k + 1 by omega, show ((k : Nat) : Int).toNat = k by omega] at e e'
      rw [e, e', ← ek, ← ef]
      refine ⟨fun p p0 p1 => ?_, fun p p0 p1 => ?_, rfl⟩
      · show s_fire _ _ _ _ _ p = s_fire _ _ _ _ _ p
        unfold s_fire
        rw [if_pos ⟨p0, p1⟩, if_pos ⟨p0, p1⟩, i1 p p0 p1]
      · show fc_set _ _ _ p = fc_set _ _ _ p
        unfold fc_set
        rw [i2 p p0 p1]
    · have hc' : ¬ s_can L n q (s_sw L n q x' f' k).1 k := by unfold s_can at hc ⊢; rw [← ek]; exact hc
      have e := s_sw_f (L := L) (n := n) (q := q) (x := x) (f := f) (k := (k : Int)) (by omega) hc
      have e' := s_sw_f (L := L) (n := n) (q := q) (x := x') (f := f') (k := (k : Int)) (by omega) hc'
      rw [show (((k : Nat) : Int) + 1).toNat = k + 1 by omega, show ((k : Nat) : Int).toNat = k by omega] at e e'
      rw [e, e']
      exact ⟨i1, i2, i3⟩
theorem s_it_congr (hn : 0 ≤ n) {x f x' f' : Int → Int} (hx : s_eqn n x x') (hf : s_eqn n f f') : ∀ k : Nat, s_eqn n (s_it L n q x f k).1 (s_it L n q x' f' k).1 ∧ s_eqn n (s_it L n q x f k).2 (s_it L n q x' f' k).2 := by
  intro k
  induction k with
  | zero => exact ⟨hx, hf⟩
  | succ k ih =>
    have := s_sw_congr (L := L) (q := q) ih.1 ih.2 n.toNat (by omega)
    exact ⟨this.1, this.2.1⟩
theorem s_fin.uniq (hn : 0 ≤ n) {z g x f z' g' x' f' : Int → Int} (h : s_fin L n q z g x f) (h' : s_fin L n q z' g' x' f') (hz : s_eqn n z z') (hg : s_eqn n g g') : s_eqn n x x' ∧ s_eqn n f f' := by
  obtain ⟨K, -, m1, s1, e1, -⟩ := h
  obtain ⟨K', -, m2, s2, e2, -⟩ := h'
  have cg : ∀ k : Nat, (s_sw L n q (s_it L n q z g k).1 (s_it L n q z g k).2 n.toNat).2.2 = (s_sw L n q (s_it L n q z' g' k).1 (s_it L n q z' g' k).2 n.toNat).2.2 := fun k => (s_sw_congr (L := L) (q := q) (s_it_congr hn hz hg k).1 (s_it_congr hn hz hg k).2 n.toNat (by omega)).2.2
  have eK : K = K' := by
    rcases Nat.lt_trichotomy K K' with h | h | h
    · have := m2 K h
      rw [← cg, s1] at this
      cases this
    · exact h
    · have := m1 K' h
      rw [cg, s2] at this
      cases this
  subst eK
  have c := s_it_congr (L := L) (q := q) hn hz hg (K + 1)
  rw [← e1, ← e2] at c
  exact c
variable {A : Nat → Int → Int} {F : Nat → Nat → Int}
theorem c_settleE (M : k_mx A F n q L) (hg : g_ok L) (hn : 2 ≤ n ∧ n ≤ 5) (hq : 0 ≤ q ∧ q < n) (hJ : s_J L n) {i j : Nat} (hi : ∀ (a : Int → Int) (f : Nat → Int), fc_S i a f = cI 5 a) (hi2 : ¬ (19 ≤ i ∧ i < 24)) (hj : ∀ (a : Int → Int) (f : Nat → Int), fc_S j a f = cI 5 a) (hj2 : ¬ (19 ≤ j ∧ j < 24)) (hij : i ≠ j) (hz : ∀ p : Int, 0 ≤ p → p < n → p ≠ q → 0 ≤ A i p ∧ A i p ≤ 999) (hzq : -1000000 ≤ A i q ∧ A i q ≤ 1000000) : ∃ x f : Int → Int, s_fin L n q (A i) (A j) x f ∧ fh_M mX1_settle 1 [vR 17, vR i, vR j] A F none (fa_up (fa_up A i x) j f) F := by
  obtain ⟨x, f, hfin⟩ := s_fin_ex hg hn hq hJ (z := A i) (g := A j) hz
  refine ⟨x, f, hfin, ?_⟩
  obtain ⟨K, hK, hmv, hst, he, hal, hcan⟩ := hfin
  have hT : s_tot n q (A i) ≤ 5000 := by
    have h1 := fs_sum_le (f := fun o => if o = q then 0 else A i o) (g := fun _ => 999) (m := n.toNat) (fun k k0 k1 => by
      by_cases e : k = q
      · rw [if_pos e]; omega
      · rw [if_neg e]; exact (hz k k0 (by omega) e).2)
    have h2 := fs_sum_bd (f := fun _ => 999) (lo := 999) (hi := 999) (n := n.toNat) (fun k _ _ => ⟨Int.le_refl _, Int.le_refl _⟩)
    unfold s_tot
    omega
  have key := c_settle (x := A i) (f := A j) M hg hn hq hi hi2 hj hj2 hij rfl rfl hK (fun k hk m hm => ?_) hmv hst
  · rw [← he] at key
    exact key
  · have hz0 : ∀ p : Int, 0 ≤ p → p < n → p ≠ q → 0 ≤ A i p := fun p p0 p1 p2 => (hz p p0 p1 p2).1
    have a1 := s_al.it (L := L) hg ⟨by omega, hn.2⟩ hq (z := A i) (g := A j) hz0 k
    exact (a1.step hg ⟨by omega, hn.2⟩ hq m hm).bd ⟨by omega, hn.2⟩ hq hT (by omega) ⟨by omega, by omega⟩
end ST2
