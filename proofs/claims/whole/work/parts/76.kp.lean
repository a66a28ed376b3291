/-! what the rounds keep, but for the bounds -/
def u_B1 (s : Int) (B : Int → Nat → (Int → Int → Int) → Prop) : Prop := u_H1 s B
def u_P (U0 : Int → Int → Int) (s : Int) (B : Int → Nat → (Int → Int → Int) → Prop) : Int → Nat → (Int → Int → Int) → Prop := fun k m U => u_EE U0 U s ∧ u_dg U s k ∧ (∀ j : Int, 0 ≤ j → j < k → U j j ≠ 0 ∧ u_b (U j j) ∧ ∀ i i' : Int, j ≤ i → i < s → j ≤ i' → i' < s → U j j ∣ U i i') ∧ B k m U
/-- the bounds' rounds may use that the product of all is fixed -/
def u_H2B (s : Int) (Q : Int → (Int → Int → Int) → Prop) (B : Int → Nat → (Int → Int → Int) → Prop) : Prop := ∀ (k : Int) (m : Nat) (U : Int → Int → Int) (x y : Int), 0 ≤ k → k < s → Q k U → B k m U → u_fl U s k x y → (¬ u_all (u_sw U k x y) s k → ∃ m' : Nat, m' < m ∧ B k m' (u_c (u_sw U k x y) k)) ∧ (u_all (u_sw U k x y) s k → (∀ i j : Int, k ≤ i → i < s → k ≤ j → j < s → u_b (u_c (u_sw U k x y) k i j)) ∧ ((∀ i j : Int, k < i → i < s → k < j → j < s → u_c (u_sw U k x y) k k k ∣ u_c (u_sw U k x y) k i j) → ∃ m' : Nat, B (k + 1) m' (u_c (u_sw U k x y) k)) ∧ ∀ u j : Int, k < u → u < s → k < j → j < s → ¬ u_c (u_sw U k x y) k k k ∣ u_c (u_sw U k x y) k u j → ∃ m' : Nat, m' < m ∧ B k m' (u_add (u_c (u_sw U k x y) k) k u))
section KP
variable {U U0 : Int → Int → Int} {s k x y : Int}
theorem u_sw_lo {i j : Int} (hx : k ≤ x) (hy : k ≤ y) (hi : i < k) : u_sw U k x y i j = U i (u_pm k y j) := by
  unfold u_sw b_sc b_sw u_pm
  by_cases c1 : j = k
  · rw [if_pos c1, if_pos c1, if_neg (by omega), if_neg (by omega)]
  · rw [if_neg c1, if_neg c1]
    by_cases c2 : j = y
    · rw [if_pos c2, if_pos c2, if_neg (by omega), if_neg (by omega)]
    · rw [if_neg c2, if_neg c2, if_neg (by omega), if_neg (by omega)]
theorem u_sw_pm {i j : Int} : u_sw U k x y i j = U (u_pm k x i) (u_pm k y j) := by
  unfold u_sw b_sc b_sw u_pm
  repeat' split
  all_goals rfl
theorem u_pm_lo {a b i : Int} (hb : a ≤ b) (hi : i < a) : u_pm a b i = i := by
  unfold u_pm
  rw [if_neg (by omega), if_neg (by omega)]
theorem u_pm_hi {a b i : Int} (hb : a ≤ b ∧ b < s) (hi : a ≤ i ∧ i < s) : a ≤ u_pm a b i ∧ u_pm a b i < s := by
  unfold u_pm
  repeat' split
  all_goals omega
theorem u_dg.sw (h : u_dg U s k) (h0 : 0 ≤ k) (hx : k ≤ x ∧ x < s) (hy : k ≤ y ∧ y < s) : u_dg (u_sw U k x y) s k := by
  intro j i j0 j1 hi hij
  have key : ∀ b : Int, k ≤ b ∧ b < s → u_i s (u_pm k b i) ∧ u_pm k b i ≠ j := fun b hb => by
    by_cases c : i < k
    · rw [u_pm_lo hb.1 c]; exact ⟨hi, hij⟩
    · have := u_pm_hi (s := s) hb (i := i) ⟨by omega, hi.2⟩
      exact ⟨⟨by omega, by omega⟩, by omega⟩
  rw [u_sw_pm, u_sw_pm, u_pm_lo hx.1 j1, u_pm_lo hy.1 j1]
  exact ⟨(h j _ j0 j1 (key x hx).1 (key x hx).2).1, (h j _ j0 j1 (key y hy).1 (key y hy).2).2⟩
theorem u_dg.c (h : u_dg U s k) : u_dg (u_c U k) s k := by
  intro j i j0 j1 hi hij
  unfold u_c
  rw [if_neg (by omega), if_neg (by omega)]
  exact h j i j0 j1 hi hij
theorem u_dg.add {u : Int} (h : u_dg U s k) : u_dg (u_add U k u) s k := by
  intro j i j0 j1 hi hij
  unfold u_add
  rw [if_neg (by omega), if_neg (by omega)]
  exact h j i j0 j1 hi hij
theorem u_dv_sw {e j : Int} (h0 : 0 ≤ k) (hx : k ≤ x ∧ x < s) (hy : k ≤ y ∧ y < s) (j1 : j < k) (h : ∀ i i' : Int, j ≤ i → i < s → j ≤ i' → i' < s → e ∣ U i i') : ∀ i i' : Int, j ≤ i → i < s → j ≤ i' → i' < s → e ∣ u_sw U k x y i i' := by
  intro i i' i0 i1 i2 i3
  have key : ∀ b i : Int, k ≤ b ∧ b < s → j ≤ i → i < s → j ≤ u_pm k b i ∧ u_pm k b i < s := fun b i hb q0 q1 => by
    by_cases c : i < k
    · rw [u_pm_lo hb.1 c]; omega
    · have := u_pm_hi (s := s) hb (i := i) ⟨by omega, q1⟩
      omega
  rw [u_sw_pm]
  exact h _ _ (key x i hx i0 i1).1 (key x i hx i0 i1).2 (key y i' hy i2 i3).1 (key y i' hy i2 i3).2
theorem u_dv_c {e j : Int} (hk : k < s) (j1 : j ≤ k) (h : ∀ i i' : Int, j ≤ i → i < s → j ≤ i' → i' < s → e ∣ U i i') : ∀ i i' : Int, j ≤ i → i < s → j ≤ i' → i' < s → e ∣ u_c U k i i' := by
  intro i i' i0 i1 i2 i3
  unfold u_c
  split
  · have hy : ∀ c : Int, j ≤ c → c < s → e ∣ u_y U k i c := fun c c0 c1 => Int.dvd_sub (h i c i0 i1 c0 c1) (Int.dvd_mul_of_dvd_right (h k c j1 hk c0 c1))
    exact Int.dvd_sub (hy i' i2 i3) (Int.dvd_mul_of_dvd_right (hy k j1 hk))
  · exact h i i' i0 i1 i2 i3
theorem u_dv_add {e j u : Int} (hk : k < s) (j1 : j ≤ k) (hu : k < u ∧ u < s) (h : ∀ i i' : Int, j ≤ i → i < s → j ≤ i' → i' < s → e ∣ U i i') : ∀ i i' : Int, j ≤ i → i < s → j ≤ i' → i' < s → e ∣ u_add U k u i i' := by
  intro i i' i0 i1 i2 i3
  unfold u_add
  split
  · exact Int.dvd_add (h k i' j1 hk i2 i3) (h u i' (by omega) hu.2 i2 i3)
  · exact h i i' i0 i1 i2 i3
theorem u_P_H1 {B : Int → Nat → (Int → Int → Int) → Prop} (h : u_H1 s B) : u_H1 s (u_P U0 s B) := fun k m U h0 h1 hP => h k m U h0 h1 hP.2.2.2
set_option maxHeartbeats 1000000 in
theorem u_P_H2 {B : Int → Nat → (Int → Int → Int) → Prop} (h : u_H2B s (fun k U => u_EE U0 U s ∧ u_dg U s k ∧ ∀ j : Int, 0 ≤ j → j < k → U j j ≠ 0) B) : u_H2 s (u_P U0 s B) := by
  intro k m U x y h0 h1 hP hfl
  obtain ⟨p1, p2, p3, p4⟩ := hP
  have hx : k ≤ x ∧ x < s := ⟨hfl.1, hfl.2.1⟩
  have hy : k ≤ y ∧ y < s := ⟨hfl.2.2.1, hfl.2.2.2.1⟩
  have hk : u_i s k := ⟨h0, h1⟩
  obtain ⟨g1, g2⟩ := h k m U x y h0 h1 ⟨p1, p2, fun j j0 j1 => (p3 j j0 j1).1⟩ p4 hfl
  have e1 : u_EE U0 (u_c (u_sw U k x y) k) s := (p1.tr (u_EE_sw hk ⟨by omega, hx.2⟩ ⟨by omega, hy.2⟩)).tr (u_EE_c hk (p2.sw h0 hx hy))
  have d1 : u_dg (u_c (u_sw U k x y) k) s k := (p2.sw h0 hx hy).c
  have cj : ∀ j : Int, j < k → u_c (u_sw U k x y) k j j = U j j := fun j hj => by
    unfold u_c
    rw [if_neg (by omega), u_sw_pm, u_pm_lo hx.1 hj, u_pm_lo hy.1 hj]
  have c1 : ∀ j : Int, 0 ≤ j → j < k → u_c (u_sw U k x y) k j j ≠ 0 ∧ u_b (u_c (u_sw U k x y) k j j) ∧ ∀ i i' : Int, j ≤ i → i < s → j ≤ i' → i' < s → u_c (u_sw U k x y) k j j ∣ u_c (u_sw U k x y) k i i' := fun j j0 j1 => by
    rw [cj j j1]
    exact ⟨(p3 j j0 j1).1, (p3 j j0 j1).2.1, u_dv_c h1 (by omega) (u_dv_sw h0 hx hy j1 (p3 j j0 j1).2.2)⟩
  refine ⟨fun na => ?_, fun al => ?_⟩
  · obtain ⟨m', q1, q2⟩ := g1 na
    exact ⟨m', q1, e1, d1, c1, q2⟩
  · obtain ⟨w1, w2, w3⟩ := g2 al
    refine ⟨w1, fun hdv => ?_, fun u j u0 u1 j0 j1 hnd => ?_⟩
    · obtain ⟨m', q2⟩ := w2 hdv
      have zr : ∀ r : Int, k < r → r < s → u_c (u_sw U k x y) k r k = 0 := fun r r0 r1 => by
        have := al.1 r r0 r1
        unfold u_c
        rw [if_pos ⟨by omega, Int.le_refl _⟩]
        exact this
      have zc : ∀ r : Int, k < r → r < s → u_c (u_sw U k x y) k k r = 0 := fun r r0 r1 => by
        have := al.2 r r0 r1
        unfold u_c
        rw [if_pos ⟨Int.le_refl _, by omega⟩]
        exact this
      refine ⟨m', e1, ?_, ?_, q2⟩
      · intro j i j0 j1 hi hij
        by_cases c : j < k
        · exact d1 j i j0 c hi hij
        · have ej : j = k := by omega
          subst ej
          by_cases c2 : i < j
          · exact ⟨(d1 i j hi.1 c2 hk (by omega)).2, (d1 i j hi.1 c2 hk (by omega)).1⟩
          · exact ⟨zr i (by omega) hi.2, zc i (by omega) hi.2⟩
      · intro j j0 j1
        by_cases c : j < k
        · exact c1 j j0 c
        · have ej : j = k := by omega
          subst ej
          refine ⟨by rw [u_c_k, u_sw_k]; exact hfl.2.2.2.2.1, w1 j j (by omega) h1 (by omega) h1, fun i i' i0 i1 i2 i3 => ?_⟩
          by_cases ci : i = j
          · by_cases ci' : i' = j
            · rw [ci, ci']; exact Int.dvd_refl _
            · rw [ci, zc i' (by omega) i3]; exact Int.dvd_zero _
          · by_cases ci' : i' = j
            · rw [ci', zr i (by omega) i1]; exact Int.dvd_zero _
            · exact hdv i i' (by omega) i1 (by omega) i3
    · obtain ⟨m', q1, q2⟩ := w3 u j u0 u1 j0 j1 hnd
      refine ⟨m', q1, e1.tr (u_EE_add hk ⟨by omega, u1⟩ u0 d1), d1.add, fun i i0 i1 => ?_, q2⟩
      have ea : u_add (u_c (u_sw U k x y) k) k u i i = u_c (u_sw U k x y) k i i := by
        unfold u_add
        rw [if_neg (by omega)]
      rw [ea]
      exact ⟨(c1 i i0 i1).1, (c1 i i0 i1).2.1, u_dv_add h1 (by omega) ⟨u0, u1⟩ (c1 i i0 i1).2.2⟩
end KP
