/-! a rest of three rows -/
def u_wt (V : Int → Int → Int) (z p w : Int) : Prop := (∃ c : Int, 1 ≤ c ∧ c < z ∧ V 0 c ≠ 0 ∧ p < u_ab (V 0 c) ∧ p * u_ab (V 0 c) ≤ w) ∨ ∃ r : Int, 1 ≤ r ∧ r < z ∧ V r 0 ≠ 0 ∧ p < u_ab (V r 0) ∧ p * u_ab (V r 0) ≤ w
def u_s3 (W : Int → Int → Int) (x y N w : Int) : Prop := 0 ≤ N ∧ w ≤ 2000000 ∧ (N + 1343945) * (w * w) ≤ 9503112000000000000 ∧ (∀ r c : Int, 1 ≤ r → r < 3 → 1 ≤ c → c < 3 → u_ab (m2 (u_sw W 0 x y) 0 r 0 c) ≤ N) ∧ (2 * (u_ab (W x y) * u_ab (W x y)) ≤ w ∨ u_wt (u_sw W 0 x y) 3 (u_ab (W x y)) w)
def u_b3 (W : Int → Int → Int) : Prop := (∀ i j : Int, 0 ≤ i → i < 3 → 0 ≤ j → j < 3 → u_ab (W i j) ≤ 2400000000000000000) ∧ ∀ x y : Int, u_fl W 3 0 x y → u_ab (W x y) ≤ 1000 ∧ ∃ N w : Int, u_s3 W x y N w
theorem pot_st {N N' w w' : Int} (h0 : 0 ≤ N) (h1 : N' + 1343945 ≤ 4 * (N + 1343945)) (h2 : 0 ≤ w') (h3 : 2 * w' ≤ w) : (N' + 1343945) * (w' * w') ≤ (N + 1343945) * (w * w) := by
  have a := Int.mul_le_mul_of_nonneg_right h1 (Int.mul_nonneg h2 h2)
  have b : (2 * w') * (2 * w') ≤ w * w := Int.mul_le_mul h3 h3 (by omega) (by omega)
  have c := Int.mul_le_mul_of_nonneg_left b (show 0 ≤ N + 1343945 by omega)
  have e : (N + 1343945) * (2 * w' * (2 * w')) = 4 * (N + 1343945) * (w' * w') := by grind
  omega
theorem pot_N {N w : Int} (h0 : 0 ≤ N) (hw : 2 ≤ w) (h : (N + 1343945) * (w * w) ≤ 9503112000000000000) : N ≤ 2375778000000000000 := by
  have b : (2 : Int) * 2 ≤ w * w := Int.mul_le_mul hw hw (by omega) (by omega)
  have c := Int.mul_le_mul_of_nonneg_left b (show 0 ≤ N + 1343945 by omega)
  omega
theorem pot_rs {N' w' : Int} (h0 : 0 ≤ N') (h1 : N' ≤ 1031833) (h2 : 0 ≤ w') (h3 : w' ≤ 2000000) : (N' + 1343945) * (w' * w') ≤ 9503112000000000000 := by
  have b : w' * w' ≤ 2000000 * 2000000 := Int.mul_le_mul h3 h3 h2 (by omega)
  have c := Int.mul_le_mul (show N' + 1343945 ≤ 2375778 by omega) b (Int.mul_nonneg h2 h2) (by omega)
  omega
/-- a bound for all 2-minors from those in order -/
theorem srb2 {f : Int → Int → Int} {K s : Int} (hK : 0 ≤ K) (h12 : ∀ a b : Int, f b a = - f a b) (H : ∀ a b : Int, u_i s a → u_i s b → a < b → u_ab (f a b) ≤ K) (a b : Int) (ha : u_i s a) (hb : u_i s b) : u_ab (f a b) ≤ K := by
  by_cases c1 : a < b
  · exact H a b ha hb c1
  · by_cases c2 : b < a
    · have := H b a hb ha c2
      rw [h12, ab_neg] at this
      exact this
    · have e : a = b := by omega
      have := h12 a a
      rw [← e, show f a a = 0 by omega]
      exact hK
theorem u_K2 {X : Int → Int → Int} {K s : Int} (hK : 0 ≤ K) (H : ∀ a b c e : Int, u_i s a → u_i s b → u_i s c → u_i s e → a < b → c < e → u_ab (m2 X a b c e) ≤ K) (a b c e : Int) (ha : u_i s a) (hb : u_i s b) (hc : u_i s c) (he : u_i s e) : u_ab (m2 X a b c e) ≤ K :=
  srb2 (f := fun a b => m2 X a b c e) hK (fun _ _ => m2_12) (fun a b ha hb hab => srb2 (f := fun c e => m2 X a b c e) hK (fun _ _ => m2_c12) (fun c e hc he hce => H a b c e ha hb hc he hab hce) c e hc he) a b ha hb
theorem m2_sw {X : Int → Int → Int} {x y a b c e : Int} : m2 (u_sw X 0 x y) a b c e = m2 X (u_pm 0 x a) (u_pm 0 x b) (u_pm 0 y c) (u_pm 0 y e) := by
  unfold m2
  rw [u_sw_pm, u_sw_pm, u_sw_pm, u_sw_pm]
theorem u_pm_i {s x i : Int} (hx : u_i s x) (hi : u_i s i) : u_i s (u_pm 0 x i) := by
  have := hx.1; have := hx.2; have := hi.1; have := hi.2
  have := u_pm_hi (s := s) (a := 0) (b := x) (i := i) ⟨by omega, by omega⟩ ⟨by omega, by omega⟩
  exact ⟨by omega, by omega⟩
theorem u_dv2 {x y : Int} (hy : y ∣ x) (h : u_ab y < u_ab x) : 2 * u_ab y ≤ u_ab x := by
  obtain ⟨t, rfl⟩ := hy
  rw [ab_mul] at h ⊢
  have h0 := u_ab_n y
  have h1 := u_ab_n t
  have : 2 ≤ u_ab t := by
    apply Classical.byContradiction
    intro hc
    have : u_ab t = 0 ∨ u_ab t = 1 := by omega
    rcases this with e | e <;> rw [e] at h <;> omega
  have := Int.mul_le_mul_of_nonneg_left this h0
  omega
/-- (p' p) is half of w at most -/
theorem u_half {V : Int → Int → Int} {z p p' w : Int} (hp : u_ab (V 0 0) = p) (hn : V 0 0 ≠ 0) (h0 : 0 ≤ p') (h1 : p' < p) (hl : ∀ i j : Int, 0 ≤ i → i < z → 0 ≤ j → j < z → u_c V 0 i j ≠ 0 → p' ≤ u_ab (u_c V 0 i j)) (hw : 2 * (p * p) ≤ w ∨ u_wt V z p w) : 2 * (p' * p) ≤ w := by
  have key : ∀ A : Int, p < u_ab A → p * u_ab A ≤ w → (A - A.tdiv (V 0 0) * V 0 0 ≠ 0 → p' ≤ u_ab (A - A.tdiv (V 0 0) * V 0 0)) → 2 * (p' * p) ≤ w := by
    intro A a1 a2 a3
    have h2 : 2 * p' ≤ u_ab A := by
      by_cases c : A - A.tdiv (V 0 0) * V 0 0 = 0
      · have := u_dv2 (u_rem0.1 c) (by rw [hp]; exact a1)
        omega
      · have := a3 c
        have := u_rem2 (x := A) hn (by omega)
        omega
    have := Int.mul_le_mul_of_nonneg_right h2 (show 0 ≤ p by omega)
    have e : 2 * p' * p = 2 * (p' * p) := Int.mul_assoc _ _ _
    have e2 : u_ab A * p = p * u_ab A := Int.mul_comm _ _
    omega
  rcases hw with h | ⟨c, c0, c1, c2, c3, c4⟩ | ⟨c, c0, c1, c2, c3, c4⟩
  · have := Int.mul_le_mul_of_nonneg_right (show p' ≤ p by omega) (show 0 ≤ p by omega)
    omega
  · exact key (V 0 c) c3 c4 (fun hh => by rw [← u_c_0c c0] at hh ⊢; exact hl 0 c (by omega) (by omega) (by omega) c1 hh)
  · exact key (V c 0) c3 c4 (fun hh => by rw [← u_c_r0 c0] at hh ⊢; exact hl c 0 (by omega) c1 (by omega) (by omega) hh)
/-- all cleared: w is 2 p p at least -/
theorem u_full {V : Int → Int → Int} {z p w : Int} (hp : u_ab (V 0 0) = p) (ha : u_all V z 0) (hw : 2 * (p * p) ≤ w ∨ u_wt V z p w) : 2 * (p * p) ≤ w := by
  have ha' := u_all_iff.1 ha
  have h0 := u_ab_n (V 0 0)
  have key : ∀ A : Int, p < u_ab A → p * u_ab A ≤ w → A - A.tdiv (V 0 0) * V 0 0 = 0 → 2 * (p * p) ≤ w := by
    intro A a1 a2 a3
    have := u_dv2 (u_rem0.1 a3) (by rw [hp]; exact a1)
    have := Int.mul_le_mul_of_nonneg_left (show 2 * p ≤ u_ab A by omega) (show 0 ≤ p by omega)
    have e : p * (2 * p) = 2 * (p * p) := by grind
    omega
  rcases hw with h | ⟨c, c0, c1, c2, c3, c4⟩ | ⟨c, c0, c1, c2, c3, c4⟩
  · exact h
  · exact key (V 0 c) c3 c4 (by rw [← u_c_0c c0]; exact ha'.2 c (by omega) c1)
  · exact key (V c 0) c3 c4 (by rw [← u_c_r0 c0]; exact ha'.1 c (by omega) c1)
theorem u_w2 {V : Int → Int → Int} {z p w : Int} (hp : 1 ≤ p) (hw : 2 * (p * p) ≤ w ∨ u_wt V z p w) : 2 ≤ w := by
  have key : ∀ a : Int, p < a → p * a ≤ w → 2 ≤ w := fun a h1 h2 => by
    have := Int.mul_le_mul (show 1 ≤ p by omega) (show 2 ≤ a by omega) (by omega) (by omega)
    omega
  rcases hw with h | ⟨c, c0, c1, c2, c3, c4⟩ | ⟨c, c0, c1, c2, c3, c4⟩
  · have := Int.mul_le_mul (show 1 ≤ p by omega) (show 1 ≤ p by omega) (by omega) (by omega)
    omega
  · exact key _ c3 c4
  · exact key _ c3 c4
section B3
variable {Z : Int → Int → Int} {p N : Int}
/-- behind a clear -/
def u_cl3 (Z : Int → Int → Int) (p N : Int) : Prop := 1 ≤ p ∧ 0 ≤ N ∧ u_ab (Z 0 0) = p ∧ (∀ r : Int, 1 ≤ r → r < 3 → u_ab (Z r 0) ≤ p - 1 ∧ u_ab (Z 0 r) ≤ p - 1) ∧ (∀ r c : Int, 1 ≤ r → r < 3 → 1 ≤ c → c < 3 → u_ab (m2 Z 0 r 0 c) ≤ N) ∧ u_ab (m3 Z 0 1 2 0 1 2) ≤ 31833
theorem u_cl3.J (h : u_cl3 Z p N) {a r c : Int} (ha : u_ab a ≤ p) (r0 : 1 ≤ r) (r1 : r < 3) (c0 : 1 ≤ c) (c1 : c < 3) : u_ab (a * Z r c) ≤ N + (p - 1) * (p - 1) ∧ u_ab (Z r c * a) ≤ N + (p - 1) * (p - 1) := by
  obtain ⟨h1, h2, h3, h4, h5, h6⟩ := h
  have := u_in h3 (h4 r r0 r1).1 (h4 c c0 c1).2 (h5 r c r0 r1 c0 c1)
  have q := Int.mul_le_mul_of_nonneg_right ha (u_ab_n (Z r c))
  rw [Int.mul_comm (Z r c) a, ab_mul]
  omega
theorem u_cl3.I2 (h : u_cl3 Z p N) : u_ab (m2 Z 1 2 1 2) ≤ 31833 + 4 * (N + (p - 1) * (p - 1)) := by
  have hJ := fun a r c => h.J (a := a) (r := r) (c := c)
  obtain ⟨h1, h2, h3, h4, h5, h6⟩ := h
  obtain ⟨J, eJ⟩ : ∃ J, J = N + (p - 1) * (p - 1) := ⟨_, rfl⟩
  rw [← eJ] at hJ ⊢
  have a1 := (hJ (Z 1 0) 2 2 (by have := (h4 1 (by omega) (by omega)).1; omega) (by omega) (by omega) (by omega) (by omega)).1
  have a2 := (hJ (Z 2 0) 1 2 (by have := (h4 2 (by omega) (by omega)).1; omega) (by omega) (by omega) (by omega) (by omega)).2
  have a3 := (hJ (Z 1 0) 2 1 (by have := (h4 1 (by omega) (by omega)).1; omega) (by omega) (by omega) (by omega) (by omega)).1
  have a4 := (hJ (Z 2 0) 1 1 (by have := (h4 2 (by omega) (by omega)).1; omega) (by omega) (by omega) (by omega) (by omega)).2
  have b1 : u_ab (m2 Z 1 2 0 2) ≤ 2 * J := by unfold m2; have := ab_sub (Z 1 0 * Z 2 2) (Z 1 2 * Z 2 0); omega
  have b2 : u_ab (m2 Z 1 2 0 1) ≤ 2 * J := by unfold m2; have := ab_sub (Z 1 0 * Z 2 1) (Z 1 1 * Z 2 0); omega
  have e : Z 0 0 * m2 Z 1 2 1 2 = m3 Z 0 1 2 0 1 2 + Z 0 1 * m2 Z 1 2 0 2 - Z 0 2 * m2 Z 1 2 0 1 := by unfold m3; omega
  have h7 := ab_mul (Z 0 0) (m2 Z 1 2 1 2)
  rw [e, h3] at h7
  have h8 := ab_sub (m3 Z 0 1 2 0 1 2 + Z 0 1 * m2 Z 1 2 0 2) (Z 0 2 * m2 Z 1 2 0 1)
  have h9 := ab_add (m3 Z 0 1 2 0 1 2) (Z 0 1 * m2 Z 1 2 0 2)
  rw [ab_mul] at h8 h9
  have J0 : 0 ≤ J := by have := Int.mul_nonneg (show 0 ≤ p - 1 by omega) (show 0 ≤ p - 1 by omega); omega
  have c1 := Int.mul_le_mul (show u_ab (Z 0 1) ≤ p by have := (h4 1 (by omega) (by omega)).2; omega) b1 (u_ab_n _) (by omega)
  have c2 := Int.mul_le_mul (show u_ab (Z 0 2) ≤ p by have := (h4 2 (by omega) (by omega)).2; omega) b2 (u_ab_n _) (by omega)
  -- p * I <= 31833 + 4 p J
  apply Classical.byContradiction
  intro hc
  have d1 := Int.mul_le_mul_of_nonneg_left (show 31833 + 4 * J + 1 ≤ u_ab (m2 Z 1 2 1 2) by omega) (show 0 ≤ p by omega)
  have e2 : p * (31833 + 4 * J + 1) = 31834 * p + 2 * (p * (2 * J)) := by grind
  omega
theorem u_cl3.K (h : u_cl3 Z p N) : ∀ a b c e : Int, u_i 3 a → u_i 3 b → u_i 3 c → u_i 3 e → u_ab (m2 Z a b c e) ≤ 31833 + 4 * (N + (p - 1) * (p - 1)) := by
  have hJ := fun a r c => h.J (a := a) (r := r) (c := c)
  have hI := h.I2
  obtain ⟨h1, h2, h3, h4, h5, h6⟩ := h
  have P0 := Int.mul_nonneg (show 0 ≤ p - 1 by omega) (show 0 ≤ p - 1 by omega)
  obtain ⟨J, eJ⟩ : ∃ J, J = N + (p - 1) * (p - 1) := ⟨_, rfl⟩
  rw [← eJ] at hJ hI ⊢
  refine u_K2 (by omega) (fun a b c e ha hb hc he hab hce => ?_)
  have := ha.1; have := hb.2; have := hc.1; have := he.2
  by_cases ca : a = 0
  · subst ca
    by_cases cc : c = 0
    · subst cc
      have := h5 b e (by omega) (by omega) (by omega) (by omega)
      omega
    · have c1 : c = 1 := by omega
      have e2 : e = 2 := by omega
      subst c1 e2
      have a1 := (hJ (Z 0 1) b 2 (by have := (h4 1 (by omega) (by omega)).2; omega) (by omega) (by omega) (by omega) (by omega)).1
      have a2 := (hJ (Z 0 2) b 1 (by have := (h4 2 (by omega) (by omega)).2; omega) (by omega) (by omega) (by omega) (by omega)).1
      unfold m2
      have := ab_sub (Z 0 1 * Z b 2) (Z 0 2 * Z b 1)
      omega
  · have c1 : a = 1 := by omega
    have e2 : b = 2 := by omega
    subst c1 e2
    by_cases cc : c = 0
    · subst cc
      have a1 := (hJ (Z 1 0) 2 e (by have := (h4 1 (by omega) (by omega)).1; omega) (by omega) (by omega) (by omega) (by omega)).1
      have a2 := (hJ (Z 2 0) 1 e (by have := (h4 2 (by omega) (by omega)).1; omega) (by omega) (by omega) (by omega) (by omega)).2
      unfold m2
      have := ab_sub (Z 1 0 * Z 2 e) (Z 1 e * Z 2 0)
      omega
    · have c1 : c = 1 := by omega
      have e2 : e = 2 := by omega
      subst c1 e2
      exact hI
/-- inside, with nothing left in its row and column: a fresh start -/
theorem u_cl3.C (h : u_cl3 Z p N) {x y : Int} (x0 : 1 ≤ x) (x1 : x < 3) (y0 : 1 ≤ y) (y1 : y < 3) (hr : Z x 0 = 0) (hc : Z 0 y = 0) (hp' : u_ab (Z x y) ≤ p) : ∀ r c : Int, 1 ≤ r → r < 3 → 1 ≤ c → c < 3 → u_ab (m2 (u_sw Z 0 x y) 0 r 0 c) ≤ 31833 + p * p := by
  obtain ⟨h1, h2, h3, h4, h5, h6⟩ := h
  have pp0 := Int.mul_nonneg (show 0 ≤ p by omega) (show 0 ≤ p by omega)
  have sm : ∀ a : Int, u_ab a ≤ p → u_ab (Z x y * a) ≤ p * p := fun a ha => by rw [ab_mul]; exact Int.mul_le_mul hp' ha (u_ab_n _) (by omega)
  obtain ⟨x', ex⟩ : ∃ x' : Int, x' = 3 - x := ⟨_, rfl⟩
  obtain ⟨y', ey⟩ : ∃ y' : Int, y' = 3 - y := ⟨_, rfl⟩
  -- the minor inside
  have hI : u_ab (Z x y * Z x' y' - Z x y' * Z x' y) ≤ 31833 + p * p := by
    have e : Z 0 0 * (Z x y * Z x' y' - Z x y' * Z x' y) = (if x = y then m3 Z 0 1 2 0 1 2 else - m3 Z 0 1 2 0 1 2) + Z x y * (Z 0 y' * Z x' 0) := by
      have hx : x = 1 ∨ x = 2 := by omega
      have hy : y = 1 ∨ y = 2 := by omega
      rcases hx with rfl | rfl <;> rcases hy with rfl | rfl <;> subst ex <;> subst ey
      · rw [if_pos rfl]
        show Z 0 0 * (Z 1 1 * Z 2 2 - Z 1 2 * Z 2 1) = m3 Z 0 1 2 0 1 2 + Z 1 1 * (Z 0 2 * Z 2 0)
        unfold m3 m2
        grind
      · rw [if_neg (by decide)]
        show Z 0 0 * (Z 1 2 * Z 2 1 - Z 1 1 * Z 2 2) = - m3 Z 0 1 2 0 1 2 + Z 1 2 * (Z 0 1 * Z 2 0)
        unfold m3 m2
        grind
      · rw [if_neg (by decide)]
        show Z 0 0 * (Z 2 1 * Z 1 2 - Z 2 2 * Z 1 1) = - m3 Z 0 1 2 0 1 2 + Z 2 1 * (Z 0 2 * Z 1 0)
        unfold m3 m2
        grind
      · rw [if_pos rfl]
        show Z 0 0 * (Z 2 2 * Z 1 1 - Z 2 1 * Z 1 2) = m3 Z 0 1 2 0 1 2 + Z 2 2 * (Z 0 1 * Z 1 0)
        unfold m3 m2
        grind
    have h7 := ab_mul (Z 0 0) (Z x y * Z x' y' - Z x y' * Z x' y)
    rw [e, h3] at h7
    have h8 := ab_add (if x = y then m3 Z 0 1 2 0 1 2 else - m3 Z 0 1 2 0 1 2) (Z x y * (Z 0 y' * Z x' 0))
    have h9 : u_ab (if x = y then m3 Z 0 1 2 0 1 2 else - m3 Z 0 1 2 0 1 2) ≤ 31833 := by
      split
      · exact h6
      · rw [ab_neg]; exact h6
    have h10 : u_ab (Z x y * (Z 0 y' * Z x' 0)) ≤ p * (p * p) := by
      rw [ab_mul, ab_mul]
      refine Int.mul_le_mul hp' (Int.mul_le_mul ?_ ?_ (u_ab_n _) (by omega)) (Int.mul_nonneg (u_ab_n _) (u_ab_n _)) (by omega)
      · have := (h4 y' (by omega) (by omega)).2; omega
      · have := (h4 x' (by omega) (by omega)).1; omega
    apply Classical.byContradiction
    intro hcc
    have d1 := Int.mul_le_mul_of_nonneg_left (show 31833 + p * p + 1 ≤ u_ab (Z x y * Z x' y' - Z x y' * Z x' y) by omega) (show 0 ≤ p by omega)
    have e2 : p * (31833 + p * p + 1) = 31834 * p + p * (p * p) := by grind
    omega
  intro r c r0 r1 c0 c1
  rw [m2_sw]
  have ux : u_pm 0 x 0 = x := if_pos rfl
  have uy : u_pm 0 y 0 = y := if_pos rfl
  rw [ux, uy]
  have hrr : (u_pm 0 x r = 0) ∨ (u_pm 0 x r = x') := by
    unfold u_pm
    rw [if_neg (by omega)]
    by_cases cr : r = x
    · rw [if_pos cr]; exact Or.inl rfl
    · rw [if_neg cr]; exact Or.inr (by omega)
  have hcc : (u_pm 0 y c = 0) ∨ (u_pm 0 y c = y') := by
    unfold u_pm
    rw [if_neg (by omega)]
    by_cases cr : c = y
    · rw [if_pos cr]; exact Or.inl rfl
    · rw [if_neg cr]; exact Or.inr (by omega)
  unfold m2
  rcases hrr with er | er <;> rcases hcc with ec | ec <;> rw [er, ec]
  · rw [hr, Int.zero_mul, Int.sub_zero]
    have := sm (Z 0 0) (by omega)
    omega
  · rw [hc, Int.mul_zero, Int.sub_zero]
    have := sm (Z 0 y') (by have := (h4 y' (by omega) (by omega)).2; omega)
    omega
  · rw [hr, Int.zero_mul, Int.sub_zero]
    have := sm (Z x' 0) (by have := (h4 x' (by omega) (by omega)).1; omega)
    omega
  · exact hI
end B3
