/-! the determinant is above 0 where weights fall -/
def zN (M : Int → Int → Int) (p : Int) : Int → Int → Int := fun i j => M p p * M i j - M i p * M p j
theorem z_pos {a h r : Int} (h0 : 0 ≤ h) (h1 : 1 ≤ a * h) : 0 < a := by
  apply Classical.byContradiction
  intro hc
  have := Int.mul_nonneg (show 0 ≤ -a by omega) h0
  rw [Int.neg_mul] at this
  omega
theorem z_np {a b : Int} (ha : a ≤ 0) (hb : 0 ≤ b) : a * b ≤ 0 := by
  have := Int.mul_nonneg (show 0 ≤ -a by omega) hb
  rw [Int.neg_mul] at this
  omega
theorem z_nn {a b : Int} (ha : a ≤ 0) (hb : b ≤ 0) : 0 ≤ a * b := by
  have := Int.mul_nonneg (show 0 ≤ -a by omega) (show 0 ≤ -b by omega)
  rw [Int.neg_mul_neg] at this
  exact this
theorem zN_off {M : Int → Int → Int} {p i j : Int} (hp : 0 < M p p) (h1 : M i j ≤ 0) (h2 : M i p ≤ 0) (h3 : M p j ≤ 0) : zN M p i j ≤ 0 := by
  unfold zN
  have a1 := Int.mul_nonneg (show 0 ≤ M p p by omega) (show 0 ≤ - M i j by omega)
  have a2 := z_nn h2 h3
  rw [Int.mul_neg] at a1
  omega
theorem zN_row {a r s c : Int} (ha : 0 < a) (hc : c ≤ 0) (hr : 1 ≤ r) (hs : 1 ≤ s) : 1 ≤ a * s - c * r := by
  have a1 := Int.mul_le_mul (show 1 ≤ a by omega) hs (by omega) (by omega)
  have a2 := z_np hc (show 0 ≤ r by omega)
  omega
theorem z_pp {a b : Int} (ha : 0 < a) (h : 0 < a * b) : 0 < b := by
  apply Classical.byContradiction
  intro hc
  have := Int.mul_nonneg (show 0 ≤ a by omega) (show 0 ≤ -b by omega)
  rw [Int.mul_neg] at this
  omega
theorem zm1 {M : Int → Int → Int} {h : Int → Int} {p1 : Int} (h1 : 0 ≤ h p1)  (r1 : 1 ≤ M p1 p1 * h p1) : 0 < m1 M p1 p1 := by
  exact z_pos (r := 0) h1 r1
theorem zm2 {M : Int → Int → Int} {h : Int → Int} {p1 p2 : Int} (h1 : 0 ≤ h p1) (h2 : 0 ≤ h p2) (o12 : M p1 p2 ≤ 0) (o21 : M p2 p1 ≤ 0) (r1 : 1 ≤ M p1 p1 * h p1 + M p1 p2 * h p2) (r2 : 1 ≤ M p2 p1 * h p1 + M p2 p2 * h p2) : 0 < m2 M p1 p2 p1 p2 := by
  have n12 := z_np o12 h2
  have d1 : 0 < M p1 p1 := z_pos (r := 0) h1 (by omega)
  have q2 : 1 ≤ zN M p1 p2 p2 * h p2 := by
    have := zN_row d1 o21 r1 r2
    have e : M p1 p1 * (M p2 p1 * h p1 + M p2 p2 * h p2) - M p2 p1 * (M p1 p1 * h p1 + M p1 p2 * h p2) = zN M p1 p2 p2 * h p2 := by unfold zN; grind
    omega
  have key := zm1 (M := zN M p1) (h := h) h2  q2
  have e : m1 (zN M p1) p2 p2 = m2 M p1 p2 p1 p2 := by
    simp only [m1, m2, m3, m4, zN]
    grind
  rw [e] at key
  exact key
theorem zm3 {M : Int → Int → Int} {h : Int → Int} {p1 p2 p3 : Int} (h1 : 0 ≤ h p1) (h2 : 0 ≤ h p2) (h3 : 0 ≤ h p3) (o12 : M p1 p2 ≤ 0) (o13 : M p1 p3 ≤ 0) (o21 : M p2 p1 ≤ 0) (o23 : M p2 p3 ≤ 0) (o31 : M p3 p1 ≤ 0) (o32 : M p3 p2 ≤ 0) (r1 : 1 ≤ M p1 p1 * h p1 + M p1 p2 * h p2 + M p1 p3 * h p3) (r2 : 1 ≤ M p2 p1 * h p1 + M p2 p2 * h p2 + M p2 p3 * h p3) (r3 : 1 ≤ M p3 p1 * h p1 + M p3 p2 * h p2 + M p3 p3 * h p3) : 0 < m3 M p1 p2 p3 p1 p2 p3 := by
  have n12 := z_np o12 h2
  have n13 := z_np o13 h3
  have d1 : 0 < M p1 p1 := z_pos (r := 0) h1 (by omega)
  have q2 : 1 ≤ zN M p1 p2 p2 * h p2 + zN M p1 p2 p3 * h p3 := by
    have := zN_row d1 o21 r1 r2
    have e : M p1 p1 * (M p2 p1 * h p1 + M p2 p2 * h p2 + M p2 p3 * h p3) - M p2 p1 * (M p1 p1 * h p1 + M p1 p2 * h p2 + M p1 p3 * h p3) = zN M p1 p2 p2 * h p2 + zN M p1 p2 p3 * h p3 := by unfold zN; grind
    omega
  have q3 : 1 ≤ zN M p1 p3 p2 * h p2 + zN M p1 p3 p3 * h p3 := by
    have := zN_row d1 o31 r1 r3
    have e : M p1 p1 * (M p3 p1 * h p1 + M p3 p2 * h p2 + M p3 p3 * h p3) - M p3 p1 * (M p1 p1 * h p1 + M p1 p2 * h p2 + M p1 p3 * h p3) = zN M p1 p3 p2 * h p2 + zN M p1 p3 p3 * h p3 := by unfold zN; grind
    omega
  have key := zm2 (M := zN M p1) (h := h) h2 h3 (zN_off d1 o23 o21 o13) (zN_off d1 o32 o31 o12) q2 q3
  have e : m2 (zN M p1) p2 p3 p2 p3 = M p1 p1 * m3 M p1 p2 p3 p1 p2 p3 := by
    simp only [m1, m2, m3, m4, zN]
    grind
  rw [e] at key
  exact z_pp d1 key
theorem zm4 {M : Int → Int → Int} {h : Int → Int} {p1 p2 p3 p4 : Int} (h1 : 0 ≤ h p1) (h2 : 0 ≤ h p2) (h3 : 0 ≤ h p3) (h4 : 0 ≤ h p4) (o12 : M p1 p2 ≤ 0) (o13 : M p1 p3 ≤ 0) (o14 : M p1 p4 ≤ 0) (o21 : M p2 p1 ≤ 0) (o23 : M p2 p3 ≤ 0) (o24 : M p2 p4 ≤ 0) (o31 : M p3 p1 ≤ 0) (o32 : M p3 p2 ≤ 0) (o34 : M p3 p4 ≤ 0) (o41 : M p4 p1 ≤ 0) (o42 : M p4 p2 ≤ 0) (o43 : M p4 p3 ≤ 0) (r1 : 1 ≤ M p1 p1 * h p1 + M p1 p2 * h p2 + M p1 p3 * h p3 + M p1 p4 * h p4) (r2 : 1 ≤ M p2 p1 * h p1 + M p2 p2 * h p2 + M p2 p3 * h p3 + M p2 p4 * h p4) (r3 : 1 ≤ M p3 p1 * h p1 + M p3 p2 * h p2 + M p3 p3 * h p3 + M p3 p4 * h p4) (r4 : 1 ≤ M p4 p1 * h p1 + M p4 p2 * h p2 + M p4 p3 * h p3 + M p4 p4 * h p4) : 0 < m4 M p1 p2 p3 p4 p1 p2 p3 p4 := by
  have n12 := z_np o12 h2
  have n13 := z_np o13 h3
  have n14 := z_np o14 h4
  have d1 : 0 < M p1 p1 := z_pos (r := 0) h1 (by omega)
  have q2 : 1 ≤ zN M p1 p2 p2 * h p2 + zN M p1 p2 p3 * h p3 + zN M p1 p2 p4 * h p4 := by
    have := zN_row d1 o21 r1 r2
    have e : M p1 p1 * (M p2 p1 * h p1 + M p2 p2 * h p2 + M p2 p3 * h p3 + M p2 p4 * h p4) - M p2 p1 * (M p1 p1 * h p1 + M p1 p2 * h p2 + M p1 p3 * h p3 + M p1 p4 * h p4) = zN M p1 p2 p2 * h p2 + zN M p1 p2 p3 * h p3 + zN M p1 p2 p4 * h p4 := by unfold zN; grind
    omega
  have q3 : 1 ≤ zN M p1 p3 p2 * h p2 + zN M p1 p3 p3 * h p3 + zN M p1 p3 p4 * h p4 := by
    have := zN_row d1 o31 r1 r3
    have e : M p1 p1 * (M p3 p1 * h p1 + M p3 p2 * h p2 + M p3 p3 * h p3 + M p3 p4 * h p4) - M p3 p1 * (M p1 p1 * h p1 + M p1 p2 * h p2 + M p1 p3 * h p3 + M p1 p4 * h p4) = zN M p1 p3 p2 * h p2 + zN M p1 p3 p3 * h p3 + zN M p1 p3 p4 * h p4 := by unfold zN; grind
    omega
  have q4 : 1 ≤ zN M p1 p4 p2 * h p2 + zN M p1 p4 p3 * h p3 + zN M p1 p4 p4 * h p4 := by
    have := zN_row d1 o41 r1 r4
    have e : M p1 p1 * (M p4 p1 * h p1 + M p4 p2 * h p2 + M p4 p3 * h p3 + M p4 p4 * h p4) - M p4 p1 * (M p1 p1 * h p1 + M p1 p2 * h p2 + M p1 p3 * h p3 + M p1 p4 * h p4) = zN M p1 p4 p2 * h p2 + zN M p1 p4 p3 * h p3 + zN M p1 p4 p4 * h p4 := by unfold zN; grind
    omega
  have key := zm3 (M := zN M p1) (h := h) h2 h3 h4 (zN_off d1 o23 o21 o13) (zN_off d1 o24 o21 o14) (zN_off d1 o32 o31 o12) (zN_off d1 o34 o31 o14) (zN_off d1 o42 o41 o12) (zN_off d1 o43 o41 o13) q2 q3 q4
  have e : m3 (zN M p1) p2 p3 p4 p2 p3 p4 = M p1 p1 * (M p1 p1 * m4 M p1 p2 p3 p4 p1 p2 p3 p4) := by
    simp only [m1, m2, m3, m4, zN]
    grind
  rw [e] at key
  exact z_pp d1 (z_pp d1 key)
theorem d_T_pos {L : Int → Int → Int} {n q : Int} (hg : g_ok L) (hn : 2 ≤ n ∧ n ≤ 5) (hq : 0 ≤ q ∧ q < n) (hJ : s_J L n) : 0 < d_T L n q := by
  obtain ⟨h, hw, -⟩ := s_wt_ex hg hn hq hJ
  have h0 : ∀ p : Int, 0 ≤ p → p < n → 0 ≤ h p := fun p p0 p1 => (hw.1 p p0 p1).1
  have ho : ∀ a b : Int, 0 ≤ a → a < n → 0 ≤ b → b < n → a ≠ b → s_M L n a b ≤ 0 := fun a b a0 a1 b0 b1 e => by
    unfold s_M
    rw [if_neg e]
    have := hg a b a0 (by omega) b0 (by omega)
    omega
  have hr := hw.2.2
  have hq0 := hw.2.1
  rw [d_T_g]
  generalize s_M L n = M at ho hr ⊢
  have en : n = 2 ∨ n = 3 ∨ n = 4 ∨ n = 5 := by omega
  rcases en with en | en | en | en
  · subst en
    have eq_ : q = 0 ∨ q = 1 := by omega
    rcases eq_ with e | e
    · subst e
      rw [g_T_2_0]
      have s1 : 1 ≤ 0 + M 1 0 * h 0 + M 1 1 * h 1 := hr 1 (by decide) (by decide) (by decide)
      rw [hq0, Int.mul_zero] at s1
      exact zm1 (h := h) (h0 1 (by decide) (by decide))  (by omega)
    · subst e
      rw [g_T_2_1]
      have s0 : 1 ≤ 0 + M 0 0 * h 0 + M 0 1 * h 1 := hr 0 (by decide) (by decide) (by decide)
      rw [hq0, Int.mul_zero] at s0
      exact zm1 (h := h) (h0 0 (by decide) (by decide))  (by omega)
  · subst en
    have eq_ : q = 0 ∨ q = 1 ∨ q = 2 := by omega
    rcases eq_ with e | e | e
    · subst e
      rw [g_T_3_0]
      have s1 : 1 ≤ 0 + M 1 0 * h 0 + M 1 1 * h 1 + M 1 2 * h 2 := hr 1 (by decide) (by decide) (by decide)
      rw [hq0, Int.mul_zero] at s1
      have s2 : 1 ≤ 0 + M 2 0 * h 0 + M 2 1 * h 1 + M 2 2 * h 2 := hr 2 (by decide) (by decide) (by decide)
      rw [hq0, Int.mul_zero] at s2
      exact zm2 (h := h) (h0 1 (by decide) (by decide)) (h0 2 (by decide) (by decide)) (ho 1 2 (by decide) (by decide) (by decide) (by decide) (by decide)) (ho 2 1 (by decide) (by decide) (by decide) (by decide) (by decide)) (by omega) (by omega)
    · subst e
      rw [g_T_3_1]
      have s0 : 1 ≤ 0 + M 0 0 * h 0 + M 0 1 * h 1 + M 0 2 * h 2 := hr 0 (by decide) (by decide) (by decide)
      rw [hq0, Int.mul_zero] at s0
      have s2 : 1 ≤ 0 + M 2 0 * h 0 + M 2 1 * h 1 + M 2 2 * h 2 := hr 2 (by decide) (by decide) (by decide)
      rw [hq0, Int.mul_zero] at s2
      exact zm2 (h := h) (h0 0 (by decide) (by decide)) (h0 2 (by decide) (by decide)) (ho 0 2 (by decide) (by decide) (by decide) (by decide) (by decide)) (ho 2 0 (by decide) (by decide) (by decide) (by decide) (by decide)) (by omega) (by omega)
    · subst e
      rw [g_T_3_2]
      have s0 : 1 ≤ 0 + M 0 0 * h 0 + M 0 1 * h 1 + M 0 2 * h 2 := hr 0 (by decide) (by decide) (by decide)
      rw [hq0, Int.mul_zero] at s0
      have s1 : 1 ≤ 0 + M 1 0 * h 0 + M 1 1 * h 1 + M 1 2 * h 2 := hr 1 (by decide) (by decide) (by decide)
      rw [hq0, Int.mul_zero] at s1
      exact zm2 (h := h) (h0 0 (by decide) (by decide)) (h0 1 (by decide) (by decide)) (ho 0 1 (by decide) (by decide) (by decide) (by decide) (by decide)) (ho 1 0 (by decide) (by decide) (by decide) (by decide) (by decide)) (by omega) (by omega)
  · subst en
    have eq_ : q = 0 ∨ q = 1 ∨ q = 2 ∨ q = 3 := by omega
    rcases eq_ with e | e | e | e
    · subst e
      rw [g_T_4_0]
      have s1 : 1 ≤ 0 + M 1 0 * h 0 + M 1 1 * h 1 + M 1 2 * h 2 + M 1 3 * h 3 := hr 1 (by decide) (by decide) (by decide)
      rw [hq0, Int.mul_zero] at s1
      have s2 : 1 ≤ 0 + M 2 0 * h 0 + M 2 1 * h 1 + M 2 2 * h 2 + M 2 3 * h 3 := hr 2 (by decide) (by decide) (by decide)
      rw [hq0, Int.mul_zero] at s2
      have s3 : 1 ≤ 0 + M 3 0 * h 0 + M 3 1 * h 1 + M 3 2 * h 2 + M 3 3 * h 3 := hr 3 (by decide) (by decide) (by decide)
      rw [hq0, Int.mul_zero] at s3
      exact zm3 (h := h) (h0 1 (by decide) (by decide)) (h0 2 (by decide) (by decide)) (h0 3 (by decide) (by decide)) (ho 1 2 (by decide) (by decide) (by decide) (by decide) (by decide)) (ho 1 3 (by decide) (by decide) (by decide) (by decide) (by decide)) (ho 2 1 (by decide) (by decide) (by decide) (by decide) (by decide)) (ho 2 3 (by decide) (by decide) (by decide) (by decide) (by decide)) (ho 3 1 (by decide) (by decide) (by decide) (by decide) (by decide)) (ho 3 2 (by decide) (by decide) (by decide) (by decide) (by decide)) (by omega) (by omega) (by omega)
    · subst e
      rw [g_T_4_1]
      have s0 : 1 ≤ 0 + M 0 0 * h 0 + M 0 1 * h 1 + M 0 2 * h 2 + M 0 3 * h 3 := hr 0 (by decide) (by decide) (by decide)
      rw [hq0, Int.mul_zero] at s0
      have s2 : 1 ≤ 0 + M 2 0 * h 0 + M 2 1 * h 1 + M 2 2 * h 2 + M 2 3 * h 3 := hr 2 (by decide) (by decide) (by decide)
      rw [hq0, Int.mul_zero] at s2
      have s3 : 1 ≤ 0 + M 3 0 * h 0 + M 3 1 * h 1 + M 3 2 * h 2 + M 3 3 * h 3 := hr 3 (by decide) (by decide) (by decide)
      rw [hq0, Int.mul_zero] at s3
      exact zm3 (h := h) (h0 0 (by decide) (by decide)) (h0 2 (by decide) (by decide)) (h0 3 (by decide) (by decide)) (ho 0 2 (by decide) (by decide) (by decide) (by decide) (by decide)) (ho 0 3 (by decide) (by decide) (by decide) (by decide) (by decide)) (ho 2 0 (by decide) (by decide) (by decide) (by decide) (by decide)) (ho 2 3 (by decide) (by decide) (by decide) (by decide) (by decide)) (ho 3 0 (by decide) (by decide) (by decide) (by decide) (by decide)) (ho 3 2 (by decide) (by decide) (by decide) (by decide) (by decide)) (by omega) (by omega) (by omega)
    · subst e
      rw [g_T_4_2]
      have s0 : 1 ≤ 0 + M 0 0 * h 0 + M 0 1 * h 1 + M 0 2 * h 2 + M 0 3 * h 3 := hr 0 (by decide) (by decide) (by decide)
      rw [hq0, Int.mul_zero] at s0
      have s1 : 1 ≤ 0 + M 1 0 * h 0 + M 1 1 * h 1 + M 1 2 * h 2 + M 1 3 * h 3 := hr 1 (by decide) (by decide) (by decide)
      rw [hq0, Int.mul_zero] at s1
      have s3 : 1 ≤ 0 + M 3 0 * h 0 + M 3 1 * h 1 + M 3 2 * h 2 + M 3 3 * h 3 := hr 3 (by decide) (by decide) (by decide)
      rw [hq0, Int.mul_zero] at s3
      exact zm3 (h := h) (h0 0 (by decide) (by decide)) (h0 1 (by decide) (by decide)) (h0 3 (by decide) (by decide)) (ho 0 1 (by decide) (by decide) (by decide) (by decide) (by decide)) (ho 0 3 (by decide) (by decide) (by decide) (by decide) (by decide)) (ho 1 0 (by decide) (by decide) (by decide) (by decide) (by decide)) (ho 1 3 (by decide) (by decide) (by decide) (by decide) (by decide)) (ho 3 0 (by decide) (by decide) (by decide) (by decide) (by decide)) (ho 3 1 (by decide) (by decide) (by decide) (by decide) (by decide)) (by omega) (by omega) (by omega)
    · subst e
      rw [g_T_4_3]
      have s0 : 1 ≤ 0 + M 0 0 * h 0 + M 0 1 * h 1 + M 0 2 * h 2 + M 0 3 * h 3 := hr 0 (by decide) (by decide) (by decide)
      rw [hq0, Int.mul_zero] at s0
      have s1 : 1 ≤ 0 + M 1 0 * h 0 + M 1 1 * h 1 + M 1 2 * h 2 + M 1 3 * h 3 := hr 1 (by decide) (by decide) (by decide)
      rw [hq0, Int.mul_zero] at s1
      have s2 : 1 ≤ 0 + M 2 0 * h 0 + M 2 1 * h 1 + M 2 2 * h 2 + M 2 3 * h 3 := hr 2 (by decide) (by decide) (by decide)
      rw [hq0, Int.mul_zero] at s2
      exact zm3 (h := h) (h0 0 (by decide) (by decide)) (h0 1 (by decide) (by decide)) (h0 2 (by decide) (by decide)) (ho 0 1 (by decide) (by decide) (by decide) (by decide) (by decide)) (ho 0 2 (by decide) (by decide) (by decide) (by decide) (by decide)) (ho 1 0 (by decide) (by decide) (by decide) (by decide) (by decide)) (ho 1 2 (by decide) (by decide) (by decide) (by decide) (by decide)) (ho 2 0 (by decide) (by decide) (by decide) (by decide) (by decide)) (ho 2 1 (by decide) (by decide) (by decide) (by decide) (by decide)) (by omega) (by omega) (by omega)
  · subst en
    have eq_ : q = 0 ∨ q = 1 ∨ q = 2 ∨ q = 3 ∨ q = 4 := by omega
    rcases eq_ with e | e | e | e | e
    · subst e
      rw [g_T_5_0]
      have s1 : 1 ≤ 0 + M 1 0 * h 0 + M 1 1 * h 1 + M 1 2 * h 2 + M 1 3 * h 3 + M 1 4 * h 4 := hr 1 (by decide) (by decide) (by decide)
      rw [hq0, Int.mul_zero] at s1
      have s2 : 1 ≤ 0 + M 2 0 * h 0 + M 2 1 * h 1 + M 2 2 * h 2 + M 2 3 * h 3 + M 2 4 * h 4 := hr 2 (by decide) (by decide) (by decide)
      rw [hq0, Int.mul_zero] at s2
      have s3 : 1 ≤ 0 + M 3 0 * h 0 + M 3 1 * h 1 + M 3 2 * h 2 + M 3 3 * h 3 + M 3 4 * h 4 := hr 3 (by decide) (by decide) (by decide)
      rw [hq0, Int.mul_zero] at s3
      have s4 : 1 ≤ 0 + M 4 0 * h 0 + M 4 1 * h 1 + M 4 2 * h 2 + M 4 3 * h 3 + M 4 4 * h 4 := hr 4 (by decide) (by decide) (by decide)
      rw [hq0, Int.mul_zero] at s4
      exact zm4 (h := h) (h0 1 (by decide) (by decide)) (h0 2 (by decide) (by decide)) (h0 3 (by decide) (by decide)) (h0 4 (by decide) (by decide)) (ho 1 2 (by decide) (by decide) (by decide) (by decide) (by decide)) (ho 1 3 (by decide) (by decide) (by decide) (by decide) (by decide)) (ho 1 4 (by decide) (by decide) (by decide) (by decide) (by decide)) (ho 2 1 (by decide) (by decide) (by decide) (by decide) (by decide)) (ho 2 3 (by decide) (by decide) (by decide) (by decide) (by decide)) (ho 2 4 (by decide) (by decide) (by decide) (by decide) (by decide)) (ho 3 1 (by decide) (by decide) (by decide) (by decide) (by decide)) (ho 3 2 (by decide) (by decide) (by decide) (by decide) (by decide)) (ho 3 4 (by decide) (by decide) (by decide) (by decide) (by decide)) (ho 4 1 (by decide) (by decide) (by decide) (by decide) (by decide)) (ho 4 2 (by decide) (by decide) (by decide) (by decide) (by decide)) (ho 4 3 (by decide) (by decide) (by decide) (by decide) (by decide)) (by omega) (by omega) (by omega) (by omega)
    · subst e
      rw [g_T_5_1]
      have s0 : 1 ≤ 0 + M 0 0 * h 0 + M 0 1 * h 1 + M 0 2 * h 2 + M 0 3 * h 3 + M 0 4 * h 4 := hr 0 (by decide) (by decide) (by decide)
      rw [hq0, Int.mul_zero] at s0
      have s2 : 1 ≤ 0 + M 2 0 * h 0 + M 2 1 * h 1 + M 2 2 * h 2 + M 2 3 * h 3 + M 2 4 * h 4 := hr 2 (by decide) (by decide) (by decide)
      rw [hq0, Int.mul_zero] at s2
      have s3 : 1 ≤ 0 + M 3 0 * h 0 + M 3 1 * h 1 + M 3 2 * h 2 + M 3 3 * h 3 + M 3 4 * h 4 := hr 3 (by decide) (by decide) (by decide)
      rw [hq0, Int.mul_zero] at s3
      have s4 : 1 ≤ 0 + M 4 0 * h 0 + M 4 1 * h 1 + M 4 2 * h 2 + M 4 3 * h 3 + M 4 4 * h 4 := hr 4 (by decide) (by decide) (by decide)
      rw [hq0, Int.mul_zero] at s4
      exact zm4 (h := h) (h0 0 (by decide) (by decide)) (h0 2 (by decide) (by decide)) (h0 3 (by decide) (by decide)) (h0 4 (by decide) (by decide)) (ho 0 2 (by decide) (by decide) (by decide) (by decide) (by decide)) (ho 0 3 (by decide) (by decide) (by decide) (by decide) (by decide)) (ho 0 4 (by decide) (by decide) (by decide) (by decide) (by decide)) (ho 2 0 (by decide) (by decide) (by decide) (by decide) (by decide)) (ho 2 3 (by decide) (by decide) (by decide) (by decide) (by decide)) (ho 2 4 (by decide) (by decide) (by decide) (by decide) (by decide)) (ho 3 0 (by decide) (by decide) (by decide) (by decide) (by decide)) (ho 3 2 (by decide) (by decide) (by decide) (by decide) (by decide)) (ho 3 4 (by decide) (by decide) (by decide) (by decide) (by decide)) (ho 4 0 (by decide) (by decide) (by decide) (by decide) (by decide)) (ho 4 2 (by decide) (by decide) (by decide) (by decide) (by decide)) (ho 4 3 (by decide) (by decide) (by decide) (by decide) (by decide)) (by omega) (by omega) (by omega) (by omega)
    · subst e
      rw [g_T_5_2]
      have s0 : 1 ≤ 0 + M 0 0 * h 0 + M 0 1 * h 1 + M 0 2 * h 2 + M 0 3 * h 3 + M 0 4 * h 4 := hr 0 (by decide) (by decide) (by decide)
      rw [hq0, Int.mul_zero] at s0
      have s1 : 1 ≤ 0 + M 1 0 * h 0 + M 1 1 * h 1 + M 1 2 * h 2 + M 1 3 * h 3 + M 1 4 * h 4 := hr 1 (by decide) (by decide) (by decide)
      rw [hq0, Int.mul_zero] at s1
      have s3 : 1 ≤ 0 + M 3 0 * h 0 + M 3 1 * h 1 + M 3 2 * h 2 + M 3 3 * h 3 + M 3 4 * h 4 := hr 3 (by decide) (by decide) (by decide)
      rw [hq0, Int.mul_zero] at s3
      have s4 : 1 ≤ 0 + M 4 0 * h 0 + M 4 1 * h 1 + M 4 2 * h 2 + M 4 3 * h 3 + M 4 4 * h 4 := hr 4 (by decide) (by decide) (by decide)
      rw [hq0, Int.mul_zero] at s4
      exact zm4 (h := h) (h0 0 (by decide) (by decide)) (h0 1 (by decide) (by decide)) (h0 3 (by decide) (by decide)) (h0 4 (by decide) (by decide)) (ho 0 1 (by decide) (by decide) (by decide) (by decide) (by decide)) (ho 0 3 (by decide) (by decide) (by decide) (by decide) (by decide)) (ho 0 4 (by decide) (by decide) (by decide) (by decide) (by decide)) (ho 1 0 (by decide) (by decide) (by decide) (by decide) (by decide)) (ho 1 3 (by decide) (by decide) (by decide) (by decide) (by decide)) (ho 1 4 (by decide) (by decide) (by decide) (by decide) (by decide)) (ho 3 0 (by decide) (by decide) (by decide) (by decide) (by decide)) (ho 3 1 (by decide) (by decide) (by decide) (by decide) (by decide)) (ho 3 4 (by decide) (by decide) (by decide) (by decide) (by decide)) (ho 4 0 (by decide) (by decide) (by decide) (by decide) (by decide)) (ho 4 1 (by decide) (by decide) (by decide) (by decide) (by decide)) (ho 4 3 (by decide) (by decide) (by decide) (by decide) (by decide)) (by omega) (by omega) (by omega) (by omega)
    · subst e
      rw [g_T_5_3]
      have s0 : 1 ≤ 0 + M 0 0 * h 0 + M 0 1 * h 1 + M 0 2 * h 2 + M 0 3 * h 3 + M 0 4 * h 4 := hr 0 (by decide) (by decide) (by decide)
      rw [hq0, Int.mul_zero] at s0
      have s1 : 1 ≤ 0 + M 1 0 * h 0 + M 1 1 * h 1 + M 1 2 * h 2 + M 1 3 * h 3 + M 1 4 * h 4 := hr 1 (by decide) (by decide) (by decide)
      rw [hq0, Int.mul_zero] at s1
      have s2 : 1 ≤ 0 + M 2 0 * h 0 + M 2 1 * h 1 + M 2 2 * h 2 + M 2 3 * h 3 + M 2 4 * h 4 := hr 2 (by decide) (by decide) (by decide)
      rw [hq0, Int.mul_zero] at s2
      have s4 : 1 ≤ 0 + M 4 0 * h 0 + M 4 1 * h 1 + M 4 2 * h 2 + M 4 3 * h 3 + M 4 4 * h 4 := hr 4 (by decide) (by decide) (by decide)
      rw [hq0, Int.mul_zero] at s4
      exact zm4 (h := h) (h0 0 (by decide) (by decide)) (h0 1 (by decide) (by decide)) (h0 2 (by decide) (by decide)) (h0 4 (by decide) (by decide)) (ho 0 1 (by decide) (by decide) (by decide) (by decide) (by decide)) (ho 0 2 (by decide) (by decide) (by decide) (by decide) (by decide)) (ho 0 4 (by decide) (by decide) (by decide) (by decide) (by decide)) (ho 1 0 (by decide) (by decide) (by decide) (by decide) (by decide)) (ho 1 2 (by decide) (by decide) (by decide) (by decide) (by decide)) (ho 1 4 (by decide) (by decide) (by decide) (by decide) (by decide)) (ho 2 0 (by decide) (by decide) (by decide) (by decide) (by decide)) (ho 2 1 (by decide) (by decide) (by decide) (by decide) (by decide)) (ho 2 4 (by decide) (by decide) (by decide) (by decide) (by decide)) (ho 4 0 (by decide) (by decide) (by decide) (by decide) (by decide)) (ho 4 1 (by decide) (by decide) (by decide) (by decide) (by decide)) (ho 4 2 (by decide) (by decide) (by decide) (by decide) (by decide)) (by omega) (by omega) (by omega) (by omega)
    · subst e
      rw [g_T_5_4]
      have s0 : 1 ≤ 0 + M 0 0 * h 0 + M 0 1 * h 1 + M 0 2 * h 2 + M 0 3 * h 3 + M 0 4 * h 4 := hr 0 (by decide) (by decide) (by decide)
      rw [hq0, Int.mul_zero] at s0
      have s1 : 1 ≤ 0 + M 1 0 * h 0 + M 1 1 * h 1 + M 1 2 * h 2 + M 1 3 * h 3 + M 1 4 * h 4 := hr 1 (by decide) (by decide) (by decide)
      rw [hq0, Int.mul_zero] at s1
      have s2 : 1 ≤ 0 + M 2 0 * h 0 + M 2 1 * h 1 + M 2 2 * h 2 + M 2 3 * h 3 + M 2 4 * h 4 := hr 2 (by decide) (by decide) (by decide)
      rw [hq0, Int.mul_zero] at s2
      have s3 : 1 ≤ 0 + M 3 0 * h 0 + M 3 1 * h 1 + M 3 2 * h 2 + M 3 3 * h 3 + M 3 4 * h 4 := hr 3 (by decide) (by decide) (by decide)
      rw [hq0, Int.mul_zero] at s3
      exact zm4 (h := h) (h0 0 (by decide) (by decide)) (h0 1 (by decide) (by decide)) (h0 2 (by decide) (by decide)) (h0 3 (by decide) (by decide)) (ho 0 1 (by decide) (by decide) (by decide) (by decide) (by decide)) (ho 0 2 (by decide) (by decide) (by decide) (by decide) (by decide)) (ho 0 3 (by decide) (by decide) (by decide) (by decide) (by decide)) (ho 1 0 (by decide) (by decide) (by decide) (by decide) (by decide)) (ho 1 2 (by decide) (by decide) (by decide) (by decide) (by decide)) (ho 1 3 (by decide) (by decide) (by decide) (by decide) (by decide)) (ho 2 0 (by decide) (by decide) (by decide) (by decide) (by decide)) (ho 2 1 (by decide) (by decide) (by decide) (by decide) (by decide)) (ho 2 3 (by decide) (by decide) (by decide) (by decide) (by decide)) (ho 3 0 (by decide) (by decide) (by decide) (by decide) (by decide)) (ho 3 1 (by decide) (by decide) (by decide) (by decide) (by decide)) (ho 3 2 (by decide) (by decide) (by decide) (by decide) (by decide)) (by omega) (by omega) (by omega) (by omega)
