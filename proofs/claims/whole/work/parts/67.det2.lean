/-! determinants as the reference takes them: exact divisions, rows exchanged -/
def b_m (U : Int → Int → Int) (k i j : Int) : Int := if k = 0 then U i j else if k = 1 then m2 U 0 i 0 j else if k = 2 then m3 U 0 1 i 0 1 j else m4 U 0 1 2 i 0 1 2 j
def b_b (U : Int → Int → Int) (k : Int) : Int := if k = 0 then 1 else b_m U (k - 1) (k - 1) (k - 1)
def b_sw (U : Int → Int → Int) (a b : Int) : Int → Int → Int := fun i j => if i = a then U b j else if i = b then U a j else U i j
theorem b_m0 {U : Int → Int → Int} {i j : Int} : b_m U 0 i j = U i j := rfl
theorem b_m1 {U : Int → Int → Int} {i j : Int} : b_m U 1 i j = m2 U 0 i 0 j := rfl
theorem b_m2 {U : Int → Int → Int} {i j : Int} : b_m U 2 i j = m3 U 0 1 i 0 1 j := rfl
theorem b_m3 {U : Int → Int → Int} {i j : Int} : b_m U 3 i j = m4 U 0 1 2 i 0 1 2 j := rfl
theorem b_b0 {U : Int → Int → Int} : b_b U 0 = 1 := rfl
theorem b_b1 {U : Int → Int → Int} : b_b U 1 = U 0 0 := rfl
theorem b_b2 {U : Int → Int → Int} : b_b U 2 = m2 U 0 1 0 1 := rfl
theorem b_b3 {U : Int → Int → Int} : b_b U 3 = m3 U 0 1 2 0 1 2 := rfl
theorem b_syl {U : Int → Int → Int} {k i j : Int} (hk : 0 ≤ k ∧ k ≤ 2) : b_m U k i j * b_m U k k k - b_m U k i k * b_m U k k j = b_b U k * b_m U (k + 1) i j := by
  have : k = 0 ∨ k = 1 ∨ k = 2 := by omega
  rcases this with rfl | rfl | rfl
  · show U i j * U 0 0 - U i 0 * U 0 j = 1 * m2 U 0 i 0 j
    unfold m2
    grind
  · show m2 U 0 i 0 j * m2 U 0 1 0 1 - m2 U 0 i 0 1 * m2 U 0 1 0 j = U 0 0 * m3 U 0 1 i 0 1 j
    unfold m3 m2
    grind
  · show m3 U 0 1 i 0 1 j * m3 U 0 1 2 0 1 2 - m3 U 0 1 i 0 1 2 * m3 U 0 1 2 0 1 j = m2 U 0 1 0 1 * m4 U 0 1 2 i 0 1 2 j
    unfold m4 m3 m2
    grind
/-- no pivot: the determinant is 0 -/
theorem b_zero {U : Int → Int → Int} {s k : Int} (hs : 1 ≤ s ∧ s ≤ 4) (hk : 0 ≤ k ∧ k < s) (hb : b_b U k ≠ 0) (h : ∀ i : Int, k ≤ i → i < s → b_m U k i k = 0) : b_b U s = 0 := by
  by_cases c : k = s - 1
  · show (if s = 0 then 1 else b_m U (s - 1) (s - 1) (s - 1)) = 0
    rw [if_neg (by omega)]
    have := h k (by omega) (by omega)
    rw [c] at this
    exact this
  · have hk3 : k = 0 ∨ k = 1 ∨ k = 2 := by omega
    rcases hk3 with rfl | rfl | rfl
    · have h0 : U 0 0 = 0 := h 0 (by omega) (by omega)
      have h1 : U 1 0 = 0 := h 1 (by omega) (by omega)
      have hs3 : s = 2 ∨ s = 3 ∨ s = 4 := by omega
      rcases hs3 with rfl | rfl | rfl
      · rw [b_b2]; unfold m2; rw [h0, h1]; simp
      · have h2 : U 2 0 = 0 := h 2 (by omega) (by omega)
        rw [b_b3]; unfold m3 m2; rw [h0, h1, h2]; simp
      · have h2 : U 2 0 = 0 := h 2 (by omega) (by omega)
        have h3 : U 3 0 = 0 := h 3 (by omega) (by omega)
        show m4 U 0 1 2 3 0 1 2 3 = 0
        unfold m4 m3 m2; rw [h0, h1, h2, h3]; simp
    · have hb : U 0 0 ≠ 0 := hb
      have h1 : m2 U 0 1 0 1 = 0 := h 1 (by omega) (by omega)
      have h2 : m2 U 0 2 0 1 = 0 := h 2 (by omega) (by omega)
      have hs3 : s = 3 ∨ s = 4 := by omega
      rcases hs3 with rfl | rfl
      · show m3 U 0 1 2 0 1 2 = 0
        have e : U 0 0 * m3 U 0 1 2 0 1 2 = m2 U 0 1 0 1 * m2 U 0 2 0 2 - m2 U 0 2 0 1 * m2 U 0 1 0 2 := by unfold m3 m2; grind
        rw [h1, h2, Int.zero_mul, Int.zero_mul] at e
        exact (Int.mul_eq_zero.1 e).resolve_left hb
      · have h3 : m2 U 0 3 0 1 = 0 := h 3 (by omega) (by omega)
        show m4 U 0 1 2 3 0 1 2 3 = 0
        have e : U 0 0 * m4 U 0 1 2 3 0 1 2 3 = m2 U 0 1 0 1 * m3 U 0 2 3 0 2 3 - m2 U 0 2 0 1 * m3 U 0 1 3 0 2 3 + m2 U 0 3 0 1 * m3 U 0 1 2 0 2 3 := by unfold m4 m3 m2; grind
        rw [h1, h2, h3, Int.zero_mul, Int.zero_mul, Int.zero_mul] at e
        exact (Int.mul_eq_zero.1 e).resolve_left hb
    · have hs4 : s = 4 := by omega
      subst hs4
      have h2 : b_m U 2 2 2 = 0 := h 2 (by omega) (by omega)
      have h3 : b_m U 2 3 2 = 0 := h 3 (by omega) (by omega)
      have e := b_syl (U := U) (k := 2) (i := 3) (j := 3) ⟨by omega, by omega⟩
      rw [h2, h3, Int.mul_zero, Int.zero_mul] at e
      exact (Int.mul_eq_zero.1 e.symm).resolve_left hb
theorem b_sw_m {U : Int → Int → Int} {k r i j : Int} (hk : 0 ≤ k ∧ k ≤ 2) (hr : k < r) (hi : k ≤ i) : b_m (b_sw U r k) k i j = b_m U k (if i = r then k else if i = k then r else i) j := by
  have hr0 : ∀ q c : Int, q < k → b_sw U r k q c = U q c := fun q c h => by
    show (if q = r then _ else if q = k then _ else _) = _
    rw [if_neg (by omega), if_neg (by omega)]
  have hri : ∀ c : Int, b_sw U r k i c = U (if i = r then k else if i = k then r else i) c := fun c => by
    show (if i = r then U k c else if i = k then U r c else U i c) = _
    split
    · rfl
    · split <;> rfl
  have : k = 0 ∨ k = 1 ∨ k = 2 := by omega
  rcases this with rfl | rfl | rfl
  · exact hri j
  · show m2 (b_sw U r 1) 0 i 0 j = m2 U 0 _ 0 j
    unfold m2
    rw [hr0 0 _ (by omega), hr0 0 _ (by omega), hri, hri]
  · show m3 (b_sw U r 2) 0 1 i 0 1 j = m3 U 0 1 _ 0 1 j
    unfold m3 m2
    rw [hr0 0 _ (by omega), hr0 0 _ (by omega), hr0 0 _ (by omega), hr0 1 _ (by omega), hr0 1 _ (by omega), hr0 1 _ (by omega), hri, hri, hri]
theorem b_sw_b {U : Int → Int → Int} {k r : Int} (hk : 0 ≤ k ∧ k ≤ 3) (hr : k < r) : b_b (b_sw U r k) k = b_b U k := by
  have hr0 : ∀ q c : Int, q < k → b_sw U r k q c = U q c := fun q c h => by
    show (if q = r then _ else if q = k then _ else _) = _
    rw [if_neg (by omega), if_neg (by omega)]
  have : k = 0 ∨ k = 1 ∨ k = 2 ∨ k = 3 := by omega
  rcases this with rfl | rfl | rfl | rfl
  · rfl
  · exact hr0 0 0 (by omega)
  · rw [b_b2, b_b2]; unfold m2
    rw [hr0 0 _ (by omega), hr0 0 _ (by omega), hr0 1 _ (by omega), hr0 1 _ (by omega)]
  · rw [b_b3, b_b3]; unfold m3 m2
    rw [hr0 0 _ (by omega), hr0 0 _ (by omega), hr0 0 _ (by omega), hr0 1 _ (by omega), hr0 1 _ (by omega), hr0 1 _ (by omega), hr0 2 _ (by omega), hr0 2 _ (by omega), hr0 2 _ (by omega)]
theorem b_sw_d {U : Int → Int → Int} {s k r : Int} (hs : s ≤ 4) (hk : 0 ≤ k) (hr : k < r) (hrs : r < s) : b_b (b_sw U r k) s = - b_b U s := by
  have h : (s = 2 ∧ k = 0 ∧ r = 1) ∨ (s = 3 ∧ k = 0 ∧ r = 1) ∨ (s = 3 ∧ k = 0 ∧ r = 2) ∨ (s = 3 ∧ k = 1 ∧ r = 2) ∨ (s = 4 ∧ k = 0 ∧ r = 1) ∨ (s = 4 ∧ k = 0 ∧ r = 2) ∨ (s = 4 ∧ k = 0 ∧ r = 3) ∨ (s = 4 ∧ k = 1 ∧ r = 2) ∨ (s = 4 ∧ k = 1 ∧ r = 3) ∨ (s = 4 ∧ k = 2 ∧ r = 3) := by omega
  rcases h with ⟨rfl, rfl, rfl⟩ | ⟨rfl, rfl, rfl⟩ | ⟨rfl, rfl, rfl⟩ | ⟨rfl, rfl, rfl⟩ | ⟨rfl, rfl, rfl⟩ | ⟨rfl, rfl, rfl⟩ | ⟨rfl, rfl, rfl⟩ | ⟨rfl, rfl, rfl⟩ | ⟨rfl, rfl, rfl⟩ | ⟨rfl, rfl, rfl⟩
  · rw [b_b2, b_b2]; simp [m2, b_sw]; grind
  · rw [b_b3, b_b3]; simp [m3, m2, b_sw]; grind
  · rw [b_b3, b_b3]; simp [m3, m2, b_sw]; grind
  · rw [b_b3, b_b3]; simp [m3, m2, b_sw]; grind
  · show m4 _ 0 1 2 3 0 1 2 3 = - m4 U 0 1 2 3 0 1 2 3
    simp [m4, m3, m2, b_sw]; grind
  · show m4 _ 0 1 2 3 0 1 2 3 = - m4 U 0 1 2 3 0 1 2 3
    simp [m4, m3, m2, b_sw]; grind
  · show m4 _ 0 1 2 3 0 1 2 3 = - m4 U 0 1 2 3 0 1 2 3
    simp [m4, m3, m2, b_sw]; grind
  · show m4 _ 0 1 2 3 0 1 2 3 = - m4 U 0 1 2 3 0 1 2 3
    simp [m4, m3, m2, b_sw]; grind
  · show m4 _ 0 1 2 3 0 1 2 3 = - m4 U 0 1 2 3 0 1 2 3
    simp [m4, m3, m2, b_sw]; grind
  · show m4 _ 0 1 2 3 0 1 2 3 = - m4 U 0 1 2 3 0 1 2 3
    simp [m4, m3, m2, b_sw]; grind
/-- each column has a bound -/
def b_cb (U : Int → Int → Int) (s : Int) (B : Int → Int) : Prop := (∀ i j : Int, 0 ≤ i → i < s → 0 ≤ j → j < s → -(B j) ≤ U i j ∧ U i j ≤ B j) ∧ (∀ j : Int, 0 ≤ j → j < s → 0 ≤ B j ∧ B j ≤ 2000) ∧ (∀ c d : Int, 0 ≤ c → c < s → 0 ≤ d → d < s → c ≠ d → B c * B d ≤ 30000) ∧ ∀ c d e : Int, 0 ≤ c → c < s → 0 ≤ d → d < s → 0 ≤ e → e < s → c ≠ d → c ≠ e → d ≠ e → B c * (B d * B e) ≤ 450000
theorem b_cb.sw {U : Int → Int → Int} {s a b : Int} {B : Int → Int} (h : b_cb U s B) (ha : 0 ≤ a ∧ a < s) (hb : 0 ≤ b ∧ b < s) : b_cb (b_sw U a b) s B := by
  refine ⟨fun i j i0 i1 j0 j1 => ?_, h.2⟩
  show -(B j) ≤ (if i = a then U b j else if i = b then U a j else U i j) ∧ (if i = a then U b j else if i = b then U a j else U i j) ≤ B j
  split
  · exact h.1 b j hb.1 hb.2 j0 j1
  · split
    · exact h.1 a j ha.1 ha.2 j0 j1
    · exact h.1 i j i0 i1 j0 j1
theorem b_m2_bd {U : Int → Int → Int} {s : Int} {B : Int → Int} (h : b_cb U s B) {a b c d : Int} (ha : 0 ≤ a ∧ a < s) (hb : 0 ≤ b ∧ b < s) (hc : 0 ≤ c ∧ c < s) (hd : 0 ≤ d ∧ d < s) : -(2 * (B c * B d)) ≤ m2 U a b c d ∧ m2 U a b c d ≤ 2 * (B c * B d) := by
  have h1 := h.1 a c ha.1 ha.2 hc.1 hc.2
  have h2 := h.1 b d hb.1 hb.2 hd.1 hd.2
  have h3 := h.1 a d ha.1 ha.2 hd.1 hd.2
  have h4 := h.1 b c hb.1 hb.2 hc.1 hc.2
  have p1 := im_bd h1.1 h1.2 h2.1 h2.2
  have p2 := im_bd h3.1 h3.2 h4.1 h4.2
  rw [Int.mul_comm (B d)] at p2
  unfold m2
  omega
theorem b_m_bd {U : Int → Int → Int} {s : Int} {B : Int → Int} (h : b_cb U s B) {k i j : Int} (hk : 0 ≤ k ∧ k ≤ 2) (hi : k ≤ i ∧ i < s) (hj : k ≤ j ∧ j < s) : -3000000 ≤ b_m U k i j ∧ b_m U k i j ≤ 3000000 := by
  have : k = 0 ∨ k = 1 ∨ k = 2 := by omega
  rcases this with rfl | rfl | rfl
  · have h1 := h.1 i j hi.1 hi.2 hj.1 hj.2
    have h2 := h.2.1 j hj.1 hj.2
    show -3000000 ≤ U i j ∧ U i j ≤ 3000000
    omega
  · have h1 := b_m2_bd h (a := 0) (b := i) (c := 0) (d := j) ⟨by omega, by omega⟩ ⟨by omega, by omega⟩ ⟨by omega, by omega⟩ ⟨by omega, by omega⟩
    have h2 := h.2.2.1 0 j (by omega) (by omega) (by omega) (by omega) (by omega)
    show -3000000 ≤ m2 U 0 i 0 j ∧ m2 U 0 i 0 j ≤ 3000000
    omega
  · have t1 := b_m2_bd h (a := 1) (b := i) (c := 1) (d := j) ⟨by omega, by omega⟩ ⟨by omega, by omega⟩ ⟨by omega, by omega⟩ ⟨by omega, by omega⟩
    have t2 := b_m2_bd h (a := 1) (b := i) (c := 0) (d := j) ⟨by omega, by omega⟩ ⟨by omega, by omega⟩ ⟨by omega, by omega⟩ ⟨by omega, by omega⟩
    have t3 := b_m2_bd h (a := 1) (b := i) (c := 0) (d := 1) ⟨by omega, by omega⟩ ⟨by omega, by omega⟩ ⟨by omega, by omega⟩ ⟨by omega, by omega⟩
    have u1 := h.1 0 0 (by omega) (by omega) (by omega) (by omega)
    have u2 := h.1 0 1 (by omega) (by omega) (by omega) (by omega)
    have u3 := h.1 0 j (by omega) (by omega) (by omega) (by omega)
    have p1 := im_bd u1.1 u1.2 t1.1 t1.2
    have p2 := im_bd u2.1 u2.2 t2.1 t2.2
    have p3 := im_bd u3.1 u3.2 t3.1 t3.2
    have q1 := h.2.2.2 0 1 j (by omega) (by omega) (by omega) (by omega) (by omega) (by omega) (by omega) (by omega) (by omega)
    have q2 := h.2.2.2 1 0 j (by omega) (by omega) (by omega) (by omega) (by omega) (by omega) (by omega) (by omega) (by omega)
    have q3 := h.2.2.2 j 0 1 (by omega) (by omega) (by omega) (by omega) (by omega) (by omega) (by omega) (by omega) (by omega)
    have e1 : B 0 * (2 * (B 1 * B j)) = 2 * (B 0 * (B 1 * B j)) := by grind
    have e2 : B 1 * (2 * (B 0 * B j)) = 2 * (B 1 * (B 0 * B j)) := by grind
    have e3 : B j * (2 * (B 0 * B 1)) = 2 * (B j * (B 0 * B 1)) := by grind
    rw [e1] at p1
    rw [e2] at p2
    rw [e3] at p3
    show -3000000 ≤ U 0 0 * m2 U 1 i 1 j - U 0 1 * m2 U 1 i 0 j + U 0 j * m2 U 1 i 0 1 ∧ U 0 0 * m2 U 1 i 1 j - U 0 1 * m2 U 1 i 0 j + U 0 j * m2 U 1 i 0 1 ≤ 3000000
    omega
theorem b_m3_bd {U : Int → Int → Int} {s : Int} {B : Int → Int} (h : b_cb U s B) {a b c d e f : Int} (ha : 0 ≤ a ∧ a < s) (hb : 0 ≤ b ∧ b < s) (hc : 0 ≤ c ∧ c < s) (hd : 0 ≤ d ∧ d < s) (he : 0 ≤ e ∧ e < s) (hf : 0 ≤ f ∧ f < s) (n1 : d ≠ e) (n2 : d ≠ f) (n3 : e ≠ f) : -3000000 ≤ m3 U a b c d e f ∧ m3 U a b c d e f ≤ 3000000 := by
  have t1 := b_m2_bd h (a := b) (b := c) (c := e) (d := f) hb hc he hf
  have t2 := b_m2_bd h (a := b) (b := c) (c := d) (d := f) hb hc hd hf
  have t3 := b_m2_bd h (a := b) (b := c) (c := d) (d := e) hb hc hd he
  have u1 := h.1 a d ha.1 ha.2 hd.1 hd.2
  have u2 := h.1 a e ha.1 ha.2 he.1 he.2
  have u3 := h.1 a f ha.1 ha.2 hf.1 hf.2
  have p1 := im_bd u1.1 u1.2 t1.1 t1.2
  have p2 := im_bd u2.1 u2.2 t2.1 t2.2
  have p3 := im_bd u3.1 u3.2 t3.1 t3.2
  have q1 := h.2.2.2 d e f hd.1 hd.2 he.1 he.2 hf.1 hf.2 n1 n2 n3
  have q2 := h.2.2.2 e d f he.1 he.2 hd.1 hd.2 hf.1 hf.2 (by omega) n3 n2
  have q3 := h.2.2.2 f d e hf.1 hf.2 hd.1 hd.2 he.1 he.2 (by omega) (by omega) n1
  have e1 : B d * (2 * (B e * B f)) = 2 * (B d * (B e * B f)) := by grind
  have e2 : B e * (2 * (B d * B f)) = 2 * (B e * (B d * B f)) := by grind
  have e3 : B f * (2 * (B d * B e)) = 2 * (B f * (B d * B e)) := by grind
  rw [e1] at p1
  rw [e2] at p2
  rw [e3] at p3
  unfold m3
  omega
theorem b_m_RL {U : Int → Int → Int} {s : Int} {B : Int → Int} (hs : s ≤ 4) (h : b_cb U s B) {k i j : Int} (hk : 0 ≤ k ∧ k < s) (hi : k ≤ i ∧ i < s) (hj : k ≤ j ∧ j < s) : -100000000000 ≤ b_m U k i j ∧ b_m U k i j ≤ 100000000000 := by
  by_cases c : k ≤ 2
  · have := b_m_bd h (k := k) (i := i) (j := j) ⟨hk.1, c⟩ hi hj
    omega
  · have e : k = 3 ∧ i = 3 ∧ j = 3 ∧ s = 4 := by omega
    obtain ⟨rfl, rfl, rfl, rfl⟩ := e
    have lim : ∀ r c x : Int, 0 ≤ r → r < 4 → 0 ≤ c → c < 4 → -3000000 ≤ x → x ≤ 3000000 → -(2000 * 3000000) ≤ U r c * x ∧ U r c * x ≤ 2000 * 3000000 := fun r c x r0 r1 c0 c1 x0 x1 => by
      have h1 := h.1 r c r0 r1 c0 c1
      have h2 := h.2.1 c c0 c1
      exact im_bd (by omega) (by omega) x0 x1
    have t1 := b_m3_bd h (a := 1) (b := 2) (c := 3) (d := 1) (e := 2) (f := 3) ⟨by omega, by omega⟩ ⟨by omega, by omega⟩ ⟨by omega, by omega⟩ ⟨by omega, by omega⟩ ⟨by omega, by omega⟩ ⟨by omega, by omega⟩ (by omega) (by omega) (by omega)
    have t2 := b_m3_bd h (a := 1) (b := 2) (c := 3) (d := 0) (e := 2) (f := 3) ⟨by omega, by omega⟩ ⟨by omega, by omega⟩ ⟨by omega, by omega⟩ ⟨by omega, by omega⟩ ⟨by omega, by omega⟩ ⟨by omega, by omega⟩ (by omega) (by omega) (by omega)
    have t3 := b_m3_bd h (a := 1) (b := 2) (c := 3) (d := 0) (e := 1) (f := 3) ⟨by omega, by omega⟩ ⟨by omega, by omega⟩ ⟨by omega, by omega⟩ ⟨by omega, by omega⟩ ⟨by omega, by omega⟩ ⟨by omega, by omega⟩ (by omega) (by omega) (by omega)
    have t4 := b_m3_bd h (a := 1) (b := 2) (c := 3) (d := 0) (e := 1) (f := 2) ⟨by omega, by omega⟩ ⟨by omega, by omega⟩ ⟨by omega, by omega⟩ ⟨by omega, by omega⟩ ⟨by omega, by omega⟩ ⟨by omega, by omega⟩ (by omega) (by omega) (by omega)
    have l1 := lim 0 0 _ (by omega) (by omega) (by omega) (by omega) t1.1 t1.2
    have l2 := lim 0 1 _ (by omega) (by omega) (by omega) (by omega) t2.1 t2.2
    have l3 := lim 0 2 _ (by omega) (by omega) (by omega) (by omega) t3.1 t3.2
    have l4 := lim 0 3 _ (by omega) (by omega) (by omega) (by omega) t4.1 t4.2
    show -100000000000 ≤ U 0 0 * m3 U 1 2 3 1 2 3 - U 0 1 * m3 U 1 2 3 0 2 3 + U 0 2 * m3 U 1 2 3 0 1 3 - U 0 3 * m3 U 1 2 3 0 1 2 ∧ U 0 0 * m3 U 1 2 3 1 2 3 - U 0 1 * m3 U 1 2 3 0 2 3 + U 0 2 * m3 U 1 2 3 0 1 3 - U 0 3 * m3 U 1 2 3 0 1 2 ≤ 100000000000
    omega
def m_tb (A : Nat → Int → Int) (U : Int → Int → Int) (s : Int) : Prop := ∀ i j : Int, 0 ≤ i → i < s → 0 ≤ j → j < s → A 150 (4 * i + j) = U i j
section REF14
variable {A : Nat → Int → Int} {F : Nat → Nat → Int} {v : Int → Int} {ps : Int → Int → Int} {st : Int} {rf tx : Int → Int} {tl : Int}
theorem r_side (e : A 144 = v) : fh_M mX7_side 1 [vR 143] A F (some (vI (v 0 - 1))) A F := by
  refine fh_M.of mi_X7_side (Nat.le_of_ble_eq_true rfl) ?_
  intro X C T
  refine fc_aload_n C dX7_side_0 rfl rfl ?_
  refine fh_callV (y := mX7_many) C dX7_side_1 ml_X7_60 mi_X7_many im_X7_many se_X7_many (r_many e) rfl rfl (by decide) rfl (Nat.le_of_ble_eq_true rfl) (Nat.zero_le _) (Nat.zero_le _) rfl ?_
  refine fc_iconst C dX7_side_4 ?_
  refine fc_isub C dX7_side_5 ?_
  exact fh_iret C T dX7_side_6 rfl rfl
theorem r_laysTable (e : A 144 = v) (hv : v_ok v) : fh_E mX7_laysTable 2 [vR 143] A F (fun r A' F' => r = none ∧ F' = F ∧ (∀ j : Nat, j ≠ 150 → A' j = A j) ∧ m_tb A' (fun i j => s_M (v_L v) (v 0) (i + 1) (j + 1)) (v 0 - 1)) := by
  have hn := hv.n
  have hg := hv.g
  refine fh_E.of mi_X7_laysTable (Nat.le_of_ble_eq_true rfl) ?_
  intro X C T
  have outer : ∀ (m : Nat) (a : Int) (A1 : Nat → Int → Int) (y2 : Option fc_AV), 0 ≤ a → a ≤ v 0 - 1 → v 0 - a < m → (∀ i j : Int, 0 ≤ i → i < a → 0 ≤ j → j < v 0 - 1 → A1 150 (4 * i + j) = s_M (v_L v) (v 0) (i + 1) (j + 1)) → (∀ j : Nat, j ≠ 150 → A1 j = A j) → fc_W X 0 0 159 (fc_H A1 F) 2 [some (vR 143), some (vI a), y2] [] := by
    intro m
    induction m with
    | zero => intro a A1 y2 z0 z1 z2; exfalso; omega
    | succ m ih =>
      intro a A1 y2 z0 z1 z2 ht frA
      refine fc_iload_n C dX7_laysTable_2 rfl rfl ?_
      refine fc_aload_n C dX7_laysTable_3 rfl rfl ?_
      refine fh_callV (y := mX7_side) C dX7_laysTable_4 ml_X7_188 mi_X7_side im_X7_side se_X7_side (r_side ((frA 144 (by omega)).trans e)) rfl rfl (by decide) rfl (Nat.le_of_ble_eq_true rfl) (Nat.zero_le _) (Nat.zero_le _) rfl ?_
      refine fc_icmp_ge (tgt := 70) C dX7_laysTable_7 (by decide) (fc_Rm (by omega)) (fc_Rm (by omega)) (fun c7 => ?_) (fun c7 => ?_)
      · exact fh_vretE C T dX7_laysTable_70 ⟨rfl, rfl, frA, fun i j i0 i1 j0 j1 => ht i j i0 (by omega) j0 j1⟩
      · have inner : ∀ (m2 : Nat) (b : Int) (A2 : Nat → Int → Int), 0 ≤ b → b ≤ v 0 - 1 → v 0 - b < m2 → (∀ i j : Int, 0 ≤ i → i ≤ a → 0 ≤ j → j < v 0 - 1 → (i < a ∨ j < b) → A2 150 (4 * i + j) = s_M (v_L v) (v 0) (i + 1) (j + 1)) → (∀ j : Nat, j ≠ 150 → A2 j = A j) → fc_W X 0 0 159 (fc_H A2 F) 12 [some (vR 143), some (vI a), some (vI b)] [] := by
          intro m2
          induction m2 with
          | zero => intro b A2 q0 q1 q2; exfalso; omega
          | succ m2 ih2 =>
            intro b A2 q0 q1 q2 ht2 frB
            have e2 := (frB 144 (by omega)).trans e
            refine fc_iload_n C dX7_laysTable_12 rfl rfl ?_
            refine fc_aload_n C dX7_laysTable_13 rfl rfl ?_
            refine fh_callV (y := mX7_side) C dX7_laysTable_14 ml_X7_188 mi_X7_side im_X7_side se_X7_side (r_side e2) rfl rfl (by decide) rfl (Nat.le_of_ble_eq_true rfl) (Nat.zero_le _) (Nat.zero_le _) rfl ?_
            refine fc_icmp_ge (tgt := 64) C dX7_laysTable_17 (by decide) (fc_Rm (by omega)) (fc_Rm (by omega)) (fun c17 => ?_) (fun c17 => ?_)
            · refine fc_iinc C dX7_laysTable_64 rfl (by decide) ?_
              refine fc_goto (tgt := 2) C dX7_laysTable_67 (by decide) ?_
              exact ih (a + 1) A2 _ (by omega) (by omega) (by omega) (fun i j i0 i1 j0 j1 => ht2 i j i0 (by omega) j0 j1 (by omega)) frB
            · have nxt : ∀ x : Int, x = s_M (v_L v) (v 0) (a + 1) (b + 1) → fc_W X 0 0 159 (fc_H A2 F) 57 [some (vR 143), some (vI a), some (vI b)] [vL x, vI (4 * a + b), vR 150] := by
                intro x ex
                refine fh_lastore C dX7_laysTable_57 (fun _ _ => rfl) (by omega) (by omega) (by decide) ?_
                refine fc_iinc C dX7_laysTable_58 rfl (by decide) ?_
                refine fc_goto (tgt := 12) C dX7_laysTable_61 (by decide) ?_
                refine ih2 (b + 1) _ (by omega) (by omega) (by omega) (fun i j i0 i1 j0 j1 hij => ?_) (fun j hj => by rw [fa_n _ _ hj]; exact frB j hj)
                rw [fa_s]
                unfold fc_set
                by_cases c : 4 * i + j = 4 * a + b
                · rw [if_pos c, ex, show i = a by omega, show j = b by omega]
                · rw [if_neg c]; exact ht2 i j i0 i1 j0 j1 (by omega)
              refine fc_aload_n C dX7_laysTable_20 rfl rfl ?_
              refine fh_getf C dX7_laysTable_21 fl_X7_29 rfl rfl ?_
              refine fc_iconst C dX7_laysTable_24 ?_
              refine fc_iload_n C dX7_laysTable_25 rfl rfl ?_
              refine fc_imul C dX7_laysTable_26 ?_
              refine fc_iload_n C dX7_laysTable_27 rfl rfl ?_
              refine fc_iadd C dX7_laysTable_28 ?_
              refine fc_iload_n C dX7_laysTable_29 rfl rfl ?_
              refine fc_iload_n C dX7_laysTable_30 rfl rfl ?_
              refine fc_icmp_ne (tgt := 45) C dX7_laysTable_31 (by decide) (fc_Rm (by omega)) (fc_Rm (by omega)) (fun c31 => ?_) (fun c31 => ?_)
              · have hl := hg (a + 1) (b + 1) (by omega) (by omega) (by omega) (by omega)
                refine fc_aload_n C dX7_laysTable_45 rfl rfl ?_
                refine fc_iload_n C dX7_laysTable_46 rfl rfl ?_
                refine fc_iconst C dX7_laysTable_47 ?_
                refine fc_iadd C dX7_laysTable_48 ?_
                refine fc_iload_n C dX7_laysTable_49 rfl rfl ?_
                refine fc_iconst C dX7_laysTable_50 ?_
                refine fc_iadd C dX7_laysTable_51 ?_
                refine fh_callV (y := mX7_linesOf) C dX7_laysTable_52 ml_X7_68 mi_X7_linesOf im_X7_linesOf se_X7_linesOf (r_linesOf e2 ⟨by omega, by omega⟩ ⟨by omega, by omega⟩) rfl rfl (by decide) rfl (Nat.le_of_ble_eq_true rfl) (Nat.zero_le _) (Nat.zero_le _) rfl ?_
                refine fc_ineg C dX7_laysTable_55 ?_
                refine fc_i2l C dX7_laysTable_56 (fc_Rm (by omega)) ?_
                exact nxt _ (by unfold s_M; rw [if_neg (by omega)])
              · have hvb := s_val_bd hg (n := v 0) (p := a + 1) (by omega) hn.2 (by omega) (by omega)
                refine fc_aload_n C dX7_laysTable_34 rfl rfl ?_
                refine fc_iload_n C dX7_laysTable_35 rfl rfl ?_
                refine fc_iconst C dX7_laysTable_36 ?_
                refine fc_iadd C dX7_laysTable_37 ?_
                refine fh_callV (y := mX7_valence) C dX7_laysTable_38 ml_X7_72 mi_X7_valence im_X7_valence se_X7_valence (r_valence e2 hn ⟨by omega, by omega⟩) rfl rfl (by decide) rfl (Nat.le_of_ble_eq_true rfl) (Nat.zero_le _) (Nat.zero_le _) rfl ?_
                refine fc_i2l C dX7_laysTable_41 (fc_Rm (by omega)) ?_
                refine fc_goto (tgt := 57) C dX7_laysTable_42 (by decide) ?_
                exact nxt _ (by unfold s_M; rw [if_pos (by omega)])
        refine fc_iconst C dX7_laysTable_10 ?_
        refine fc_istore_n C dX7_laysTable_11 rfl (by decide) ?_
        exact inner 7 0 A1 (by omega) (by omega) (by omega) (fun i j i0 i1 j0 j1 hij => ht i j i0 (by omega) j0 j1) frA
  refine fc_iconst C dX7_laysTable_0 ?_
  refine fc_istore_n C dX7_laysTable_1 rfl (by decide) ?_
  exact outer 7 0 A none (by omega) (by omega) (by omega) (fun i j i0 i1 => by omega) (fun _ _ => rfl)
theorem r_exchangesRows (e : A 144 = v) (hn : 2 ≤ v 0 ∧ v 0 ≤ 5) {U : Int → Int → Int} (hT : m_tb A U (v 0 - 1)) {a b : Int} (ha : 0 ≤ a ∧ a < v 0 - 1) (hb : 0 ≤ b ∧ b < v 0 - 1) : fh_E mX7_exchangesRows 2 [vR 143, vI a, vI b] A F (fun r A' F' => r = none ∧ F' = F ∧ (∀ j : Nat, j ≠ 150 → A' j = A j) ∧ m_tb A' (b_sw U a b) (v 0 - 1)) := by
  refine fh_E.of mi_X7_exchangesRows (Nat.le_of_ble_eq_true rfl) ?_
  intro X C T
  have loop : ∀ (m : Nat) (c : Int) (A1 : Nat → Int → Int) (y4 y5 : Option fc_AV), 0 ≤ c → c ≤ v 0 - 1 → v 0 - c < m → (∀ i j : Int, 0 ≤ i → i < v 0 - 1 → 0 ≤ j → j < v 0 - 1 → A1 150 (4 * i + j) = if j < c then b_sw U a b i j else U i j) → (∀ j : Nat, j ≠ 150 → A1 j = A j) → fc_W X 0 0 159 (fc_H A1 F) 2 [some (vR 143), some (vI a), some (vI b), some (vI c), y4, y5] [] := by
    intro m
    induction m with
    | zero => intro c A1 y4 y5 z0 z1 z2; exfalso; omega
    | succ m ih =>
      intro c A1 y4 y5 z0 z1 z2 ht frA
      refine fc_iload_n C dX7_exchangesRows_2 rfl rfl ?_
      refine fc_aload_n C dX7_exchangesRows_3 rfl rfl ?_
      refine fh_callV (y := mX7_side) C dX7_exchangesRows_4 ml_X7_188 mi_X7_side im_X7_side se_X7_side (r_side ((frA 144 (by omega)).trans e)) rfl rfl (by decide) rfl (Nat.le_of_ble_eq_true rfl) (Nat.zero_le _) (Nat.zero_le _) rfl ?_
      refine fc_icmp_ge (tgt := 60) C dX7_exchangesRows_7 (by decide) (fc_Rm (by omega)) (fc_Rm (by omega)) (fun c7 => ?_) (fun c7 => ?_)
      · exact fh_vretE C T dX7_exchangesRows_60 ⟨rfl, rfl, frA, fun i j i0 i1 j0 j1 => by rw [ht i j i0 i1 j0 j1, if_pos (by omega)]⟩
      · have ta := ht a c ha.1 ha.2 z0 (by omega)
        have tb := ht b c hb.1 hb.2 z0 (by omega)
        rw [if_neg (by omega)] at ta tb
        refine fc_aload_n C dX7_exchangesRows_10 rfl rfl ?_
        refine fh_getf C dX7_exchangesRows_11 fl_X7_29 rfl rfl ?_
        refine fc_iconst C dX7_exchangesRows_14 ?_
        refine fc_iload_n C dX7_exchangesRows_15 rfl rfl ?_
        refine fc_imul C dX7_exchangesRows_16 ?_
        refine fc_iload_n C dX7_exchangesRows_17 rfl rfl ?_
        refine fc_iadd C dX7_exchangesRows_18 ?_
        refine fh_laload C dX7_exchangesRows_19 (fun _ _ => rfl) (by omega) (by omega) (by decide) ?_
        refine fc_lstore C dX7_exchangesRows_20 (by decide) ?_
        refine fc_aload_n C dX7_exchangesRows_22 rfl rfl ?_
        refine fh_getf C dX7_exchangesRows_23 fl_X7_29 rfl rfl ?_
        refine fc_iconst C dX7_exchangesRows_26 ?_
        refine fc_iload_n C dX7_exchangesRows_27 rfl rfl ?_
        refine fc_imul C dX7_exchangesRows_28 ?_
        refine fc_iload_n C dX7_exchangesRows_29 rfl rfl ?_
        refine fc_iadd C dX7_exchangesRows_30 ?_
        refine fc_aload_n C dX7_exchangesRows_31 rfl rfl ?_
        refine fh_getf C dX7_exchangesRows_32 fl_X7_29 rfl rfl ?_
        refine fc_iconst C dX7_exchangesRows_35 ?_
        refine fc_iload_n C dX7_exchangesRows_36 rfl rfl ?_
        refine fc_imul C dX7_exchangesRows_37 ?_
        refine fc_iload_n C dX7_exchangesRows_38 rfl rfl ?_
        refine fc_iadd C dX7_exchangesRows_39 ?_
        refine fh_laload C dX7_exchangesRows_40 (fun _ _ => rfl) (by omega) (by omega) (by decide) ?_
        refine fh_lastore C dX7_exchangesRows_41 (fun _ _ => rfl) (by omega) (by omega) (by decide) ?_
        refine fc_aload_n C dX7_exchangesRows_42 rfl rfl ?_
        refine fh_getf C dX7_exchangesRows_43 fl_X7_29 rfl rfl ?_
        refine fc_iconst C dX7_exchangesRows_46 ?_
        refine fc_iload_n C dX7_exchangesRows_47 rfl rfl ?_
        refine fc_imul C dX7_exchangesRows_48 ?_
        refine fc_iload_n C dX7_exchangesRows_49 rfl rfl ?_
        refine fc_iadd C dX7_exchangesRows_50 ?_
        refine fc_lload C dX7_exchangesRows_51 rfl ?_
        refine fh_lastore C dX7_exchangesRows_53 (fun _ _ => rfl) (by omega) (by omega) (by decide) ?_
        refine fc_iinc C dX7_exchangesRows_54 rfl (by decide) ?_
        refine fc_goto (tgt := 2) C dX7_exchangesRows_57 (by decide) ?_
        refine ih (c + 1) _ _ _ (by omega) (by omega) (by omega) (fun i j i0 i1 j0 j1 => ?_) (fun j hj => by rw [fa_n _ _ hj, fa_n _ _ hj]; exact frA j hj)
        rw [fa_s, fa_s, ta, tb]
        unfold fc_set
        by_cases c1 : 4 * i + j = 4 * b + c
        · rw [if_pos c1, if_pos (by omega)]
          show U a c = (if i = a then U b j else if i = b then U a j else U i j)
          rw [show j = c by omega, show i = b by omega]
          by_cases c2 : b = a
          · rw [if_pos c2, c2]
          · rw [if_neg c2, if_pos rfl]
        · rw [if_neg c1]
          by_cases c2 : 4 * i + j = 4 * a + c
          · rw [if_pos c2, if_pos (by omega)]
            show U b c = (if i = a then U b j else if i = b then U a j else U i j)
            rw [if_pos (by omega), show j = c by omega]
          · rw [if_neg c2, ht i j i0 i1 j0 j1]
            by_cases c3 : j < c
            · rw [if_pos c3, if_pos (show j < c + 1 by omega)]
            · rw [if_neg c3]
              by_cases c4 : j < c + 1
              · rw [if_pos c4]
                show U i j = (if i = a then U b j else if i = b then U a j else U i j)
                rw [if_neg (by omega), if_neg (by omega)]
              · rw [if_neg c4]
  refine fc_iconst C dX7_exchangesRows_0 ?_
  refine fc_istore_n C dX7_exchangesRows_1 rfl (by decide) ?_
  exact loop 7 0 A none none (by omega) (by omega) (by omega) (fun i j i0 i1 j0 j1 => by rw [if_neg (by omega)]; exact hT i j i0 i1 j0 j1) (fun _ _ => rfl)
theorem r_pivotRow (e : A 144 = v) (hn : 2 ≤ v 0 ∧ v 0 ≤ 5) {k : Int} (hk : 0 ≤ k ∧ k < v 0 - 1) (hb : ∀ i : Int, k ≤ i → i < v 0 - 1 → fc_RL (A 150 (4 * i + k))) : fh_E mX7_pivotRow 2 [vR 143, vI k] A F (fun rr A' F' => A' = A ∧ F' = F ∧ ((rr = some (vI (-1)) ∧ ∀ i : Int, k ≤ i → i < v 0 - 1 → A 150 (4 * i + k) = 0) ∨ ∃ r : Int, rr = some (vI r) ∧ k ≤ r ∧ r < v 0 - 1 ∧ A 150 (4 * r + k) ≠ 0)) := by
  refine fh_E.of mi_X7_pivotRow (Nat.le_of_ble_eq_true rfl) ?_
  intro X C T
  have loop : ∀ (m : Nat) (r : Int), k ≤ r → r ≤ v 0 - 1 → v 0 - r < m → (∀ i : Int, k ≤ i → i < r → A 150 (4 * i + k) = 0) → fc_W X 0 0 159 (fc_H A F) 2 [some (vR 143), some (vI k), some (vI r)] [] := by
    intro m
    induction m with
    | zero => intro r z0 z1 z2; exfalso; omega
    | succ m ih =>
      intro r z0 z1 z2 h0
      refine fc_iload_n C dX7_pivotRow_2 rfl rfl ?_
      refine fc_aload_n C dX7_pivotRow_3 rfl rfl ?_
      refine fh_callV (y := mX7_side) C dX7_pivotRow_4 ml_X7_188 mi_X7_side im_X7_side se_X7_side (r_side e) rfl rfl (by decide) rfl (Nat.le_of_ble_eq_true rfl) (Nat.zero_le _) (Nat.zero_le _) rfl ?_
      refine fc_icmp_ge (tgt := 33) C dX7_pivotRow_7 (by decide) (fc_Rm (by omega)) (fc_Rm (by omega)) (fun c7 => ?_) (fun c7 => ?_)
      · refine fc_iconst C dX7_pivotRow_33 ?_
        exact fh_iretE C T dX7_pivotRow_34 (Or.inl rfl) ⟨rfl, rfl, Or.inl ⟨rfl, fun i i0 i1 => h0 i i0 (by omega)⟩⟩
      · refine fc_aload_n C dX7_pivotRow_10 rfl rfl ?_
        refine fh_getf C dX7_pivotRow_11 fl_X7_29 rfl rfl ?_
        refine fc_iconst C dX7_pivotRow_14 ?_
        refine fc_iload_n C dX7_pivotRow_15 rfl rfl ?_
        refine fc_imul C dX7_pivotRow_16 ?_
        refine fc_iload_n C dX7_pivotRow_17 rfl rfl ?_
        refine fc_iadd C dX7_pivotRow_18 ?_
        refine fh_laload C dX7_pivotRow_19 (fun _ _ => rfl) (by omega) (by omega) (by decide) ?_
        refine fc_lconst (z := 0) C dX7_pivotRow_20 rfl ?_
        refine fc_lcmp C dX7_pivotRow_21 (hb r z0 (by omega)) (fc_RLm (by omega)) ?_
        refine fc_if_eq (tgt := 27) C dX7_pivotRow_22 (by decide) (fc_cmp_R _ _) (fun c22 => ?_) (fun c22 => ?_)
        · have c22 := fc_cmp_eq.1 c22
          refine fc_iinc C dX7_pivotRow_27 rfl (by decide) ?_
          refine fc_goto (tgt := 2) C dX7_pivotRow_30 (by decide) ?_
          refine ih (r + 1) (by omega) (by omega) (by omega) (fun i i0 i1 => ?_)
          by_cases c : i = r
          · rw [c]; exact c22
          · exact h0 i i0 (by omega)
        · refine fc_iload_n C dX7_pivotRow_25 rfl rfl ?_
          exact fh_iretE C T dX7_pivotRow_26 (Or.inl rfl) ⟨rfl, rfl, Or.inr ⟨r, rfl, z0, by omega, fun z => c22 (fc_cmp_eq.2 z)⟩⟩
  refine fc_iload_n C dX7_pivotRow_0 rfl rfl ?_
  refine fc_istore_n C dX7_pivotRow_1 rfl (by decide) ?_
  exact loop 7 k (by omega) (by omega) (by omega) (fun i i0 i1 => by omega)
set_option maxHeartbeats 4000000 in
theorem r_determinant (e : A 144 = v) (hn : 2 ≤ v 0 ∧ v 0 ≤ 5) {U0 : Int → Int → Int} (hT : m_tb A U0 (v 0 - 1)) {B : Int → Int} (hB : b_cb U0 (v 0 - 1) B) : fh_E mX7_determinant 3 [vR 143] A F (fun r A' F' => r = some (vL (b_b U0 (v 0 - 1))) ∧ F' = F ∧ (∀ j : Nat, j ≠ 150 → A' j = A j)) := by
  refine fh_E.of mi_X7_determinant (Nat.le_of_ble_eq_true rfl) ?_
  intro X C T
  have outer : ∀ (m : Nat) (k sg : Int) (U : Int → Int → Int) (A1 : Nat → Int → Int) (y6 y7 y8 y9 y10 : Option fc_AV), 0 ≤ k → k ≤ v 0 - 1 → v 0 - k < m → (sg = 1 ∨ sg = -1) → sg * b_b U (v 0 - 1) = b_b U0 (v 0 - 1) → b_cb U (v 0 - 1) B → b_b U k ≠ 0 → (∀ i j : Int, k ≤ i → i < v 0 - 1 → k ≤ j → j < v 0 - 1 → A1 150 (4 * i + j) = b_m U k i j) → (∀ j : Nat, j ≠ 150 → A1 j = A j) → fc_W X 0 0 159 (fc_H A1 F) 7 [some (vR 143), some (vL (b_b U k)), none, some (vL sg), none, some (vI k), y6, y7, y8, y9, y10] [] := by
    intro m
    induction m with
    | zero => intro k sg U A1 y6 y7 y8 y9 y10 z0 z1 z2; exfalso; omega
    | succ m ih =>
      intro k sg U A1 y6 y7 y8 y9 y10 z0 z1 z2 hsg hdet hcb hbk ht frA
      have e1 := (frA 144 (by omega)).trans e
      refine fc_iload C dX7_determinant_7 rfl ?_
      refine fc_aload_n C dX7_determinant_9 rfl rfl ?_
      refine fh_callV (y := mX7_side) C dX7_determinant_10 ml_X7_188 mi_X7_side im_X7_side se_X7_side (r_side e1) rfl rfl (by decide) rfl (Nat.le_of_ble_eq_true rfl) (Nat.zero_le _) (Nat.zero_le _) rfl ?_
      refine fc_icmp_ge (tgt := 167) C dX7_determinant_13 (by decide) (fc_Rm (by omega)) (fc_Rm (by omega)) (fun c13 => ?_) (fun c13 => ?_)
      · refine fc_lload_n C dX7_determinant_167 rfl rfl ?_
        refine fc_lload_n C dX7_determinant_168 rfl rfl ?_
        refine fc_lmul C dX7_determinant_169 ?_
        refine fh_lretE C T dX7_determinant_170 ⟨?_, rfl, frA⟩
        rw [show k = v 0 - 1 by omega, hdet]
      · have hk2 : k ≤ 3 := by omega
        -- behind the exchange: U2 with its table
        have main : ∀ (sg2 : Int) (U2 : Int → Int → Int) (A2 : Nat → Int → Int) (r : Int) (y7 y8 y9 y10 : Option fc_AV), (sg2 = 1 ∨ sg2 = -1) → sg2 * b_b U2 (v 0 - 1) = b_b U0 (v 0 - 1) → b_cb U2 (v 0 - 1) B → b_b U2 k = b_b U k → (∀ i j : Int, k ≤ i → i < v 0 - 1 → k ≤ j → j < v 0 - 1 → A2 150 (4 * i + j) = b_m U2 k i j) → A2 150 (4 * k + k) ≠ 0 → (∀ j : Nat, j ≠ 150 → A2 j = A j) → fc_W X 0 0 159 (fc_H A2 F) 50 [some (vR 143), some (vL (b_b U k)), none, some (vL sg2), none, some (vI k), some (vI r), y7, y8, y9, y10] [] := by
          intro sg2 U2 A2 r y7 y8 y9 y10 hsg2 hdet2 hcb2 hbk2 ht2 hpv frB
          have epv : A2 150 (4 * k + k) = b_m U2 k k k := ht2 k k (by omega) (by omega) (by omega) (by omega)
          have ebn : b_b U2 (k + 1) = b_m U2 k k k := by
            show (if k + 1 = 0 then 1 else b_m U2 (k + 1 - 1) (k + 1 - 1) (k + 1 - 1)) = _
            rw [if_neg (by omega), show k + 1 - 1 = k by omega]
          -- rows and columns behind the pivot
          have rows : ∀ (m2 : Nat) (i0 : Int) (A3 : Nat → Int → Int) (y10 : Option fc_AV), k + 1 ≤ i0 → i0 ≤ v 0 - 1 → v 0 - i0 < m2 → (∀ i j : Int, k ≤ i → i < v 0 - 1 → k ≤ j → j < v 0 - 1 → A3 150 (4 * i + j) = if k < i ∧ k < j ∧ i < i0 then b_m U2 (k + 1) i j else b_m U2 k i j) → (∀ j : Nat, j ≠ 150 → A3 j = A j) → fc_W X 0 0 159 (fc_H A3 F) 67 [some (vR 143), some (vL (b_b U k)), none, some (vL sg2), none, some (vI k), some (vI r), some (vL (b_m U2 k k k)), none, some (vI i0), y10] [] := by
            intro m2
            induction m2 with
            | zero => intro i0 A3 y10 q0 q1 q2; exfalso; omega
            | succ m2 ih2 =>
              intro i0 A3 y10 q0 q1 q2 ht3 frC
              refine fc_iload C dX7_determinant_67 rfl ?_
              refine fc_aload_n C dX7_determinant_69 rfl rfl ?_
              refine fh_callV (y := mX7_side) C dX7_determinant_70 ml_X7_188 mi_X7_side im_X7_side se_X7_side (r_side ((frC 144 (by omega)).trans e)) rfl rfl (by decide) rfl (Nat.le_of_ble_eq_true rfl) (Nat.zero_le _) (Nat.zero_le _) rfl ?_
              refine fc_icmp_ge (tgt := 158) C dX7_determinant_73 (by decide) (fc_Rm (by omega)) (fc_Rm (by omega)) (fun c73 => ?_) (fun c73 => ?_)
              · refine fc_lload C dX7_determinant_158 rfl ?_
                refine fc_lstore_n C dX7_determinant_160 rfl (by decide) ?_
                refine fc_iinc C dX7_determinant_161 rfl (by decide) ?_
                refine fc_goto (tgt := 7) C dX7_determinant_164 (by decide) ?_
                have := ih (k + 1) sg2 U2 A3 (some (vI r)) (some (vL (b_m U2 k k k))) none (some (vI i0)) y10 (by omega) (by omega) (by omega) hsg2 hdet2 hcb2 (by rw [ebn, ← epv]; exact hpv) (fun i j a1 a2 a3 a4 => by rw [ht3 i j (by omega) a2 (by omega) a4, if_pos (by omega)]) frC
                rw [ebn] at this
                exact this
              · have cols : ∀ (m3 : Nat) (j0 : Int) (A4 : Nat → Int → Int), k + 1 ≤ j0 → j0 ≤ v 0 - 1 → v 0 - j0 < m3 → (∀ i j : Int, k ≤ i → i < v 0 - 1 → k ≤ j → j < v 0 - 1 → A4 150 (4 * i + j) = if k < i ∧ k < j ∧ (i < i0 ∨ (i = i0 ∧ j < j0)) then b_m U2 (k + 1) i j else b_m U2 k i j) → (∀ j : Nat, j ≠ 150 → A4 j = A j) → fc_W X 0 0 159 (fc_H A4 F) 82 [some (vR 143), some (vL (b_b U k)), none, some (vL sg2), none, some (vI k), some (vI r), some (vL (b_m U2 k k k)), none, some (vI i0), some (vI j0)] [] := by
                  intro m3
                  induction m3 with
                  | zero => intro j0 A4 p0 p1 p2; exfalso; omega
                  | succ m3 ih3 =>
                    intro j0 A4 p0 p1 p2 ht4 frD
                    refine fc_iload C dX7_determinant_82 rfl ?_
                    refine fc_aload_n C dX7_determinant_84 rfl rfl ?_
                    refine fh_callV (y := mX7_side) C dX7_determinant_85 ml_X7_188 mi_X7_side im_X7_side se_X7_side (r_side ((frD 144 (by omega)).trans e)) rfl rfl (by decide) rfl (Nat.le_of_ble_eq_true rfl) (Nat.zero_le _) (Nat.zero_le _) rfl ?_
                    refine fc_icmp_ge (tgt := 152) C dX7_determinant_88 (by decide) (fc_Rm (by omega)) (fc_Rm (by omega)) (fun c88 => ?_) (fun c88 => ?_)
                    · refine fc_iinc C dX7_determinant_152 rfl (by decide) ?_
                      refine fc_goto (tgt := 67) C dX7_determinant_155 (by decide) ?_
                      refine ih2 (i0 + 1) A4 _ (by omega) (by omega) (by omega) (fun i j a1 a2 a3 a4 => ?_) frD
                      rw [ht4 i j a1 a2 a3 a4]
                      by_cases c : k < i ∧ k < j ∧ (i < i0 ∨ (i = i0 ∧ j < j0))
                      · rw [if_pos c, if_pos (by omega)]
                      · rw [if_neg c, if_neg (by omega)]
                    · have hk2' : k ≤ 2 := by omega
                      have t1 := ht4 i0 j0 (by omega) (by omega) (by omega) (by omega)
                      have t2 := ht4 i0 k (by omega) (by omega) (by omega) (by omega)
                      have t3 := ht4 k j0 (by omega) (by omega) (by omega) (by omega)
                      rw [if_neg (by omega)] at t1 t2 t3
                      have w1 := b_m_bd hcb2 (k := k) (i := i0) (j := j0) ⟨z0, hk2'⟩ ⟨by omega, by omega⟩ ⟨by omega, by omega⟩
                      have w2 := b_m_bd hcb2 (k := k) (i := i0) (j := k) ⟨z0, hk2'⟩ ⟨by omega, by omega⟩ ⟨by omega, by omega⟩
                      have w3 := b_m_bd hcb2 (k := k) (i := k) (j := j0) ⟨z0, hk2'⟩ ⟨by omega, by omega⟩ ⟨by omega, by omega⟩
                      have w4 := b_m_bd hcb2 (k := k) (i := k) (j := k) ⟨z0, hk2'⟩ ⟨by omega, by omega⟩ ⟨by omega, by omega⟩
                      have p14 := im_bd w1.1 w1.2 w4.1 w4.2
                      have p23 := im_bd w2.1 w2.2 w3.1 w3.2
                      have hsyl := b_syl (U := U2) (k := k) (i := i0) (j := j0) ⟨z0, hk2'⟩
                      have hbb : -3000000 ≤ b_b U k ∧ b_b U k ≤ 3000000 := by
                        rw [← hbk2]
                        by_cases c : k = 0
                        · rw [c, b_b0]; omega
                        · show -3000000 ≤ (if k = 0 then 1 else b_m U2 (k - 1) (k - 1) (k - 1)) ∧ (if k = 0 then 1 else b_m U2 (k - 1) (k - 1) (k - 1)) ≤ 3000000
                          rw [if_neg c]
                          exact b_m_bd hcb2 ⟨by omega, by omega⟩ ⟨by omega, by omega⟩ ⟨by omega, by omega⟩
                      have hnum : b_m U2 k i0 j0 * b_m U2 k k k - b_m U2 k i0 k * b_m U2 k k j0 = b_b U k * b_m U2 (k + 1) i0 j0 := by rw [hsyl, hbk2]
                      refine fc_aload_n C dX7_determinant_91 rfl rfl ?_
                      refine fh_getf C dX7_determinant_92 fl_X7_29 rfl rfl ?_
                      refine fc_iconst C dX7_determinant_95 ?_
                      refine fc_iload C dX7_determinant_96 rfl ?_
                      refine fc_imul C dX7_determinant_98 ?_
                      refine fc_iload C dX7_determinant_99 rfl ?_
                      refine fc_iadd C dX7_determinant_101 ?_
                      refine fc_aload_n C dX7_determinant_102 rfl rfl ?_
                      refine fh_getf C dX7_determinant_103 fl_X7_29 rfl rfl ?_
                      refine fc_iconst C dX7_determinant_106 ?_
                      refine fc_iload C dX7_determinant_107 rfl ?_
                      refine fc_imul C dX7_determinant_109 ?_
                      refine fc_iload C dX7_determinant_110 rfl ?_
                      refine fc_iadd C dX7_determinant_112 ?_
                      refine fh_laload C dX7_determinant_113 (fun _ _ => rfl) (by omega) (by omega) (by decide) ?_
                      refine fc_lload C dX7_determinant_114 rfl ?_
                      refine fc_lmul C dX7_determinant_116 ?_
                      refine fc_aload_n C dX7_determinant_117 rfl rfl ?_
                      refine fh_getf C dX7_determinant_118 fl_X7_29 rfl rfl ?_
                      refine fc_iconst C dX7_determinant_121 ?_
                      refine fc_iload C dX7_determinant_122 rfl ?_
                      refine fc_imul C dX7_determinant_124 ?_
                      refine fc_iload C dX7_determinant_125 rfl ?_
                      refine fc_iadd C dX7_determinant_127 ?_
                      refine fh_laload C dX7_determinant_128 (fun _ _ => rfl) (by omega) (by omega) (by decide) ?_
                      refine fc_aload_n C dX7_determinant_129 rfl rfl ?_
                      refine fh_getf C dX7_determinant_130 fl_X7_29 rfl rfl ?_
                      refine fc_iconst C dX7_determinant_133 ?_
                      refine fc_iload C dX7_determinant_134 rfl ?_
                      refine fc_imul C dX7_determinant_136 ?_
                      refine fc_iload C dX7_determinant_137 rfl ?_
                      refine fc_iadd C dX7_determinant_139 ?_
                      refine fh_laload C dX7_determinant_140 (fun _ _ => rfl) (by omega) (by omega) (by decide) ?_
                      refine fc_lmul C dX7_determinant_141 ?_
                      refine fc_lsub C dX7_determinant_142 ?_
                      refine fc_eq (st' := [vL (b_m U2 k i0 j0 * b_m U2 k k k - b_m U2 k i0 k * b_m U2 k k j0), vI (4 * i0 + j0), vR 150]) rfl (by rw [t1, t2, t3]) ?_
                      refine fc_lload_n C dX7_determinant_143 rfl rfl ?_
                      refine fc_ldiv C dX7_determinant_144 (fc_RLm (by omega)) (fc_RLm (by omega)) (by omega) ?_
                      refine fc_eq (st' := [vL (b_m U2 (k + 1) i0 j0), vI (4 * i0 + j0), vR 150]) rfl (by rw [hnum, Int.mul_tdiv_cancel_left _ hbk]) ?_
                      refine fh_lastore C dX7_determinant_145 (fun _ _ => rfl) (by omega) (by omega) (by decide) ?_
                      refine fc_iinc C dX7_determinant_146 rfl (by decide) ?_
                      refine fc_goto (tgt := 82) C dX7_determinant_149 (by decide) ?_
                      refine ih3 (j0 + 1) _ (by omega) (by omega) (by omega) (fun i j a1 a2 a3 a4 => ?_) (fun j hj => by rw [fa_n _ _ hj]; exact frD j hj)
                      rw [fa_s]
                      unfold fc_set
                      by_cases c : 4 * i + j = 4 * i0 + j0
                      · rw [if_pos c, if_pos (by omega), show i = i0 by omega, show j = j0 by omega]
                      · rw [if_neg c, ht4 i j a1 a2 a3 a4]
                        by_cases c2 : k < i ∧ k < j ∧ (i < i0 ∨ (i = i0 ∧ j < j0))
                        · rw [if_pos c2, if_pos (by omega)]
                        · rw [if_neg c2, if_neg (by omega)]
                refine fc_iload C dX7_determinant_76 rfl ?_
                refine fc_iconst C dX7_determinant_78 ?_
                refine fc_iadd C dX7_determinant_79 ?_
                refine fc_istore C dX7_determinant_80 (by decide) ?_
                refine cols 7 (k + 1) A3 (by omega) (by omega) (by omega) (fun i j a1 a2 a3 a4 => ?_) frC
                rw [ht3 i j a1 a2 a3 a4]
                by_cases c : k < i ∧ k < j ∧ i < i0
                · rw [if_pos c, if_pos (by omega)]
                · rw [if_neg c, if_neg (by omega)]
          refine fc_aload_n C dX7_determinant_50 rfl rfl ?_
          refine fh_getf C dX7_determinant_51 fl_X7_29 rfl rfl ?_
          refine fc_iconst C dX7_determinant_54 ?_
          refine fc_iload C dX7_determinant_55 rfl ?_
          refine fc_imul C dX7_determinant_57 ?_
          refine fh_laload C dX7_determinant_58 (fun _ _ => rfl) (by omega) (by omega) (by decide) ?_
          refine fc_eq (st' := [vL (b_m U2 k k k)]) rfl (by rw [← epv, show 4 * k + k = 5 * k by omega]) ?_
          refine fc_lstore C dX7_determinant_59 (by decide) ?_
          refine fc_iload C dX7_determinant_61 rfl ?_
          refine fc_iconst C dX7_determinant_63 ?_
          refine fc_iadd C dX7_determinant_64 ?_
          refine fc_istore C dX7_determinant_65 (by decide) ?_
          refine rows 7 (k + 1) A2 _ (by omega) (by omega) (by omega) (fun i j a1 a2 a3 a4 => ?_) frB
          rw [ht2 i j a1 a2 a3 a4, if_neg (by omega)]
        have hRL : ∀ i : Int, k ≤ i → i < v 0 - 1 → fc_RL (A1 150 (4 * i + k)) := fun i i0 i1 => by
          rw [ht i k i0 i1 (by omega) (by omega)]
          have := b_m_RL (by omega) hcb (k := k) (i := i) (j := k) ⟨z0, by omega⟩ ⟨i0, i1⟩ ⟨by omega, by omega⟩
          exact fc_RLm (by omega)
        refine fc_aload_n C dX7_determinant_16 rfl rfl ?_
        refine fc_iload C dX7_determinant_17 rfl ?_
        refine fh_callVE (y := mX7_pivotRow) C dX7_determinant_19 ml_X7_191 mi_X7_pivotRow im_X7_pivotRow se_X7_pivotRow (r_pivotRow e1 hn ⟨z0, by omega⟩ hRL) rfl rfl (by decide) rfl (Nat.le_of_ble_eq_true rfl) (Nat.zero_le _) (Nat.zero_le _) rfl ?_
        rintro rr A2 F2 ⟨rfl, rfl, hh⟩
        rcases hh with ⟨rfl, hz⟩ | ⟨r, rfl, r0, r1, rne⟩
        · refine fc_eq (st' := [vI (-1)]) rfl rfl ?_
          refine fc_istore C dX7_determinant_22 (by decide) ?_
          refine fc_iload C dX7_determinant_24 rfl ?_
          refine fc_iconst C dX7_determinant_26 ?_
          refine fc_icmp_ne (tgt := 32) C dX7_determinant_27 (by decide) (fc_Rm (by omega)) (fc_Rm (by omega)) (fun c27 => ?_) (fun c27 => ?_)
          · exact absurd rfl c27
          · refine fc_lconst (z := 0) C dX7_determinant_30 rfl ?_
            refine fh_lretE C T dX7_determinant_31 ⟨?_, rfl, frA⟩
            have hz0 := b_zero (U := U) (s := v 0 - 1) (k := k) ⟨by omega, by omega⟩ ⟨z0, by omega⟩ hbk (fun i i0 i1 => by rw [← ht i k i0 i1 (by omega) (by omega)]; exact hz i i0 i1)
            rw [← hdet, hz0, Int.mul_zero]
        · refine fc_eq (st' := [vI r]) rfl rfl ?_
          refine fc_istore C dX7_determinant_22 (by decide) ?_
          refine fc_iload C dX7_determinant_24 rfl ?_
          refine fc_iconst C dX7_determinant_26 ?_
          refine fc_icmp_ne (tgt := 32) C dX7_determinant_27 (by decide) (fc_Rm (by omega)) (fc_Rm (by omega)) (fun c27 => ?_) (fun c27 => ?_)
          · refine fc_iload C dX7_determinant_32 rfl ?_
            refine fc_iload C dX7_determinant_34 rfl ?_
            refine fc_icmp_eq (tgt := 50) C dX7_determinant_36 (by decide) (fc_Rm (by omega)) (fc_Rm (by omega)) (fun c36 => ?_) (fun c36 => ?_)
            · have er : r = k := by omega
              exact main sg U A2 r _ _ _ _ hsg hdet hcb rfl ht (by rw [er] at rne; exact rne) frA
            · have hkr : k < r := by omega
              have hk2' : k ≤ 2 := by omega
              refine fc_aload_n C dX7_determinant_39 rfl rfl ?_
              refine fc_iload C dX7_determinant_40 rfl ?_
              refine fc_iload C dX7_determinant_42 rfl ?_
              refine fh_callVE (y := mX7_exchangesRows) C dX7_determinant_44 ml_X7_194 mi_X7_exchangesRows im_X7_exchangesRows se_X7_exchangesRows (r_exchangesRows e1 hn (U := fun i j => A2 150 (4 * i + j)) (fun i j _ _ _ _ => rfl) (a := r) (b := k) ⟨by omega, by omega⟩ ⟨by omega, by omega⟩) rfl rfl (by decide) rfl (Nat.le_of_ble_eq_true rfl) (Nat.zero_le _) (Nat.zero_le _) rfl ?_
              rintro rr A3 F3 ⟨rfl, rfl, frC, hT3⟩
              refine fc_eq (st' := []) rfl rfl ?_
              refine fc_lload_n C dX7_determinant_47 rfl rfl ?_
              refine fc_lneg C dX7_determinant_48 ?_
              refine fc_lstore_n C dX7_determinant_49 rfl (by decide) ?_
              refine main (-sg) (b_sw U r k) A3 r _ _ _ _ (by omega) ?_ (hcb.sw ⟨by omega, by omega⟩ ⟨by omega, by omega⟩) (b_sw_b ⟨z0, by omega⟩ hkr) (fun i j a1 a2 a3 a4 => ?_) ?_ (fun j hj => by rw [frC j hj]; exact frA j hj)
              · rw [b_sw_d (by omega) z0 hkr (by omega), Int.neg_mul_neg]; exact hdet
              · rw [hT3 i j (by omega) a2 (by omega) a4, b_sw_m ⟨z0, hk2'⟩ hkr a1]
                show (if i = r then A2 150 (4 * k + j) else if i = k then A2 150 (4 * r + j) else A2 150 (4 * i + j)) = _
                by_cases c1 : i = r
                · rw [if_pos c1, if_pos c1]; exact ht k j (by omega) (by omega) a3 a4
                · rw [if_neg c1, if_neg c1]
                  by_cases c2 : i = k
                  · rw [if_pos c2, if_pos c2]; exact ht r j (by omega) (by omega) a3 a4
                  · rw [if_neg c2, if_neg c2]; exact ht i j a1 a2 a3 a4
              · rw [hT3 k k (by omega) (by omega) (by omega) (by omega)]
                show (if k = r then A2 150 (4 * k + k) else if k = k then A2 150 (4 * r + k) else A2 150 (4 * k + k)) ≠ 0
                rw [if_neg (by omega), if_pos rfl]
                exact rne
          · exfalso; omega
  refine fc_lconst (z := 1) C dX7_determinant_0 rfl ?_
  refine fc_lstore_n C dX7_determinant_1 rfl (by decide) ?_
  refine fc_lconst (z := 1) C dX7_determinant_2 rfl ?_
  refine fc_lstore_n C dX7_determinant_3 rfl (by decide) ?_
  refine fc_iconst C dX7_determinant_4 ?_
  refine fc_istore C dX7_determinant_5 (by decide) ?_
  exact outer 7 0 1 U0 A none none none none none (by omega) (by omega) (by omega) (Or.inl rfl) (by rw [Int.one_mul]) hB (by rw [b_b0]; decide) (fun i j i0 i1 j0 j1 => hT i j i0 i1 j0 j1) (fun _ _ => rfl)
end REF14
