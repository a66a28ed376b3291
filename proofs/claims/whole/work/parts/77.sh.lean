/-! the rest of the table by itself -/
def u_sh (U : Int → Int → Int) (k : Int) : Int → Int → Int := fun i j => U (k + i) (k + j)
def u_dt (z : Int) (X : Int → Int → Int) : Int := if z = 1 then X 0 0 else if z = 2 then m2 X 0 1 0 1 else if z = 3 then m3 X 0 1 2 0 1 2 else m4 X 0 1 2 3 0 1 2 3
def u_dd (z : Int) (X : Int → Int → Int) : Prop := u_dt z X ≠ 0 ∧ u_ab (u_dt z X) ≤ 31833
theorem u_ab_e (x : Int) : u_ab x = (x.natAbs : Int) := by unfold u_ab; split <;> omega
theorem u_dt_1 {X : Int → Int → Int} : u_dt 1 X = X 0 0 := rfl
theorem u_dt_2 {X : Int → Int → Int} : u_dt 2 X = m2 X 0 1 0 1 := rfl
theorem u_dt_3 {X : Int → Int → Int} : u_dt 3 X = m3 X 0 1 2 0 1 2 := rfl
theorem u_dt_4 {X : Int → Int → Int} : u_dt 4 X = m4 X 0 1 2 3 0 1 2 3 := rfl
theorem u_dt_st {X : Int → Int → Int} {z : Int} (hz : 2 ≤ z ∧ z ≤ 4) (h : ∀ i : Int, 1 ≤ i → i < z → X i 0 = 0 ∧ X 0 i = 0) : u_dt z X = X 0 0 * u_dt (z - 1) (u_sh X 1) := by
  have hz' : z = 2 ∨ z = 3 ∨ z = 4 := by omega
  rcases hz' with rfl | rfl | rfl
  · show X 0 0 * X 1 1 - X 0 1 * X 1 0 = X 0 0 * X 1 1
    rw [(h 1 (by omega) (by omega)).2]
    omega
  · show X 0 0 * m2 X 1 2 1 2 - X 0 1 * m2 X 1 2 0 2 + X 0 2 * m2 X 1 2 0 1 = X 0 0 * m2 X 1 2 1 2
    rw [(h 1 (by omega) (by omega)).2, (h 2 (by omega) (by omega)).2]
    omega
  · show X 0 0 * m3 X 1 2 3 1 2 3 - X 0 1 * m3 X 1 2 3 0 2 3 + X 0 2 * m3 X 1 2 3 0 1 3 - X 0 3 * m3 X 1 2 3 0 1 2 = X 0 0 * m3 X 1 2 3 1 2 3
    rw [(h 1 (by omega) (by omega)).2, (h 2 (by omega) (by omega)).2, (h 3 (by omega) (by omega)).2]
    omega
theorem u_sh_0 {U : Int → Int → Int} : u_sh U 0 = U := by
  funext i j
  show U (0 + i) (0 + j) = U i j
  rw [Int.zero_add, Int.zero_add]
theorem u_sh_s {U : Int → Int → Int} {k : Int} : u_sh (u_sh U k) 1 = u_sh U (k + 1) := by
  funext i j
  show U (k + (1 + i)) (k + (1 + j)) = U (k + 1 + i) (k + 1 + j)
  rw [Int.add_assoc, Int.add_assoc]
theorem u_dd_st {X : Int → Int → Int} {z : Int} (hz : 2 ≤ z ∧ z ≤ 4) (h : ∀ i : Int, 1 ≤ i → i < z → X i 0 = 0 ∧ X 0 i = 0) (hd : u_dd z X) : u_dd (z - 1) (u_sh X 1) := by
  obtain ⟨h1, h2⟩ := hd
  rw [u_dt_st hz h] at h1 h2
  rw [u_ab_e, Int.natAbs_mul] at h2
  have a0 : X 0 0 ≠ 0 := fun e => h1 (by rw [e, Int.zero_mul])
  refine ⟨fun e => h1 (by rw [e, Int.mul_zero]), ?_⟩
  rw [u_ab_e]
  have : (u_dt (z - 1) (u_sh X 1)).natAbs ≤ (X 0 0).natAbs * (u_dt (z - 1) (u_sh X 1)).natAbs := Nat.le_mul_of_pos_left _ (by omega)
  omega
theorem u_dd_k {U : Int → Int → Int} {s : Int} (hs : 1 ≤ s ∧ s ≤ 4) (hd : u_dd s U) : ∀ (m : Nat), (m : Int) < s → u_dg U s m → u_dd (s - m) (u_sh U m) := by
  intro m
  induction m with
  | zero => intro _ _; rw [show ((0 : Nat) : Int) = 0 from rfl, u_sh_0, Int.sub_zero]; exact hd
  | succ m ih =>
    intro hm hg
    have := u_dd_st (X := u_sh U m) (z := s - m) ⟨by omega, by omega⟩ (fun i i0 i1 => by
      have := hg m (m + i) (by omega) (by omega) ⟨by omega, by omega⟩ (by omega)
      show U (m + i) (m + 0) = 0 ∧ U (m + 0) (m + i) = 0
      rw [Int.add_zero]
      exact this) (ih (by omega) (fun j i j0 j1 => hg j i j0 (by omega)))
    rw [u_sh_s, show s - (m : Int) - 1 = s - ((m + 1 : Nat) : Int) by omega] at this
    exact this
theorem u_Ds {d s : Int} {U : Int → Int → Int} : (s = 1 → (u_D1 d U s ↔ d ∣ u_dt s U)) ∧ (s = 2 → (u_D2 d U s ↔ d ∣ u_dt s U)) ∧ (s = 3 → (u_D3 d U s ↔ d ∣ u_dt s U)) ∧ (s = 4 → (u_D4 d U s ↔ d ∣ u_dt s U)) := by
  refine ⟨?_, ?_, ?_, ?_⟩
  · rintro rfl
    refine ⟨fun H => H 0 0 ⟨by decide, by decide⟩ ⟨by decide, by decide⟩, fun H a e ha he => ?_⟩
    rw [show a = 0 by have := ha.1; have := ha.2; omega, show e = 0 by have := he.1; have := he.2; omega]
    exact H
  · rintro rfl
    refine ⟨fun H => H 0 1 0 1 ⟨by decide, by decide⟩ ⟨by decide, by decide⟩ ⟨by decide, by decide⟩ ⟨by decide, by decide⟩, fun H => u_D2_rc (fun a b e f ha hb he hf q1 q2 => ?_)⟩
    have := ha.1; have := hb.2; have := he.1; have := hf.2
    rw [show a = 0 by omega, show b = 1 by omega, show e = 0 by omega, show f = 1 by omega]
    exact H
  · rintro rfl
    refine ⟨fun H => H 0 1 2 0 1 2 ⟨by decide, by decide⟩ ⟨by decide, by decide⟩ ⟨by decide, by decide⟩ ⟨by decide, by decide⟩ ⟨by decide, by decide⟩ ⟨by decide, by decide⟩, fun H => u_D3_rc (fun a b c e f g ha hb hc he hf hg q1 q2 q3 q4 => ?_)⟩
    have := ha.1; have := hc.2; have := he.1; have := hg.2
    rw [show a = 0 by omega, show b = 1 by omega, show c = 2 by omega, show e = 0 by omega, show f = 1 by omega, show g = 2 by omega]
    exact H
  · rintro rfl
    refine ⟨fun H => H 0 1 2 3 0 1 2 3 ⟨by decide, by decide⟩ ⟨by decide, by decide⟩ ⟨by decide, by decide⟩ ⟨by decide, by decide⟩ ⟨by decide, by decide⟩ ⟨by decide, by decide⟩ ⟨by decide, by decide⟩ ⟨by decide, by decide⟩, fun H => u_D4_rc (fun a b c o e f g h ha hb hc ho he hf hg hh q1 q2 q3 q4 q5 q6 => ?_)⟩
    have := ha.1; have := ho.2; have := he.1; have := hh.2
    rw [show a = 0 by omega, show b = 1 by omega, show c = 2 by omega, show o = 3 by omega, show e = 0 by omega, show f = 1 by omega, show g = 2 by omega, show h = 3 by omega]
    exact H
theorem u_dt_dv {s : Int} (hs : 1 ≤ s ∧ s ≤ 4) {U U' : Int → Int → Int} (h : u_DD U U' s) : u_dt s U ∣ u_dt s U' := by
  have hs' : s = 1 ∨ s = 2 ∨ s = 3 ∨ s = 4 := by omega
  have h := h (u_dt s U)
  have g := u_Ds (d := u_dt s U) (s := s) (U := U)
  have g' := u_Ds (d := u_dt s U) (s := s) (U := U')
  rcases hs' with e | e | e | e
  · exact (g'.1 e).1 (h.1 ((g.1 e).2 (Int.dvd_refl _)))
  · exact (g'.2.1 e).1 (h.2.1 ((g.2.1 e).2 (Int.dvd_refl _)))
  · exact (g'.2.2.1 e).1 (h.2.2.1 ((g.2.2.1 e).2 (Int.dvd_refl _)))
  · exact (g'.2.2.2 e).1 (h.2.2.2 ((g.2.2.2 e).2 (Int.dvd_refl _)))
theorem u_dd_EE {s : Int} (hs : 1 ≤ s ∧ s ≤ 4) {U U' : Int → Int → Int} (h : u_EE U U' s) (hd : u_dd s U) : u_dd s U' := by
  have e : (u_dt s U).natAbs = (u_dt s U').natAbs := Nat.dvd_antisymm (Int.natAbs_dvd_natAbs.2 (u_dt_dv hs h.1)) (Int.natAbs_dvd_natAbs.2 (u_dt_dv hs h.2))
  obtain ⟨h1, h2⟩ := hd
  rw [u_ab_e] at h2
  refine ⟨by omega, ?_⟩
  rw [u_ab_e]
  omega
/-- what the rounds over a rest of z rows must keep -/
def u_R (BB : Int → Nat → (Int → Int → Int) → Prop) (z : Int) : Prop := ∀ (m : Nat) (W : Int → Int → Int) (x y : Int), BB z m W → u_fl W z 0 x y → u_dd z W → u_dd z (u_sw W 0 x y) → u_dd z (u_c (u_sw W 0 x y) 0) → (¬ u_all (u_sw W 0 x y) z 0 → ∃ m' : Nat, m' < m ∧ BB z m' (u_c (u_sw W 0 x y) 0)) ∧ (u_all (u_sw W 0 x y) z 0 → (∀ i j : Int, 0 ≤ i → i < z → 0 ≤ j → j < z → u_b (u_c (u_sw W 0 x y) 0 i j)) ∧ ((∀ i j : Int, 0 < i → i < z → 0 < j → j < z → u_c (u_sw W 0 x y) 0 0 0 ∣ u_c (u_sw W 0 x y) 0 i j) → ∃ m' : Nat, BB (z - 1) m' (u_sh (u_c (u_sw W 0 x y) 0) 1)) ∧ ∀ u j : Int, 0 < u → u < z → 0 < j → j < z → ¬ u_c (u_sw W 0 x y) 0 0 0 ∣ u_c (u_sw W 0 x y) 0 u j → ∃ m' : Nat, m' < m ∧ BB z m' (u_add (u_c (u_sw W 0 x y) 0) 0 u))
section SHF
variable {U : Int → Int → Int} {s k x y : Int}
theorem u_sh_sw : u_sh (u_sw U k x y) k = u_sw (u_sh U k) 0 (x - k) (y - k) := by
  have e : ∀ b i : Int, u_pm k b (k + i) = k + u_pm 0 (b - k) i := fun b i => by
    unfold u_pm
    repeat' split
    all_goals omega
  funext i j
  rw [u_sw_pm]
  show u_sw U k x y (k + i) (k + j) = U (k + _) (k + _)
  rw [u_sw_pm, e, e]
theorem u_sh_c : u_sh (u_c U k) k = u_c (u_sh U k) 0 := by
  have ee : ∀ i : Int, u_e U k (k + i) = u_e (u_sh U k) 0 i := fun i => by
    unfold u_e u_sh
    rw [Int.add_zero]
    by_cases c : i = 0
    · rw [if_pos c, if_pos (by omega)]
    · rw [if_neg c, if_neg (by omega)]
  have ff : ∀ i : Int, u_f U k (k + i) = u_f (u_sh U k) 0 i := fun i => by
    unfold u_f u_sh
    rw [Int.add_zero]
    by_cases c : i = 0
    · rw [if_pos c, if_pos (by omega)]
    · rw [if_neg c, if_neg (by omega)]
  have yy : ∀ i j : Int, u_y U k (k + i) (k + j) = u_y (u_sh U k) 0 i j := fun i j => by
    unfold u_y
    rw [ee]
    show _ = U (k + i) (k + j) - _ * U (k + 0) (k + j)
    rw [Int.add_zero]
  funext i j
  show (if k ≤ k + i ∧ k ≤ k + j then u_z U k (k + i) (k + j) else U (k + i) (k + j)) = (if 0 ≤ i ∧ 0 ≤ j then u_z (u_sh U k) 0 i j else U (k + i) (k + j))
  by_cases c : 0 ≤ i ∧ 0 ≤ j
  · rw [if_pos c, if_pos (by omega)]
    unfold u_z
    have y0 := yy i 0
    rw [Int.add_zero] at y0
    rw [yy, ff, y0]
  · rw [if_neg c, if_neg (by omega)]
theorem u_sh_add {u : Int} : u_sh (u_add U k u) k = u_add (u_sh U k) 0 (u - k) := by
  funext i j
  show (if k + i = k ∧ k ≤ k + j then U k (k + j) + U u (k + j) else U (k + i) (k + j)) = (if i = 0 ∧ 0 ≤ j then U (k + 0) (k + j) + U (k + (u - k)) (k + j) else U (k + i) (k + j))
  rw [Int.add_zero, show k + (u - k) = u by omega]
  by_cases c : i = 0 ∧ 0 ≤ j
  · rw [if_pos c, if_pos (by omega)]
  · rw [if_neg c, if_neg (by omega)]
theorem u_fl.sh (h : u_fl U s k x y) : u_fl (u_sh U k) (s - k) 0 (x - k) (y - k) := by
  obtain ⟨h1, h2, h3, h4, h5, h6⟩ := h
  have e : u_sh U k (x - k) (y - k) = U x y := by
    show U (k + (x - k)) (k + (y - k)) = _
    rw [show k + (x - k) = x by omega, show k + (y - k) = y by omega]
  refine ⟨by omega, by omega, by omega, by omega, by rw [e]; exact h5, fun i j i0 i1 j0 j1 hh => ?_⟩
  rw [e]
  have := h6 (k + i) (k + j) (by omega) (by omega) (by omega) (by omega) hh
  exact ⟨this.1, fun z => this.2 (by omega)⟩
theorem u_c_sh {i j : Int} : u_c U k i j = u_c (u_sh U k) 0 (i - k) (j - k) := by
  rw [← u_sh_c]
  show _ = u_c U k (k + (i - k)) (k + (j - k))
  rw [show k + (i - k) = i by omega, show k + (j - k) = j by omega]
theorem u_all_iff : u_all U s k ↔ (∀ r : Int, k < r → r < s → u_c U k r k = 0) ∧ ∀ c : Int, k < c → c < s → u_c U k k c = 0 := by
  have h1 : ∀ r : Int, k < r → u_c U k r k = u_z U k r k := fun r h => if_pos ⟨by omega, Int.le_refl _⟩
  have h2 : ∀ r : Int, k < r → u_c U k k r = u_z U k k r := fun r h => if_pos ⟨Int.le_refl _, by omega⟩
  constructor
  · intro h
    exact ⟨fun r r0 r1 => by rw [h1 r r0]; exact h.1 r r0 r1, fun r r0 r1 => by rw [h2 r r0]; exact h.2 r r0 r1⟩
  · intro h
    exact ⟨fun r r0 r1 => by rw [← h1 r r0]; exact h.1 r r0 r1, fun r r0 r1 => by rw [← h2 r r0]; exact h.2 r r0 r1⟩
theorem u_all_sh : u_all U s k ↔ u_all (u_sh U k) (s - k) 0 := by
  rw [u_all_iff, u_all_iff]
  constructor
  · intro h
    refine ⟨fun r r0 r1 => ?_, fun r r0 r1 => ?_⟩
    · have := h.1 (k + r) (by omega) (by omega)
      rw [u_c_sh, show k + r - k = r by omega, show k - k = 0 by omega] at this
      exact this
    · have := h.2 (k + r) (by omega) (by omega)
      rw [u_c_sh, show k + r - k = r by omega, show k - k = 0 by omega] at this
      exact this
  · intro h
    refine ⟨fun r r0 r1 => ?_, fun r r0 r1 => ?_⟩
    · rw [u_c_sh, show k - k = 0 by omega]
      exact h.1 (r - k) (by omega) (by omega)
    · rw [u_c_sh, show k - k = 0 by omega]
      exact h.2 (r - k) (by omega) (by omega)
end SHF
def u_BU (s : Int) (BB : Int → Nat → (Int → Int → Int) → Prop) : Int → Nat → (Int → Int → Int) → Prop := fun k m U => BB (s - k) m (u_sh U k)
theorem u_BU_H1 {s : Int} {BB : Int → Nat → (Int → Int → Int) → Prop} (h : ∀ (z : Int) (m : Nat) (W : Int → Int → Int), 1 ≤ z → z ≤ s → BB z m W → (∀ i j : Int, 0 ≤ i → i < z → 0 ≤ j → j < z → u_b (W i j)) ∧ ∃ i j : Int, 0 ≤ i ∧ i < z ∧ 0 ≤ j ∧ j < z ∧ W i j ≠ 0) : u_H1 s (u_BU s BB) := by
  intro k m U h0 h1 hB
  obtain ⟨g1, i, j, i0, i1, j0, j1, g2⟩ := h (s - k) m (u_sh U k) (by omega) (by omega) hB
  refine ⟨fun a b a0 a1 b0 b1 => ?_, k + i, k + j, by omega, by omega, by omega, by omega, g2⟩
  have := g1 (a - k) (b - k) (by omega) (by omega) (by omega) (by omega)
  have e : u_sh U k (a - k) (b - k) = U a b := by
    show U (k + (a - k)) (k + (b - k)) = _
    rw [show k + (a - k) = a by omega, show k + (b - k) = b by omega]
  rw [e] at this
  exact this
theorem u_BU_H2 {s : Int} (hs : 1 ≤ s ∧ s ≤ 4) {U0 : Int → Int → Int} (hd0 : u_dd s U0) {BB : Int → Nat → (Int → Int → Int) → Prop} (h : ∀ z : Int, 1 ≤ z → z ≤ s → u_R BB z) : u_H2B s (fun k U => u_EE U0 U s ∧ u_dg U s k ∧ ∀ j : Int, 0 ≤ j → j < k → U j j ≠ 0) (u_BU s BB) := by
  intro k m U x y h0 h1 hQ hB hfl
  obtain ⟨q1, q2, q3⟩ := hQ
  have hx : k ≤ x ∧ x < s := ⟨hfl.1, hfl.2.1⟩
  have hy : k ≤ y ∧ y < s := ⟨hfl.2.2.1, hfl.2.2.2.1⟩
  have hk : u_i s k := ⟨h0, h1⟩
  have q1' := q1.tr (u_EE_sw (k := k) (x := x) (y := y) hk ⟨by omega, hx.2⟩ ⟨by omega, hy.2⟩)
  have q2' := q2.sw h0 hx hy
  have q1'' := q1'.tr (u_EE_c hk q2')
  obtain ⟨kn, ekn⟩ : ∃ kn : Nat, (kn : Int) = k := ⟨k.toNat, by omega⟩
  have d1 : u_dd (s - k) (u_sh U k) := by rw [← ekn] at q2 ⊢; exact u_dd_k hs (u_dd_EE hs q1 hd0) kn (by omega) q2
  have d2 : u_dd (s - k) (u_sh (u_sw U k x y) k) := by
    have := u_dd_k hs (u_dd_EE hs q1' hd0) kn (by omega) (by rw [ekn]; exact q2')
    rw [ekn] at this
    exact this
  have d3 : u_dd (s - k) (u_sh (u_c (u_sw U k x y) k) k) := by
    have := u_dd_k hs (u_dd_EE hs q1'' hd0) kn (by omega) (by rw [ekn]; exact q2'.c)
    rw [ekn] at this
    exact this
  rw [u_sh_c, u_sh_sw] at d3
  rw [u_sh_sw] at d2
  obtain ⟨g1, g2⟩ := h (s - k) (by omega) (by omega) m (u_sh U k) (x - k) (y - k) hB hfl.sh d1 d2 d3
  have ec : ∀ i j : Int, u_c (u_sw U k x y) k i j = u_c (u_sw (u_sh U k) 0 (x - k) (y - k)) 0 (i - k) (j - k) := fun i j => by rw [u_c_sh, u_sh_sw]
  rw [← u_sh_sw, ← u_sh_c, ← u_all_sh] at g1
  refine ⟨g1, fun al => ?_⟩
  obtain ⟨w1, w2, w3⟩ := g2 (by rw [← u_sh_sw, ← u_all_sh]; exact al)
  refine ⟨fun i j i0 i1 j0 j1 => ?_, fun hdv => ?_, fun u j u0 u1 j0 j1 hnd => ?_⟩
  · rw [ec]; exact w1 _ _ (by omega) (by omega) (by omega) (by omega)
  · obtain ⟨m', hm⟩ := w2 (fun i j i0 i1 j0 j1 => by
      have := hdv (k + i) (k + j) (by omega) (by omega) (by omega) (by omega)
      rw [ec, ec, show k - k = 0 by omega, show k + i - k = i by omega, show k + j - k = j by omega] at this
      exact this)
    refine ⟨m', ?_⟩
    rw [← u_sh_sw, ← u_sh_c, u_sh_s] at hm
    show BB (s - (k + 1)) m' _
    rw [show s - (k + 1) = s - k - 1 by omega]
    exact hm
  · obtain ⟨m', l, hm⟩ := w3 (u - k) (j - k) (by omega) (by omega) (by omega) (by omega) (fun hh => hnd (by
      rw [ec, ec, show k - k = 0 by omega]
      exact hh))
    refine ⟨m', l, ?_⟩
    rw [← u_sh_sw, ← u_sh_c, ← u_sh_add] at hm
    exact hm
