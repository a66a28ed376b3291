/-! the pivot falls; rests of one and two rows -/
theorem ab_mul (x y : Int) : u_ab (x * y) = u_ab x * u_ab y := by rw [u_ab_e, u_ab_e, u_ab_e, Int.natAbs_mul, Int.natCast_mul]
theorem ab_add (x y : Int) : u_ab (x + y) ≤ u_ab x + u_ab y := by rw [u_ab_e, u_ab_e, u_ab_e]; omega
theorem ab_sub (x y : Int) : u_ab (x - y) ≤ u_ab x + u_ab y := by rw [u_ab_e, u_ab_e, u_ab_e]; omega
theorem ab_neg (x : Int) : u_ab (-x) = u_ab x := by rw [u_ab_e, u_ab_e]; omega
theorem ab_pos {x : Int} (h : x ≠ 0) : 1 ≤ u_ab x := by rw [u_ab_e]; omega
theorem ab_b {x : Int} (h : u_ab x ≤ 9223372036854775807) : u_b x := by rw [u_ab_e] at h; exact ⟨by omega, by omega⟩
/-- a remainder of something larger -/
theorem u_rem2 {x y : Int} (hy : y ≠ 0) (h : u_ab y ≤ u_ab x) : u_ab (x - x.tdiv y * y) + u_ab y ≤ u_ab x := by
  have e : x - x.tdiv y * y = x.tmod y := by
    have := Int.tmod_add_mul_tdiv x y
    rw [Int.mul_comm] at this
    omega
  rw [u_ab_e, u_ab_e] at h
  rw [e, u_ab_e, u_ab_e, u_ab_e, Int.natAbs_tmod]
  have h1 := Nat.div_add_mod x.natAbs y.natAbs
  have h2 : 1 ≤ x.natAbs / y.natAbs := (Nat.le_div_iff_mul_le (by omega)).2 (by omega)
  have h3 := Nat.mul_le_mul_left y.natAbs h2
  omega
theorem u_rem0 {x y : Int} : x - x.tdiv y * y = 0 ↔ y ∣ x := by
  have e : x - x.tdiv y * y = x.tmod y := by
    have := Int.tmod_add_mul_tdiv x y
    rw [Int.mul_comm] at this
    omega
  rw [e]
  exact ⟨Int.dvd_of_tmod_eq_zero, Int.tmod_eq_zero_of_dvd⟩
section TT
variable {V W Z : Int → Int → Int} {z x y : Int} {m : Nat}
theorem u_c_00 : u_c V 0 0 0 = V 0 0 := u_c_k
theorem u_c_r0 {r : Int} (h : 1 ≤ r) : u_c V 0 r 0 = V r 0 - (V r 0).tdiv (V 0 0) * V 0 0 := by
  unfold u_c
  rw [if_pos (by omega), u_z_k, u_y_r (by omega)]
theorem u_c_0c {c : Int} (h : 1 ≤ c) : u_c V 0 0 c = V 0 c - (V 0 c).tdiv (V 0 0) * V 0 0 := by
  unfold u_c
  rw [if_pos (by omega), u_z_c (by omega)]
theorem u_c_rc {r c : Int} (hr : 1 ≤ r) (hc : 1 ≤ c) : m2 (u_c V 0) 0 r 0 c = m2 V 0 r 0 c := by
  unfold m2
  rw [u_c_00, u_c_r0 hr, u_c_0c hc]
  unfold u_c
  rw [if_pos (by omega)]
  unfold u_z u_f
  rw [if_neg (by omega), u_y_r (by omega)]
  unfold u_y u_e
  rw [if_neg (by omega)]
  grind
theorem u_c_r0l {r : Int} (h : 1 ≤ r) (h0 : V 0 0 ≠ 0) : u_ab (u_c V 0 r 0) < u_ab (V 0 0) := by rw [u_c_r0 h]; exact u_rem.2 h0
theorem u_c_0cl {c : Int} (h : 1 ≤ c) (h0 : V 0 0 ≠ 0) : u_ab (u_c V 0 0 c) < u_ab (V 0 0) := by rw [u_c_0c h]; exact u_rem.2 h0
theorem u_sw_00 : u_sw W 0 x y 0 0 = W x y := u_sw_k
/-- the least stands at the corner -/
theorem u_fl.ls (h : u_fl W z 0 x y) : ∀ i j : Int, 0 ≤ i → i < z → 0 ≤ j → j < z → u_sw W 0 x y i j ≠ 0 → u_ab (W x y) ≤ u_ab (u_sw W 0 x y i j) := by
  intro i j i0 i1 j0 j1 hh
  obtain ⟨i', j', g1, g2, g3⟩ := u_sw_v (U := W) (s := z) (k := 0) (x := x) (y := y) ⟨h.1, h.2.1⟩ ⟨h.2.2.1, h.2.2.2.1⟩ ⟨i0, i1⟩ ⟨j0, j1⟩
  rw [g3] at hh ⊢
  exact (h.2.2.2.2.2 i' j' g1.1 g1.2 g2.1 g2.2 hh).1
def u_Tm (z : Int) (m : Nat) (W : Int → Int → Int) : Prop := (∃ i j : Int, 0 ≤ i ∧ i < z ∧ 0 ≤ j ∧ j < z ∧ W i j ≠ 0 ∧ 2 * u_ab (W i j) + 1 ≤ m) ∨ (W 0 0 ≠ 0 ∧ 2 * u_ab (W 0 0) ≤ m ∧ (∀ r : Int, 0 < r → r < z → W r 0 = 0) ∧ ∃ c : Int, 0 < c ∧ c < z ∧ ¬ W 0 0 ∣ W 0 c)
theorem u_Tm.ne (hz : 1 ≤ z) (h : u_Tm z m W) : ∃ i j : Int, 0 ≤ i ∧ i < z ∧ 0 ≤ j ∧ j < z ∧ W i j ≠ 0 := by
  rcases h with ⟨i, j, i0, i1, j0, j1, hh, -⟩ | ⟨h0, -⟩
  · exact ⟨i, j, i0, i1, j0, j1, hh⟩
  · exact ⟨0, 0, by omega, by omega, by omega, by omega, h0⟩
theorem u_Tm.nw {i j : Int} (i0 : 0 ≤ i) (i1 : i < z) (j0 : 0 ≤ j) (j1 : j < z) (h : W i j ≠ 0) : ∃ m : Nat, u_Tm z m W := ⟨(2 * u_ab (W i j) + 1).toNat, Or.inl ⟨i, j, i0, i1, j0, j1, h, by have := u_ab_n (W i j); omega⟩⟩
theorem u_Tm.le (hz : 1 ≤ z) (h : u_Tm z m W) (hf : u_fl W z 0 x y) : 2 * u_ab (W x y) ≤ m := by
  have := hf.2.2.2.2.2
  rcases h with ⟨i, j, i0, i1, j0, j1, hh, hm⟩ | ⟨h0, hm, -⟩
  · have := (this i j i0 i1 j0 j1 hh).1
    omega
  · have := (this 0 0 (by omega) (by omega) (by omega) (by omega) h0).1
    omega
theorem u_Tm.al (hz : 1 ≤ z) (h : u_Tm z m W) (hf : u_fl W z 0 x y) (ha : u_all (u_sw W 0 x y) z 0) : 2 * u_ab (W x y) + 1 ≤ m := by
  have hl := hf.2.2.2.2.2
  rcases h with ⟨i, j, i0, i1, j0, j1, hh, hm⟩ | ⟨h0, hm, h1, c, c0, c1, h2⟩
  · have := (hl i j i0 i1 j0 j1 hh).1
    omega
  · have hl0 := hl 0 0 (by omega) (by omega) (by omega) (by omega) h0
    by_cases e : u_ab (W x y) = u_ab (W 0 0)
    · exfalso
      have hxy : x = 0 ∧ y = 0 := by
        have hx := hf.1
        have hy := hf.2.2.1
        by_cases cx : x = 0
        · by_cases cy : y = 0
          · exact ⟨cx, cy⟩
          · have := hl0.2 (by omega)
            omega
        · have := hl0.2 (by omega)
          omega
      have ev : u_sw W 0 x y = W := by
        funext i j
        rw [u_sw_pm, hxy.1, hxy.2]
        have : ∀ i : Int, u_pm 0 0 i = i := fun i => by
          unfold u_pm
          split <;> omega
        rw [this, this]
      rw [ev] at ha
      have := (u_all_iff.1 ha).2 c c0 c1
      rw [u_c_0c (by omega)] at this
      exact h2 (u_rem0.1 this)
    · omega
theorem u_Tm.cl (hz : 1 ≤ z) (h : u_Tm z m W) (hf : u_fl W z 0 x y) (ha : ¬ u_all (u_sw W 0 x y) z 0) : (∃ m' : Nat, m' < m ∧ u_Tm z m' (u_c (u_sw W 0 x y) 0)) ∧ ∃ i j : Int, 0 ≤ i ∧ i < z ∧ 0 ≤ j ∧ j < z ∧ u_c (u_sw W 0 x y) 0 i j ≠ 0 ∧ u_ab (u_c (u_sw W 0 x y) 0 i j) < u_ab (W x y) ∧ (i = 0 ∨ j = 0) := by
  have hp : u_sw W 0 x y 0 0 ≠ 0 := by rw [u_sw_00]; exact hf.2.2.2.2.1
  have key : ∃ i j : Int, 0 ≤ i ∧ i < z ∧ 0 ≤ j ∧ j < z ∧ u_c (u_sw W 0 x y) 0 i j ≠ 0 ∧ u_ab (u_c (u_sw W 0 x y) 0 i j) < u_ab (W x y) ∧ (i = 0 ∨ j = 0) := by
    apply Classical.byContradiction
    intro hc
    refine ha (u_all_iff.2 ⟨fun r r0 r1 => ?_, fun r r0 r1 => ?_⟩)
    · apply Classical.byContradiction
      intro hh
      exact hc ⟨r, 0, by omega, r1, by omega, by omega, hh, by have := u_c_r0l (V := u_sw W 0 x y) (r := r) (by omega) hp; rw [u_sw_00] at this; exact this, Or.inr rfl⟩
    · apply Classical.byContradiction
      intro hh
      exact hc ⟨0, r, by omega, by omega, by omega, r1, hh, by have := u_c_0cl (V := u_sw W 0 x y) (c := r) (by omega) hp; rw [u_sw_00] at this; exact this, Or.inl rfl⟩
  refine ⟨?_, key⟩
  obtain ⟨i, j, i0, i1, j0, j1, h1, h2, -⟩ := key
  have := h.le hz hf
  have h3 := u_ab_n (u_c (u_sw W 0 x y) 0 i j)
  exact ⟨(2 * u_ab (u_c (u_sw W 0 x y) 0 i j) + 1).toNat, by omega, Or.inl ⟨i, j, i0, i1, j0, j1, h1, by omega⟩⟩
theorem u_add_0j {u j : Int} (hj : 0 ≤ j) : u_add Z 0 u 0 j = Z 0 j + Z u j := if_pos ⟨rfl, hj⟩
theorem u_add_ij {u i j : Int} (hi : i ≠ 0) : u_add Z 0 u i j = Z i j := if_neg (fun h => hi h.1)
theorem u_Tm.ad (hz : 1 ≤ z) (h : u_Tm z m W) (hf : u_fl W z 0 x y) (ha : u_all (u_sw W 0 x y) z 0) {u j : Int} (u0 : 0 < u) (u1 : u < z) (j0 : 0 < j) (j1 : j < z) (hnd : ¬ u_c (u_sw W 0 x y) 0 0 0 ∣ u_c (u_sw W 0 x y) 0 u j) : ∃ m' : Nat, m' < m ∧ u_Tm z m' (u_add (u_c (u_sw W 0 x y) 0) 0 u) := by
  have h1 := h.al hz hf ha
  have ha' := u_all_iff.1 ha
  have e0 : u_add (u_c (u_sw W 0 x y) 0) 0 u 0 0 = W x y := by rw [u_add_0j (by omega), ha'.1 u u0 u1, u_c_00, u_sw_00]; omega
  refine ⟨(2 * u_ab (W x y)).toNat, by have := u_ab_n (W x y); omega, Or.inr ⟨by rw [e0]; exact hf.2.2.2.2.1, by rw [e0]; have := u_ab_n (W x y); omega, fun r r0 r1 => by rw [u_add_ij (by omega)]; exact ha'.1 r r0 r1, j, j0, j1, ?_⟩⟩
  rw [e0, u_add_0j (by omega), ha'.2 j j0 j1, Int.zero_add]
  rw [u_c_00, u_sw_00] at hnd
  exact hnd
/-- inside, behind a clear -/
theorem u_in {p N : Int} {r c : Int} (hp : u_ab (Z 0 0) = p) (h1 : u_ab (Z r 0) ≤ p - 1) (h2 : u_ab (Z 0 c) ≤ p - 1) (hN : u_ab (m2 Z 0 r 0 c) ≤ N) : p * u_ab (Z r c) ≤ N + (p - 1) * (p - 1) := by
  have e : Z 0 0 * Z r c = m2 Z 0 r 0 c + Z 0 c * Z r 0 := by unfold m2; omega
  have h3 := ab_mul (Z 0 0) (Z r c)
  rw [e, hp] at h3
  have h4 := ab_add (m2 Z 0 r 0 c) (Z 0 c * Z r 0)
  rw [ab_mul] at h4
  have h5 : u_ab (Z 0 c) * u_ab (Z r 0) ≤ (p - 1) * (p - 1) := Int.mul_le_mul h2 h1 (u_ab_n _) (by have := u_ab_n (Z 0 c); omega)
  omega
theorem u_dvl {p t D : Int} (hp : 1 ≤ p) (h0 : 0 ≤ D) (h : p * t ≤ D + (p - 1) * (p - 1)) : t ≤ D + p := by
  apply Classical.byContradiction
  intro hc
  have h1 := Int.mul_le_mul_of_nonneg_left (show D + p + 1 ≤ t by omega) (show 0 ≤ p by omega)
  have h2 := Int.mul_le_mul_of_nonneg_right (show 1 ≤ p by omega) h0
  have e1 : p * (D + p + 1) = p * D + p * p + p := by rw [Int.mul_add, Int.mul_add, Int.mul_one]
  have e2 : (p - 1) * (p - 1) = p * p - 2 * p + 1 := by grind
  omega
end TT
def u_b2 (W : Int → Int → Int) : Prop := (∀ i j : Int, 0 ≤ i → i < 2 → 0 ≤ j → j < 2 → u_ab (W i j) ≤ 4800000000000000000) ∧ ∃ i j : Int, 0 ≤ i ∧ i < 2 ∧ 0 ≤ j ∧ j < 2 ∧ W i j ≠ 0 ∧ u_ab (W i j) ≤ 2400000000000000000
def u_bd (b3 b4 : (Int → Int → Int) → Prop) (z : Int) (W : Int → Int → Int) : Prop := if z = 1 then u_b (W 0 0) else if z = 2 then u_b2 W else if z = 3 then b3 W else if z = 4 then b4 W else True
def u_BB (b3 b4 : (Int → Int → Int) → Prop) (z : Int) (m : Nat) (W : Int → Int → Int) : Prop := (1 ≤ z → u_Tm z m W) ∧ u_bd b3 b4 z W
section R12
variable {b3 b4 : (Int → Int → Int) → Prop}
theorem u_R1 : u_R (u_BB b3 b4) 1 := by
  intro m W x y hB hf d1 d2 d3
  have hx : x = 0 := by have := hf.1; have := hf.2.1; omega
  have hy : y = 0 := by have := hf.2.2.1; have := hf.2.2.2.1; omega
  have hub : u_b (W 0 0) := hB.2
  refine ⟨fun na => absurd ⟨fun r r0 r1 => by omega, fun r r0 r1 => by omega⟩ na, fun al => ⟨fun i j i0 i1 j0 j1 => ?_, fun _ => ?_, fun u j u0 u1 => by omega⟩⟩
  · rw [show i = 0 by omega, show j = 0 by omega, u_c_00, u_sw_00, hx, hy]; exact hub
  · exact ⟨0, fun h => by omega, by show (if (0 : Int) = 1 then _ else if (0 : Int) = 2 then _ else if (0 : Int) = 3 then _ else if (0 : Int) = 4 then _ else True); simp⟩
theorem u_R2 : u_R (u_BB b3 b4) 2 := by
  intro m W x y hB hf d1 d2 d3
  obtain ⟨hT, hb⟩ := hB
  have hT := hT (by omega)
  obtain ⟨hb1, i0', j0', q1, q2, q3, q4, q5, q6⟩ : u_b2 W := hb
  have hne := hf.2.2.2.2.1
  have hp1 := ab_pos hne
  have hpp : u_ab (W x y) ≤ 2400000000000000000 := by
    have := (hf.2.2.2.2.2 i0' j0' q1 q2 q3 q4 q5).1
    omega
  obtain ⟨V, eV⟩ : ∃ V, V = u_sw W 0 x y := ⟨_, rfl⟩
  have hV0 : V 0 0 = W x y := by rw [eV, u_sw_00]
  obtain ⟨Z, eZ⟩ : ∃ Z, Z = u_c V 0 := ⟨_, rfl⟩
  have z00 : Z 0 0 = W x y := by rw [eZ, u_c_00, hV0]
  have z10 : u_ab (Z 1 0) ≤ u_ab (W x y) - 1 := by have := u_c_r0l (V := V) (r := 1) (by omega) (by rw [hV0]; exact hne); rw [← eZ, hV0] at this; omega
  have z01 : u_ab (Z 0 1) ≤ u_ab (W x y) - 1 := by have := u_c_0cl (V := V) (c := 1) (by omega) (by rw [hV0]; exact hne); rw [← eZ, hV0] at this; omega
  have hT1 := hT.cl (x := x) (y := y) (by omega) hf
  have hT2 := fun ha u j u0 u1 j0 j1 h => hT.ad (x := x) (y := y) (u := u) (j := j) (by omega) hf ha u0 u1 j0 j1 h
  have hall := u_all_iff (U := V) (s := 2) (k := 0)
  rw [← eZ] at hall
  rw [← eV] at d3 hT1 hT2 ⊢
  rw [← eZ] at d3 hT1 hT2 ⊢
  have hD : u_ab (m2 Z 0 1 0 1) ≤ 31833 := d3.2
  have z11 : u_ab (Z 1 1) ≤ 31833 + u_ab (W x y) := u_dvl hp1 (by omega) (u_in (by rw [z00]) z10 z01 hD)
  have hent : ∀ i j : Int, 0 ≤ i → i < 2 → 0 ≤ j → j < 2 → u_ab (Z i j) ≤ 31833 + u_ab (W x y) := fun i j i0 i1 j0 j1 => by
    have hi : i = 0 ∨ i = 1 := by omega
    have hj : j = 0 ∨ j = 1 := by omega
    rcases hi with rfl | rfl <;> rcases hj with rfl | rfl
    · rw [z00]; omega
    · omega
    · omega
    · exact z11
  refine ⟨fun na => ?_, fun al => ⟨fun i j i0 i1 j0 j1 => ab_b (by have := hent i j i0 i1 j0 j1; omega), fun _ => ?_, fun u j u0 u1 j0 j1 hnd => ?_⟩⟩
  · obtain ⟨⟨m', g1, g2⟩, i, j, i0, i1, j0, j1, g3, g4, -⟩ := hT1 na
    exact ⟨m', g1, fun _ => g2, fun i j i0 i1 j0 j1 => by have := hent i j i0 i1 j0 j1; omega, i, j, i0, i1, j0, j1, g3, by omega⟩
  · have al' := hall.1 al
    have hn1 : Z 1 1 ≠ 0 := fun e => d3.1 (by show Z 0 0 * Z 1 1 - Z 0 1 * Z 1 0 = 0; rw [e, al'.2 1 (by omega) (by omega)]; omega)
    obtain ⟨m', g⟩ := u_Tm.nw (z := 1) (W := u_sh Z 1) (i := 0) (j := 0) (by omega) (by omega) (by omega) (by omega) hn1
    exact ⟨m', fun _ => g, ab_b (by show u_ab (Z 1 1) ≤ _; omega)⟩
  · obtain ⟨m', g1, g2⟩ := hT2 al u j u0 u1 j0 j1 hnd
    have eu : u = 1 := by omega
    subst eu
    have al' := hall.1 al
    have e0 : u_add Z 0 1 0 0 = W x y := by rw [u_add_0j (by omega), al'.1 1 (by omega) (by omega), z00]; omega
    refine ⟨m', g1, fun _ => g2, fun i j i0 i1 j0 j1 => ?_, 0, 0, by omega, by omega, by omega, by omega, by rw [e0]; exact hne, by rw [e0]; exact hpp⟩
    by_cases ci : i = 0
    · rw [ci, u_add_0j j0]
      have := hent 0 j (by omega) (by omega) j0 j1
      have := hent 1 j (by omega) (by omega) j0 j1
      by_cases cj : j = 0
      · rw [cj, al'.1 1 (by omega) (by omega), z00, Int.add_zero]; omega
      · rw [show j = 1 by omega, al'.2 1 (by omega) (by omega), Int.zero_add]; omega
    · rw [u_add_ij ci]
      have := hent i j i0 i1 j0 j1
      omega
end R12
