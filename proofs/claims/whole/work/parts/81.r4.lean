/-! rounds over four rows -/
def u_nm (E P : Int) : Prop := 0 ≤ E ∧ E ≤ 5900000 ∧ 0 ≤ P ∧ P ≤ 1000 ∧ (2 * (E * E) + 1343945) * (2 * (P * P) * (2 * (P * P))) ≤ 9503112000000000000
def u_g3 (E P : Int) (R : Int → Int → Int) : Prop := (∀ i j : Int, 0 ≤ i → i < 3 → 0 ≤ j → j < 3 → u_ab (R i j) ≤ E) ∧ ∃ i j : Int, 0 ≤ i ∧ i < 3 ∧ 0 ≤ j ∧ j < 3 ∧ R i j ≠ 0 ∧ u_ab (R i j) ≤ P
theorem ab_m2 {X : Int → Int → Int} {a b c e E : Int} (hE : 0 ≤ E) (h1 : u_ab (X a c) ≤ E) (h2 : u_ab (X b e) ≤ E) (h3 : u_ab (X a e) ≤ E) (h4 : u_ab (X b c) ≤ E) : u_ab (m2 X a b c e) ≤ 2 * (E * E) := by
  unfold m2
  have q1 := ab_sub (X a c * X b e) (X a e * X b c)
  have q2 := Int.mul_le_mul h1 h2 (u_ab_n _) hE
  have q3 := Int.mul_le_mul h3 h4 (u_ab_n _) hE
  rw [ab_mul, ab_mul] at q1
  omega
theorem u_g3.b3 {E P : Int} {R : Int → Int → Int} (h : u_g3 E P R) (hn : u_nm E P) : u_b3 R := by
  obtain ⟨h1, i, j, i0, i1, j0, j1, h2, h3⟩ := h
  obtain ⟨n1, n2, n3, n4, n5⟩ := hn
  refine ⟨fun a b a0 a1 b0 b1 => by have := h1 a b a0 a1 b0 b1; omega, fun x y hf => ?_⟩
  obtain ⟨fx0, fx1, fy0, fy1, fne, fl⟩ := id hf
  have hp := (fl i j i0 i1 j0 j1 h2).1
  have p0 := u_ab_n (R x y)
  have PP : P * P ≤ 1000 * 1000 := Int.mul_le_mul n4 n4 n3 (by omega)
  have EE := Int.mul_nonneg n1 n1
  have pp : u_ab (R x y) * u_ab (R x y) ≤ P * P := Int.mul_le_mul (by omega) (by omega) p0 n3
  refine ⟨by omega, 2 * (E * E), 2 * (P * P), by omega, by omega, n5, fun r c r0 r1 c0 c1 => ?_, Or.inl (by omega)⟩
  rw [m2_sw]
  have e : ∀ a b : Int, u_i 3 a → u_i 3 b → u_ab (R a b) ≤ E := fun a b ha hb => h1 a b ha.1 ha.2 hb.1 hb.2
  have ia := fun r (h0 : u_i 3 r) => u_pm_i (s := 3) (x := x) (i := r) ⟨fx0, fx1⟩ h0
  have ib := fun r (h0 : u_i 3 r) => u_pm_i (s := 3) (x := y) (i := r) ⟨fy0, fy1⟩ h0
  have z : u_i 3 0 := ⟨by omega, by omega⟩
  have hr : u_i 3 r := ⟨by omega, by omega⟩
  have hc : u_i 3 c := ⟨by omega, by omega⟩
  exact ab_m2 n1 (e _ _ (ia _ z) (ib _ z)) (e _ _ (ia _ hr) (ib _ hc)) (e _ _ (ia _ z) (ib _ hc)) (e _ _ (ia _ hr) (ib _ z))
def u_s0 (W : Int → Int → Int) : Prop := (∀ i j : Int, u_i 4 i → u_i 4 j → i ≠ j → -3 ≤ W i j ∧ W i j ≤ 0) ∧ (∀ i : Int, u_i 4 i → 1 ≤ W i i ∧ W i i ≤ 12) ∧ ∃ i j : Int, u_i 4 i ∧ u_i 4 j ∧ W i j ≠ 0 ∧ u_ab (W i j) ≤ 3
def u_n (r : Int) : Prop := 1 ≤ r ∧ r < 4
def u_k3 (W : Int → Int → Int) : Prop := u_ab (W 0 0) = 3 ∧ (∀ r : Int, u_n r → u_ab (W r 0) ≤ 2 ∧ u_ab (W 0 r) ≤ 2) ∧ (∀ r c : Int, u_n r → u_n c → u_ab (W r c) ≤ 68) ∧ (∃ i j : Int, u_i 4 i ∧ u_i 4 j ∧ W i j ≠ 0 ∧ u_ab (W i j) < 3) ∧ ((∀ c : Int, u_n c → W 0 c = 0) → ∀ r c : Int, u_n r → u_n c → W r 0 = 0 → W r c ≠ 0 → 3 ≤ u_ab (W r c))
def u_a3 (W : Int → Int → Int) : Prop := u_ab (W 0 0) = 3 ∧ (∀ r : Int, u_n r → W r 0 = 0) ∧ (∀ i j : Int, u_i 4 i → u_i 4 j → u_ab (W i j) ≤ 68) ∧ (∃ c : Int, u_n c ∧ ¬ W 0 0 ∣ W 0 c) ∧ ((∀ i j : Int, u_i 4 i → u_i 4 j → u_ab (W i j) ≤ 12) ∨ ∀ i j : Int, u_i 4 i → u_i 4 j → W i j ≠ 0 → 3 ≤ u_ab (W i j))
def u_k2 (W : Int → Int → Int) : Prop := u_ab (W 0 0) = 2 ∧ (∀ r : Int, u_n r → u_ab (W r 0) ≤ 1 ∧ u_ab (W 0 r) ≤ 1) ∧ (∀ r c : Int, u_n r → u_n c → u_ab (W r c) ≤ 171) ∧ ∃ i j : Int, u_i 4 i ∧ u_i 4 j ∧ W i j ≠ 0 ∧ u_ab (W i j) < 2
def u_a2 (W : Int → Int → Int) : Prop := u_ab (W 0 0) = 2 ∧ (∀ r : Int, u_n r → W r 0 = 0) ∧ (∃ u : Int, u_n u ∧ ∀ c : Int, u_n c → W 0 c = W u c) ∧ (∀ i j : Int, u_i 4 i → u_i 4 j → u_ab (W i j) ≤ 171) ∧ ∃ c : Int, u_n c ∧ ¬ W 0 0 ∣ W 0 c
def u_b4 (W : Int → Int → Int) : Prop := u_s0 W ∨ u_k3 W ∨ u_a3 W ∨ u_k2 W ∨ u_a2 W
def u_o4 (V : Int → Int → Int) : Prop := (¬ u_all V 4 0 → u_b4 (u_c V 0)) ∧ (u_all V 4 0 → (∀ i j : Int, u_i 4 i → u_i 4 j → u_ab (u_c V 0 i j) ≤ 9000000) ∧ ((∀ i j : Int, u_n i → u_n j → u_c V 0 0 0 ∣ u_c V 0 i j) → u_b3 (u_sh (u_c V 0) 1)) ∧ ∀ u j : Int, u_n u → u_n j → ¬ u_c V 0 0 0 ∣ u_c V 0 u j → u_b4 (u_add (u_c V 0) 0 u))
theorem u_n.i {r : Int} (h : u_n r) : u_i 4 r := ⟨by have := h.1; omega, h.2⟩
theorem u_i.n {r : Int} (h : u_i 4 r) : r = 0 ∨ u_n r := by
  by_cases c : r = 0
  · exact Or.inl c
  · exact Or.inr ⟨by have := h.1; omega, h.2⟩
theorem u_i0 : u_i 4 0 := ⟨by omega, by omega⟩
section R4
variable {V W Z : Int → Int → Int} {x y : Int}
theorem u_c_in {r c : Int} (hr : 1 ≤ r) (hc : 1 ≤ c) : u_c V 0 r c = V r c - (V r 0).tdiv (V 0 0) * V 0 c - (V 0 c).tdiv (V 0 0) * u_c V 0 r 0 := by
  unfold u_c
  rw [if_pos (by omega), if_pos (by omega), u_z_k]
  unfold u_z u_f
  rw [if_neg (by omega)]
  have : u_y V 0 r c = V r c - (V r 0).tdiv (V 0 0) * V 0 c := by
    unfold u_y u_e
    rw [if_neg (by omega)]
  rw [this]
theorem ab_td (a b : Int) : u_ab (a.tdiv b) * u_ab b ≤ u_ab a := by
  rw [u_ab_e, u_ab_e, u_ab_e, Int.natAbs_tdiv, ← Int.natCast_mul]
  exact Int.ofNat_le.2 (Nat.div_mul_le_self a.natAbs b.natAbs)
theorem u_c_bd {r c a t b s e : Int} (hr : 1 ≤ r) (hc : 1 ≤ c) (h1 : u_ab (V r c) ≤ a) (h2 : u_ab ((V r 0).tdiv (V 0 0)) ≤ t) (h3 : u_ab (V 0 c) ≤ b) (h4 : u_ab ((V 0 c).tdiv (V 0 0)) ≤ s) (h5 : u_ab (u_c V 0 r 0) ≤ e) : u_ab (u_c V 0 r c) ≤ a + t * b + s * e := by
  rw [u_c_in hr hc]
  have q1 := ab_sub (V r c - (V r 0).tdiv (V 0 0) * V 0 c) ((V 0 c).tdiv (V 0 0) * u_c V 0 r 0)
  have q2 := ab_sub (V r c) ((V r 0).tdiv (V 0 0) * V 0 c)
  rw [ab_mul] at q1 q2
  have t0 := u_ab_n ((V r 0).tdiv (V 0 0))
  have s0 := u_ab_n ((V 0 c).tdiv (V 0 0))
  have q3 := Int.mul_le_mul h2 h3 (u_ab_n _) (by omega)
  have q4 := Int.mul_le_mul h4 h5 (u_ab_n _) (by omega)
  omega
theorem u_pm0 (i : Int) : u_pm 0 0 i = i := by
  unfold u_pm
  split <;> omega
theorem u_sw0 : u_sw W 0 0 0 = W := by
  funext i j
  rw [u_sw_pm, u_pm0, u_pm0]
theorem u_pmx (x : Int) : u_pm 0 x x = 0 := by
  unfold u_pm
  by_cases c : x = 0
  · rw [if_pos c, c]
  · rw [if_neg c, if_pos rfl]
theorem u_pmz (x : Int) : u_pm 0 x 0 = x := if_pos rfl
theorem u_pm_ne {x r : Int} (hr : 1 ≤ r) : u_pm 0 x r ≠ x := by
  intro h
  have := u_pm_pm (a := 0) (b := x) (i := r)
  rw [h, u_pmx] at this
  omega
/-- something small is left -/
theorem u_na (h0 : V 0 0 ≠ 0) (na : ¬ u_all V 4 0) : ∃ i j : Int, u_i 4 i ∧ u_i 4 j ∧ u_c V 0 i j ≠ 0 ∧ u_ab (u_c V 0 i j) < u_ab (V 0 0) := by
  apply Classical.byContradiction
  intro hc
  refine na (u_all_iff.2 ⟨fun r r0 r1 => ?_, fun r r0 r1 => ?_⟩)
  · exact Classical.byContradiction fun hh => hc ⟨r, 0, ⟨by omega, r1⟩, u_i0, hh, u_c_r0l (by omega) h0⟩
  · exact Classical.byContradiction fun hh => hc ⟨0, r, u_i0, ⟨by omega, r1⟩, hh, u_c_0cl (by omega) h0⟩
/-- no row of the rest is 0 -/
theorem u_nz (ha : u_all V 4 0) (d3 : u_dd 4 (u_c V 0)) (r : Int) (hr : u_n r) : ∃ c : Int, u_n c ∧ u_c V 0 r c ≠ 0 := by
  apply Classical.byContradiction
  intro hc
  have hz : ∀ c : Int, u_n c → u_c V 0 r c = 0 := fun c h => Classical.byContradiction fun hh => hc ⟨c, h, hh⟩
  have al := u_all_iff.1 ha
  have d4 := u_dd_st (X := u_c V 0) (z := 4) ⟨by omega, by omega⟩ (fun i i0 i1 => ⟨al.1 i (by omega) i1, al.2 i (by omega) i1⟩) d3
  refine d4.1 ?_
  obtain ⟨R, eR⟩ : ∃ R, R = u_sh (u_c V 0) 1 := ⟨_, rfl⟩
  have hR : ∀ c : Int, 0 ≤ c → c < 3 → R (r - 1) c = 0 := fun c c0 c1 => by
    rw [eR]
    show u_c V 0 (1 + (r - 1)) (1 + c) = 0
    rw [show 1 + (r - 1) = r by omega]
    exact hz _ ⟨by omega, by omega⟩
  rw [← eR]
  show m3 R 0 1 2 0 1 2 = 0
  have z0 := hR 0 (by omega) (by omega)
  have z1 := hR 1 (by omega) (by omega)
  have z2 := hR 2 (by omega) (by omega)
  have := hr.1; have := hr.2
  have hh : r - 1 = 0 ∨ r - 1 = 1 ∨ r - 1 = 2 := by omega
  unfold m3 m2
  rcases hh with h | h | h <;> rw [h] at z0 z1 z2 <;> rw [z0, z1, z2] <;> simp
/-- a pivot of 1 -/
theorem u_o4_1 (hq : u_ab (V 0 0) = 1) {E P : Int} (hn : u_nm E P) (hE : ∀ r c : Int, u_n r → u_n c → u_ab (V r c) + u_ab (V r 0) * u_ab (V 0 c) ≤ E) (hP : u_all V 4 0 → ∃ r c : Int, u_n r ∧ u_n c ∧ u_c V 0 r c ≠ 0 ∧ u_ab (u_c V 0 r c) ≤ P) : u_o4 V := by
  have h0 : V 0 0 ≠ 0 := fun e => by rw [e] at hq; exact absurd hq (by decide)
  have n0 : ∀ x : Int, u_ab x < 1 → x = 0 := fun x h => u_ab_0.1 (by have := u_ab_n x; omega)
  have al : u_all V 4 0 := u_all_iff.2 ⟨fun r r0 r1 => n0 _ (by have := u_c_r0l (V := V) (r := r) (by omega) h0; omega), fun r r0 r1 => n0 _ (by have := u_c_0cl (V := V) (c := r) (by omega) h0; omega)⟩
  have al' := u_all_iff.1 al
  have dv : ∀ x : Int, V 0 0 ∣ x := fun x => by
    have : V 0 0 = 1 ∨ V 0 0 = -1 := by rw [u_ab_e] at hq; omega
    rcases this with e | e
    · rw [e]; exact Int.one_dvd _
    · rw [e]; exact ⟨-x, by omega⟩
  have hb : ∀ r c : Int, u_n r → u_n c → u_ab (u_c V 0 r c) ≤ E := fun r c hr hc => by
    have t1 := ab_td (V r 0) (V 0 0)
    have t2 := ab_td (V 0 c) (V 0 0)
    rw [hq, Int.mul_one] at t1 t2
    have := u_c_bd (V := V) hr.1 hc.1 (Int.le_refl _) t1 (Int.le_refl _) t2 (show u_ab (u_c V 0 r 0) ≤ 0 by rw [al'.1 r (by have := hr.1; omega) hr.2]; decide)
    rw [Int.mul_zero, Int.add_zero] at this
    exact Int.le_trans this (hE r c hr hc)
  have hn' := hn
  obtain ⟨n1, n2, -⟩ := hn'
  refine ⟨fun na => absurd al na, fun _ => ⟨fun i j hi hj => ?_, fun _ => ?_, fun u j hu hj hnd => absurd (by rw [u_c_00]; exact dv _) hnd⟩⟩
  · rcases hi.n with rfl | hi
    · rcases hj.n with rfl | hj
      · rw [u_c_00, hq]; omega
      · rw [al'.2 j (by have := hj.1; omega) hj.2]; decide
    · rcases hj.n with rfl | hj
      · rw [al'.1 i (by have := hi.1; omega) hi.2]; decide
      · have := hb i j hi hj; omega
  · obtain ⟨r, c, hr, hc, g1, g2⟩ := hP al
    have := hr.1; have := hr.2; have := hc.1; have := hc.2
    refine u_g3.b3 (E := E) (P := P) ⟨fun i j i0 i1 j0 j1 => hb (1 + i) (1 + j) ⟨by omega, by omega⟩ ⟨by omega, by omega⟩, r - 1, c - 1, by omega, by omega, by omega, by omega, ?_⟩ hn
    show u_c V 0 (1 + (r - 1)) (1 + (c - 1)) ≠ 0 ∧ u_ab (u_c V 0 (1 + (r - 1)) (1 + (c - 1))) ≤ P
    rw [show 1 + (r - 1) = r by omega, show 1 + (c - 1) = c by omega]
    exact ⟨g1, g2⟩
/-- the same, all of them small -/
theorem u_o4_1s (hq : u_ab (V 0 0) = 1) (d3 : u_dd 4 (u_c V 0)) (hE : ∀ r c : Int, u_n r → u_n c → u_ab (V r c) + u_ab (V r 0) * u_ab (V 0 c) ≤ 513) : u_o4 V := by
  refine u_o4_1 hq (E := 513) (P := 513) (by unfold u_nm; omega) hE (fun al => ?_)
  obtain ⟨c, hc, g⟩ := u_nz al d3 1 ⟨by omega, by omega⟩
  refine ⟨1, c, ⟨by omega, by omega⟩, hc, g, ?_⟩
  have t1 := ab_td (V 1 0) (V 0 0)
  have t2 := ab_td (V 0 c) (V 0 0)
  rw [hq, Int.mul_one] at t1 t2
  have := u_c_bd (V := V) (r := 1) (by omega) hc.1 (Int.le_refl _) t1 (Int.le_refl _) t2 (show u_ab (u_c V 0 1 0) ≤ 0 by rw [(u_all_iff.1 al).1 1 (by omega) (by omega)]; decide)
  rw [Int.mul_zero, Int.add_zero] at this
  exact Int.le_trans this (hE 1 c ⟨by omega, by omega⟩ hc)
/-- the rest, even -/
theorem u_ev {E : Int} (hn : u_nm E E) (d3 : u_dd 4 (u_c V 0)) (hin : ∀ r c : Int, u_n r → u_n c → u_ab (u_c V 0 r c) ≤ E) (al : u_all V 4 0) : u_b3 (u_sh (u_c V 0) 1) := by
  obtain ⟨c, hc, g⟩ := u_nz al d3 1 ⟨by omega, by omega⟩
  have := hc.1; have := hc.2
  refine u_g3.b3 (E := E) (P := E) ⟨fun i j i0 i1 j0 j1 => hin (1 + i) (1 + j) ⟨by omega, by omega⟩ ⟨by omega, by omega⟩, 0, c - 1, by omega, by omega, by omega, by omega, ?_⟩ hn
  show u_c V 0 (1 + 0) (1 + (c - 1)) ≠ 0 ∧ u_ab (u_c V 0 (1 + 0) (1 + (c - 1))) ≤ E
  rw [show (1 : Int) + 0 = 1 by omega, show 1 + (c - 1) = c by omega]
  exact ⟨g, hin 1 c ⟨by omega, by omega⟩ hc⟩
/-- a pivot of 2 -/
theorem u_o4_2 (hq : u_ab (V 0 0) = 2) (d3 : u_dd 4 (u_c V 0)) (hin : ∀ r c : Int, u_n r → u_n c → u_ab (u_c V 0 r c) ≤ 171) : u_o4 V := by
  have h0 : V 0 0 ≠ 0 := fun e => by rw [e] at hq; exact absurd hq (by decide)
  have hr0 : ∀ r : Int, u_n r → u_ab (u_c V 0 r 0) ≤ 1 ∧ u_ab (u_c V 0 0 r) ≤ 1 := fun r hr => by
    have a := u_c_r0l (V := V) (r := r) hr.1 h0
    have b := u_c_0cl (V := V) (c := r) hr.1 h0
    omega
  refine ⟨fun na => Or.inr (Or.inr (Or.inr (Or.inl ⟨by rw [u_c_00, hq], hr0, hin, ?_⟩))), fun al => ⟨fun i j hi hj => ?_, fun _ => u_ev (E := 171) (by unfold u_nm; omega) d3 hin al, fun u j hu hj hnd => Or.inr (Or.inr (Or.inr (Or.inr ?_)))⟩⟩
  · have := u_na h0 na
    rw [hq] at this
    exact this
  · rcases hi.n with rfl | hi
    · rcases hj.n with rfl | hj
      · rw [u_c_00, hq]; omega
      · have := (hr0 j hj).2; omega
    · rcases hj.n with rfl | hj
      · have := (hr0 i hi).1; omega
      · have := hin i j hi hj; omega
  · have al' := u_all_iff.1 al
    have zr : ∀ r : Int, u_n r → u_c V 0 r 0 = 0 := fun r hr => al'.1 r (by have := hr.1; omega) hr.2
    have zc : ∀ r : Int, u_n r → u_c V 0 0 r = 0 := fun r hr => al'.2 r (by have := hr.1; omega) hr.2
    have e0 : u_add (u_c V 0) 0 u 0 0 = V 0 0 := by rw [u_add_0j (by omega), zr u hu, u_c_00, Int.add_zero]
    have ec : ∀ c : Int, u_n c → u_add (u_c V 0) 0 u 0 c = u_c V 0 u c := fun c hc => by rw [u_add_0j (by have := hc.1; omega), zc c hc, Int.zero_add]
    have er : ∀ r c : Int, u_n r → u_add (u_c V 0) 0 u r c = u_c V 0 r c := fun r c hr => u_add_ij (by have := hr.1; omega)
    refine ⟨by rw [e0, hq], fun r hr => by rw [er r 0 hr, zr r hr], ⟨u, hu, fun c hc => by rw [ec c hc, er u c hu]⟩, fun i j hi hj => ?_, j, hj, by rw [e0, ec j hj]; rw [u_c_00] at hnd; exact hnd⟩
    rcases hi.n with rfl | hi
    · rcases hj.n with rfl | hj
      · rw [e0, hq]; omega
      · rw [ec j hj]; exact hin u j hu hj
    · rw [er i j hi]
      rcases hj.n with rfl | hj
      · rw [zr i hi]; decide
      · exact hin i j hi hj
theorem u_2td {V : Int → Int → Int} {a t : Int} (hq : u_ab (V 0 0) = 2) (h : u_ab a ≤ 2 * t + 1) : u_ab (a.tdiv (V 0 0)) ≤ t := by
  have := ab_td a (V 0 0)
  rw [hq] at this
  omega
/-- all 12 at most, a pivot of 1 or 2 -/
theorem u_o4_12 (hb : ∀ i j : Int, u_i 4 i → u_i 4 j → u_ab (V i j) ≤ 12) (h0 : V 0 0 ≠ 0) (hq : u_ab (V 0 0) ≤ 2) (d3 : u_dd 4 (u_c V 0)) : u_o4 V := by
  have hp := ab_pos h0
  by_cases c1 : u_ab (V 0 0) = 1
  · refine u_o4_1s c1 d3 (fun r c hr hc => ?_)
    have a := hb r c hr.i hc.i
    have b := Int.mul_le_mul (hb r 0 hr.i u_i0) (hb 0 c u_i0 hc.i) (u_ab_n _) (by omega)
    omega
  · have c2 : u_ab (V 0 0) = 2 := by omega
    refine u_o4_2 c2 d3 (fun r c hr hc => ?_)
    have := u_c_bd (V := V) hr.1 hc.1 (hb r c hr.i hc.i) (u_2td (t := 6) c2 (by have := hb r 0 hr.i u_i0; omega)) (hb 0 c u_i0 hc.i) (u_2td (t := 6) c2 (by have := hb 0 c u_i0 hc.i; omega)) (show u_ab (u_c V 0 r 0) ≤ 1 by have := u_c_r0l (V := V) (r := r) hr.1 h0; omega)
    omega
theorem u_sw_b {E : Int} (hx : u_i 4 x) (hy : u_i 4 y) (hb : ∀ i j : Int, u_i 4 i → u_i 4 j → u_ab (W i j) ≤ E) : ∀ i j : Int, u_i 4 i → u_i 4 j → u_ab (u_sw W 0 x y i j) ≤ E := fun i j hi hj => by
  rw [u_sw_pm]
  exact hb _ _ (u_pm_i hx hi) (u_pm_i hy hj)
theorem u_3d {x : Int} (h : (3 : Int) ∣ x) (h0 : x ≠ 0) : 3 ≤ u_ab x := by
  obtain ⟨k, rfl⟩ := h
  rw [u_ab_e]
  omega
/-- the first table with a pivot of 3 -/
theorem u_o4_3 (hs : u_s0 W) (hf : u_fl W 4 0 x y) (hq : u_ab (W x y) = 3) (d3 : u_dd 4 (u_c (u_sw W 0 x y) 0)) : u_o4 (u_sw W 0 x y) := by
  obtain ⟨s1, s2, -⟩ := hs
  obtain ⟨fx0, fx1, fy0, fy1, fne, fl⟩ := id hf
  have hx : u_i 4 x := ⟨fx0, fx1⟩
  have hy : u_i 4 y := ⟨fy0, fy1⟩
  have off : ∀ i j : Int, u_i 4 i → u_i 4 j → i ≠ j → W i j = 0 ∨ W i j = -3 := fun i j hi hj hij => by
    by_cases c : W i j = 0
    · exact Or.inl c
    · have a := (fl i j hi.1 hi.2 hj.1 hj.2 c).1
      have b := s1 i j hi hj hij
      rw [hq, u_ab_e] at a
      exact Or.inr (by omega)
  have dia : ∀ i : Int, u_i 4 i → 3 ≤ W i i ∧ W i i ≤ 12 := fun i hi => by
    have b := s2 i hi
    have a := (fl i i hi.1 hi.2 hi.1 hi.2 (by omega)).1
    rw [hq, u_ab_e] at a
    omega
  have hb : ∀ i j : Int, u_i 4 i → u_i 4 j → u_ab (W i j) ≤ 12 := fun i j hi hj => by
    by_cases c : i = j
    · subst c
      have := dia i hi
      rw [u_ab_e]; omega
    · rw [u_ab_e]
      rcases off i j hi hj c with e | e <;> rw [e] <;> decide
  obtain ⟨V, eV⟩ : ∃ V, V = u_sw W 0 x y := ⟨_, rfl⟩
  have vpm : ∀ i j : Int, V i j = W (u_pm 0 x i) (u_pm 0 y j) := fun i j => by rw [eV, u_sw_pm]
  have v00 : V 0 0 = W x y := by rw [eV, u_sw_00]
  have hbV : ∀ i j : Int, u_i 4 i → u_i 4 j → u_ab (V i j) ≤ 12 := by rw [eV]; exact u_sw_b hx hy hb
  rw [← eV] at d3 ⊢
  have hq' : u_ab (V 0 0) = 3 := by rw [v00]; exact hq
  have h0 : V 0 0 ≠ 0 := by rw [v00]; exact fne
  have td3 : ∀ a : Int, u_ab a ≤ 12 → u_ab (a.tdiv (V 0 0)) ≤ 4 := fun a ha => by
    have := ab_td a (V 0 0)
    rw [hq'] at this
    omega
  have hr0 : ∀ r : Int, u_n r → u_ab (u_c V 0 r 0) ≤ 2 ∧ u_ab (u_c V 0 0 r) ≤ 2 := fun r hr => by
    have a := u_c_r0l (V := V) (r := r) hr.1 h0
    have b := u_c_0cl (V := V) (c := r) hr.1 h0
    omega
  have hin : ∀ r c : Int, u_n r → u_n c → u_ab (u_c V 0 r c) ≤ 68 := fun r c hr hc => by
    have := u_c_bd (V := V) hr.1 hc.1 (hbV r c hr.i hc.i) (td3 _ (hbV r 0 hr.i u_i0)) (hbV 0 c u_i0 hc.i) (td3 _ (hbV 0 c u_i0 hc.i)) (hr0 r hr).1
    omega
  have d3V : (3 : Int) ∣ V 0 0 ∧ V 0 0 ∣ 3 := by
    rw [u_ab_e] at hq'
    have : V 0 0 = 3 ∨ V 0 0 = -3 := by omega
    rcases this with e | e <;> rw [e] <;> decide
  -- x and y differ
  have X : x ≠ y → (∀ c : Int, u_n c → u_c V 0 0 c = 0) → ∀ r c : Int, u_n r → u_n c → u_c V 0 r 0 = 0 → u_c V 0 r c ≠ 0 → 3 ≤ u_ab (u_c V 0 r c) := by
    intro hxy hz r c hr hc hr0 hne
    have e1 := u_c_in (V := V) hr.1 hc.1
    rw [hr0, Int.mul_zero, Int.sub_zero] at e1
    have dc : (3 : Int) ∣ V 0 c := by
      have := hz c hc
      rw [u_c_0c hc.1] at this
      exact Int.dvd_trans d3V.1 (u_rem0.1 this)
    have ii := u_pm_i hx hr.i
    have ij := u_pm_i hy hc.i
    have nx := u_pm_ne (x := x) hr.1
    have ny := u_pm_ne (x := y) hc.1
    by_cases cij : u_pm 0 x r = u_pm 0 y c
    · -- on the diagonal
      obtain ⟨i, ei⟩ : ∃ i, i = u_pm 0 x r := ⟨_, rfl⟩
      rw [← cij, ← ei] at ny
      rw [← ei] at nx ii
      have q1 : V r c = W i i := by rw [vpm, ← cij, ← ei]
      have q2 : V r 0 = W i y := by rw [vpm, u_pmz, ← ei]
      have q3 : V 0 c = W x i := by rw [vpm, u_pmz, ← cij, ← ei]
      have q4 : V 0 0 = -3 := by
        rw [v00] at h0 ⊢
        rcases off x y hx hy hxy with e | e
        · exact absurd e h0
        · exact e
      have q5 := dia i ii
      rw [q1, q2, q3, q4] at e1
      rcases off i y ii hy ny with e | e <;> rcases off x i hx ii (fun h => nx h.symm) with e' | e' <;> rw [e, e'] at e1
      · rw [show (0 : Int).tdiv (-3) = 0 by decide] at e1
        rw [e1, u_ab_e]; omega
      · rw [show (0 : Int).tdiv (-3) = 0 by decide] at e1
        rw [e1, u_ab_e]; omega
      · rw [show (-3 : Int).tdiv (-3) = 1 by decide] at e1
        rw [e1, u_ab_e]; omega
      · rw [show (-3 : Int).tdiv (-3) = 1 by decide] at e1
        rw [e1, u_ab_e]; omega
    · refine u_3d ?_ hne
      rw [e1]
      refine Int.dvd_sub ?_ (Int.dvd_mul_of_dvd_right dc)
      rw [vpm]
      rcases off _ _ ii ij cij with e | e <;> rw [e] <;> decide
  -- x and y are the same
  have D : x = y → u_all V 4 0 ∧ ∀ r c : Int, u_n r → u_n c → u_ab (u_c V 0 r c) ≤ 12 := by
    intro hxy
    subst hxy
    have q4 : V 0 0 = 3 := by
      have := dia x hx
      rw [v00, u_ab_e] at hq'
      rw [v00]
      omega
    have qr : ∀ r : Int, u_n r → V r 0 = 0 ∨ V r 0 = -3 := fun r hr => by
      rw [vpm, u_pmz]
      exact off _ _ (u_pm_i hx hr.i) hx (u_pm_ne hr.1)
    have qc : ∀ r : Int, u_n r → V 0 r = 0 ∨ V 0 r = -3 := fun r hr => by
      rw [vpm, u_pmz]
      exact off _ _ hx (u_pm_i hx hr.i) (fun h => u_pm_ne hr.1 h.symm)
    have zr : ∀ r : Int, u_n r → u_c V 0 r 0 = 0 := fun r hr => by
      rw [u_c_r0 hr.1, q4]
      rcases qr r hr with e | e <;> rw [e] <;> decide
    have zc : ∀ r : Int, u_n r → u_c V 0 0 r = 0 := fun r hr => by
      rw [u_c_0c hr.1, q4]
      rcases qc r hr with e | e <;> rw [e] <;> decide
    refine ⟨u_all_iff.2 ⟨fun r r0 r1 => zr r ⟨by omega, r1⟩, fun r r0 r1 => zc r ⟨by omega, r1⟩⟩, fun r c hr hc => ?_⟩
    have e1 := u_c_in (V := V) hr.1 hc.1
    rw [zr r hr, Int.mul_zero, Int.sub_zero, q4] at e1
    have hv : -3 ≤ V r c ∧ V r c ≤ 12 := by
      rw [vpm]
      have ii := u_pm_i hx hr.i
      have ij := u_pm_i hx hc.i
      by_cases cij : u_pm 0 x r = u_pm 0 x c
      · rw [cij]
        have := dia _ ij
        omega
      · rcases off _ _ ii ij cij with e | e <;> rw [e] <;> omega
    have t0 : (0 : Int).tdiv 3 = 0 := by decide
    have t1 : (-3 : Int).tdiv 3 = -1 := by decide
    rw [u_ab_e]
    rcases qr r hr with e | e <;> rcases qc c hc with e' | e' <;> rw [e, e'] at e1
    · rw [t0] at e1; rw [e1]; omega
    · rw [t0] at e1; rw [e1]; omega
    · rw [t1] at e1; rw [e1]; omega
    · rw [t1] at e1; rw [e1]; omega
  refine ⟨fun na => Or.inr (Or.inl ⟨by rw [u_c_00, hq'], hr0, hin, ?_, X (fun h => na (D h).1)⟩), fun al => ⟨fun i j hi hj => ?_, fun _ => u_ev (E := 68) (by unfold u_nm; omega) d3 hin al, fun u j hu hj hnd => Or.inr (Or.inr (Or.inl ?_))⟩⟩
  · have := u_na h0 na
    rw [hq'] at this
    exact this
  · rcases hi.n with rfl | hi
    · rcases hj.n with rfl | hj
      · rw [u_c_00, hq']; omega
      · have := (hr0 j hj).2; omega
    · rcases hj.n with rfl | hj
      · have := (hr0 i hi).1; omega
      · have := hin i j hi hj; omega
  · have al' := u_all_iff.1 al
    have zr : ∀ r : Int, u_n r → u_c V 0 r 0 = 0 := fun r hr => al'.1 r (by have := hr.1; omega) hr.2
    have zc : ∀ r : Int, u_n r → u_c V 0 0 r = 0 := fun r hr => al'.2 r (by have := hr.1; omega) hr.2
    have e0 : u_add (u_c V 0) 0 u 0 0 = V 0 0 := by rw [u_add_0j (by omega), zr u hu, u_c_00, Int.add_zero]
    have ec : ∀ c : Int, u_n c → u_add (u_c V 0) 0 u 0 c = u_c V 0 u c := fun c hc => by rw [u_add_0j (by have := hc.1; omega), zc c hc, Int.zero_add]
    have er : ∀ r c : Int, u_n r → u_add (u_c V 0) 0 u r c = u_c V 0 r c := fun r c hr => u_add_ij (by have := hr.1; omega)
    have all : ∀ {K : Int}, 3 ≤ K → (∀ r c : Int, u_n r → u_n c → u_ab (u_c V 0 r c) ≤ K) → ∀ i j : Int, u_i 4 i → u_i 4 j → u_ab (u_add (u_c V 0) 0 u i j) ≤ K := by
      intro K hK hh i j hi hj
      rcases hi.n with rfl | hi
      · rcases hj.n with rfl | hj
        · rw [e0, hq']; exact hK
        · rw [ec j hj]; exact hh u j hu hj
      · rw [er i j hi]
        rcases hj.n with rfl | hj
        · rw [zr i hi]; have : u_ab 0 = 0 := rfl; omega
        · exact hh i j hi hj
    refine ⟨by rw [e0, hq'], fun r hr => by rw [er r 0 hr, zr r hr], all (by omega) hin, ⟨j, hj, by rw [e0, ec j hj]; rw [u_c_00] at hnd; exact hnd⟩, ?_⟩
    by_cases hxy : x = y
    · exact Or.inl (all (by omega) (D hxy).2)
    · refine Or.inr (fun i j hi hj hne => ?_)
      have XX := X hxy zc
      rcases hi.n with rfl | hi
      · rcases hj.n with rfl | hj
        · rw [e0, hq']; omega
        · rw [ec j hj] at hne ⊢; exact XX u j hu hj (zr u hu) hne
      · rw [er i j hi] at hne ⊢
        rcases hj.n with rfl | hj
        · exact absurd (zr i hi) hne
        · exact XX i j hi hj (zr i hi) hne
end R4
