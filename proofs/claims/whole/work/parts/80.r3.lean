/-! rounds over three rows -/
section R3
variable {W Z : Int → Int → Int} {x y p N w : Int}
theorem u_cl3.nx (h : u_cl3 Z p N) (hp : p ≤ 1000) (w0 : w ≤ 2000000) (pot : (N + 1343945) * (w * w) ≤ 9503112000000000000) (hf : u_fl Z 3 0 x y) (hlt : u_ab (Z x y) < p) (hh : 2 * (u_ab (Z x y) * p) ≤ w) : ∃ N' w' : Int, u_s3 Z x y N' w' := by
  obtain ⟨fx0, fx1, fy0, fy1, fne, fl⟩ := id hf
  have p1 := ab_pos fne
  obtain ⟨q, eq⟩ : ∃ q, q = u_ab (Z x y) := ⟨_, rfl⟩
  have hK := h.K
  have hC := fun a b c e f g i => h.C (x := x) (y := y) a b c e f g i
  obtain ⟨h1, h2, h3, h4, h5, h6⟩ := id h
  have qp0 : 0 ≤ q * p := Int.mul_nonneg (by omega) (by omega)
  have P2 : (p - 1) * (p - 1) ≤ 999 * 999 := Int.mul_le_mul (by omega) (by omega) (by omega) (by omega)
  have P0 := Int.mul_nonneg (show 0 ≤ p - 1 by omega) (show 0 ≤ p - 1 by omega)
  have z00 : Z 0 0 ≠ 0 := fun e => by rw [e] at h3; have : u_ab 0 = 0 := rfl; omega
  rw [← eq] at hlt hh p1
  have vr : 1 ≤ y → u_sw Z 0 x y 0 y = Z x 0 := fun hy => by
    rw [u_sw_pm]
    unfold u_pm
    rw [if_pos rfl, if_neg (by omega), if_pos rfl]
  have vc : 1 ≤ x → u_sw Z 0 x y x 0 = Z 0 y := fun hx => by
    rw [u_sw_pm]
    unfold u_pm
    rw [if_pos rfl, if_neg (by omega), if_pos rfl]
  have r0 : ∀ i : Int, 0 ≤ i → i < 3 → u_ab (Z i 0) ≤ p := fun i i0 i1 => by
    by_cases c : i = 0
    · rw [c, h3]; omega
    · have := (h4 i (by omega) i1).1; omega
  have c0 : ∀ i : Int, 0 ≤ i → i < 3 → u_ab (Z 0 i) ≤ p := fun i i0 i1 => by
    by_cases c : i = 0
    · rw [c, h3]; omega
    · have := (h4 i (by omega) i1).2; omega
  by_cases hA : (1 ≤ y ∧ Z x 0 ≠ 0) ∨ (1 ≤ x ∧ Z 0 y ≠ 0)
  · refine ⟨31833 + 4 * (N + (p - 1) * (p - 1)), q * p, by omega, by omega, Int.le_trans (pot_st h2 (by omega) qp0 hh) pot, fun r c r1 r2 c1 c2 => ?_, Or.inr ?_⟩
    · rw [m2_sw]
      exact hK _ _ _ _ (u_pm_i ⟨fx0, fx1⟩ ⟨by omega, by omega⟩) (u_pm_i ⟨fx0, fx1⟩ ⟨by omega, by omega⟩) (u_pm_i ⟨fy0, fy1⟩ ⟨by omega, by omega⟩) (u_pm_i ⟨fy0, fy1⟩ ⟨by omega, by omega⟩)
    · rw [← eq]
      rcases hA with ⟨a1, a2⟩ | ⟨a1, a2⟩
      · refine Or.inl ⟨y, a1, fy1, ?_⟩
        rw [vr a1]
        have s1 := (fl x 0 fx0 fx1 (by omega) (by omega) a2).2 (Or.inr ⟨rfl, by omega⟩)
        rw [← eq] at s1
        exact ⟨a2, s1, Int.mul_le_mul_of_nonneg_left (r0 x fx0 fx1) (by omega)⟩
      · refine Or.inr ⟨x, a1, fx1, ?_⟩
        rw [vc a1]
        have s1 := (fl 0 y (by omega) (by omega) fy0 fy1 a2).2 (Or.inl (by omega))
        rw [← eq] at s1
        exact ⟨a2, s1, Int.mul_le_mul_of_nonneg_left (c0 y fy0 fy1) (by omega)⟩
  · have hx : 1 ≤ x := by
      apply Classical.byContradiction
      intro cx
      have ex : x = 0 := by omega
      by_cases cy : y = 0
      · rw [ex, cy, h3] at eq; omega
      · exact hA (Or.inl ⟨by omega, by rw [ex]; exact z00⟩)
    have hy : 1 ≤ y := by
      apply Classical.byContradiction
      intro cy
      exact hA (Or.inr ⟨hx, by rw [show y = 0 by omega]; exact z00⟩)
    have hr : Z x 0 = 0 := Classical.byContradiction fun c => hA (Or.inl ⟨hy, c⟩)
    have hc : Z 0 y = 0 := Classical.byContradiction fun c => hA (Or.inr ⟨hx, c⟩)
    have pp : p * p ≤ 1000 * 1000 := Int.mul_le_mul (by omega) (by omega) (by omega) (by omega)
    have pp0 : 0 ≤ p * p := Int.mul_nonneg (by omega) (by omega)
    have qq : q * q ≤ 1000 * 1000 := Int.mul_le_mul (by omega) (by omega) (by omega) (by omega)
    have qq0 : 0 ≤ q * q := Int.mul_nonneg (by omega) (by omega)
    exact ⟨31833 + p * p, 2 * (q * q), by omega, by omega, pot_rs (by omega) (by omega) (by omega) (by omega), hC hx fx1 hy fy1 hr hc (by rw [← eq]; omega), Or.inl (by rw [← eq]; omega)⟩
/-- behind an addition -/
theorem u_cl3.ad (h : u_cl3 Z p N) (hp : p ≤ 1000) (w0 : w ≤ 2000000) (pot : (N + 1343945) * (w * w) ≤ 9503112000000000000) (hw : 2 * (p * p) ≤ w) (hr : ∀ r : Int, 1 ≤ r → r < 3 → Z r 0 = 0) (hc : ∀ r : Int, 1 ≤ r → r < 3 → Z 0 r = 0) {u : Int} (u0 : 1 ≤ u) (u1 : u < 3) (hf : u_fl (u_add Z 0 u) 3 0 x y) : u_ab (u_add Z 0 u x y) ≤ 1000 ∧ ∃ N' w' : Int, u_s3 (u_add Z 0 u) x y N' w' := by
  obtain ⟨Y, eY⟩ : ∃ Y, Y = u_add Z 0 u := ⟨_, rfl⟩
  obtain ⟨h1, h2, h3, h4, h5, h6⟩ := id h
  have y00 : Y 0 0 = Z 0 0 := by rw [eY, u_add_0j (by omega), hr u u0 u1, Int.add_zero]
  have yr0 : ∀ r : Int, 1 ≤ r → r < 3 → Y r 0 = 0 := fun r a b => by rw [eY, u_add_ij (by omega)]; exact hr r a b
  have y0c : ∀ r : Int, 1 ≤ r → r < 3 → Y 0 r = Z u r := fun r a b => by rw [eY, u_add_0j (by omega), hc r a b, Int.zero_add]
  have yrc : ∀ r c : Int, 1 ≤ r → Y r c = Z r c := fun r c a => by rw [eY, u_add_ij (by omega)]
  rw [← eY] at hf ⊢
  clear eY
  obtain ⟨fx0, fx1, fy0, fy1, fne, fl⟩ := id hf
  have p1 := ab_pos fne
  have z00 : Z 0 0 ≠ 0 := fun e => by rw [e] at h3; have : u_ab 0 = 0 := rfl; omega
  have f00 := fl 0 0 (by omega) (by omega) (by omega) (by omega) (by rw [y00]; exact z00)
  rw [y00, h3] at f00
  obtain ⟨q, eq⟩ : ∃ q, q = u_ab (Y x y) := ⟨_, rfl⟩
  rw [← eq] at f00 p1
  have pz : ∀ r c : Int, 1 ≤ r → r < 3 → 1 ≤ c → c < 3 → u_ab (Z 0 0 * Z r c) ≤ N := fun r c a b e f => by
    have := h5 r c a b e f
    unfold m2 at this
    rw [hc c e f, Int.zero_mul, Int.sub_zero] at this
    exact this
  have hI : u_ab (m2 Z 1 2 1 2) ≤ 31833 := by
    have e : Z 0 0 * m2 Z 1 2 1 2 = m3 Z 0 1 2 0 1 2 := by
      unfold m3
      rw [hc 1 (by omega) (by omega), hc 2 (by omega) (by omega)]
      omega
    have h7 := ab_mul (Z 0 0) (m2 Z 1 2 1 2)
    rw [e, h3] at h7
    have := Int.mul_le_mul_of_nonneg_right h1 (u_ab_n (m2 Z 1 2 1 2))
    omega
  have inn : ∀ a b : Int, u_i 3 a → u_i 3 b → a < b → u_ab (m2 Y a b 1 2) ≤ 31833 := fun a b ha hb hab => by
    have := ha.1; have := hb.2
    by_cases ca : a = 0
    · subst ca
      unfold m2
      rw [y0c 1 (by omega) (by omega), y0c 2 (by omega) (by omega), yrc b 1 (by omega), yrc b 2 (by omega)]
      by_cases cb : b = u
      · rw [cb, show Z u 1 * Z u 2 - Z u 2 * Z u 1 = 0 by rw [Int.mul_comm]; omega]; decide
      · have hu : (u = 1 ∧ b = 2) ∨ (u = 2 ∧ b = 1) := by omega
        rcases hu with ⟨rfl, rfl⟩ | ⟨rfl, rfl⟩
        · exact hI
        · have : Z 2 1 * Z 1 2 - Z 2 2 * Z 1 1 = - m2 Z 1 2 1 2 := by unfold m2; grind
          rw [this, ab_neg]
          exact hI
    · have e1 : a = 1 := by omega
      have e2 : b = 2 := by omega
      subst e1 e2
      unfold m2
      rw [yrc 1 1 (by omega), yrc 2 2 (by omega), yrc 1 2 (by omega), yrc 2 1 (by omega)]
      exact hI
  have inn2 : ∀ a b c e : Int, u_i 3 a → u_i 3 b → 1 ≤ c → c < 3 → 1 ≤ e → e < 3 → u_ab (m2 Y a b c e) ≤ 31833 := fun a b c e ha hb c0 c1 e0 e1 => by
    have k := srb2 (f := fun a b => m2 Y a b 1 2) (K := 31833) (s := 3) (by omega) (fun _ _ => m2_12) inn a b ha hb
    have hz : ∀ g : Int, m2 Y a b g g = 0 := fun g => by unfold m2; grind
    have hcc : c = 1 ∨ c = 2 := by omega
    have hee : e = 1 ∨ e = 2 := by omega
    rcases hcc with rfl | rfl <;> rcases hee with rfl | rfl
    · rw [hz]; decide
    · exact k
    · rw [m2_c12, ab_neg]; exact k
    · rw [hz]; decide
  have m00 : ∀ r c : Int, 1 ≤ r → r < 3 → 1 ≤ c → c < 3 → u_ab (m2 Y 0 r 0 c) ≤ N := fun r c a b e f => by
    unfold m2
    rw [y00, yr0 r a b, yrc r c a, Int.mul_zero, Int.sub_zero]
    exact pz r c a b e f
  have KY : ∀ a b c e : Int, u_i 3 a → u_i 3 b → u_i 3 c → u_i 3 e → u_ab (m2 Y a b c e) ≤ N + 31833 := u_K2 (by omega) (fun a b c e ha hb hcc he hab hce => by
    have := ha.1; have := hb.2; have := hcc.1; have := he.2
    by_cases cc : c = 0
    · subst cc
      by_cases ca : a = 0
      · subst ca
        have := m00 b e (by omega) (by omega) (by omega) (by omega)
        omega
      · have e0 : m2 Y a b 0 e = 0 := by
          unfold m2
          rw [yr0 a (by omega) (by omega), yr0 b (by omega) (by omega)]
          omega
        rw [e0]
        have : u_ab 0 = 0 := rfl
        omega
    · have := inn2 a b c e ha hb (by omega) (by omega) (by omega) (by omega)
      omega)
  have qp : q ≤ p := f00.1
  refine ⟨by omega, ?_⟩
  have pp : p * p ≤ 1000 * 1000 := Int.mul_le_mul (by omega) (by omega) (by omega) (by omega)
  have pp0 : 0 ≤ p * p := Int.mul_nonneg (by omega) (by omega)
  by_cases cx : x = 0
  · by_cases cy : y = 0
    · subst cx cy
      have ev : u_sw Y 0 0 0 = Y := by
        funext i j
        rw [u_sw_pm]
        have : ∀ i : Int, u_pm 0 0 i = i := fun i => by
          unfold u_pm
          split <;> omega
        rw [this, this]
      refine ⟨N, w, h2, w0, pot, ?_, Or.inl ?_⟩
      · rw [ev]; exact m00
      · rw [y00, h3]; exact hw
    · have lt : q < p := f00.2 (Or.inr ⟨by omega, by omega⟩)
      subst cx
      have qp0 : 0 ≤ q * p := Int.mul_nonneg (by omega) (by omega)
      have q2 : 2 * (q * p) ≤ w := by
        have := Int.mul_le_mul_of_nonneg_right qp (show 0 ≤ p by omega)
        omega
      refine ⟨N + 31833, q * p, by omega, by omega, Int.le_trans (pot_st h2 (by omega) qp0 q2) pot, fun r c r1 r2 c1 c2 => ?_, Or.inr (Or.inl ⟨y, by omega, fy1, ?_⟩)⟩
      · rw [m2_sw]
        exact KY _ _ _ _ (u_pm_i ⟨fx0, fx1⟩ ⟨by omega, by omega⟩) (u_pm_i ⟨fx0, fx1⟩ ⟨by omega, by omega⟩) (u_pm_i ⟨fy0, fy1⟩ ⟨by omega, by omega⟩) (u_pm_i ⟨fy0, fy1⟩ ⟨by omega, by omega⟩)
      · have vr : u_sw Y 0 0 y 0 y = Y 0 0 := by
          rw [u_sw_pm]
          unfold u_pm
          rw [if_pos rfl, if_neg cy, if_pos rfl]
        rw [vr, ← eq, y00, h3]
        exact ⟨z00, lt, Int.le_refl _⟩
  · have hy : 1 ≤ y := by
      apply Classical.byContradiction
      intro cy
      refine fne ?_
      rw [show y = 0 by omega]
      exact yr0 x (by omega) fx1
    have qq : q * q ≤ 1000 * 1000 := Int.mul_le_mul (by omega) (by omega) (by omega) (by omega)
    have qq0 : 0 ≤ q * q := Int.mul_nonneg (by omega) (by omega)
    refine ⟨31833 + p * p, 2 * (q * q), by omega, by omega, pot_rs (by omega) (by omega) (by omega) (by omega), fun r c r1 r2 c1 c2 => ?_, Or.inl (by rw [← eq]; omega)⟩
    rw [m2_sw]
    have ux : u_pm 0 x 0 = x := if_pos rfl
    have uy : u_pm 0 y 0 = y := if_pos rfl
    rw [ux, uy]
    have ia := u_pm_i (s := 3) (x := x) (i := r) ⟨fx0, fx1⟩ ⟨by omega, by omega⟩
    have ib := u_pm_i (s := 3) (x := y) (i := c) ⟨fy0, fy1⟩ ⟨by omega, by omega⟩
    obtain ⟨a, ea⟩ : ∃ a, a = u_pm 0 x r := ⟨_, rfl⟩
    obtain ⟨b, eb⟩ : ∃ b, b = u_pm 0 y c := ⟨_, rfl⟩
    rw [← ea] at ia ⊢
    rw [← eb] at ib ⊢
    have := ib.1; have := ib.2; have := ia.1; have := ia.2
    by_cases cb : b = 0
    · rw [cb]
      unfold m2
      rw [yr0 x (by omega) fx1, Int.zero_mul, Int.sub_zero]
      by_cases ca : a = 0
      · rw [ca, y00, ab_mul, ← eq, h3]
        have := Int.mul_le_mul_of_nonneg_right qp (show 0 ≤ p by omega)
        omega
      · rw [yr0 a (by omega) (by omega), Int.mul_zero]
        have : u_ab 0 = 0 := rfl
        omega
    · have := inn2 x a y b ⟨fx0, fx1⟩ ia hy fy1 (by omega) (by omega)
      omega
theorem u_R3 {b4 : (Int → Int → Int) → Prop} : u_R (u_BB u_b3 b4) 3 := by
  intro m W x y hB hf d1 d2 d3
  obtain ⟨hT, hb⟩ := hB
  have hT := hT (by omega)
  obtain ⟨hb1, hb2⟩ : u_b3 W := hb
  obtain ⟨hpp, N, w, n0, w0, pot, hN, hw⟩ := hb2 x y hf
  have hne := hf.2.2.2.2.1
  have hp1 := ab_pos hne
  obtain ⟨V, eV⟩ : ∃ V, V = u_sw W 0 x y := ⟨_, rfl⟩
  have hV0 : V 0 0 = W x y := by rw [eV, u_sw_00]
  obtain ⟨Z, eZ⟩ : ∃ Z, Z = u_c V 0 := ⟨_, rfl⟩
  have z00 : Z 0 0 = W x y := by rw [eZ, u_c_00, hV0]
  have hT1 := hT.cl (x := x) (y := y) (by omega) hf
  have hT2 := fun ha u j u0 u1 j0 j1 h => hT.ad (x := x) (y := y) (u := u) (j := j) (by omega) hf ha u0 u1 j0 j1 h
  have hall := u_all_iff (U := V) (s := 3) (k := 0)
  rw [← eZ] at hall
  rw [← eV] at d3 hT1 hT2 hN hw ⊢
  rw [← eZ] at d3 hT1 hT2 ⊢
  obtain ⟨p, ep⟩ : ∃ p, p = u_ab (W x y) := ⟨_, rfl⟩
  rw [← ep] at hpp hw hp1
  have h : u_cl3 Z p N := ⟨hp1, n0, by rw [z00, ep], fun r r0 r1 => by
    have a := u_c_r0l (V := V) (r := r) (by omega) (by rw [hV0]; exact hne)
    have b := u_c_0cl (V := V) (c := r) (by omega) (by rw [hV0]; exact hne)
    rw [← eZ, hV0, ← ep] at a b
    exact ⟨by omega, by omega⟩, fun r c r0 r1 c0 c1 => by rw [eZ, u_c_rc r0 c0]; exact hN r c r0 r1 c0 c1, d3.2⟩
  have hw2 : 2 ≤ w := u_w2 hp1 hw
  have hNb := pot_N n0 hw2 pot
  have hent : ∀ i j : Int, 0 ≤ i → i < 3 → 0 ≤ j → j < 3 → u_ab (Z i j) ≤ 2376000000000000000 := fun i j i0 i1 j0 j1 => by
    obtain ⟨h1, h2, h3, h4, h5, h6⟩ := id h
    by_cases ci : i = 0
    · by_cases cj : j = 0
      · rw [ci, cj, h3]; omega
      · have := (h4 j (by omega) j1).2; rw [ci]; omega
    · by_cases cj : j = 0
      · have := (h4 i (by omega) i1).1; rw [cj]; omega
      · have := u_dvl h1 h2 (u_in h3 (h4 i (by omega) i1).1 (h4 j (by omega) j1).2 (h5 i j (by omega) i1 (by omega) j1))
        omega
  refine ⟨fun na => ?_, fun al => ⟨fun i j i0 i1 j0 j1 => ab_b (by have := hent i j i0 i1 j0 j1; omega), fun _ => ?_, fun u j u0 u1 j0 j1 hnd => ?_⟩⟩
  · obtain ⟨⟨m', g1, g2⟩, i, j, i0, i1, j0, j1, g3, g4, -⟩ := hT1 na
    rw [← ep] at g4
    refine ⟨m', g1, fun _ => g2, fun i j i0 i1 j0 j1 => by have := hent i j i0 i1 j0 j1; omega, fun x' y' hf' => ?_⟩
    have lt := (hf'.2.2.2.2.2 i j i0 i1 j0 j1 g3).1
    have q0 := u_ab_n (Z x' y')
    refine ⟨by omega, h.nx hpp w0 pot hf' (by omega) (u_half (V := V) (z := 3) (by rw [hV0, ep]) (by rw [hV0]; exact hne) q0 (by omega) (fun i j i0 i1 j0 j1 hh => ?_) hw)⟩
    rw [← eZ] at hh ⊢
    exact (hf'.2.2.2.2.2 i j i0 i1 j0 j1 hh).1
  · have al' := hall.1 al
    have d4 := u_dd_st (X := Z) (z := 3) ⟨by omega, by omega⟩ (fun i i0 i1 => ⟨al'.1 i (by omega) i1, al'.2 i (by omega) i1⟩) d3
    have hn1 : ∃ i j : Int, 0 ≤ i ∧ i < 2 ∧ 0 ≤ j ∧ j < 2 ∧ u_sh Z 1 i j ≠ 0 := by
      apply Classical.byContradiction
      intro hc
      refine d4.1 ?_
      show u_sh Z 1 0 0 * u_sh Z 1 1 1 - u_sh Z 1 0 1 * u_sh Z 1 1 0 = 0
      have e1 : u_sh Z 1 0 0 = 0 := Classical.byContradiction fun c => hc ⟨0, 0, by omega, by omega, by omega, by omega, c⟩
      have e2 : u_sh Z 1 0 1 = 0 := Classical.byContradiction fun c => hc ⟨0, 1, by omega, by omega, by omega, by omega, c⟩
      rw [e1, e2]
      omega
    obtain ⟨i, j, i0, i1, j0, j1, hn⟩ := hn1
    obtain ⟨m', g⟩ := u_Tm.nw (z := 2) (W := u_sh Z 1) i0 i1 j0 j1 hn
    refine ⟨m', fun _ => g, fun i j i0 i1 j0 j1 => ?_, i, j, i0, i1, j0, j1, hn, ?_⟩
    · have := hent (1 + i) (1 + j) (by omega) (by omega) (by omega) (by omega)
      show u_ab (Z (1 + i) (1 + j)) ≤ _
      omega
    · have := hent (1 + i) (1 + j) (by omega) (by omega) (by omega) (by omega)
      show u_ab (Z (1 + i) (1 + j)) ≤ _
      omega
  · obtain ⟨m', g1, g2⟩ := hT2 al u j u0 u1 j0 j1 hnd
    have al' := hall.1 al
    have hfull := u_full (V := V) (z := 3) (by rw [hV0, ep]) al hw
    refine ⟨m', g1, fun _ => g2, fun i j i0 i1 j0 j1 => ?_, fun x' y' hf' => h.ad hpp w0 pot hfull (fun r a b => al'.1 r (by omega) b) (fun r a b => al'.2 r (by omega) b) (by omega) u1 hf'⟩
    by_cases ci : i = 0
    · rw [ci, u_add_0j j0]
      by_cases cj : j = 0
      · rw [cj, al'.1 u u0 u1, Int.add_zero]
        have := hent 0 0 (by omega) (by omega) (by omega) (by omega)
        omega
      · rw [al'.2 j (by omega) j1, Int.zero_add]
        have := hent u j (by omega) u1 j0 j1
        omega
    · rw [u_add_ij ci]
      have := hent i j i0 i1 j0 j1
      omega
end R3
