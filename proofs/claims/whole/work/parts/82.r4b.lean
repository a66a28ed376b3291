section R4B
variable {V W Z : Int → Int → Int} {x y : Int}
theorem u_o4_k3 (hk : u_k3 W) (hf : u_fl W 4 0 x y) (d3 : u_dd 4 (u_c (u_sw W 0 x y) 0)) : u_o4 (u_sw W 0 x y) := by
  obtain ⟨k1, k2, k3, ⟨i0, j0, hi0, hj0, hne0, hlt0⟩, k5⟩ := hk
  obtain ⟨fx0, fx1, fy0, fy1, fne, fl⟩ := id hf
  have hx : u_i 4 x := ⟨fx0, fx1⟩
  have hy : u_i 4 y := ⟨fy0, fy1⟩
  have hq := (fl i0 j0 hi0.1 hi0.2 hj0.1 hj0.2 hne0).1
  have hp := ab_pos fne
  have z3 : W 0 0 ≠ 0 := fun e => by rw [e] at k1; exact absurd k1 (by decide)
  have row0 : ∀ c : Int, u_i 4 c → u_ab (W 0 c) ≤ 3 := fun c hc => by
    rcases hc.n with rfl | hc
    · omega
    · have := (k2 c hc).2; omega
  have col0 : ∀ c : Int, u_i 4 c → u_ab (W c 0) ≤ 3 := fun c hc => by
    rcases hc.n with rfl | hc
    · omega
    · have := (k2 c hc).1; omega
  have hb : ∀ i j : Int, u_i 4 i → u_i 4 j → u_ab (W i j) ≤ 68 := fun i j hi hj => by
    rcases hi.n with rfl | hi
    · have := row0 j hj; omega
    · rcases hj.n with rfl | hj
      · have := col0 i hi.i; omega
      · exact k3 i j hi hj
  have hxy : ¬ (x = 0 ∧ y = 0) := fun h => by rw [h.1, h.2] at hq; omega
  obtain ⟨V, eV⟩ : ∃ V, V = u_sw W 0 x y := ⟨_, rfl⟩
  have vpm : ∀ i j : Int, V i j = W (u_pm 0 x i) (u_pm 0 y j) := fun i j => by rw [eV, u_sw_pm]
  have v00 : V 0 0 = W x y := by rw [eV, u_sw_00]
  have hbV : ∀ i j : Int, u_i 4 i → u_i 4 j → u_ab (V i j) ≤ 68 := by rw [eV]; exact u_sw_b hx hy hb
  rw [← eV] at d3 ⊢
  have h0 : V 0 0 ≠ 0 := by rw [v00]; exact fne
  have r0 : x = 0 → ∀ c : Int, u_i 4 c → u_ab (V 0 c) ≤ 3 := fun ex c hc => by
    rw [vpm, u_pmz, ex]
    exact row0 _ (u_pm_i hy hc)
  have rx : x ≠ 0 → ∀ c : Int, u_i 4 c → u_ab (V x c) ≤ 3 := fun ex c hc => by
    rw [vpm, u_pmx]
    exact row0 _ (u_pm_i hy hc)
  by_cases c1 : u_ab (W x y) = 1
  · have q1 : u_ab (V 0 0) = 1 := by rw [v00]; exact c1
    by_cases ex : x = 0
    · refine u_o4_1s q1 d3 (fun r c hr hc => ?_)
      have a := hbV r c hr.i hc.i
      have b := Int.mul_le_mul (hbV r 0 hr.i u_i0) (r0 ex c hc.i) (u_ab_n _) (by omega)
      omega
    · have nx : u_n x := ⟨by omega, fx1⟩
      refine u_o4_1 q1 (E := 4692) (P := 207) (by unfold u_nm; omega) (fun r c hr hc => ?_) (fun al => ?_)
      · have a := hbV r c hr.i hc.i
        have b := Int.mul_le_mul (hbV r 0 hr.i u_i0) (hbV 0 c u_i0 hc.i) (u_ab_n _) (by omega)
        omega
      · obtain ⟨c, hc, g⟩ := u_nz al d3 x nx
        refine ⟨x, c, nx, hc, g, ?_⟩
        have t1 := ab_td (V x 0) (V 0 0)
        have t2 := ab_td (V 0 c) (V 0 0)
        rw [q1, Int.mul_one] at t1 t2
        have s1 := rx ex 0 u_i0
        have := u_c_bd (V := V) nx.1 hc.1 (rx ex c hc.i) (Int.le_trans t1 s1) (hbV 0 c u_i0 hc.i) t2 (show u_ab (u_c V 0 x 0) ≤ 0 by rw [(u_all_iff.1 al).1 x (by omega) fx1]; decide)
        omega
  · have c2 : u_ab (W x y) = 2 := by omega
    have q2 : u_ab (V 0 0) = 2 := by rw [v00]; exact c2
    have rem : ∀ r : Int, u_n r → u_ab (u_c V 0 r 0) ≤ 1 := fun r hr => by have := u_c_r0l (V := V) (r := r) hr.1 h0; omega
    by_cases ex : x = 0
    · refine u_o4_2 q2 d3 (fun r c hr hc => ?_)
      have := u_c_bd (V := V) hr.1 hc.1 (hbV r c hr.i hc.i) (u_2td (t := 34) q2 (by have := hbV r 0 hr.i u_i0; omega)) (r0 ex c hc.i) (u_2td (t := 1) q2 (by have := r0 ex c hc.i; omega)) (rem r hr)
      omega
    · have zc : ∀ c : Int, u_n c → W 0 c = 0 := fun c hc => Classical.byContradiction fun hh => by
        have := (fl 0 c (by omega) (by omega) hc.i.1 hc.2 hh).2 (Or.inl (by omega))
        have := (k2 c hc).2
        omega
      by_cases ey : y = 0
      · refine u_o4_2 q2 d3 (fun r c hr hc => ?_)
        have vr : u_ab (V r 0) ≤ 3 := by rw [vpm, u_pmz, ey]; exact col0 _ (u_pm_i hx hr.i)
        have := u_c_bd (V := V) hr.1 hc.1 (hbV r c hr.i hc.i) (u_2td (t := 1) q2 (by omega)) (hbV 0 c u_i0 hc.i) (u_2td (t := 34) q2 (by have := hbV 0 c u_i0 hc.i; omega)) (rem r hr)
        omega
      · exfalso
        have nx : u_n x := ⟨by omega, fx1⟩
        have ny : u_n y := ⟨by omega, fy1⟩
        have zx : W x 0 = 0 := Classical.byContradiction fun hh => by
          have := (fl x 0 fx0 fx1 (by omega) (by omega) hh).2 (Or.inr ⟨rfl, by omega⟩)
          have := (k2 x nx).1
          omega
        have := k5 zc x y nx ny zx fne
        omega
theorem u_at0 {q : Int} (hw : u_ab (W 0 0) = q) (hz : W 0 0 ≠ 0) (hf : u_fl W 4 0 x y) (h : ¬ u_ab (W x y) < q) : x = 0 ∧ y = 0 := by
  obtain ⟨fx0, fx1, fy0, fy1, fne, fl⟩ := id hf
  have := (fl 0 0 (by omega) (by omega) (by omega) (by omega) hz).2
  by_cases cx : x = 0
  · by_cases cy : y = 0
    · exact ⟨cx, cy⟩
    · have := this (Or.inr ⟨by omega, by omega⟩)
      omega
  · have := this (Or.inl (by omega))
    omega
/-- behind an addition: the pivot stays -/
theorem u_st (h0 : ∀ r : Int, u_n r → W r 0 = 0) : (∀ r : Int, u_n r → u_c W 0 r 0 = 0) ∧ ∀ r c : Int, u_n r → u_n c → u_c W 0 r c = W r c := by
  have a : ∀ r : Int, u_n r → u_c W 0 r 0 = 0 := fun r hr => by
    rw [u_c_r0 hr.1, h0 r hr, Int.zero_tdiv]
    omega
  refine ⟨a, fun r c hr hc => ?_⟩
  rw [u_c_in hr.1 hc.1, a r hr, h0 r hr, Int.zero_tdiv, Int.zero_mul, Int.mul_zero, Int.sub_zero, Int.sub_zero]
theorem u_o4_a3 (hk : u_a3 W) (hf : u_fl W 4 0 x y) (d3 : u_dd 4 (u_c (u_sw W 0 x y) 0)) : u_o4 (u_sw W 0 x y) := by
  obtain ⟨k1, k2, k3, ⟨c0, hc0, hnd0⟩, k5⟩ := hk
  obtain ⟨fx0, fx1, fy0, fy1, fne, fl⟩ := id hf
  have hx : u_i 4 x := ⟨fx0, fx1⟩
  have hy : u_i 4 y := ⟨fy0, fy1⟩
  have z3 : W 0 0 ≠ 0 := fun e => by rw [e] at k1; exact absurd k1 (by decide)
  by_cases c : u_ab (W x y) < 3
  · rcases k5 with k5 | k5
    · exact u_o4_12 (u_sw_b hx hy k5) (by rw [u_sw_00]; exact fne) (by rw [u_sw_00]; omega) d3
    · have := k5 x y hx hy fne; omega
  · obtain ⟨ex, ey⟩ := u_at0 k1 z3 hf c
    have e3 : u_ab (W x y) = 3 := by rw [ex, ey]; exact k1
    subst ex ey
    rw [u_sw0] at d3 ⊢
    obtain ⟨zr, zin⟩ := u_st k2
    have hr0 : ∀ r : Int, u_n r → u_ab (u_c W 0 r 0) ≤ 2 ∧ u_ab (u_c W 0 0 r) ≤ 2 := fun r hr => by
      have b := u_c_0cl (V := W) (c := r) hr.1 z3
      rw [zr r hr]
      have : u_ab 0 = 0 := rfl
      omega
    refine ⟨fun na => Or.inr (Or.inl ⟨by rw [u_c_00, k1], hr0, fun r c hr hc => by rw [zin r c hr hc]; exact k3 r c hr.i hc.i, ?_, fun _ r c hr hc _ hne => ?_⟩), fun al => ?_⟩
    · have := u_na z3 na
      rw [k1] at this
      exact this
    · rw [zin r c hr hc] at hne ⊢
      have := (fl r c hr.i.1 hr.2 hc.i.1 hc.2 hne).1
      omega
    · exfalso
      have := (u_all_iff.1 al).2 c0 (by have := hc0.1; omega) hc0.2
      rw [u_c_0c hc0.1] at this
      exact hnd0 (u_rem0.1 this)
theorem u_o4_k2 (hk : u_k2 W) (hf : u_fl W 4 0 x y) (d3 : u_dd 4 (u_c (u_sw W 0 x y) 0)) : u_o4 (u_sw W 0 x y) := by
  obtain ⟨k1, k2, k3, i0, j0, hi0, hj0, hne0, hlt0⟩ := hk
  obtain ⟨fx0, fx1, fy0, fy1, fne, fl⟩ := id hf
  have hx : u_i 4 x := ⟨fx0, fx1⟩
  have hy : u_i 4 y := ⟨fy0, fy1⟩
  have hq := (fl i0 j0 hi0.1 hi0.2 hj0.1 hj0.2 hne0).1
  have hp := ab_pos fne
  have c1 : u_ab (W x y) = 1 := by omega
  have z2 : W 0 0 ≠ 0 := fun e => by rw [e] at k1; exact absurd k1 (by decide)
  have row0 : ∀ c : Int, u_i 4 c → u_ab (W 0 c) ≤ 2 := fun c hc => by
    rcases hc.n with rfl | hc
    · omega
    · have := (k2 c hc).2; omega
  have col0 : ∀ c : Int, u_i 4 c → u_ab (W c 0) ≤ 2 := fun c hc => by
    rcases hc.n with rfl | hc
    · omega
    · have := (k2 c hc).1; omega
  have hb : ∀ i j : Int, u_i 4 i → u_i 4 j → u_ab (W i j) ≤ 171 := fun i j hi hj => by
    rcases hi.n with rfl | hi
    · have := row0 j hj; omega
    · rcases hj.n with rfl | hj
      · have := col0 i hi.i; omega
      · exact k3 i j hi hj
  obtain ⟨V, eV⟩ : ∃ V, V = u_sw W 0 x y := ⟨_, rfl⟩
  have vpm : ∀ i j : Int, V i j = W (u_pm 0 x i) (u_pm 0 y j) := fun i j => by rw [eV, u_sw_pm]
  have v00 : V 0 0 = W x y := by rw [eV, u_sw_00]
  have hbV : ∀ i j : Int, u_i 4 i → u_i 4 j → u_ab (V i j) ≤ 171 := by rw [eV]; exact u_sw_b hx hy hb
  rw [← eV] at d3 ⊢
  have q1 : u_ab (V 0 0) = 1 := by rw [v00]; exact c1
  by_cases ex : x = 0
  · refine u_o4_1s q1 d3 (fun r c hr hc => ?_)
    have a := hbV r c hr.i hc.i
    have v0 : u_ab (V 0 c) ≤ 2 := by rw [vpm, u_pmz, ex]; exact row0 _ (u_pm_i hy hc.i)
    have b := Int.mul_le_mul (hbV r 0 hr.i u_i0) v0 (u_ab_n _) (by omega)
    omega
  · have nx : u_n x := ⟨by omega, fx1⟩
    have zc : ∀ c : Int, u_n c → W 0 c = 0 := fun c hc => Classical.byContradiction fun hh => by
      have := (fl 0 c (by omega) (by omega) hc.i.1 hc.2 hh).2 (Or.inl (by omega))
      have := (k2 c hc).2
      omega
    by_cases ey : y = 0
    · refine u_o4_1s q1 d3 (fun r c hr hc => ?_)
      have vr : u_ab (V r 0) ≤ 2 := by rw [vpm, u_pmz, ey]; exact col0 _ (u_pm_i hx hr.i)
      have a := hbV r c hr.i hc.i
      have b := Int.mul_le_mul vr (hbV 0 c u_i0 hc.i) (u_ab_n _) (by omega)
      omega
    · have ny : u_n y := ⟨by omega, fy1⟩
      refine u_o4_1 q1 (E := 29412) (P := 2) (by unfold u_nm; omega) (fun r c hr hc => ?_) (fun al => ⟨x, y, nx, ny, ?_⟩)
      · have a := hbV r c hr.i hc.i
        have b := Int.mul_le_mul (hbV r 0 hr.i u_i0) (hbV 0 c u_i0 hc.i) (u_ab_n _) (by omega)
        omega
      · have e1 := u_c_in (V := V) nx.1 ny.1
        have e2 : V x 0 = 0 := by rw [vpm, u_pmx, u_pmz]; exact zc y ny
        have e3 : V x y = W 0 0 := by rw [vpm, u_pmx, u_pmx]
        rw [(u_all_iff.1 al).1 x (by omega) fx1, e2, e3, Int.zero_tdiv, Int.zero_mul, Int.mul_zero, Int.sub_zero, Int.sub_zero] at e1
        rw [e1, k1]
        exact ⟨z2, by omega⟩
theorem u_o4_a2 (hk : u_a2 W) (hf : u_fl W 4 0 x y) (d3 : u_dd 4 (u_c (u_sw W 0 x y) 0)) : u_o4 (u_sw W 0 x y) := by
  obtain ⟨k1, k2, ⟨u, hu, ku⟩, k3, c0, hc0, hnd0⟩ := hk
  obtain ⟨fx0, fx1, fy0, fy1, fne, fl⟩ := id hf
  have hx : u_i 4 x := ⟨fx0, fx1⟩
  have hy : u_i 4 y := ⟨fy0, fy1⟩
  have hp := ab_pos fne
  have z2 : W 0 0 ≠ 0 := fun e => by rw [e] at k1; exact absurd k1 (by decide)
  by_cases c : u_ab (W x y) < 2
  · have c1 : u_ab (W x y) = 1 := by omega
    obtain ⟨V, eV⟩ : ∃ V, V = u_sw W 0 x y := ⟨_, rfl⟩
    have vpm : ∀ i j : Int, V i j = W (u_pm 0 x i) (u_pm 0 y j) := fun i j => by rw [eV, u_sw_pm]
    have v00 : V 0 0 = W x y := by rw [eV, u_sw_00]
    have hbV : ∀ i j : Int, u_i 4 i → u_i 4 j → u_ab (V i j) ≤ 171 := by rw [eV]; exact u_sw_b hx hy k3
    rw [← eV] at d3 ⊢
    have q1 : u_ab (V 0 0) = 1 := by rw [v00]; exact c1
    have ny : u_n y := by
      rcases hy.n with rfl | ny
      · exfalso
        rcases hx.n with rfl | nx
        · omega
        · exact fne (k2 x nx)
      · exact ny
    refine u_o4_1 q1 (E := 29412) (P := 2) (by unfold u_nm; omega) (fun r c hr hc => ?_) (fun al => ?_)
    · have a := hbV r c hr.i hc.i
      have b := Int.mul_le_mul (hbV r 0 hr.i u_i0) (hbV 0 c u_i0 hc.i) (u_ab_n _) (by omega)
      omega
    · have al' := u_all_iff.1 al
      rcases hx.n with ex | nx
      · refine ⟨u, y, hu, ny, ?_⟩
        have e1 := u_c_in (V := V) hu.1 ny.1
        have e2 : V u 0 = V 0 0 := by rw [vpm, vpm, u_pmz, u_pmz, ex, u_pm0]; exact (ku y ny).symm
        have e3 : V u y = 0 := by rw [vpm, u_pmx, ex, u_pm0]; exact k2 u hu
        have e4 : V 0 y = W 0 0 := by rw [vpm, u_pmx, u_pmz, ex]
        rw [al'.1 u (by have := hu.1; omega) hu.2, e2, e3, Int.tdiv_self (by rw [v00]; exact fne), e4, Int.mul_zero, Int.one_mul] at e1
        have e5 : u_c V 0 u y = - W 0 0 := by omega
        rw [e5, ab_neg, k1]
        exact ⟨by omega, by omega⟩
      · refine ⟨x, y, nx, ny, ?_⟩
        have e1 := u_c_in (V := V) nx.1 ny.1
        have e2 : V 0 y = 0 := by rw [vpm, u_pmx, u_pmz]; exact k2 x nx
        have e3 : V x y = W 0 0 := by rw [vpm, u_pmx, u_pmx]
        rw [al'.1 x (by have := nx.1; omega) fx1, e2, e3, Int.mul_zero, Int.mul_zero, Int.sub_zero, Int.sub_zero] at e1
        rw [e1, k1]
        exact ⟨z2, by omega⟩
  · obtain ⟨ex, ey⟩ := u_at0 k1 z2 hf c
    subst ex ey
    rw [u_sw0] at d3 ⊢
    obtain ⟨zr, zin⟩ := u_st k2
    refine ⟨fun na => Or.inr (Or.inr (Or.inr (Or.inl ⟨by rw [u_c_00, k1], fun r hr => ?_, fun r c hr hc => by rw [zin r c hr hc]; exact k3 r c hr.i hc.i, ?_⟩))), fun al => ?_⟩
    · have b := u_c_0cl (V := W) (c := r) hr.1 z2
      rw [zr r hr]
      have : u_ab 0 = 0 := rfl
      omega
    · have := u_na z2 na
      rw [k1] at this
      exact this
    · exfalso
      have := (u_all_iff.1 al).2 c0 (by have := hc0.1; omega) hc0.2
      rw [u_c_0c hc0.1] at this
      exact hnd0 (u_rem0.1 this)
theorem u_o4_all (hk : u_b4 W) (hf : u_fl W 4 0 x y) (d3 : u_dd 4 (u_c (u_sw W 0 x y) 0)) : u_o4 (u_sw W 0 x y) := by
  rcases hk with hs | hk | hk | hk | hk
  · obtain ⟨s1, s2, i0, j0, hi0, hj0, hne0, hlt0⟩ := id hs
    obtain ⟨fx0, fx1, fy0, fy1, fne, fl⟩ := id hf
    have hq := (fl i0 j0 hi0.1 hi0.2 hj0.1 hj0.2 hne0).1
    by_cases c : u_ab (W x y) = 3
    · exact u_o4_3 hs hf c d3
    · refine u_o4_12 (u_sw_b ⟨fx0, fx1⟩ ⟨fy0, fy1⟩ (fun i j hi hj => ?_)) (by rw [u_sw_00]; exact fne) (by rw [u_sw_00]; omega) d3
      rw [u_ab_e]
      by_cases e : i = j
      · subst e
        have := s2 i hi
        omega
      · have := s1 i j hi hj e
        omega
  · exact u_o4_k3 hk hf d3
  · exact u_o4_a3 hk hf d3
  · exact u_o4_k2 hk hf d3
  · exact u_o4_a2 hk hf d3
theorem u_R4 : u_R (u_BB u_b3 u_b4) 4 := by
  intro m W x y hB hf d1 d2 d3
  obtain ⟨hT, hb⟩ := hB
  have hT := hT (by omega)
  obtain ⟨o1, o2⟩ := u_o4_all (show u_b4 W from hb) hf d3
  have hT1 := hT.cl (x := x) (y := y) (by omega) hf
  have hT2 := fun ha u j u0 u1 j0 j1 h => hT.ad (x := x) (y := y) (u := u) (j := j) (by omega) hf ha u0 u1 j0 j1 h
  refine ⟨fun na => ?_, fun al => ?_⟩
  · obtain ⟨⟨m', g1, g2⟩, -⟩ := hT1 na
    exact ⟨m', g1, fun _ => g2, o1 na⟩
  · obtain ⟨w1, w2, w3⟩ := o2 al
    refine ⟨fun i j i0 i1 j0 j1 => ab_b (by have := w1 i j ⟨i0, i1⟩ ⟨j0, j1⟩; omega), fun hev => ?_, fun u j u0 u1 j0 j1 hnd => ?_⟩
    · obtain ⟨c, hc, g⟩ := u_nz al d3 1 ⟨by omega, by omega⟩
      obtain ⟨m', gm⟩ := u_Tm.nw (z := 3) (W := u_sh (u_c (u_sw W 0 x y) 0) 1) (i := 0) (j := c - 1) (by omega) (by omega) (by have := hc.1; omega) (by have := hc.2; omega) (by
        show u_c (u_sw W 0 x y) 0 (1 + 0) (1 + (c - 1)) ≠ 0
        rw [show (1 : Int) + 0 = 1 by omega, show 1 + (c - 1) = c by omega]
        exact g)
      exact ⟨m', fun _ => gm, w2 (fun i j hi hj => hev i j (by have := hi.1; omega) hi.2 (by have := hj.1; omega) hj.2)⟩
    · obtain ⟨m', g1, g2⟩ := hT2 al u j u0 u1 j0 j1 hnd
      exact ⟨m', g1, fun _ => g2, w3 u j ⟨by omega, u1⟩ ⟨by omega, j1⟩ hnd⟩
end R4B
