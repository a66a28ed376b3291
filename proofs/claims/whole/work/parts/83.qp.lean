/-! parts of the reference -/
theorem ab_p {x a X A : Int} (h : u_ab x ≤ X) (h' : u_ab a ≤ A) (hA : 0 ≤ X) : u_ab (x * a) ≤ X * A := by
  rw [ab_mul]
  exact Int.mul_le_mul h h' (u_ab_n _) hA
def u_od (s : Int) (X : Int → Int → Int) : Prop := (∀ i j : Int, 0 ≤ i → i < s → 0 ≤ j → j < s → i ≠ j → u_ab (X i j) ≤ 3) ∧ ∀ i : Int, 0 ≤ i → i < s → u_ab (X i i) ≤ 12
section UOD
variable {X : Int → Int → Int} {s : Int}
theorem u_od.dd (h : u_od s X) {a b : Int} (a0 : 0 ≤ a) (a1 : a < s) (b0 : 0 ≤ b) (b1 : b < s) (hab : a ≠ b) : u_ab (m2 X a b a b) ≤ 153 := by
  unfold m2
  have q := ab_sub (X a a * X b b) (X a b * X b a)
  have q1 := ab_p (h.2 a a0 a1) (h.2 b b0 b1) (by omega)
  have q2 := ab_p (h.1 a b a0 a1 b0 b1 hab) (h.1 b a b0 b1 a0 a1 (fun e => hab e.symm)) (by omega)
  omega
/-- one of the diagonal in the first column -/
theorem u_od.d1 (h : u_od s X) {a b c e : Int} (ha : 0 ≤ a ∧ a < s) (hb : 0 ≤ b ∧ b < s) (hc : 0 ≤ c ∧ c < s) (he : 0 ≤ e ∧ e < s) (n1 : (a ≠ c ∨ b ≠ e)) (n2 : (a ≠ e ∨ b ≠ c)) (n3 : a ≠ b) (n4 : c ≠ e) (n5 : (a ≠ c ∧ a ≠ e) ∨ (b ≠ c ∧ b ≠ e)) : u_ab (m2 X a b c e) ≤ 45 := by
  unfold m2
  have q := ab_sub (X a c * X b e) (X a e * X b c)
  have g : ∀ i j : Int, 0 ≤ i ∧ i < s → 0 ≤ j ∧ j < s → u_ab (X i j) ≤ 12 ∧ (i ≠ j → u_ab (X i j) ≤ 3) := fun i j hi hj => by
    by_cases e : i = j
    · subst e
      exact ⟨h.2 i hi.1 hi.2, fun e => absurd rfl e⟩
    · have := h.1 i j hi.1 hi.2 hj.1 hj.2 e
      exact ⟨by omega, fun _ => this⟩
  have gac := g a c ha hc
  have gbe := g b e hb he
  have gae := g a e ha he
  have gbc := g b c hb hc
  rcases n5 with ⟨m1, m2⟩ | ⟨m1, m2⟩
  · by_cases ce : b = e
    · have q1 := ab_p (gac.2 m1) gbe.1 (by omega)
      have q2 := ab_p (gae.2 m2) (gbc.2 (by omega)) (by omega)
      omega
    · have q1 := ab_p (gac.2 m1) (gbe.2 ce) (by omega)
      have q2 := ab_p (gae.2 m2) gbc.1 (by omega)
      omega
  · by_cases ce : a = e
    · have q1 := ab_p (gac.2 (by omega)) (gbe.2 m2) (by omega)
      have q2 := ab_p gae.1 (gbc.2 m1) (by omega)
      omega
    · have q1 := ab_p gac.1 (gbe.2 m2) (by omega)
      have q2 := ab_p (gae.2 ce) (gbc.2 m1) (by omega)
      omega
theorem ab_3 {x y z : Int} : u_ab (x - y + z) ≤ u_ab x + u_ab y + u_ab z := by
  have := ab_add (x - y) z
  have := ab_sub x y
  omega
theorem u_od.dt (hs : 1 ≤ s ∧ s ≤ 4) (h : u_od s X) : u_ab (u_dt s X) ≤ 31833 := by
  have o := h.1
  have hs' : s = 1 ∨ s = 2 ∨ s = 3 ∨ s = 4 := by omega
  rcases hs' with rfl | rfl | rfl | rfl
  · rw [u_dt_1]
    have := h.2 0 (by omega) (by omega)
    omega
  · rw [u_dt_2]
    have := h.dd (a := 0) (b := 1) (by omega) (by omega) (by omega) (by omega) (by omega)
    omega
  · rw [u_dt_3]
    unfold m3
    have q := ab_3 (x := X 0 0 * m2 X 1 2 1 2) (y := X 0 1 * m2 X 1 2 0 2) (z := X 0 2 * m2 X 1 2 0 1)
    have q1 := ab_p (h.2 0 (by omega) (by omega)) (h.dd (a := 1) (b := 2) (by omega) (by omega) (by omega) (by omega) (by omega)) (by omega)
    have q2 := ab_p (o 0 1 (by omega) (by omega) (by omega) (by omega) (by omega)) (h.d1 (a := 1) (b := 2) (c := 0) (e := 2) (by omega) (by omega) (by omega) (by omega) (by omega) (by omega) (by omega) (by omega) (by omega)) (by omega)
    have q3 := ab_p (o 0 2 (by omega) (by omega) (by omega) (by omega) (by omega)) (h.d1 (a := 1) (b := 2) (c := 0) (e := 1) (by omega) (by omega) (by omega) (by omega) (by omega) (by omega) (by omega) (by omega) (by omega)) (by omega)
    omega
  · rw [u_dt_4]
    have t0 : u_ab (m3 X 1 2 3 1 2 3) ≤ 2106 := by
      unfold m3
      have q := ab_3 (x := X 1 1 * m2 X 2 3 2 3) (y := X 1 2 * m2 X 2 3 1 3) (z := X 1 3 * m2 X 2 3 1 2)
      have q1 := ab_p (h.2 1 (by omega) (by omega)) (h.dd (a := 2) (b := 3) (by omega) (by omega) (by omega) (by omega) (by omega)) (by omega)
      have q2 := ab_p (o 1 2 (by omega) (by omega) (by omega) (by omega) (by omega)) (h.d1 (a := 2) (b := 3) (c := 1) (e := 3) (by omega) (by omega) (by omega) (by omega) (by omega) (by omega) (by omega) (by omega) (by omega)) (by omega)
      have q3 := ab_p (o 1 3 (by omega) (by omega) (by omega) (by omega) (by omega)) (h.d1 (a := 2) (b := 3) (c := 1) (e := 2) (by omega) (by omega) (by omega) (by omega) (by omega) (by omega) (by omega) (by omega) (by omega)) (by omega)
      omega
    have t1 : u_ab (m3 X 1 2 3 0 2 3) ≤ 729 := by
      unfold m3
      have q := ab_3 (x := X 1 0 * m2 X 2 3 2 3) (y := X 1 2 * m2 X 2 3 0 3) (z := X 1 3 * m2 X 2 3 0 2)
      have q1 := ab_p (o 1 0 (by omega) (by omega) (by omega) (by omega) (by omega)) (h.dd (a := 2) (b := 3) (by omega) (by omega) (by omega) (by omega) (by omega)) (by omega)
      have q2 := ab_p (o 1 2 (by omega) (by omega) (by omega) (by omega) (by omega)) (h.d1 (a := 2) (b := 3) (c := 0) (e := 3) (by omega) (by omega) (by omega) (by omega) (by omega) (by omega) (by omega) (by omega) (by omega)) (by omega)
      have q3 := ab_p (o 1 3 (by omega) (by omega) (by omega) (by omega) (by omega)) (h.d1 (a := 2) (b := 3) (c := 0) (e := 2) (by omega) (by omega) (by omega) (by omega) (by omega) (by omega) (by omega) (by omega) (by omega)) (by omega)
      omega
    have t2 : u_ab (m3 X 1 2 3 0 1 3) ≤ 729 := by
      have e : m3 X 1 2 3 0 1 3 = - (X 2 0 * m2 X 1 3 1 3 - X 2 1 * m2 X 1 3 0 3 + X 2 3 * m2 X 1 3 0 1) := by unfold m3 m2; grind
      rw [e, ab_neg]
      have q := ab_3 (x := X 2 0 * m2 X 1 3 1 3) (y := X 2 1 * m2 X 1 3 0 3) (z := X 2 3 * m2 X 1 3 0 1)
      have q1 := ab_p (o 2 0 (by omega) (by omega) (by omega) (by omega) (by omega)) (h.dd (a := 1) (b := 3) (by omega) (by omega) (by omega) (by omega) (by omega)) (by omega)
      have q2 := ab_p (o 2 1 (by omega) (by omega) (by omega) (by omega) (by omega)) (h.d1 (a := 1) (b := 3) (c := 0) (e := 3) (by omega) (by omega) (by omega) (by omega) (by omega) (by omega) (by omega) (by omega) (by omega)) (by omega)
      have q3 := ab_p (o 2 3 (by omega) (by omega) (by omega) (by omega) (by omega)) (h.d1 (a := 1) (b := 3) (c := 0) (e := 1) (by omega) (by omega) (by omega) (by omega) (by omega) (by omega) (by omega) (by omega) (by omega)) (by omega)
      omega
    have t3 : u_ab (m3 X 1 2 3 0 1 2) ≤ 729 := by
      have e : m3 X 1 2 3 0 1 2 = X 3 0 * m2 X 1 2 1 2 - X 3 1 * m2 X 1 2 0 2 + X 3 2 * m2 X 1 2 0 1 := by unfold m3 m2; grind
      rw [e]
      have q := ab_3 (x := X 3 0 * m2 X 1 2 1 2) (y := X 3 1 * m2 X 1 2 0 2) (z := X 3 2 * m2 X 1 2 0 1)
      have q1 := ab_p (o 3 0 (by omega) (by omega) (by omega) (by omega) (by omega)) (h.dd (a := 1) (b := 2) (by omega) (by omega) (by omega) (by omega) (by omega)) (by omega)
      have q2 := ab_p (o 3 1 (by omega) (by omega) (by omega) (by omega) (by omega)) (h.d1 (a := 1) (b := 2) (c := 0) (e := 2) (by omega) (by omega) (by omega) (by omega) (by omega) (by omega) (by omega) (by omega) (by omega)) (by omega)
      have q3 := ab_p (o 3 2 (by omega) (by omega) (by omega) (by omega) (by omega)) (h.d1 (a := 1) (b := 2) (c := 0) (e := 1) (by omega) (by omega) (by omega) (by omega) (by omega) (by omega) (by omega) (by omega) (by omega)) (by omega)
      omega
    unfold m4
    have q := ab_3 (x := X 0 0 * m3 X 1 2 3 1 2 3) (y := X 0 1 * m3 X 1 2 3 0 2 3) (z := X 0 2 * m3 X 1 2 3 0 1 3)
    have q' := ab_sub (X 0 0 * m3 X 1 2 3 1 2 3 - X 0 1 * m3 X 1 2 3 0 2 3 + X 0 2 * m3 X 1 2 3 0 1 3) (X 0 3 * m3 X 1 2 3 0 1 2)
    have q1 := ab_p (h.2 0 (by omega) (by omega)) t0 (by omega)
    have q2 := ab_p (o 0 1 (by omega) (by omega) (by omega) (by omega) (by omega)) t1 (by omega)
    have q3 := ab_p (o 0 2 (by omega) (by omega) (by omega) (by omega) (by omega)) t2 (by omega)
    have q4 := ab_p (o 0 3 (by omega) (by omega) (by omega) (by omega) (by omega)) t3 (by omega)
    omega
end UOD
theorem pt_a_cg {p p' : Nat → Int} {m : Nat} (h : ∀ j : Nat, 1 ≤ j → j ≤ m → p j = p' j) {i a : Int} (H : pt_a p m i a) : pt_a p' m i a := by
  have hf : ∀ k : Nat, k ≤ m → pt_f p k = pt_f p' k := fun k hk => pt_f_congr (fun j j1 j2 => h j j1 (by omega))
  rcases H with ⟨k, k1, k2, k3, k4⟩ | ⟨k1, k2⟩
  · refine Or.inl ⟨k, k1, ?_⟩
    rw [← h (k + 1) (by omega) (by omega), ← hf k (by omega)]
    exact ⟨k2, k3, k4⟩
  · refine Or.inr ⟨fun k hk => ?_, ?_⟩
    · rw [← h (k + 1) (by omega) (by omega), ← hf k (by omega)]
      exact k1 k hk
    · rw [← hf m (by omega)]
      exact k2
section QP
variable {L : Int → Int → Int} {n : Int}
theorem s_val_12 (hg : g_ok L) (hn : 2 ≤ n ∧ n ≤ 5) {p : Int} (h0 : 0 ≤ p) (h1 : p < n) : s_val L n p ≤ 12 := by
  have g := fun b (b0 : 0 ≤ b) (b1 : b < 5) => hg p b h0 (by omega) b0 b1
  have g0 := g 0 (by omega) (by omega)
  have g1 := g 1 (by omega) (by omega)
  have g2 := g 2 (by omega) (by omega)
  have g3 := g 3 (by omega) (by omega)
  have g4 := g 4 (by omega) (by omega)
  have hp : p = 0 ∨ p = 1 ∨ p = 2 ∨ p = 3 ∨ p = 4 := by omega
  have hpp : L p p = 0 := g0.2.2.2
  have en : n = 2 ∨ n = 3 ∨ n = 4 ∨ n = 5 := by omega
  rcases en with rfl | rfl | rfl | rfl
  · show 0 + L p 0 + L p 1 ≤ 12
    omega
  · show 0 + L p 0 + L p 1 + L p 2 ≤ 12
    omega
  · show 0 + L p 0 + L p 1 + L p 2 + L p 3 ≤ 12
    omega
  · show 0 + L p 0 + L p 1 + L p 2 + L p 3 + L p 4 ≤ 12
    rcases hp with rfl | rfl | rfl | rfl | rfl <;> omega
theorem u_dd0 (hg : g_ok L) (hn : 2 ≤ n ∧ n ≤ 5) (hJ : s_J L n) : u_dd (n - 1) (fun i j => s_M L n (i + 1) (j + 1)) := by
  refine ⟨?_, u_od.dt (by omega) ⟨fun i j i0 i1 j0 j1 hij => ?_, fun i i0 i1 => ?_⟩⟩
  · have h := d_T_pos (q := 0) hg hn (by omega) hJ
    rw [d_T_g] at h
    generalize s_M L n = M at h ⊢
    have en : n = 2 ∨ n = 3 ∨ n = 4 ∨ n = 5 := by omega
    rcases en with rfl | rfl | rfl | rfl
    · rw [g_T_2_0] at h
      have e : u_dt (2 - 1) (fun i j => M (i + 1) (j + 1)) = m1 M 1 1 := rfl
      omega
    · rw [g_T_3_0] at h
      have e : u_dt (3 - 1) (fun i j => M (i + 1) (j + 1)) = m2 M 1 2 1 2 := rfl
      omega
    · rw [g_T_4_0] at h
      have e : u_dt (4 - 1) (fun i j => M (i + 1) (j + 1)) = m3 M 1 2 3 1 2 3 := rfl
      omega
    · rw [g_T_5_0] at h
      have e : u_dt (5 - 1) (fun i j => M (i + 1) (j + 1)) = m4 M 1 2 3 4 1 2 3 4 := rfl
      omega
  · show u_ab (s_M L n (i + 1) (j + 1)) ≤ 3
    unfold s_M
    rw [if_neg (by omega), ab_neg, u_ab_e]
    have := hg (i + 1) (j + 1) (by omega) (by omega) (by omega) (by omega)
    omega
  · show u_ab (s_M L n (i + 1) (i + 1)) ≤ 12
    rw [s_M_d, u_ab_e]
    have := s_val_12 (L := L) (p := i + 1) hg hn (by omega) (by omega)
    have := s_val_bd (L := L) (n := n) (p := i + 1) hg (by omega) (by omega) (by omega) (by omega)
    omega
theorem u_BB0 (hg : g_ok L) (hn : 2 ≤ n ∧ n ≤ 5) (hJ : s_J L n) : ∃ m : Nat, u_BB u_b3 u_b4 (n - 1) m (fun i j => s_M L n (i + 1) (j + 1)) := by
  obtain ⟨U, eU⟩ : ∃ U : Int → Int → Int, U = fun i j => s_M L n (i + 1) (j + 1) := ⟨_, rfl⟩
  rw [← eU]
  have off : ∀ i j : Int, 0 ≤ i → i < n - 1 → 0 ≤ j → j < n - 1 → i ≠ j → -3 ≤ U i j ∧ U i j ≤ 0 := fun i j i0 i1 j0 j1 hij => by
    rw [eU]
    show -3 ≤ s_M L n (i + 1) (j + 1) ∧ s_M L n (i + 1) (j + 1) ≤ 0
    unfold s_M
    rw [if_neg (by omega)]
    have := hg (i + 1) (j + 1) (by omega) (by omega) (by omega) (by omega)
    omega
  have dia : ∀ i : Int, 0 ≤ i → i < n - 1 → 1 ≤ U i i ∧ U i i ≤ 12 := fun i i0 i1 => by
    rw [eU]
    show 1 ≤ s_M L n (i + 1) (i + 1) ∧ s_M L n (i + 1) (i + 1) ≤ 12
    rw [s_M_d]
    have := s_val_12 (L := L) (p := i + 1) hg hn (by omega) (by omega)
    have := s_J_val (p := i + 1) hg hn hJ (by omega) (by omega)
    omega
  have ab : ∀ i j : Int, 0 ≤ i → i < n - 1 → 0 ≤ j → j < n - 1 → u_ab (U i j) ≤ 12 := fun i j i0 i1 j0 j1 => by
    rw [u_ab_e]
    by_cases e : i = j
    · subst e
      have := dia i i0 i1
      omega
    · have := off i j i0 i1 j0 j1 e
      omega
  have d0 := dia 0 (by omega) (by omega)
  obtain ⟨m, hm⟩ := u_Tm.nw (z := n - 1) (W := U) (i := 0) (j := 0) (by omega) (by omega) (by omega) (by omega) (by omega)
  refine ⟨m, fun _ => hm, ?_⟩
  have en : n = 2 ∨ n = 3 ∨ n = 4 ∨ n = 5 := by omega
  have a0 := ab 0 0 (by omega) (by omega) (by omega) (by omega)
  rcases en with rfl | rfl | rfl | rfl
  · show u_b (U 0 0)
    exact ab_b (by omega)
  · show u_b2 U
    exact ⟨fun i j i0 i1 j0 j1 => by have := ab i j i0 (by omega) j0 (by omega); omega, 0, 0, by omega, by omega, by omega, by omega, by omega, by omega⟩
  · show u_b3 U
    exact u_g3.b3 (E := 12) (P := 12) ⟨fun i j i0 i1 j0 j1 => ab i j i0 (by omega) j0 (by omega), 0, 0, by omega, by omega, by omega, by omega, by omega, a0⟩ (by unfold u_nm; omega)
  · show u_b4 U
    refine Or.inl ⟨fun i j hi hj hij => off i j hi.1 (by have := hi.2; omega) hj.1 (by have := hj.2; omega) hij, fun i hi => dia i hi.1 (by have := hi.2; omega), ?_⟩
    have sm : ∀ j : Int, u_i 4 j → j ≠ 0 → U 0 j ≠ 0 → ∃ i j : Int, u_i 4 i ∧ u_i 4 j ∧ U i j ≠ 0 ∧ u_ab (U i j) ≤ 3 := fun j hj j0 hh => ⟨0, j, u_i0, hj, hh, by
      rw [u_ab_e]
      have := off 0 j (by omega) (by omega) hj.1 (by have := hj.2; omega) (fun e => j0 e.symm)
      omega⟩
    by_cases c1 : U 0 1 = 0
    · by_cases c2 : U 0 2 = 0
      · by_cases c3 : U 0 3 = 0
        · refine ⟨0, 0, u_i0, u_i0, by omega, ?_⟩
          have e0 : U 0 0 = 0 + L 1 0 + L 1 1 + L 1 2 + L 1 3 + L 1 4 := by rw [eU]; rfl
          have e1 : U 0 1 = - L 1 2 := by rw [eU]; rfl
          have e2 : U 0 2 = - L 1 3 := by rw [eU]; rfl
          have e3 : U 0 3 = - L 1 4 := by rw [eU]; rfl
          have g := hg 1 0 (by omega) (by omega) (by omega) (by omega)
          rw [u_ab_e]
          omega
        · exact sm 3 ⟨by omega, by omega⟩ (by omega) c3
      · exact sm 2 ⟨by omega, by omega⟩ (by omega) c2
    · exact sm 1 ⟨by omega, by omega⟩ (by omega) c1
end QP
section QP2
variable {A : Nat → Int → Int} {F : Nat → Nat → Int} {v : Int → Int} {ps : Int → Int → Int} {st : Int} {rf tx : Int → Int} {tl : Int}
theorem q_parts (RC : m_RC A F v ps st rf tx tl) {i : Int} (hi : fc_R i) : fh_E mX7_parts 6 [vR 143, vI i] A F (fun r A' F' => ∃ ans : Int, (x_prt v i = 0 → ∀ G : Nat → Nat, d_G (v_L v) (v 0) G (v 0 - 1).toNat → pt_a (pt_p G) (v 0 - 1).toNat i ans) ∧ m_an A F (x_prt v i) ans v ps st rf tx tl r A' F') := by
  obtain ⟨e, hv, -⟩ := id RC
  have hn := hv.n
  by_cases hJ : s_J (v_L v) (v 0)
  · obtain ⟨m0, hm0⟩ := u_BB0 hv.g hn hJ
    have dd := u_dd0 hv.g hn hJ
    have hR : ∀ z : Int, 1 ≤ z → z ≤ v 0 - 1 → u_R (u_BB u_b3 u_b4) z := fun z z0 z1 => by
      have hz : z = 1 ∨ z = 2 ∨ z = 3 ∨ z = 4 := by omega
      rcases hz with rfl | rfl | rfl | rfl
      · exact u_R1
      · exact u_R2
      · exact u_R3
      · exact u_R4
    refine (q_parts0 RC hi (P := u_P (fun i j => s_M (v_L v) (v 0) (i + 1) (j + 1)) (v 0 - 1) (u_BU (v 0 - 1) (u_BB u_b3 u_b4))) (m0 := m0) (u_P_H1 (u_BU_H1 (fun z m W z0 z1 hB => ?_))) (u_P_H2 (u_BU_H2 (by omega) dd hR)) (fun _ => ⟨u_EE.rf, fun j i j0 j1 => by omega, fun j j0 j1 => by omega, ?_⟩) (fun m U hP j j0 j1 => ?_)).mono ?_
    · obtain ⟨hT, hb⟩ := hB
      refine ⟨fun i j i0 i1 j0 j1 => ?_, (hT z0).ne z0⟩
      have hz : z = 1 ∨ z = 2 ∨ z = 3 ∨ z = 4 := by omega
      rcases hz with rfl | rfl | rfl | rfl
      · have hb : u_b (W 0 0) := hb
        rw [show i = 0 by omega, show j = 0 by omega]
        exact hb
      · have hb : u_b2 W := hb
        exact ab_b (by have := hb.1 i j i0 i1 j0 j1; omega)
      · have hb : u_b3 W := hb
        exact ab_b (by have := hb.1 i j i0 i1 j0 j1; omega)
      · have hb : u_b4 W := hb
        have big : u_ab (W i j) ≤ 171 := by
          have ii : u_i 4 i := ⟨i0, i1⟩
          have ij : u_i 4 j := ⟨j0, j1⟩
          rcases hb with hs | hk | hk | hk | hk
          · rw [u_ab_e]
            by_cases ee : i = j
            · subst ee
              have := hs.2.1 i ii
              omega
            · have := hs.1 i j ii ij ee
              omega
          · obtain ⟨k1, k2, k3, -⟩ := hk
            rcases ii.n with rfl | hi
            · rcases ij.n with rfl | hj
              · omega
              · have := (k2 j hj).2; omega
            · rcases ij.n with rfl | hj
              · have := (k2 i hi).1; omega
              · have := k3 i j hi hj; omega
          · have := hk.2.2.1 i j ii ij; omega
          · obtain ⟨k1, k2, k3, -⟩ := hk
            rcases ii.n with rfl | hi
            · rcases ij.n with rfl | hj
              · omega
              · have := (k2 j hj).2; omega
            · rcases ij.n with rfl | hj
              · have := (k2 i hi).1; omega
              · have := k3 i j hi hj; omega
          · have := hk.2.2.2.1 i j ii ij; omega
        exact ab_b (by omega)
    · show u_BB u_b3 u_b4 (v 0 - 1 - 0) m0 (u_sh _ 0)
      rw [u_sh_0, Int.sub_zero]
      exact hm0
    · have hbb := (hP.2.2.1 j j0 j1).2.1
      rw [u_ab_e]
      have := hbb.1
      have := hbb.2
      omega
    · rintro r A' F' ⟨ans, h1, h2⟩
      refine ⟨ans, fun hx G hG => ?_, h2⟩
      obtain ⟨m, U, hP, ha⟩ := h1 hx
      refine pt_a_cg (fun t t0 t1 => ?_) ha
      exact u_fin hn hG hP.1 hP.2.1 (fun j j0 j1 => (hP.2.2.1 j j0 j1).2.2) (fun j j0 j1 => (hP.2.2.1 j j0 j1).1) t t0 t1
  · refine (q_parts0 RC hi (P := fun _ _ _ => False) (m0 := 0) (fun k m U _ _ h => h.elim) (fun k m U x y _ _ h => h.elim) (fun h => absurd h hJ) (fun m U h => h.elim)).mono ?_
    rintro r A' F' ⟨ans, h1, h2⟩
    refine ⟨ans, fun hx => ?_, h2⟩
    obtain ⟨m, U, hP, ha⟩ := h1 hx
    exact hP.elim
end QP2
