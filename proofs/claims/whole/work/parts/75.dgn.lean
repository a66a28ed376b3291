/-! a diagonal whose entries divide one another -/
def u_pr (U : Int → Int → Int) : Nat → Int
  | 0 => 1
  | t + 1 => u_pr U t * U t t
theorem dv2 {U : Int → Int → Int} {x y a b e f : Int} (h1 : ∀ q : Int, q = e ∨ q = f → x ∣ U a q) (h2 : ∀ q : Int, q = e ∨ q = f → y ∣ U b q) : x * y ∣ m2 U a b e f := by
  unfold m2
  exact Int.dvd_sub (Int.mul_dvd_mul (h1 e (Or.inl rfl)) (h2 f (Or.inr rfl))) (Int.mul_dvd_mul (h1 f (Or.inr rfl)) (h2 e (Or.inl rfl)))
theorem dv3 {U : Int → Int → Int} {x y z a b c e f g : Int} (h1 : ∀ q : Int, q = e ∨ q = f ∨ q = g → x ∣ U a q) (h2 : ∀ q : Int, q = e ∨ q = f ∨ q = g → y ∣ U b q) (h3 : ∀ q : Int, q = e ∨ q = f ∨ q = g → z ∣ U c q) : x * (y * z) ∣ m3 U a b c e f g := by
  unfold m3
  refine Int.dvd_add (Int.dvd_sub (Int.mul_dvd_mul (h1 e (by simp)) (dv2 (fun q hq => h2 q ?_) (fun q hq => h3 q ?_))) (Int.mul_dvd_mul (h1 f (by simp)) (dv2 (fun q hq => h2 q ?_) (fun q hq => h3 q ?_)))) (Int.mul_dvd_mul (h1 g (by simp)) (dv2 (fun q hq => h2 q ?_) (fun q hq => h3 q ?_)))
  all_goals (rcases hq with h | h <;> simp [h])
theorem dv4 {U : Int → Int → Int} {x y z w a b c o e f g h : Int} (h1 : ∀ q : Int, q = e ∨ q = f ∨ q = g ∨ q = h → x ∣ U a q) (h2 : ∀ q : Int, q = e ∨ q = f ∨ q = g ∨ q = h → y ∣ U b q) (h3 : ∀ q : Int, q = e ∨ q = f ∨ q = g ∨ q = h → z ∣ U c q) (h4 : ∀ q : Int, q = e ∨ q = f ∨ q = g ∨ q = h → w ∣ U o q) : x * (y * (z * w)) ∣ m4 U a b c o e f g h := by
  unfold m4
  refine Int.dvd_sub (Int.dvd_add (Int.dvd_sub (Int.mul_dvd_mul (h1 e (by simp)) (dv3 (fun q hq => h2 q ?_) (fun q hq => h3 q ?_) (fun q hq => h4 q ?_))) (Int.mul_dvd_mul (h1 f (by simp)) (dv3 (fun q hq => h2 q ?_) (fun q hq => h3 q ?_) (fun q hq => h4 q ?_)))) (Int.mul_dvd_mul (h1 g (by simp)) (dv3 (fun q hq => h2 q ?_) (fun q hq => h3 q ?_) (fun q hq => h4 q ?_)))) (Int.mul_dvd_mul (h1 h (by simp)) (dv3 (fun q hq => h2 q ?_) (fun q hq => h3 q ?_) (fun q hq => h4 q ?_)))
  all_goals (rcases hq with h | h | h <;> simp [h])
section DGN
variable {U : Int → Int → Int} {s d : Int}
theorem u_pr_1 : u_pr U 1 = U 0 0 := by show 1 * U 0 0 = _; rw [Int.one_mul]
theorem u_pr_2 : u_pr U 2 = U 0 0 * U 1 1 := by show u_pr U 1 * U 1 1 = _; rw [u_pr_1]
theorem u_pr_3 : u_pr U 3 = U 0 0 * (U 1 1 * U 2 2) := by show u_pr U 2 * U 2 2 = _; rw [u_pr_2, Int.mul_assoc]
theorem u_pr_4 : u_pr U 4 = U 0 0 * (U 1 1 * (U 2 2 * U 3 3)) := by show u_pr U 3 * U 3 3 = _; rw [u_pr_3, Int.mul_assoc, Int.mul_assoc]
theorem u_row (hd : u_dg U s s) (hc : ∀ j : Int, 0 ≤ j → j < s → ∀ i i' : Int, j ≤ i → i < s → j ≤ i' → i' < s → U j j ∣ U i i') {a q j : Int} (ha : u_i s a) (hq : u_i s q) (j0 : 0 ≤ j) (j1 : j ≤ a) : U j j ∣ U a q := by
  have := ha.2
  by_cases c : q = a
  · rw [c]; exact hc j j0 (by omega) a a j1 ha.2 j1 ha.2
  · rw [(hd q a hq.1 hq.2 ha (fun h => c h.symm)).1]; exact Int.dvd_zero _
theorem u_dg_1 (hd : u_dg U s s) (hc : ∀ j : Int, 0 ≤ j → j < s → ∀ i i' : Int, j ≤ i → i < s → j ≤ i' → i' < s → U j j ∣ U i i') (hs : 1 ≤ s) : u_D1 d U s ↔ d ∣ u_pr U 1 := by
  rw [u_pr_1]
  constructor
  · intro H
    exact H 0 0 ⟨by omega, by omega⟩ ⟨by omega, by omega⟩
  · intro H a e ha he
    exact Int.dvd_trans H (u_row hd hc ha he (by omega) ha.1)
theorem u_dg_2 (hd : u_dg U s s) (hc : ∀ j : Int, 0 ≤ j → j < s → ∀ i i' : Int, j ≤ i → i < s → j ≤ i' → i' < s → U j j ∣ U i i') (hs : 2 ≤ s) : u_D2 d U s ↔ d ∣ u_pr U 2 := by
  rw [u_pr_2]
  constructor
  · intro H
    have := H 0 1 0 1 ⟨by omega, by omega⟩ ⟨by omega, by omega⟩ ⟨by omega, by omega⟩ ⟨by omega, by omega⟩
    unfold m2 at this
    rw [(hd 0 1 (by omega) (by omega) ⟨by omega, by omega⟩ (by omega)).1, Int.mul_zero, Int.sub_zero] at this
    exact this
  · intro H
    refine u_D2_r (fun a b e f ha hb he hf hab => Int.dvd_trans H (dv2 (fun q hq => ?_) (fun q hq => ?_)))
    all_goals (have ha0 := ha.1; have hqq : u_i s q := by rcases hq with h | h <;> (rw [h]; assumption))
    · exact u_row hd hc ha hqq (by omega) (by omega)
    · exact u_row hd hc hb hqq (by omega) (by omega)
theorem u_dg_3 (hd : u_dg U s s) (hc : ∀ j : Int, 0 ≤ j → j < s → ∀ i i' : Int, j ≤ i → i < s → j ≤ i' → i' < s → U j j ∣ U i i') (hs : 3 ≤ s) : u_D3 d U s ↔ d ∣ u_pr U 3 := by
  rw [u_pr_3]
  constructor
  · intro H
    have := H 0 1 2 0 1 2 ⟨by omega, by omega⟩ ⟨by omega, by omega⟩ ⟨by omega, by omega⟩ ⟨by omega, by omega⟩ ⟨by omega, by omega⟩ ⟨by omega, by omega⟩
    unfold m3 m2 at this
    rw [(hd 0 1 (by omega) (by omega) ⟨by omega, by omega⟩ (by omega)).2, (hd 0 2 (by omega) (by omega) ⟨by omega, by omega⟩ (by omega)).2, (hd 1 2 (by omega) (by omega) ⟨by omega, by omega⟩ (by omega)).2] at this
    simp only [Int.zero_mul, Int.sub_zero, Int.add_zero] at this
    exact this
  · intro H
    refine u_D3_r (fun a b c e f g ha hb hcc he hf hg hab hbc => Int.dvd_trans H (dv3 (fun q hq => ?_) (fun q hq => ?_) (fun q hq => ?_)))
    all_goals (have ha0 := ha.1; have hqq : u_i s q := by rcases hq with h | h | h <;> (rw [h]; assumption))
    · exact u_row hd hc ha hqq (by omega) (by omega)
    · exact u_row hd hc hb hqq (by omega) (by omega)
    · exact u_row hd hc hcc hqq (by omega) (by omega)
theorem u_dg_4 (hd : u_dg U s s) (hc : ∀ j : Int, 0 ≤ j → j < s → ∀ i i' : Int, j ≤ i → i < s → j ≤ i' → i' < s → U j j ∣ U i i') (hs : 4 ≤ s) : u_D4 d U s ↔ d ∣ u_pr U 4 := by
  rw [u_pr_4]
  constructor
  · intro H
    have := H 0 1 2 3 0 1 2 3 ⟨by omega, by omega⟩ ⟨by omega, by omega⟩ ⟨by omega, by omega⟩ ⟨by omega, by omega⟩ ⟨by omega, by omega⟩ ⟨by omega, by omega⟩ ⟨by omega, by omega⟩ ⟨by omega, by omega⟩
    unfold m4 m3 m2 at this
    rw [(hd 0 1 (by omega) (by omega) ⟨by omega, by omega⟩ (by omega)).2, (hd 0 2 (by omega) (by omega) ⟨by omega, by omega⟩ (by omega)).2, (hd 0 3 (by omega) (by omega) ⟨by omega, by omega⟩ (by omega)).2, (hd 1 2 (by omega) (by omega) ⟨by omega, by omega⟩ (by omega)).2, (hd 1 3 (by omega) (by omega) ⟨by omega, by omega⟩ (by omega)).2, (hd 2 3 (by omega) (by omega) ⟨by omega, by omega⟩ (by omega)).2] at this
    simp only [Int.zero_mul, Int.sub_zero, Int.add_zero] at this
    exact this
  · intro H
    refine u_D4_r (fun a b c o e f g h ha hb hcc ho he hf hg hh hab hbc hco => Int.dvd_trans H (dv4 (fun q hq => ?_) (fun q hq => ?_) (fun q hq => ?_) (fun q hq => ?_)))
    all_goals (have ha0 := ha.1; have hqq : u_i s q := by rcases hq with h | h | h | h <;> (rw [h]; assumption))
    · exact u_row hd hc ha hqq (by omega) (by omega)
    · exact u_row hd hc hb hqq (by omega) (by omega)
    · exact u_row hd hc hcc hqq (by omega) (by omega)
    · exact u_row hd hc ho hqq (by omega) (by omega)
end DGN
theorem u_eqd {g : Nat} {x : Int} (h : ∀ d : Nat, d ∣ g ↔ (d : Int) ∣ x) : g = x.natAbs := by
  refine Nat.dvd_antisymm ?_ ?_
  · exact Int.ofNat_dvd_left.1 ((h g).1 (Nat.dvd_refl g))
  · exact (h x.natAbs).2 (Int.ofNat_dvd_left.2 (Nat.dvd_refl _))
theorem u_G {L : Int → Int → Int} {n : Int} (hn : 2 ≤ n ∧ n ≤ 5) {G : Nat → Nat} (hG : d_G L n G (n - 1).toNat) {U : Int → Int → Int} (hE : u_EE (fun i j => s_M L n (i + 1) (j + 1)) U (n - 1)) (hd : u_dg U (n - 1) (n - 1)) (hc : ∀ j : Int, 0 ≤ j → j < n - 1 → ∀ i i' : Int, j ≤ i → i < n - 1 → j ≤ i' → i' < n - 1 → U j j ∣ U i i') : ∀ t : Nat, (t : Int) ≤ n - 1 → G t = (u_pr U t).natAbs := by
  intro t ht
  by_cases t0 : t = 0
  · rw [t0, hG.1]; rfl
  · have hk := (hG.2 t (by omega) (by omega)).2
    refine u_eqd (fun d => (hk d).trans ?_)
    have hn' : n = 2 ∨ n = 3 ∨ n = 4 ∨ n = 5 := by omega
    have ht' : t = 1 ∨ t = 2 ∨ t = 3 ∨ t = 4 := by omega
    rcases ht' with rfl | rfl | rfl | rfl
    · rw [← u_dg_1 hd hc (by omega)]
      have e : u_D1 (d : Int) (fun i j => s_M L n (i + 1) (j + 1)) (n - 1) ↔ u_D1 (d : Int) U (n - 1) := ⟨(hE.1 d).1, (hE.2 d).1⟩
      rw [← e]
      rcases hn' with rfl | rfl | rfl | rfl
      · exact u_lk_2_1
      · exact u_lk_3_1
      · exact u_lk_4_1
      · exact u_lk_5_1
    · rw [← u_dg_2 hd hc (by omega)]
      have e : u_D2 (d : Int) (fun i j => s_M L n (i + 1) (j + 1)) (n - 1) ↔ u_D2 (d : Int) U (n - 1) := ⟨(hE.1 d).2.1, (hE.2 d).2.1⟩
      rw [← e]
      rcases hn' with rfl | rfl | rfl | rfl
      · exfalso; omega
      · exact u_lk_3_2
      · exact u_lk_4_2
      · exact u_lk_5_2
    · rw [← u_dg_3 hd hc (by omega)]
      have e : u_D3 (d : Int) (fun i j => s_M L n (i + 1) (j + 1)) (n - 1) ↔ u_D3 (d : Int) U (n - 1) := ⟨(hE.1 d).2.2.1, (hE.2 d).2.2.1⟩
      rw [← e]
      rcases hn' with rfl | rfl | rfl | rfl
      · exfalso; omega
      · exfalso; omega
      · exact u_lk_4_3
      · exact u_lk_5_3
    · rw [← u_dg_4 hd hc (by omega)]
      have e : u_D4 (d : Int) (fun i j => s_M L n (i + 1) (j + 1)) (n - 1) ↔ u_D4 (d : Int) U (n - 1) := ⟨(hE.1 d).2.2.2, (hE.2 d).2.2.2⟩
      rw [← e]
      rcases hn' with rfl | rfl | rfl | rfl
      · exfalso; omega
      · exfalso; omega
      · exfalso; omega
      · exact u_lk_5_4
theorem u_fin {L : Int → Int → Int} {n : Int} (hn : 2 ≤ n ∧ n ≤ 5) {G : Nat → Nat} (hG : d_G L n G (n - 1).toNat) {U : Int → Int → Int} (hE : u_EE (fun i j => s_M L n (i + 1) (j + 1)) U (n - 1)) (hd : u_dg U (n - 1) (n - 1)) (hc : ∀ j : Int, 0 ≤ j → j < n - 1 → ∀ i i' : Int, j ≤ i → i < n - 1 → j ≤ i' → i' < n - 1 → U j j ∣ U i i') (hz : ∀ j : Int, 0 ≤ j → j < n - 1 → U j j ≠ 0) : ∀ t : Nat, 1 ≤ t → t ≤ (n - 1).toNat → u_ab (U ((t : Int) - 1) ((t : Int) - 1)) = pt_p G t := by
  intro t t0 t1
  obtain ⟨r, rfl⟩ : ∃ r : Nat, t = r + 1 := ⟨t - 1, by omega⟩
  have h := u_G hn hG hE hd hc
  have hp : ∀ q : Nat, (q : Int) ≤ n - 1 → u_pr U q ≠ 0 := by
    intro q
    induction q with
    | zero => intro _; exact (by decide : (1 : Int) ≠ 0)
    | succ q ih =>
      intro hq
      exact Int.mul_ne_zero (ih (by omega)) (hz q (by omega) (by omega))
  have h1 := h (r + 1) (by omega)
  have h2 := h r (by omega)
  have h3 := hp r (by omega)
  unfold pt_p
  rw [show r + 1 - 1 = r by omega, h1, h2, if_pos (by omega), show ((r + 1 : Nat) : Int) - 1 = (r : Int) by omega]
  show _ = (((u_pr U r * U r r).natAbs : Nat) : Int).tdiv ((u_pr U r).natAbs : Nat)
  rw [Int.natAbs_mul, Int.natCast_mul, Int.mul_tdiv_cancel_left _ (by omega)]
  unfold u_ab
  split <;> omega
