/-! settling: nothing below 0, the relation that is kept, and its end within a million sweeps -/
theorem fs_sum_add {f g : Int → Int} : ∀ {m : Nat}, fs_sum (fun k => f k + g k) m = fs_sum f m + fs_sum g m
  | 0 => rfl
  | m + 1 => by
    show fs_sum (fun k => f k + g k) m + (f m + g m) = fs_sum f m + f m + (fs_sum g m + g m)
    rw [fs_sum_add (m := m)]; omega
theorem fs_sum_sub {f g : Int → Int} : ∀ {m : Nat}, fs_sum (fun k => f k - g k) m = fs_sum f m - fs_sum g m
  | 0 => rfl
  | m + 1 => by
    show fs_sum (fun k => f k - g k) m + (f m - g m) = fs_sum f m + f m - (fs_sum g m + g m)
    rw [fs_sum_sub (m := m)]; omega
theorem fs_sum_mul {f : Int → Int} {c : Int} : ∀ {m : Nat}, fs_sum (fun k => c * f k) m = c * fs_sum f m
  | 0 => by simp [fs_sum]
  | m + 1 => by
    show fs_sum (fun k => c * f k) m + c * f m = c * (fs_sum f m + f m)
    rw [fs_sum_mul (m := m), Int.mul_add]
theorem fs_sum_zero : ∀ {m : Nat}, fs_sum (fun _ => 0) m = 0
  | 0 => rfl
  | m + 1 => by show fs_sum (fun _ => 0) m + 0 = 0; rw [fs_sum_zero (m := m)]; rfl
theorem fs_sum_one {k a : Int} : ∀ {m : Nat}, 0 ≤ k → k < m → fs_sum (fun o => if o = k then a else 0) m = a
  | 0, h0, h1 => by omega
  | m + 1, h0, h1 => by
    show fs_sum (fun o => if o = k then a else 0) m + (if ((m : Nat) : Int) = k then a else 0) = a
    by_cases e : ((m : Nat) : Int) = k
    · rw [if_pos e, fs_sum_congr (g := fun _ => 0) (fun j q0 q1 => by rw [if_neg (by omega)]), fs_sum_zero]; omega
    · rw [if_neg e, fs_sum_one (m := m) h0 (by omega)]; omega
theorem fs_sum_le {f g : Int → Int} : ∀ {m : Nat}, (∀ k : Int, 0 ≤ k → k < m → f k ≤ g k) → fs_sum f m ≤ fs_sum g m
  | 0, _ => Int.le_refl 0
  | m + 1, h => by
    show fs_sum f m + f m ≤ fs_sum g m + g m
    have := fs_sum_le (m := m) (fun k q0 q1 => h k q0 (by omega))
    have := h m (by omega) (by omega)
    omega
section ST
variable {L : Int → Int → Int} {n q : Int}
theorem s_M_row (hg : g_ok L) (hn : 0 ≤ n ∧ n ≤ 5) {p : Int} (h0 : 0 ≤ p) (h1 : p < n) : fs_sum (s_M L n p) n.toNat = 0 := by
  have e : fs_sum (s_M L n p) n.toNat = fs_sum (fun o => (if o = p then s_val L n p else 0) - L p o) n.toNat := by
    refine fs_sum_congr fun k q0 q1 => ?_
    unfold s_M
    by_cases e : p = k
    · rw [if_pos e, if_pos e.symm]
      have := (hg p k h0 (by omega) q0 (by omega)).2.2.2
      rw [← e]
      omega
    · rw [if_neg e, if_neg (fun z => e z.symm)]
      omega
  rw [e, fs_sum_sub, fs_sum_one h0 (by omega)]
  unfold s_val
  omega
theorem s_M_sym (hg : g_ok L) (hn : 0 ≤ n ∧ n ≤ 5) {a b : Int} (h0 : 0 ≤ a) (h1 : a < n) (h2 : 0 ≤ b) (h3 : b < n) : s_M L n a b = s_M L n b a := by
  unfold s_M
  by_cases e : a = b
  · rw [if_pos e, if_pos e.symm, e]
  · rw [if_neg e, if_neg (fun z => e z.symm), (hg a b h0 (by omega) h2 (by omega)).2.2.1]
/-- chips and script together: what a step keeps -/
def s_kp (L : Int → Int → Int) (n : Int) (x f : Int → Int) (o : Int) : Int := x o + fs_sum (fun p => f p * s_M L n p o) n.toNat
theorem s_kp_fire {x f : Int → Int} {p t o : Int} (h0 : 0 ≤ p) (h1 : p < n) (h2 : 0 ≤ o) (h3 : o < n) : s_kp L n (s_fire L n p t x) (fc_set f p (f p + t)) o = s_kp L n x f o := by
  unfold s_kp
  have e1 : fs_sum (fun k => fc_set f p (f p + t) k * s_M L n k o) n.toNat = fs_sum (fun k => f k * s_M L n k o) n.toNat + t * s_M L n p o := by
    rw [fs_sum_congr (g := fun k => f k * s_M L n k o + (if k = p then t * s_M L n p o else 0)) (fun k q0 q1 => ?_), fs_sum_add, fs_sum_one h0 (by omega)]
    unfold fc_set
    by_cases e : k = p
    · rw [if_pos e, if_pos e, e, Int.add_mul]
    · rw [if_neg e, if_neg e]; omega
  rw [e1]
  unfold s_fire
  rw [if_pos ⟨h2, h3⟩]
  omega
/-- weights that fall with each firing -/
def s_wt (L : Int → Int → Int) (n q : Int) (h : Int → Int) : Prop := (∀ p : Int, 0 ≤ p → p < n → 0 ≤ h p ∧ h p ≤ 256) ∧ h q = 0 ∧ ∀ p : Int, 0 ≤ p → p < n → p ≠ q → 1 ≤ fs_sum (fun o => s_M L n p o * h o) n.toNat
def s_ph (n : Int) (h x : Int → Int) : Int := fs_sum (fun o => h o * x o) n.toNat
theorem s_ph_fire {h x : Int → Int} {p t : Int} : s_ph n h (s_fire L n p t x) = s_ph n h x - t * fs_sum (fun o => s_M L n p o * h o) n.toNat := by
  unfold s_ph
  rw [← fs_sum_mul, ← fs_sum_sub]
  refine fs_sum_congr fun k q0 q1 => ?_
  unfold s_fire
  rw [if_pos ⟨q0, by omega⟩]
  grind
/-- the chips that are not the sink's -/
def s_tot (n q : Int) (x : Int → Int) : Int := fs_sum (fun o => if o = q then 0 else x o) n.toNat
theorem s_tot_fire (hg : g_ok L) (hn : 0 ≤ n ∧ n ≤ 5) (hq : 0 ≤ q ∧ q < n) {x : Int → Int} {p t : Int} (h0 : 0 ≤ p) (h1 : p < n) : s_tot n q (s_fire L n p t x) = s_tot n q x + t * s_M L n p q := by
  have e : s_tot n q (s_fire L n p t x) = fs_sum (fun o => ((if o = q then 0 else x o) - t * s_M L n p o) + (if o = q then t * s_M L n p q else 0)) n.toNat := by
    refine fs_sum_congr fun k q0 q1 => ?_
    by_cases e : k = q
    · rw [if_pos e, if_pos e, if_pos e, e]; omega
    · rw [if_neg e, if_neg e, if_neg e]
      unfold s_fire
      rw [if_pos ⟨q0, by omega⟩]; omega
  rw [e, fs_sum_add, fs_sum_sub, fs_sum_mul, s_M_row hg hn h0 h1, fs_sum_one hq.1 (by omega)]
  unfold s_tot
  omega
/-- what holds all along: z is what settling began with, T its chips outside the sink, S the sink's -/
def s_al (L : Int → Int → Int) (n q : Int) (z g x f : Int → Int) : Prop := (∀ p : Int, 0 ≤ p → p < n → p ≠ q → 0 ≤ x p) ∧ s_tot n q x ≤ s_tot n q z ∧ s_tot n q x + x q = s_tot n q z + z q ∧ (∀ o : Int, 0 ≤ o → o < n → s_kp L n x f o = s_kp L n z g o) ∧ f q = g q ∧ (∀ p : Int, 0 ≤ p → p < n → g p ≤ f p) ∧ ∀ o : Int, ¬ (0 ≤ o ∧ o < n) → x o = z o ∧ f o = g o
theorem s_al.rf {z g : Int → Int} (h : ∀ p : Int, 0 ≤ p → p < n → p ≠ q → 0 ≤ z p) : s_al L n q z g z g := ⟨h, Int.le_refl _, rfl, fun _ _ _ => rfl, rfl, fun _ _ _ => Int.le_refl _, fun _ _ => ⟨rfl, rfl⟩⟩
theorem s_al.fire (hg : g_ok L) (hn : 0 ≤ n ∧ n ≤ 5) (hq : 0 ≤ q ∧ q < n) {z g x f : Int → Int} (h : s_al L n q z g x f) {p t : Int} (h0 : 0 ≤ p) (h1 : p < n) (hp : p ≠ q) (ht : 0 ≤ t) (hle : t * s_val L n p ≤ x p) : s_al L n q z g (s_fire L n p t x) (fc_set f p (f p + t)) := by
  obtain ⟨a1, a2, a3, a4, a5, a6, a7⟩ := h
  have hLq := hg p q h0 (by omega) hq.1 (by omega)
  have hMq : s_M L n p q = - L p q := by unfold s_M; rw [if_neg hp]
  have htq : t * s_M L n p q ≤ 0 := by
    rw [hMq, Int.mul_neg]
    have := Int.mul_nonneg ht hLq.1
    omega
  have hT := s_tot_fire hg hn hq (x := x) (t := t) h0 h1
  refine ⟨fun o o0 o1 oq => ?_, by omega, ?_, fun o o0 o1 => by rw [s_kp_fire h0 h1 o0 o1]; exact a4 o o0 o1, ?_, fun o o0 o1 => ?_, fun o ho => ?_⟩
  · unfold s_fire s_M
    rw [if_pos ⟨o0, o1⟩]
    by_cases e : p = o
    · rw [if_pos e, ← e]; omega
    · rw [if_neg e, Int.mul_neg]
      have := Int.mul_nonneg ht (hg p o h0 (by omega) o0 (by omega)).1
      have := a1 o o0 o1 oq
      omega
  · have e : s_fire L n p t x q = x q - t * s_M L n p q := by unfold s_fire; rw [if_pos hq]
    rw [hT, e]
    omega
  · unfold fc_set
    rw [if_neg (Ne.symm hp)]
    exact a5
  · unfold fc_set
    have := a6 o o0 o1
    by_cases e : o = p
    · rw [if_pos e, ← e]; omega
    · rw [if_neg e]; exact this
  · have h9 := a7 o ho
    unfold s_fire fc_set
    rw [if_neg ho, if_neg (by omega)]
    exact h9
theorem s_al.step (hg : g_ok L) (hn : 0 ≤ n ∧ n ≤ 5) (hq : 0 ≤ q ∧ q < n) {z g x f : Int → Int} (h : s_al L n q z g x f) : ∀ k : Nat, (k : Int) ≤ n → s_al L n q z g (s_sw L n q x f k).1 (s_sw L n q x f k).2.1 := by
  intro k
  induction k with
  | zero => intro _; exact h
  | succ k ih =>
    intro hk
    have ih := ih (by omega)
    by_cases hc : s_can L n q (s_sw L n q x f k).1 k
    · have e := s_sw_t (L := L) (n := n) (q := q) (x := x) (f := f) (k := (k : Int)) (by omega) hc
      rw [show (((k : Nat) : Int) + 1).toNat = k + 1 by omega, show ((k : Nat) : Int).toNat = k by omega] at e
      rw [e]
      have hpos := hc.2.1
      have hx0 := ih.1 k (by omega) (by omega) hc.1
      refine ih.fire hg hn hq (by omega) (by omega) hc.1 (Int.ediv_nonneg hx0 (by omega)) ?_
      have := Int.ediv_mul_le ((s_sw L n q x f k).1 k) (show s_val L n k ≠ 0 by omega)
      exact this
    · have e := s_sw_f (L := L) (n := n) (q := q) (x := x) (f := f) (k := (k : Int)) (by omega) hc
      rw [show (((k : Nat) : Int) + 1).toNat = k + 1 by omega, show ((k : Nat) : Int).toNat = k by omega] at e
      rw [e]
      exact ih
theorem s_al.it (hg : g_ok L) (hn : 0 ≤ n ∧ n ≤ 5) (hq : 0 ≤ q ∧ q < n) {z g : Int → Int} (h : ∀ p : Int, 0 ≤ p → p < n → p ≠ q → 0 ≤ z p) : ∀ k : Nat, s_al L n q z g (s_it L n q z g k).1 (s_it L n q z g k).2 := by
  intro k
  induction k with
  | zero => exact s_al.rf h
  | succ k ih => exact ih.step hg hn hq n.toNat (by omega)
theorem s_al.bd (hn : 0 ≤ n ∧ n ≤ 5) (hq : 0 ≤ q ∧ q < n) {z g x f : Int → Int} (h : s_al L n q z g x f) {T : Int} (hT : s_tot n q z ≤ T) (hT0 : T ≤ 100000000) (hS : -100000000 ≤ z q ∧ z q ≤ 100000000) : s_nn n q x := by
  obtain ⟨a1, a2, a3, a4, a5, a6, a7⟩ := h
  have h0 : 0 ≤ s_tot n q x := by
    have := fs_sum_le (f := fun _ => 0) (g := fun o => if o = q then 0 else x o) (m := n.toNat) (fun k q0 q1 => by
      by_cases e : k = q
      · rw [if_pos e]; exact Int.le_refl _
      · rw [if_neg e]; exact a1 k q0 (by omega) e)
    rw [fs_sum_zero] at this
    exact this
  intro p p0 p1
  by_cases e : p = q
  · rw [e]
    exact ⟨fun z => absurd rfl z, by omega, by omega⟩
  · have h1 := fs_sum_mem (f := fun o => if o = q then 0 else x o) (m := n.toNat) (k := p) (fun j j0 j1 => by
      by_cases e : j = q
      · rw [if_pos e]; exact Int.le_refl _
      · rw [if_neg e]; exact a1 j j0 (by omega) e) p0 (by omega)
    rw [if_neg e] at h1
    have h2 := a1 p p0 p1 e
    unfold s_tot at a2 hT
    exact ⟨fun _ => h2, by omega, by omega⟩
/-- a sweep that moves lessens the weight; one that doesn't leaves all as it is, and nothing can fire -/
theorem s_sw_ph (hg : g_ok L) (hn : 0 ≤ n ∧ n ≤ 5) (hq : 0 ≤ q ∧ q < n) {h : Int → Int} (hw : s_wt L n q h) {x f : Int → Int} (hx : ∀ p : Int, 0 ≤ p → p < n → p ≠ q → 0 ≤ x p) : ∀ k : Nat, (k : Int) ≤ n → ((s_sw L n q x f k).2.2 = 1 ∧ s_ph n h (s_sw L n q x f k).1 + 1 ≤ s_ph n h x) ∨ (s_sw L n q x f k = (x, f, 0) ∧ ∀ p : Int, 0 ≤ p → p < k → ¬ s_can L n q x p) := by
  intro k
  induction k with
  | zero => intro _; exact Or.inr ⟨rfl, fun p p0 p1 => by omega⟩
  | succ k ih =>
    intro hk
    have hal := (s_al.rf (L := L) (g := f) hx).step hg hn hq k (by omega)
    by_cases hc : s_can L n q (s_sw L n q x f k).1 k
    · have e := s_sw_t (L := L) (n := n) (q := q) (x := x) (f := f) (k := (k : Int)) (by omega) hc
      rw [show (((k : Nat) : Int) + 1).toNat = k + 1 by omega, show ((k : Nat) : Int).toNat = k by omega] at e
      rw [e]
      left
      refine ⟨rfl, ?_⟩
      show s_ph n h (s_fire L n k _ _) + 1 ≤ _
      rw [s_ph_fire]
      have hpos := hc.2.1
      have ht : 1 ≤ (s_sw L n q x f k).1 k / s_val L n k := by
        have := Int.le_ediv_of_mul_le hpos (show 1 * s_val L n k ≤ (s_sw L n q x f k).1 k by have := hc.2.2; omega)
        exact this
      have hW := hw.2.2 k (by omega) (by omega) hc.1
      have hm : 1 ≤ (s_sw L n q x f k).1 k / s_val L n k * fs_sum (fun o => s_M L n k o * h o) n.toNat := by
        have := Int.mul_le_mul ht hW (by omega) (by omega)
        omega
      rcases ih (by omega) with ⟨-, h2⟩ | ⟨h2, -⟩
      · omega
      · rw [h2] at hm ⊢
        dsimp only at hm ⊢
        omega
    · have e := s_sw_f (L := L) (n := n) (q := q) (x := x) (f := f) (k := (k : Int)) (by omega) hc
      rw [show (((k : Nat) : Int) + 1).toNat = k + 1 by omega, show ((k : Nat) : Int).toNat = k by omega] at e
      rw [e]
      rcases ih (by omega) with h2 | ⟨h2, h3⟩
      · exact Or.inl h2
      · right
        refine ⟨h2, fun p p0 p1 => ?_⟩
        by_cases ep : p = k
        · rw [ep]; rw [h2] at hc; exact hc
        · exact h3 p p0 (by omega)
/-- THE END OF SETTLING -/
theorem s_end (hg : g_ok L) (hn : 0 ≤ n ∧ n ≤ 5) (hq : 0 ≤ q ∧ q < n) {h : Int → Int} (hw : s_wt L n q h) {z g : Int → Int} (hz : ∀ p : Int, 0 ≤ p → p < n → p ≠ q → 0 ≤ z p) {N : Nat} (hN : s_ph n h z ≤ N) : ∃ K : Nat, K ≤ N ∧ (∀ k : Nat, k < K → (s_sw L n q (s_it L n q z g k).1 (s_it L n q z g k).2 n.toNat).2.2 = 1) ∧ (s_sw L n q (s_it L n q z g K).1 (s_it L n q z g K).2 n.toNat).2.2 = 0 ∧ s_it L n q z g (K + 1) = s_it L n q z g K ∧ ∀ p : Int, 0 ≤ p → p < n → ¬ s_can L n q (s_it L n q z g K).1 p := by
  have key : ∀ (m : Nat), (∀ k : Nat, k < m → (s_sw L n q (s_it L n q z g k).1 (s_it L n q z g k).2 n.toNat).2.2 = 1) → s_ph n h (s_it L n q z g m).1 + m ≤ s_ph n h z := by
    intro m
    induction m with
    | zero => intro _; show s_ph n h z + 0 ≤ _; omega
    | succ m ih =>
      intro hm
      have h1 := ih (fun k hk => hm k (by omega))
      have h2 := s_sw_ph hg hn hq hw (x := (s_it L n q z g m).1) (f := (s_it L n q z g m).2) (s_al.it hg hn hq (g := g) hz m).1 n.toNat (by omega)
      have h3 := hm m (by omega)
      rcases h2 with ⟨-, h2⟩ | ⟨h2, -⟩
      · have e : (s_it L n q z g (m + 1)).1 = (s_sw L n q (s_it L n q z g m).1 (s_it L n q z g m).2 n.toNat).1 := rfl
        rw [e]
        omega
      · rw [h2] at h3
        cases h3
  have pos : ∀ m : Nat, 0 ≤ s_ph n h (s_it L n q z g m).1 := fun m => by
    have hal := s_al.it hg hn hq (g := g) hz m
    have := fs_sum_le (f := fun _ => 0) (g := fun o => h o * (s_it L n q z g m).1 o) (m := n.toNat) (fun k q0 q1 => by
      by_cases e : k = q
      · rw [e, hw.2.1]; omega
      · exact Int.mul_nonneg (hw.1 k q0 (by omega)).1 (hal.1 k q0 (by omega) e))
    rw [fs_sum_zero] at this
    exact this
  have hex : ∃ K : Nat, (s_sw L n q (s_it L n q z g K).1 (s_it L n q z g K).2 n.toNat).2.2 ≠ 1 := by
    apply Classical.byContradiction
    intro hc
    have hall : ∀ k : Nat, (s_sw L n q (s_it L n q z g k).1 (s_it L n q z g k).2 n.toNat).2.2 = 1 := fun k => Classical.byContradiction fun q => hc ⟨k, q⟩
    have h1 := key (N + 1) (fun k _ => hall k)
    have h2 := pos (N + 1)
    omega
  obtain ⟨K, hK, hKl⟩ := pk_least _ hex
  have hmv : ∀ k : Nat, k < K → (s_sw L n q (s_it L n q z g k).1 (s_it L n q z g k).2 n.toNat).2.2 = 1 := fun k hk => Classical.byContradiction fun q => hKl k hk q
  have h1 := key K hmv
  have h2 := pos K
  rcases s_sw_ph hg hn hq hw (x := (s_it L n q z g K).1) (f := (s_it L n q z g K).2) (s_al.it hg hn hq (g := g) hz K).1 n.toNat (by omega) with ⟨h3, -⟩ | ⟨h3, h4⟩
  · exact absurd h3 hK
  · refine ⟨K, by omega, hmv, by rw [h3], ?_, fun p p0 p1 => h4 p p0 (by omega)⟩
    show ((s_sw L n q (s_it L n q z g K).1 (s_it L n q z g K).2 n.toNat).1, (s_sw L n q (s_it L n q z g K).1 (s_it L n q z g K).2 n.toNat).2.1) = _
    rw [h3]
end ST
