/-! heaps that come again: each set without the sink has a point with as many chips as lines into the set. Rows that are equal by firing -/
def z_in (L : Int → Int → Int) (n : Int) (S : Int → Bool) (p : Int) : Int := fs_sum (fun o => if S o = true then L p o else 0) n.toNat
def z_ne (n : Int) (S : Int → Bool) : Prop := ∃ p : Int, 0 ≤ p ∧ p < n ∧ S p = true
def z_NF (L : Int → Int → Int) (n q : Int) (x : Int → Int) : Prop := ∀ S : Int → Bool, S q = false → z_ne n S → ∃ p : Int, 0 ≤ p ∧ p < n ∧ S p = true ∧ z_in L n S p ≤ x p
def z_lp (L : Int → Int → Int) (n : Int) (s : Int → Int) (p : Int) : Int := fs_sum (fun a => s a * s_M L n a p) n.toNat
def z_ev (L : Int → Int → Int) (n : Int) (x y : Int → Int) : Prop := ∃ s : Int → Int, ∀ p : Int, 0 ≤ p → p < n → x p = y p + z_lp L n s p
def z_e0 (L : Int → Int → Int) (n q : Int) (x y : Int → Int) : Prop := ∃ s : Int → Int, ∀ p : Int, 0 ≤ p → p < n → p ≠ q → x p = y p + z_lp L n s p
def z_st (L : Int → Int → Int) (n q : Int) (x : Int → Int) : Prop := ∀ p : Int, 0 ≤ p → p < n → p ≠ q → x p < s_val L n p
section NF
variable {L : Int → Int → Int} {n q : Int}
theorem z_in_bd (hg : g_ok L) (hn : 2 ≤ n ∧ n ≤ 5) {S : Int → Bool} {p : Int} (hp : 0 ≤ p ∧ p < n) : 0 ≤ z_in L n S p ∧ z_in L n S p ≤ s_val L n p := by
  constructor
  · have := fs_sum_le (f := fun _ => 0) (g := fun o => if S o = true then L p o else 0) (m := n.toNat) (fun k k0 k1 => by
      have := hg p k hp.1 (by omega) k0 (by omega)
      split <;> omega)
    rw [fs_sum_zero] at this
    exact this
  · exact fs_sum_le fun k k0 k1 => by
      have := hg p k hp.1 (by omega) k0 (by omega)
      split <;> omega
theorem z_ne_q {S : Int → Bool} (hq : S q = false) {p : Int} (hp : S p = true) : p ≠ q := fun e => by rw [e, hq] at hp; cases hp
theorem z_NF.mono {x y : Int → Int} (h : z_NF L n q x) (hxy : ∀ p : Int, 0 ≤ p → p < n → p ≠ q → x p ≤ y p) : z_NF L n q y := by
  intro S hq hS
  obtain ⟨p, p0, p1, p2, p3⟩ := h S hq hS
  exact ⟨p, p0, p1, p2, Int.le_trans p3 (hxy p p0 p1 (z_ne_q hq p2))⟩
theorem z_NF_val (hg : g_ok L) (hn : 2 ≤ n ∧ n ≤ 5) {x : Int → Int} (hx : ∀ p : Int, 0 ≤ p → p < n → p ≠ q → s_val L n p ≤ x p) : z_NF L n q x := by
  intro S hq hS
  obtain ⟨p, p0, p1, p2⟩ := hS
  exact ⟨p, p0, p1, p2, Int.le_trans (z_in_bd hg hn ⟨p0, p1⟩).2 (hx p p0 p1 (z_ne_q hq p2))⟩
/-- the least of some numbers -/
theorem z_min {h : Int → Int} {S : Int → Bool} : ∀ m : Nat, (∃ p : Int, 0 ≤ p ∧ p < m ∧ S p = true) → ∃ p : Int, (0 ≤ p ∧ p < m ∧ S p = true) ∧ ∀ o : Int, 0 ≤ o → o < m → S o = true → h p ≤ h o
  | 0, ⟨p, p0, p1, _⟩ => by omega
  | m + 1, ⟨p, p0, p1, p2⟩ => by
    rcases Classical.em (∃ p : Int, 0 ≤ p ∧ p < m ∧ S p = true) with hm | hm
    · obtain ⟨a, ⟨a0, a1, a2⟩, a3⟩ := z_min (h := h) m hm
      by_cases c : S m = true ∧ h m < h a
      · refine ⟨m, ⟨by omega, by omega, c.1⟩, fun o o0 o1 o2 => ?_⟩
        by_cases e : o = m
        · rw [e]; exact Int.le_refl _
        · have := a3 o o0 (by omega) o2
          omega
      · refine ⟨a, ⟨a0, by omega, a2⟩, fun o o0 o1 o2 => ?_⟩
        by_cases e : o = m
        · rw [e] at o2 ⊢
          apply Classical.byContradiction
          intro z
          exact c ⟨o2, by omega⟩
        · exact a3 o o0 (by omega) o2
    · have e : p = m := by
        apply Classical.byContradiction
        intro z
        exact hm ⟨p, p0, by omega, p2⟩
      refine ⟨p, ⟨p0, p1, p2⟩, fun o o0 o1 o2 => ?_⟩
      have : o = m := by
        apply Classical.byContradiction
        intro z
        exact hm ⟨o, o0, by omega, o2⟩
      rw [e, this]
      exact Int.le_refl _
theorem fs_sum_ex {f : Int → Int} : ∀ {m : Nat}, 0 < fs_sum f m → ∃ k : Int, 0 ≤ k ∧ k < m ∧ 0 < f k
  | 0, h => by cases h
  | m + 1, h => by
    have h : 0 < fs_sum f m + f m := h
    by_cases c : 0 < f m
    · exact ⟨m, by omega, by omega, c⟩
    · obtain ⟨k, k0, k1, k2⟩ := fs_sum_ex (f := f) (m := m) (by omega)
      exact ⟨k, k0, by omega, k2⟩
/-- what firing brings, by differences -/
theorem z_lap (hg : g_ok L) (hn : 2 ≤ n ∧ n ≤ 5) {s : Int → Int} {p : Int} (hp : 0 ≤ p ∧ p < n) : z_lp L n s p = fs_sum (fun a => (s p - s a) * L p a) n.toNat := by
  have e1 : z_lp L n s p = fs_sum (fun a => (if a = p then s p * s_val L n p else 0) - s a * L p a) n.toNat := by
    refine fs_sum_congr fun a a0 a1 => ?_
    have h1 := hg a p a0 (by omega) hp.1 (by omega)
    unfold s_M
    by_cases e : a = p
    · rw [if_pos e, if_pos e, e]
      have := (hg p p hp.1 (by omega) hp.1 (by omega)).2.2.2
      rw [this, Int.mul_zero, Int.sub_zero]
    · rw [if_neg e, if_neg e, ← h1.2.2.1, Int.mul_neg, Int.zero_sub]
  have e2 : fs_sum (fun a => (s p - s a) * L p a) n.toNat = s p * s_val L n p - fs_sum (fun a => s a * L p a) n.toNat := by
    unfold s_val
    rw [← fs_sum_mul, ← fs_sum_sub]
    exact fs_sum_congr fun a _ _ => Int.sub_mul _ _ _
  rw [e1, e2, fs_sum_sub, fs_sum_one hp.1 (by omega)]
theorem z_lp_shift (hg : g_ok L) (hn : 2 ≤ n ∧ n ≤ 5) {s : Int → Int} {c p : Int} (hp : 0 ≤ p ∧ p < n) : z_lp L n (fun a => s a - c) p = z_lp L n s p := by
  rw [z_lap hg hn hp, z_lap hg hn hp]
  refine fs_sum_congr fun a _ _ => ?_
  show (s p - c - (s a - c)) * L p a = (s p - s a) * L p a
  rw [show s p - c - (s a - c) = s p - s a by omega]
theorem z_lp_add {s t : Int → Int} {p : Int} : z_lp L n (fun a => s a + t a) p = z_lp L n s p + z_lp L n t p := by
  unfold z_lp
  rw [← fs_sum_add]
  exact fs_sum_congr fun a _ _ => Int.add_mul _ _ _
theorem z_lp_mul {s : Int → Int} {c p : Int} : z_lp L n (fun a => c * s a) p = c * z_lp L n s p := by
  unfold z_lp
  rw [← fs_sum_mul]
  exact fs_sum_congr fun a _ _ => Int.mul_assoc _ _ _
theorem z_lp_zero {p : Int} : z_lp L n (fun _ => 0) p = 0 := by
  unfold z_lp
  rw [fs_sum_congr (g := fun _ => 0) (fun a _ _ => Int.zero_mul _), fs_sum_zero]
theorem z_lp_neg {s : Int → Int} {p : Int} : z_lp L n (fun a => - s a) p = - z_lp L n s p := by
  have := z_lp_mul (L := L) (n := n) (s := s) (c := -1) (p := p)
  rw [show (fun a => - s a) = (fun a => -1 * s a) from funext fun a => by omega, this]
  omega
theorem z_lp_deg (hg : g_ok L) (hn : 2 ≤ n ∧ n ≤ 5) {s : Int → Int} : fs_sum (z_lp L n s) n.toNat = 0 := by
  unfold z_lp
  rw [fs_sum_comm, fs_sum_congr (g := fun _ => 0) (fun a a0 a1 => by rw [fs_sum_mul, s_M_row hg (by omega) a0 (by omega), Int.mul_zero]), fs_sum_zero]
theorem z_ev.rf {x : Int → Int} : z_ev L n x x := ⟨fun _ => 0, fun p _ _ => by rw [z_lp_zero, Int.add_zero]⟩
theorem z_ev.of {x y : Int → Int} (h : ∀ p : Int, 0 ≤ p → p < n → x p = y p) : z_ev L n x y := ⟨fun _ => 0, fun p p0 p1 => by rw [z_lp_zero, Int.add_zero]; exact h p p0 p1⟩
theorem z_ev.sy {x y : Int → Int} (h : z_ev L n x y) : z_ev L n y x := by
  obtain ⟨s, hs⟩ := h
  refine ⟨fun a => - s a, fun p p0 p1 => ?_⟩
  rw [z_lp_neg]
  have := hs p p0 p1
  omega
theorem z_ev.tr {x y z : Int → Int} (h : z_ev L n x y) (h' : z_ev L n y z) : z_ev L n x z := by
  obtain ⟨s, hs⟩ := h
  obtain ⟨t, ht⟩ := h'
  refine ⟨fun a => s a + t a, fun p p0 p1 => ?_⟩
  rw [z_lp_add]
  have := hs p p0 p1
  have := ht p p0 p1
  omega
theorem z_ev.add {x y z w : Int → Int} (h : z_ev L n x y) (h' : z_ev L n z w) : z_ev L n (fun p => x p + z p) (fun p => y p + w p) := by
  obtain ⟨s, hs⟩ := h
  obtain ⟨t, ht⟩ := h'
  refine ⟨fun a => s a + t a, fun p p0 p1 => ?_⟩
  rw [z_lp_add]
  have := hs p p0 p1
  have := ht p p0 p1
  show x p + z p = y p + w p + _
  omega
theorem z_ev.neg {x y : Int → Int} (h : z_ev L n x y) : z_ev L n (fun p => - x p) (fun p => - y p) := by
  obtain ⟨s, hs⟩ := h
  refine ⟨fun a => - s a, fun p p0 p1 => ?_⟩
  rw [z_lp_neg]
  have := hs p p0 p1
  show - x p = - y p + _
  omega
theorem z_ev.sub {x y z w : Int → Int} (h : z_ev L n x y) (h' : z_ev L n z w) : z_ev L n (fun p => x p - z p) (fun p => y p - w p) := by
  have := h.add h'.neg
  exact ((z_ev.of fun p _ _ => by show x p - z p = x p + - z p; omega).tr this).tr (z_ev.of fun p _ _ => by show y p + - w p = y p - w p; omega)
theorem z_ev.deg (hg : g_ok L) (hn : 2 ≤ n ∧ n ≤ 5) {x y : Int → Int} (h : z_ev L n x y) : fs_sum x n.toNat = fs_sum y n.toNat := by
  obtain ⟨s, hs⟩ := h
  rw [fs_sum_congr (g := fun p => y p + z_lp L n s p) (fun p p0 p1 => hs p p0 (by omega)), fs_sum_add, z_lp_deg hg hn, Int.add_zero]
theorem z_ev.e0 {x y : Int → Int} (h : z_ev L n x y) : z_e0 L n q x y := by
  obtain ⟨s, hs⟩ := h
  exact ⟨s, fun p p0 p1 _ => hs p p0 p1⟩
theorem z_e0.of {x y : Int → Int} (h : ∀ p : Int, 0 ≤ p → p < n → p ≠ q → x p = y p) : z_e0 L n q x y := ⟨fun _ => 0, fun p p0 p1 p2 => by rw [z_lp_zero, Int.add_zero]; exact h p p0 p1 p2⟩
theorem z_e0.sy {x y : Int → Int} (h : z_e0 L n q x y) : z_e0 L n q y x := by
  obtain ⟨s, hs⟩ := h
  refine ⟨fun a => - s a, fun p p0 p1 p2 => ?_⟩
  rw [z_lp_neg]
  have := hs p p0 p1 p2
  omega
theorem z_e0.tr {x y z : Int → Int} (h : z_e0 L n q x y) (h' : z_e0 L n q y z) : z_e0 L n q x z := by
  obtain ⟨s, hs⟩ := h
  obtain ⟨t, ht⟩ := h'
  refine ⟨fun a => s a + t a, fun p p0 p1 p2 => ?_⟩
  rw [z_lp_add]
  have := hs p p0 p1 p2
  have := ht p p0 p1 p2
  omega
theorem z_e0.add {x y z w : Int → Int} (h : z_e0 L n q x y) (h' : z_e0 L n q z w) : z_e0 L n q (fun p => x p + z p) (fun p => y p + w p) := by
  obtain ⟨s, hs⟩ := h
  obtain ⟨t, ht⟩ := h'
  refine ⟨fun a => s a + t a, fun p p0 p1 p2 => ?_⟩
  rw [z_lp_add]
  have := hs p p0 p1 p2
  have := ht p p0 p1 p2
  show x p + z p = y p + w p + _
  omega
/-- lines out of a set, and what the highest points of a script lose at least -/
theorem z_top (hg : g_ok L) (hn : 2 ≤ n ∧ n ≤ 5) {s : Int → Int} {m p : Int} (hp : 0 ≤ p ∧ p < n) (hm : ∀ o : Int, 0 ≤ o → o < n → s o ≤ m) (he : s p = m) : s_val L n p - z_in L n (fun o => decide (s o = m)) p ≤ z_lp L n s p := by
  rw [z_lap hg hn hp]
  unfold s_val z_in
  rw [← fs_sum_sub]
  refine fs_sum_le fun a a0 a1 => ?_
  have h1 := hg p a hp.1 (by omega) a0 (by omega)
  have h2 := hm a a0 (by omega)
  by_cases c : s a = m
  · have e9 : (s p - s a) * L p a = 0 := by rw [he, c, Int.sub_self, Int.zero_mul]
    rw [if_pos (by simp [c]), e9]
    omega
  · rw [if_neg (by simp [c]), Int.sub_zero]
    have := Int.mul_le_mul_of_nonneg_right (show 1 ≤ s p - s a by omega) h1.1
    omega
theorem z_key (hg : g_ok L) (hn : 2 ≤ n ∧ n ≤ 5) (hq : 0 ≤ q ∧ q < n) {x y s : Int → Int} (hs : s q = 0) (h : ∀ p : Int, 0 ≤ p → p < n → p ≠ q → x p = y p + z_lp L n s p) (hx : z_st L n q x) (hy : z_NF L n q y) : ∀ p : Int, 0 ≤ p → p < n → s p ≤ 0 := by
  intro p p0 p1
  apply Classical.byContradiction
  intro hc
  obtain ⟨a, ⟨a0, a1, _⟩, a3⟩ := z_min (h := fun o => - s o) (S := fun _ => true) n.toNat ⟨p, p0, by omega, rfl⟩
  have hm : ∀ o : Int, 0 ≤ o → o < n → s o ≤ s a := fun o o0 o1 => by
    have := a3 o o0 (by omega) rfl
    omega
  have hap := hm p p0 p1
  obtain ⟨b, b0, b1, b2, b3⟩ := hy (fun o => decide (s o = s a)) (by simp [hs]; omega) ⟨a, a0, by omega, by simp⟩
  have b2 : s b = s a := by simpa using b2
  have hb : b ≠ q := fun e => by rw [e, hs] at b2; omega
  have h1 := z_top hg hn ⟨b0, b1⟩ hm b2
  have h2 := h b b0 b1 hb
  have h3 := hx b b0 b1 hb
  omega
/-- one recurrent heap alone in each row of equal ones -/
theorem z_uniq (hg : g_ok L) (hn : 2 ≤ n ∧ n ≤ 5) (hq : 0 ≤ q ∧ q < n) {x y : Int → Int} (h : z_e0 L n q x y) (hx : z_st L n q x) (hy : z_st L n q y) (nx : z_NF L n q x) (ny : z_NF L n q y) : ∀ p : Int, 0 ≤ p → p < n → p ≠ q → x p = y p := by
  obtain ⟨s, hs⟩ := h
  have k1 := z_key hg hn hq (s := fun a => s a - s q) (Int.sub_self _) (fun p p0 p1 p2 => by rw [z_lp_shift hg hn ⟨p0, p1⟩]; exact hs p p0 p1 p2) hx ny
  have k2 := z_key hg hn hq (x := y) (y := x) (s := fun a => - (s a - s q)) (by show - (s q - s q) = 0; omega) (fun p p0 p1 p2 => by
    rw [z_lp_neg, z_lp_shift hg hn ⟨p0, p1⟩]
    have := hs p p0 p1 p2
    omega) hy nx
  intro p p0 p1 p2
  rw [hs p p0 p1 p2, ← z_lp_shift hg hn (c := s q) ⟨p0, p1⟩]
  have e : z_lp L n (fun a => s a - s q) p = 0 := by
    unfold z_lp
    rw [fs_sum_congr (g := fun _ => 0) (fun a a0 a1 => ?_), fs_sum_zero]
    have h1 : s a - s q ≤ 0 := k1 a a0 (by omega)
    have h2 : - (s a - s q) ≤ 0 := k2 a a0 (by omega)
    show (s a - s q) * _ = 0
    rw [show s a - s q = 0 by omega, Int.zero_mul]
  rw [e, Int.add_zero]
/-- equal rows with no chips but at the sink: the script is level -/
theorem z_flat (hg : g_ok L) (hn : 2 ≤ n ∧ n ≤ 5) (hq : 0 ≤ q ∧ q < n) (hJ : s_J L n) {s : Int → Int} (hs : s q = 0) (h : ∀ p : Int, 0 ≤ p → p < n → p ≠ q → z_lp L n s p = 0) : ∀ p : Int, 0 ≤ p → p < n → s p = 0 := by
  have hst : z_st L n q (fun _ => 0) := fun p p0 p1 _ => s_J_val hg hn hJ p0 p1
  obtain ⟨w, hw, -⟩ := s_wt_ex hg hn hq hJ
  have key : ∀ s : Int → Int, s q = 0 → (∀ p : Int, 0 ≤ p → p < n → p ≠ q → z_lp L n s p = 0) → ∀ p : Int, 0 ≤ p → p < n → s p ≤ 0 := by
    intro s hs h p p0 p1
    apply Classical.byContradiction
    intro hc
    obtain ⟨a, ⟨a0, a1, _⟩, a3⟩ := z_min (h := fun o => - s o) (S := fun _ => true) n.toNat ⟨p, p0, by omega, rfl⟩
    have hm : ∀ o : Int, 0 ≤ o → o < n → s o ≤ s a := fun o o0 o1 => by
      have := a3 o o0 (by omega) rfl
      omega
    have hap := hm p p0 p1
    -- the nearest of the highest points has a line out
    obtain ⟨b, ⟨b0, b1, b2⟩, b3⟩ := z_min (h := w) (S := fun o => decide (s o = s a)) n.toNat ⟨a, a0, by omega, by simp⟩
    have b2 : s b = s a := by simpa using b2
    have hb : b ≠ q := fun e => by rw [e, hs] at b2; omega
    have hwb := hw.2.2 b b0 (by omega) hb
    have h1 := z_top hg hn ⟨b0, by omega⟩ hm b2
    rw [h b b0 (by omega) hb] at h1
    -- all lines of b go into the set: then the weights say otherwise
    have hin : ∀ o : Int, 0 ≤ o → o < n → s o ≠ s a → L b o = 0 := by
      intro o o0 o1 o2
      have h4 := hg b o b0 (by omega) o0 (by omega)
      have h5 := fs_sum_mem (f := fun o => L b o - (if decide (s o = s a) = true then L b o else 0)) (m := n.toNat) (k := o) (fun j j0 j1 => by
        have := hg b j b0 (by omega) j0 (by omega)
        split <;> omega) o0 (by omega)
      rw [fs_sum_sub] at h5
      rw [if_neg (by simp [o2])] at h5
      have h1' : fs_sum (L b) n.toNat - fs_sum (fun o => if decide (s o = s a) = true then L b o else 0) n.toNat ≤ 0 := h1
      omega
    have h6 : fs_sum (fun o => s_M L n b o * w o) n.toNat ≤ 0 := by
      have e1 : fs_sum (fun o => s_M L n b o * w o) n.toNat = z_lp L n w b := fs_sum_congr fun o o0 o1 => by
        rw [Int.mul_comm, s_M_sym hg (by omega) b0 (by omega) o0 (by omega)]
      rw [e1, z_lap hg hn ⟨b0, by omega⟩]
      have := fs_sum_le (f := fun o => (w b - w o) * L b o) (g := fun _ => 0) (m := n.toNat) (fun o o0 o1 => by
        have h4 := hg b o b0 (by omega) o0 (by omega)
        by_cases c : s o = s a
        · have h7 := b3 o o0 o1 (by simp [c])
          have := Int.mul_le_mul_of_nonneg_right (show w b - w o ≤ 0 by omega) h4.1
          rw [Int.zero_mul] at this
          exact this
        · rw [hin o o0 (by omega) c, Int.mul_zero]
          exact Int.le_refl _)
      rw [fs_sum_zero] at this
      exact this
    omega
  intro p p0 p1
  have h1 := key s hs h p p0 p1
  have h2 := key (fun a => - s a) (by show - s q = 0; omega) (fun p p0 p1 p2 => by rw [z_lp_neg, h p p0 p1 p2]; rfl) p p0 p1
  have h2 : - s p ≤ 0 := h2
  omega
/-- VALENCE less 1 on each point is recurrent -/
theorem z_NF_max (hg : g_ok L) (hn : 2 ≤ n ∧ n ≤ 5) (hq : 0 ≤ q ∧ q < n) (hJ : s_J L n) {x : Int → Int} (hx : ∀ p : Int, 0 ≤ p → p < n → p ≠ q → s_val L n p - 1 ≤ x p) : z_NF L n q x := by
  obtain ⟨w, hw, -⟩ := s_wt_ex hg hn hq hJ
  intro S hS hne
  obtain ⟨p, p0, p1, p2⟩ := hne
  obtain ⟨b, ⟨b0, b1, b2⟩, b3⟩ := z_min (h := w) (S := S) n.toNat ⟨p, p0, by omega, p2⟩
  have hb := z_ne_q hS b2
  have hwb := hw.2.2 b b0 (by omega) hb
  refine ⟨b, b0, by omega, b2, ?_⟩
  have hxb := hx b b0 (by omega) hb
  apply Classical.byContradiction
  intro hc
  have hle := z_in_bd hg hn (S := S) (p := b) ⟨b0, by omega⟩
  have hin : ∀ o : Int, 0 ≤ o → o < n → S o = false → L b o = 0 := by
    intro o o0 o1 o2
    have h4 := hg b o b0 (by omega) o0 (by omega)
    have h5 := fs_sum_mem (f := fun o => L b o - (if S o = true then L b o else 0)) (m := n.toNat) (k := o) (fun j j0 j1 => by
      have := hg b j b0 (by omega) j0 (by omega)
      split <;> omega) o0 (by omega)
    rw [fs_sum_sub] at h5
    rw [if_neg (by simp [o2])] at h5
    have e1 : fs_sum (fun o => if S o = true then L b o else 0) n.toNat = z_in L n S b := rfl
    have e2 : fs_sum (L b) n.toNat = s_val L n b := rfl
    omega
  have h6 : fs_sum (fun o => s_M L n b o * w o) n.toNat ≤ 0 := by
    have e1 : fs_sum (fun o => s_M L n b o * w o) n.toNat = z_lp L n w b := fs_sum_congr fun o o0 o1 => by
      rw [Int.mul_comm, s_M_sym hg (by omega) b0 (by omega) o0 (by omega)]
    rw [e1, z_lap hg hn ⟨b0, by omega⟩]
    have := fs_sum_le (f := fun o => (w b - w o) * L b o) (g := fun _ => 0) (m := n.toNat) (fun o o0 o1 => by
      have h4 := hg b o b0 (by omega) o0 (by omega)
      cases c : S o
      · rw [hin o o0 (by omega) c, Int.mul_zero]
        exact Int.le_refl _
      · have h7 := b3 o o0 o1 c
        have := Int.mul_le_mul_of_nonneg_right (show w b - w o ≤ 0 by omega) h4.1
        rw [Int.zero_mul] at this
        exact this)
    rw [fs_sum_zero] at this
    exact this
  omega
theorem z_NF.fire (hg : g_ok L) (hn : 2 ≤ n ∧ n ≤ 5) {x : Int → Int} (h : z_NF L n q x) {p t : Int} (p0 : 0 ≤ p) (p1 : p < n) (ht : 1 ≤ t) (hle : t * s_val L n p ≤ x p) : z_NF L n q (s_fire L n p t x) := by
  have at_ : ∀ o : Int, 0 ≤ o → o < n → o ≠ p → s_fire L n p t x o = x o + t * L p o := fun o o0 o1 e => by
    unfold s_fire s_M
    rw [if_pos ⟨o0, o1⟩, if_neg (fun z => e z.symm), Int.mul_neg]
    omega
  have atp : s_fire L n p t x p = x p - t * s_val L n p := by
    unfold s_fire s_M
    rw [if_pos ⟨p0, p1⟩, if_pos rfl]
  intro S hS hne
  cases hp : S p with
  | false =>
    obtain ⟨b, b0, b1, b2, b3⟩ := h S hS hne
    have e : b ≠ p := fun e => by rw [e, hp] at b2; cases b2
    refine ⟨b, b0, b1, b2, ?_⟩
    rw [at_ b b0 b1 e]
    have := Int.mul_nonneg (show 0 ≤ t by omega) (hg p b p0 (by omega) b0 (by omega)).1
    omega
  | true =>
    rcases Classical.em (z_ne n (fun o => S o && decide (o ≠ p))) with hm | hm
    · obtain ⟨b, b0, b1, b2, b3⟩ := h (fun o => S o && decide (o ≠ p)) (by simp [hS]) hm
      have b2 : S b = true ∧ b ≠ p := by simpa using b2
      refine ⟨b, b0, b1, b2.1, ?_⟩
      rw [at_ b b0 b1 b2.2]
      have hl := hg p b p0 (by omega) b0 (by omega)
      have h1 := Int.mul_le_mul_of_nonneg_right ht hl.1
      have e : z_in L n S b = z_in L n (fun o => S o && decide (o ≠ p)) b + L b p := by
        unfold z_in
        rw [← fs_sum_one (k := p) (a := L b p) (m := n.toNat) p0 (by omega), ← fs_sum_add]
        refine fs_sum_congr fun o o0 o1 => ?_
        by_cases e : o = p
        · subst e
          rw [if_pos hp, if_neg (by simp), if_pos rfl, Int.zero_add]
        · cases c : S o
          · rw [if_neg (by simp [c]), if_neg (by simp [c]), if_neg e]; rfl
          · rw [if_pos (by simp [c]), if_pos (by simp [c, e]), if_neg e, Int.add_zero]
      have := hl.2.2.1
      omega
    · refine ⟨p, p0, p1, hp, ?_⟩
      rw [atp]
      have e : z_in L n S p = 0 := by
        unfold z_in
        rw [fs_sum_congr (g := fun _ => 0) (fun o o0 o1 => ?_), fs_sum_zero]
        by_cases e : o = p
        · subst e
          rw [if_pos hp, (hg o o o0 (by omega) o0 (by omega)).2.2.2]
        · cases c : S o
          · rfl
          · exact absurd ⟨o, o0, by omega, by simp [c, e]⟩ hm
      omega
theorem z_NF.sw (hg : g_ok L) (hn : 2 ≤ n ∧ n ≤ 5) {x f : Int → Int} (h : z_NF L n q x) : ∀ k : Nat, (k : Int) ≤ n → z_NF L n q (s_sw L n q x f k).1
  | 0, _ => h
  | k + 1, hk => by
    have ih := z_NF.sw hg hn (f := f) h k (by omega)
    have e : ((k : Int) + 1).toNat = k + 1 := by omega
    have e2 : ((k : Nat) : Int).toNat = k := by omega
    rcases Classical.em (s_can L n q (s_sw L n q x f k).1 (k : Int)) with c | c
    · have := s_sw_t (x := x) (f := f) (L := L) (n := n) (q := q) (k := (k : Int)) (by omega) (by rw [e2]; exact c)
      rw [e, e2] at this
      rw [this]
      refine ih.fire hg hn (by omega) (by omega) ?_ ?_
      · exact (Int.le_ediv_iff_mul_le c.2.1).2 (by have := c.2.2; omega)
      · exact Int.ediv_mul_le _ (by have := c.2.1; omega)
    · have := s_sw_f (x := x) (f := f) (L := L) (n := n) (q := q) (k := (k : Int)) (by omega) (by rw [e2]; exact c)
      rw [e, e2] at this
      rw [this]
      exact ih
theorem z_NF.it (hg : g_ok L) (hn : 2 ≤ n ∧ n ≤ 5) {z g : Int → Int} (h : z_NF L n q z) : ∀ k : Nat, z_NF L n q (s_it L n q z g k).1
  | 0 => h
  | k + 1 => by
    have ih := z_NF.it hg hn (g := g) h k
    show z_NF L n q (s_sw L n q (s_it L n q z g k).1 (s_it L n q z g k).2 n.toNat).1
    exact ih.sw hg hn n.toNat (by omega)
theorem z_NF.fin (hg : g_ok L) (hn : 2 ≤ n ∧ n ≤ 5) {z g x f : Int → Int} (h : z_NF L n q z) (hf : s_fin L n q z g x f) : z_NF L n q x := by
  obtain ⟨K, -, -, -, he, -, -⟩ := hf
  have := h.it hg hn (g := g) (K + 1)
  rw [← he] at this
  exact this
theorem s_al.ev {z g x f : Int → Int} (h : s_al L n q z g x f) : z_ev L n x z := by
  refine ⟨fun p => g p - f p, fun p p0 p1 => ?_⟩
  have h4 := h.2.2.2.1 p p0 p1
  unfold s_kp at h4
  have e : z_lp L n (fun p => g p - f p) p = fs_sum (fun a => g a * s_M L n a p) n.toNat - fs_sum (fun a => f a * s_M L n a p) n.toNat := by
    unfold z_lp
    rw [← fs_sum_sub]
    exact fs_sum_congr fun a _ _ => Int.sub_mul _ _ _
  omega
theorem s_fin.st {z g x f : Int → Int} (hg : g_ok L) (hn : 2 ≤ n ∧ n ≤ 5) (hJ : s_J L n) (h : s_fin L n q z g x f) : z_st L n q x := by
  obtain ⟨K, -, -, -, -, -, hc⟩ := h
  intro p p0 p1 p2
  have h1 := s_J_val hg hn hJ p0 p1
  have h2 := hc p p0 p1
  apply Classical.byContradiction
  intro z
  exact h2 ⟨p2, h1, by omega⟩
theorem s_fin.ev {z g x f : Int → Int} (h : s_fin L n q z g x f) : z_ev L n x z := by
  obtain ⟨K, -, -, -, -, ha, -⟩ := h
  exact ha.ev
theorem s_fin.nn {z g x f : Int → Int} (h : s_fin L n q z g x f) : ∀ p : Int, 0 ≤ p → p < n → p ≠ q → 0 ≤ x p := by
  obtain ⟨K, -, -, -, -, ha, -⟩ := h
  exact ha.1
theorem d_nt_ev {y : Int → Int} (h : d_nt L n q y) : z_ev L n y (fun _ => 0) := by
  obtain ⟨g, x, f, h1, h2⟩ := h
  have h3 := (z_ev.rf (L := L) (n := n) (x := fun p => 2 * s_val L n p)).sub h1.ev
  exact ((z_ev.of fun p p0 p1 => h2 p p0 p1).tr h3).tr (z_ev.of fun p _ _ => by show 2 * s_val L n p - 2 * s_val L n p = 0; omega)
theorem r_y_ev {x : Int → Int} : z_ev L n (r_y L n q x) x := by
  refine ⟨fun p => - r_t L n q x p, fun p p0 p1 => ?_⟩
  rw [z_lp_neg]
  unfold r_y z_lp
  omega
/-- what makeRecurrent leaves is stable, recurrent, and equal to what there was -/
theorem r_mk_rec (hg : g_ok L) (hn : 2 ≤ n ∧ n ≤ 5) (hq : 0 ≤ q ∧ q < n) (hJ : s_J L n) {x w : Int → Int} (h : r_mk L n q x w) : (∀ p : Int, 0 ≤ p → p < n → p ≠ q → 0 ≤ w p) ∧ z_st L n q w ∧ z_NF L n q w ∧ z_ev L n w x := by
  obtain ⟨y, z, g, f, h1, h2, h3⟩ := h
  have hb := d_nt_bd hg hn hq hJ h1
  refine ⟨h3.nn, h3.st hg hn hJ, ?_, ?_⟩
  · refine z_NF.fin hg hn (z_NF_val hg hn fun p p0 p1 p2 => ?_) h3
    rw [h2 p p0 p1]
    have := r_y_bd hg hn hq hJ (x := x) (o := p) ⟨p0, p1⟩ p2
    have := hb.1 p p0 p1 p2
    omega
  · have e := (r_y_ev (L := L) (n := n) (q := q) (x := x)).add ((d_nt_ev h1).add (d_nt_ev h1))
    exact (h3.ev.tr (z_ev.of fun p p0 p1 => by rw [h2 p p0 p1]; show _ = r_y L n q x p + (y p + y p); omega)).tr (e.tr (z_ev.of fun p _ _ => by show x p + (0 + 0) = x p; omega))
theorem r_mk_ex (hg : g_ok L) (hn : 2 ≤ n ∧ n ≤ 5) (hq : 0 ≤ q ∧ q < n) (hJ : s_J L n) (x : Int → Int) : ∃ w : Int → Int, r_mk L n q x w := by
  have hv : ∀ p : Int, 0 ≤ p → p < n → 0 < s_val L n p ∧ s_val L n p ≤ 15 := fun p p0 p1 => ⟨s_J_val hg hn hJ p0 p1, (s_val_bd hg (n := n) (p := p) (by omega) hn.2 p0 (by omega)).2⟩
  obtain ⟨x0, f0, h0⟩ := s_fin_ex hg hn hq hJ (z := fun p => 2 * s_val L n p) (g := fun _ => 0) (fun p p0 p1 _ => by have := hv p p0 p1; show 0 ≤ 2 * s_val L n p ∧ 2 * s_val L n p ≤ 999; omega)
  have hN : d_nt L n q (fun p => 2 * s_val L n p - x0 p) := ⟨_, x0, f0, h0, fun p _ _ => rfl⟩
  have hb := d_nt_bd hg hn hq hJ hN
  obtain ⟨w, f, h1⟩ := s_fin_ex hg hn hq hJ (z := fun p => r_y L n q x p + 2 * (2 * s_val L n p - x0 p)) (g := fun _ => 0) (fun p p0 p1 p2 => by
    have h2 := hv p p0 p1
    have h3 : s_val L n p < 2 * s_val L n p - x0 p ∧ 2 * s_val L n p - x0 p ≤ 2 * s_val L n p := hb.1 p p0 p1 p2
    have h4 := r_y_bd hg hn hq hJ (x := x) (o := p) ⟨p0, p1⟩ p2
    show 0 ≤ r_y L n q x p + 2 * (2 * s_val L n p - x0 p) ∧ r_y L n q x p + 2 * (2 * s_val L n p - x0 p) ≤ 999
    omega)
  exact ⟨w, _, _, _, f, hN, fun p _ _ => rfl, h1⟩
theorem r_w_rec (hg : g_ok L) (hn : 2 ≤ n ∧ n ≤ 5) (hq : 0 ≤ q ∧ q < n) (hJ : s_J L n) (x : Int → Int) : (∀ p : Int, 0 ≤ p → p < n → p ≠ q → 0 ≤ r_w L n q x p) ∧ z_st L n q (r_w L n q x) ∧ z_NF L n q (r_w L n q x) ∧ z_ev L n (r_w L n q x) x :=
  r_mk_rec hg hn hq hJ (Classical.epsilon_spec (r_mk_ex hg hn hq hJ x))
/-- what is stable, recurrent and equal is what makeRecurrent leaves -/
theorem r_w_is (hg : g_ok L) (hn : 2 ≤ n ∧ n ≤ 5) (hq : 0 ≤ q ∧ q < n) (hJ : s_J L n) {x y : Int → Int} (h : z_e0 L n q y x) (hs : z_st L n q y) (hf : z_NF L n q y) : ∀ p : Int, 0 ≤ p → p < n → p ≠ q → y p = r_w L n q x p := by
  have hr := r_w_rec hg hn hq hJ x
  exact z_uniq hg hn hq (h.tr (z_ev.e0 hr.2.2.2.sy)) hs hr.2.1 hf hr.2.2.1
end NF
