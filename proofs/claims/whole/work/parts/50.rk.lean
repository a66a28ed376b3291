/-! ranks: won rows, the row that is won by none, what a search tells -/
def z_wn (L : Int → Int → Int) (n : Int) (x : Int → Int) : Prop := ∃ s : Int → Int, ∀ p : Int, 0 ≤ p → p < n → 0 ≤ x p + z_lp L n s p
def z_eff (n : Int) (e : Int → Int) (r : Int) : Prop := (∀ p : Int, 0 ≤ p → p < n → 0 ≤ e p) ∧ fs_sum e n.toNat = r
def z_rk (L : Int → Int → Int) (n : Int) (x : Int → Int) (r : Int) : Prop := -1 ≤ r ∧ (∀ e : Int → Int, z_eff n e r → z_wn L n (fun p => x p - e p)) ∧ ∃ e : Int → Int, z_eff n e (r + 1) ∧ ¬ z_wn L n (fun p => x p - e p)
def z_ss (L : Int → Int → Int) (n q : Int) (y : Int → Int) : Prop := (∀ p : Int, 0 ≤ p → p < n → p ≠ q → 0 ≤ y p) ∧ z_NF L n q (fun p => s_val L n p - 1 - y p)
def z_mx (a : Int) : Int := if a < -1 then -1 else a
section RK
variable {L : Int → Int → Int} {n q : Int}
theorem z_mx_ge (a : Int) : -1 ≤ z_mx a ∧ a ≤ z_mx a ∧ (z_mx a = a ∨ z_mx a = -1) := by unfold z_mx; split <;> omega
theorem z_wn.mono {x y : Int → Int} (h : z_wn L n x) (hxy : ∀ p : Int, 0 ≤ p → p < n → x p ≤ y p) : z_wn L n y := by
  obtain ⟨s, hs⟩ := h
  exact ⟨s, fun p p0 p1 => by have := hs p p0 p1; have := hxy p p0 p1; omega⟩
theorem z_wn.ev {x y : Int → Int} (h : z_wn L n x) (e : z_ev L n x y) : z_wn L n y := by
  obtain ⟨s, hs⟩ := h
  obtain ⟨t, ht⟩ := e
  refine ⟨fun a => t a + s a, fun p p0 p1 => ?_⟩
  rw [z_lp_add]
  have := hs p p0 p1
  have := ht p p0 p1
  omega
theorem z_wn.deg (hg : g_ok L) (hn : 2 ≤ n ∧ n ≤ 5) {x : Int → Int} (h : z_wn L n x) : 0 ≤ fs_sum x n.toNat := by
  obtain ⟨s, hs⟩ := h
  have := fs_sum_le (f := fun _ => 0) (g := fun p => x p + z_lp L n s p) (m := n.toNat) (fun p p0 p1 => hs p p0 (by omega))
  rw [fs_sum_zero, fs_sum_add, z_lp_deg hg hn] at this
  omega
theorem z_eff.up {e : Int → Int} {r : Int} (hn : 2 ≤ n) (h : z_eff n e r) {c : Int} (hc : 0 ≤ c + e 0) : z_eff n (fun p => e p + (if p = 0 then c else 0)) (r + c) := by
  refine ⟨fun p p0 p1 => ?_, ?_⟩
  · have := h.1 p p0 p1
    show 0 ≤ e p + (if p = 0 then c else 0)
    by_cases e0 : p = 0
    · rw [if_pos e0, e0]; omega
    · rw [if_neg e0]; omega
  · rw [fs_sum_add, h.2, fs_sum_one (by omega) (by omega)]
theorem z_rk_uniq (hn : 2 ≤ n) {x : Int → Int} {r r' : Int} (h : z_rk L n x r) (h' : z_rk L n x r') : r = r' := by
  have key : ∀ {r r' : Int}, z_rk L n x r → z_rk L n x r' → ¬ r < r' := by
    intro r r' h h' hl
    obtain ⟨e, he, hw⟩ := h.2.2
    have he0 := he.1 0 (by omega) (by omega)
    have h1 := he.up hn (c := r' - (r + 1)) (by omega)
    rw [show r + 1 + (r' - (r + 1)) = r' by omega] at h1
    refine hw ((h'.2.1 _ h1).mono fun p p0 p1 => ?_)
    show x p - (e p + (if p = 0 then r' - (r + 1) else 0)) ≤ x p - e p
    split <;> omega
  have := key h h'
  have := key h' h
  omega
theorem z_ss_wn (hg : g_ok L) (hn : 2 ≤ n ∧ n ≤ 5) (hq : 0 ≤ q ∧ q < n) {y : Int → Int} (h : z_ss L n q y) : z_wn L n y ↔ 0 ≤ y q := by
  constructor
  · intro hw
    obtain ⟨s, hs⟩ := hw
    apply Classical.byContradiction
    intro hc
    obtain ⟨a, ⟨a0, a1, _⟩, a3⟩ := z_min (h := s) (S := fun _ => true) n.toNat ⟨q, hq.1, by omega, rfl⟩
    have hm : ∀ o : Int, 0 ≤ o → o < n → - s o ≤ - s a := fun o o0 o1 => by
      have := a3 o o0 (by omega) rfl
      omega
    have hqa : ¬ s q = s a := fun e => by
      have h1 := hs q hq.1 hq.2
      have h2 : z_lp L n s q ≤ 0 := by
        rw [z_lap hg hn hq]
        have := fs_sum_le (f := fun o => (s q - s o) * L q o) (g := fun _ => 0) (m := n.toNat) (fun o o0 o1 => by
          have h4 := hg q o hq.1 (by omega) o0 (by omega)
          have h5 := hm o o0 (by omega)
          have := Int.mul_le_mul_of_nonneg_right (show s q - s o ≤ 0 by omega) h4.1
          rw [Int.zero_mul] at this
          exact this)
        rw [fs_sum_zero] at this
        exact this
      omega
    obtain ⟨b, b0, b1, b2, b3⟩ := h.2 (fun o => decide (- s o = - s a)) (by simp; omega) ⟨a, a0, by omega, by simp⟩
    have b2 : - s b = - s a := by simpa using b2
    have h1 := z_top hg hn (s := fun o => - s o) (m := - s a) ⟨b0, b1⟩ hm b2
    rw [z_lp_neg] at h1
    have h2 := hs b b0 b1
    have b3 : z_in L n (fun o => decide (- s o = - s a)) b ≤ s_val L n b - 1 - y b := b3
    omega
  · intro h0
    refine ⟨fun _ => 0, fun p p0 p1 => ?_⟩
    rw [z_lp_zero, Int.add_zero]
    by_cases e : p = q
    · rw [e]; exact h0
    · exact h.1 p p0 p1 e
theorem z_ss.uniq (hg : g_ok L) (hn : 2 ≤ n ∧ n ≤ 5) (hq : 0 ≤ q ∧ q < n) {x y : Int → Int} (hx : z_ss L n q x) (hy : z_ss L n q y) (h : z_ev L n x y) : ∀ p : Int, 0 ≤ p → p < n → x p = y p := by
  have hc := (z_ev.rf (L := L) (n := n) (x := fun p => s_val L n p - 1)).sub h
  have h1 := z_uniq hg hn hq (z_ev.e0 (q := q) hc) (fun p p0 p1 p2 => by have := hx.1 p p0 p1 p2; show s_val L n p - 1 - x p < _; omega) (fun p p0 p1 p2 => by have := hy.1 p p0 p1 p2; show s_val L n p - 1 - y p < _; omega) hx.2 hy.2
  have h2 : ∀ p : Int, 0 ≤ p → p < n → p ≠ q → x p = y p := fun p p0 p1 p2 => by have : s_val L n p - 1 - x p = s_val L n p - 1 - y p := h1 p p0 p1 p2; omega
  intro p p0 p1
  by_cases e : p = q
  · have h3 := h.deg hg hn
    have h4 : fs_sum (fun o => x o - y o) n.toNat = 0 := by rw [fs_sum_sub, h3, Int.sub_self]
    rw [fs_sum_congr (g := fun o => if o = q then x q - y q else 0) (fun o o0 o1 => by
      by_cases c : o = q
      · rw [if_pos c, c]
      · rw [if_neg c, h2 o o0 (by omega) c, Int.sub_self]), fs_sum_one hq.1 (by omega)] at h4
    rw [e]; omega
  · exact h2 p p0 p1 e
theorem z_ss.of_c {x : Int → Int} (hx : ∀ p : Int, 0 ≤ p → p < n → p ≠ q → x p < s_val L n p) (hf : z_NF L n q x) : z_ss L n q (fun p => s_val L n p - 1 - x p) := by
  refine ⟨fun p p0 p1 p2 => by have := hx p p0 p1 p2; show 0 ≤ s_val L n p - 1 - x p; omega, hf.mono fun p p0 p1 p2 => ?_⟩
  show x p ≤ s_val L n p - 1 - (s_val L n p - 1 - x p)
  omega
theorem r_rd_ss (hg : g_ok L) (hn : 2 ≤ n ∧ n ≤ 5) (hq : 0 ≤ q ∧ q < n) (hJ : s_J L n) (x : Int → Int) : z_ss L n q (r_rd L n q x) ∧ z_ev L n (r_rd L n q x) x := by
  have hr := r_w_rec hg hn hq hJ (fun o => s_val L n o - 1 - x o)
  refine ⟨z_ss.of_c hr.2.1 hr.2.2.1, ?_⟩
  exact ((z_ev.rf (L := L) (n := n) (x := fun p => s_val L n p - 1)).sub hr.2.2.2).tr (z_ev.of fun p _ _ => by show s_val L n p - 1 - (s_val L n p - 1 - x p) = x p; omega)
/-! how many chips a reduced row has but at the sink -/
def z_t2 (L : Int → Int → Int) (n : Int) (S : Int → Bool) : Int := fs_sum (fun a => if S a = true then 2 * s_val L n a - z_in L n S a else 0) n.toNat
theorem z_in_rm {S : Int → Bool} {a b : Int} (hb : 0 ≤ b ∧ b < n) (hS : S b = true) : z_in L n S a = z_in L n (fun o => S o && decide (o ≠ b)) a + L a b := by
  unfold z_in
  rw [← fs_sum_one (k := b) (a := L a b) (m := n.toNat) hb.1 (by omega), ← fs_sum_add]
  refine fs_sum_congr fun o o0 o1 => ?_
  by_cases e : o = b
  · subst e
    rw [if_pos hS, if_neg (by simp), if_pos rfl, Int.zero_add]
  · cases c : S o
    · rw [if_neg (by simp [c]), if_neg (by simp [c]), if_neg e]; rfl
    · rw [if_pos (by simp [c]), if_pos (by simp [c, e]), if_neg e, Int.add_zero]
theorem z_t2_rm (hg : g_ok L) (hn : 2 ≤ n ∧ n ≤ 5) {S : Int → Bool} {b : Int} (hb : 0 ≤ b ∧ b < n) (hS : S b = true) : z_t2 L n S = z_t2 L n (fun o => S o && decide (o ≠ b)) + (2 * s_val L n b - z_in L n S b) - z_in L n S b := by
  have e : z_t2 L n S = fs_sum (fun a => (if (S a && decide (a ≠ b)) = true then 2 * s_val L n a - z_in L n (fun o => S o && decide (o ≠ b)) a else 0) + (if a = b then 2 * s_val L n b - z_in L n S b else 0) - (if S a = true then L b a else 0)) n.toNat := by
    refine fs_sum_congr fun a a0 a1 => ?_
    have hl := hg a b a0 (by omega) hb.1 (by omega)
    by_cases e : a = b
    · subst e
      rw [if_pos hS, if_neg (by simp), if_pos rfl, if_pos hS, hl.2.2.2]
      omega
    · cases c : S a
      · rw [if_neg (by simp [c]), if_neg (by simp [c]), if_neg e, if_neg (by simp [c])]; rfl
      · rw [if_pos (by simp [c]), if_pos (by simp [c, e]), if_neg e, if_pos (by simp [c]), z_in_rm hb hS, hl.2.2.1]
        omega
  rw [e, fs_sum_sub, fs_sum_add, fs_sum_one hb.1 (by omega)]
  rfl
theorem z_deg_S (hg : g_ok L) (hn : 2 ≤ n ∧ n ≤ 5) {y : Int → Int} (h : z_NF L n q (fun p => s_val L n p - 1 - y p)) : ∀ (m : Nat) (S : Int → Bool), S q = false → fs_sum (fun a => if S a = true then 1 else 0) n.toNat ≤ m → 2 * fs_sum (fun a => if S a = true then y a + 1 else 0) n.toNat ≤ z_t2 L n S := by
  intro m
  induction m with
  | zero =>
    intro S hS hm
    have hE : ∀ a : Int, 0 ≤ a → a < n → S a = false := fun a a0 a1 => by
      have := fs_sum_mem (f := fun a => if S a = true then 1 else 0) (m := n.toNat) (k := a) (fun j _ _ => by split <;> omega) a0 (by omega)
      cases c : S a
      · rfl
      · rw [c, if_pos rfl] at this; omega
    unfold z_t2
    rw [fs_sum_congr (g := fun _ => 0) (fun a a0 a1 => by rw [hE a a0 (by omega)]; rfl), fs_sum_zero, fs_sum_congr (g := fun _ => 0) (fun a a0 a1 => by rw [hE a a0 (by omega)]; rfl), fs_sum_zero]
    exact Int.le_refl _
  | succ m ih =>
    intro S hS hm
    rcases Classical.em (z_ne n S) with hne | hne
    · obtain ⟨b, b0, b1, b2, b3⟩ := h S hS hne
      have hs1 : fs_sum (fun a => if S a = true then 1 else 0) n.toNat = fs_sum (fun a => if (S a && decide (a ≠ b)) = true then 1 else 0) n.toNat + 1 := by
        have e1 : fs_sum (fun a => if S a = true then 1 else 0) n.toNat = fs_sum (fun a => if (S a && decide (a ≠ b)) = true then 1 else 0) n.toNat + fs_sum (fun o => if o = b then 1 else 0) n.toNat := by
          rw [← fs_sum_add]
          refine fs_sum_congr fun a a0 a1 => ?_
          by_cases e : a = b
          · subst e; rw [if_pos b2, if_neg (by simp), if_pos rfl]; rfl
          · cases c : S a
            · rw [if_neg (by simp [c]), if_neg (by simp [c]), if_neg e]; rfl
            · rw [if_pos (by simp [c]), if_pos (by simp [c, e]), if_neg e]; rfl
        rw [e1, fs_sum_one b0 (by omega)]
      have hs2 : fs_sum (fun a => if S a = true then y a + 1 else 0) n.toNat = fs_sum (fun a => if (S a && decide (a ≠ b)) = true then y a + 1 else 0) n.toNat + (y b + 1) := by
        rw [← fs_sum_one (k := b) (a := y b + 1) (m := n.toNat) b0 (by omega), ← fs_sum_add]
        refine fs_sum_congr fun a a0 a1 => ?_
        by_cases e : a = b
        · subst e; rw [if_pos b2, if_neg (by simp), if_pos rfl, Int.zero_add]
        · cases c : S a
          · rw [if_neg (by simp [c]), if_neg (by simp [c]), if_neg e]; rfl
          · rw [if_pos (by simp [c]), if_pos (by simp [c, e]), if_neg e, Int.add_zero]
      have h1 := ih (fun o => S o && decide (o ≠ b)) (by simp [hS]) (by omega)
      have h2 := z_t2_rm hg hn ⟨b0, b1⟩ b2
      have b3 : z_in L n S b ≤ s_val L n b - 1 - y b := b3
      omega
    · have hE : ∀ a : Int, 0 ≤ a → a < n → S a = false := fun a a0 a1 => by
        cases c : S a
        · rfl
        · exact absurd ⟨a, a0, a1, c⟩ hne
      unfold z_t2
      rw [fs_sum_congr (g := fun _ => 0) (fun a a0 a1 => by rw [hE a a0 (by omega)]; rfl), fs_sum_zero, fs_sum_congr (g := fun _ => 0) (fun a a0 a1 => by rw [hE a a0 (by omega)]; rfl), fs_sum_zero]
      exact Int.le_refl _
theorem fs_sum_k {c : Int} : ∀ {m : Nat}, fs_sum (fun _ => c) m = m * c
  | 0 => by show (0 : Int) = ((0 : Nat) : Int) * c; rw [show ((0 : Nat) : Int) = 0 from rfl, Int.zero_mul]
  | m + 1 => by
    show fs_sum (fun _ => c) m + c = _
    rw [fs_sum_k (m := m), Int.natCast_succ, Int.add_mul, Int.one_mul]
theorem z_deg_g (hg : g_ok L) (hn : 2 ≤ n ∧ n ≤ 5) (hq : 0 ≤ q ∧ q < n) {y : Int → Int} (h : z_ss L n q y) : fs_sum y n.toNat - y q ≤ s_lc L n - n + 1 := by
  have h1 := z_deg_S hg hn h.2 5 (fun o => decide (o ≠ q)) (by simp) (by
    have := fs_sum_le (f := fun a => if decide (a ≠ q) = true then 1 else 0) (g := fun _ => 1) (m := n.toNat) (fun a _ _ => by split <;> omega)
    rw [fs_sum_k] at this
    omega)
  have e1 : fs_sum (fun a => if decide (a ≠ q) = true then y a + 1 else 0) n.toNat = fs_sum y n.toNat + n - (y q + 1) := by
    have : fs_sum (fun a => if decide (a ≠ q) = true then y a + 1 else 0) n.toNat = fs_sum (fun a => (y a + 1) - (if a = q then y q + 1 else 0)) n.toNat := fs_sum_congr fun a a0 a1 => by
      by_cases e : a = q
      · rw [if_neg (by simp [e]), if_pos e, e, Int.sub_self]
      · rw [if_pos (by simp [e]), if_neg e, Int.sub_zero]
    rw [this, fs_sum_sub, fs_sum_one hq.1 (by omega), fs_sum_add, fs_sum_k]
    omega
  have ein : ∀ a : Int, 0 ≤ a → a < n → z_in L n (fun o => decide (o ≠ q)) a = s_val L n a - L a q := fun a a0 a1 => by
    unfold z_in s_val
    rw [← fs_sum_one (k := q) (a := L a q) (m := n.toNat) hq.1 (by omega), ← fs_sum_sub]
    refine fs_sum_congr fun o o0 o1 => ?_
    by_cases e : o = q
    · rw [if_neg (by simp [e]), if_pos e, e, Int.sub_self]
    · rw [if_pos (by simp [e]), if_neg e, Int.sub_zero]
  have e2 : z_t2 L n (fun o => decide (o ≠ q)) = fs_sum (fun p => s_val L n p) n.toNat := by
    have : z_t2 L n (fun o => decide (o ≠ q)) = fs_sum (fun a => s_val L n a + L q a - (if a = q then s_val L n q else 0)) n.toNat := fs_sum_congr fun a a0 a1 => by
      have hl := hg a q a0 (by omega) hq.1 (by omega)
      by_cases e : a = q
      · rw [if_neg (by simp [e]), if_pos e, e]
        rw [e] at hl
        omega
      · rw [if_pos (by simp [e]), if_neg e, ein a a0 (by omega)]
        omega
    rw [this, fs_sum_sub, fs_sum_one hq.1 (by omega), fs_sum_add]
    have e8 : fs_sum (L q) n.toNat = s_val L n q := rfl
    have e9 : fs_sum (s_val L n) n.toNat = fs_sum (fun p => s_val L n p) n.toNat := rfl
    omega
  rw [e1, e2] at h1
  have hb := s_lc_bd hg (n := n) (by omega) hn.2
  unfold s_lc
  rw [Int.tdiv_eq_ediv_of_nonneg hb.1]
  omega
theorem z_wn_deg (hg : g_ok L) (hn : 2 ≤ n ∧ n ≤ 5) (hJ : s_J L n) {x : Int → Int} (h : s_lc L n - n + 1 ≤ fs_sum x n.toNat) : z_wn L n x := by
  obtain ⟨h1, h2⟩ := r_rd_ss hg hn (q := 0) ⟨by omega, by omega⟩ hJ x
  have h3 := z_deg_g hg hn ⟨by omega, by omega⟩ h1
  have h4 := h2.deg hg hn
  exact ((z_ss_wn hg hn ⟨by omega, by omega⟩ h1).2 (by omega)).ev h2
/-! a row of degree GENUS less 1 that is not won -/
def z_nu (L : Int → Int → Int) (p : Int) : Int := fs_sum (L p) p.toNat - 1
theorem fs_sum_lt {f : Int → Int} {b : Nat} : ∀ {m : Nat}, b ≤ m → fs_sum (fun o => if o < (b : Int) then f o else 0) m = fs_sum f b
  | 0, h => by rw [show b = 0 by omega]; rfl
  | m + 1, h => by
    show fs_sum (fun o => if o < (b : Int) then f o else 0) m + (if ((m : Nat) : Int) < (b : Int) then f m else 0) = _
    by_cases e : b = m + 1
    · subst e
      rw [if_pos (by omega), fs_sum_congr (g := f) (fun k k0 k1 => if_pos (by omega))]
      rfl
    · rw [if_neg (by omega), fs_sum_lt (m := m) (by omega), Int.add_zero]
theorem z_nu_no (hg : g_ok L) (hn : 2 ≤ n ∧ n ≤ 5) : ¬ z_wn L n (z_nu L) := by
  intro hw
  obtain ⟨s, hs⟩ := hw
  obtain ⟨a, ⟨a0, a1, _⟩, a3⟩ := z_min (h := s) (S := fun _ => true) n.toNat ⟨0, by omega, by omega, rfl⟩
  have hm : ∀ o : Int, 0 ≤ o → o < n → - s o ≤ - s a := fun o o0 o1 => by
    have := a3 o o0 (by omega) rfl
    omega
  obtain ⟨b, ⟨b0, b1, b2⟩, b3⟩ := z_min (h := fun o => o) (S := fun o => decide (- s o = - s a)) n.toNat ⟨a, a0, a1, by simp⟩
  have b2' : - s b = - s a := by simpa using b2
  have h1 := z_top hg hn (s := fun o => - s o) (m := - s a) ⟨b0, by omega⟩ hm b2'
  rw [z_lp_neg] at h1
  have h2 := hs b b0 (by omega)
  have h3 : fs_sum (L b) b.toNat ≤ s_val L n b - z_in L n (fun o => decide (- s o = - s a)) b := by
    rw [← fs_sum_lt (f := L b) (b := b.toNat) (m := n.toNat) (by omega)]
    unfold s_val z_in
    rw [← fs_sum_sub]
    refine fs_sum_le fun o o0 o1 => ?_
    have hl := hg b o b0 (by omega) o0 (by omega)
    by_cases c : o < ((b.toNat : Nat) : Int)
    · rw [if_pos c]
      by_cases c2 : - s o = - s a
      · have := b3 o o0 o1 (by simp [c2])
        omega
      · rw [if_neg (by simpa using c2), Int.sub_zero]
        exact Int.le_refl _
    · rw [if_neg c]
      split <;> omega
  unfold z_nu at h2
  omega
theorem z_lines2 (hg : g_ok L) : ∀ m : Nat, (m : Int) ≤ 5 → fs_sum (fun p => fs_sum (L p) m) m = 2 * fs_sum (fun p => fs_sum (L p) p.toNat) m
  | 0, _ => rfl
  | m + 1, hm => by
    have ih := z_lines2 hg m (by omega)
    show fs_sum (fun p => fs_sum (L p) m + L p m) m + (fs_sum (L m) m + L m m) = 2 * (fs_sum (fun p => fs_sum (L p) p.toNat) m + fs_sum (L m) ((m : Nat) : Int).toNat)
    rw [fs_sum_add, ih, show ((m : Nat) : Int).toNat = m by omega, (hg m m (by omega) (by omega) (by omega) (by omega)).2.2.2]
    have : fs_sum (fun p => L p m) m = fs_sum (L m) m := fs_sum_congr fun p p0 p1 => (hg p m p0 (by omega) (by omega) (by omega)).2.2.1
    rw [this]
    omega
theorem z_nu_deg (hg : g_ok L) (hn : 2 ≤ n ∧ n ≤ 5) : fs_sum (z_nu L) n.toNat = s_lc L n - n := by
  have h1 := z_lines2 hg n.toNat (by omega)
  have e : fs_sum (z_nu L) n.toNat = fs_sum (fun p => fs_sum (L p) p.toNat) n.toNat - n := by
    unfold z_nu
    rw [fs_sum_sub, fs_sum_k]
    omega
  have h2 : s_lc L n = (fs_sum (fun p => fs_sum (L p) n.toNat) n.toNat).tdiv 2 := rfl
  rw [e, h2, h1, Int.mul_tdiv_cancel_left _ (by decide)]
/-! what tells a rank -/
theorem z_rk_neg (hg : g_ok L) (hn : 2 ≤ n ∧ n ≤ 5) {x : Int → Int} (h : fs_sum x n.toNat < 0) : z_rk L n x (-1) := by
  refine ⟨by omega, fun e he => ?_, fun _ => 0, ⟨fun _ _ _ => Int.le_refl _, by rw [fs_sum_zero]; rfl⟩, fun hw => ?_⟩
  · have := fs_sum_le (f := fun _ => 0) (g := e) (m := n.toNat) (fun p p0 p1 => he.1 p p0 (by omega))
    rw [fs_sum_zero, he.2] at this
    omega
  · have := (hw.mono (y := x) fun p _ _ => by show x p - 0 ≤ x p; omega).deg hg hn
    omega
theorem z_rk_big (hg : g_ok L) (hn : 2 ≤ n ∧ n ≤ 5) (hJ : s_J L n) {x : Int → Int} (h0 : 0 ≤ fs_sum x n.toNat) (h : 2 * (s_lc L n - n + 1) - 2 < fs_sum x n.toNat) : z_rk L n x (fs_sum x n.toNat - (s_lc L n - n + 1)) := by
  have hnu := z_nu_deg hg hn
  refine ⟨by omega, fun e he => z_wn_deg hg hn hJ ?_, ?_⟩
  · rw [fs_sum_sub, he.2]; omega
  · have hw : z_wn L n (fun p => x p - z_nu L p) := z_wn_deg hg hn hJ (by rw [fs_sum_sub, hnu]; omega)
    obtain ⟨s, hs⟩ := hw
    refine ⟨fun p => x p - z_nu L p + z_lp L n s p, ⟨fun p p0 p1 => hs p p0 p1, ?_⟩, fun hw => z_nu_no hg hn (hw.ev ⟨fun a => - s a, fun p p0 p1 => ?_⟩)⟩
    · rw [fs_sum_add, fs_sum_sub, z_lp_deg hg hn, hnu]; omega
    · rw [z_lp_neg]
      show x p - (x p - z_nu L p + z_lp L n s p) = _
      omega
theorem z_rk_search (hg : g_ok L) (hn : 2 ≤ n ∧ n ≤ 5) (hJ : s_J L n) {x : Int → Int} {l : Int} (h1 : ∀ e y : Int → Int, (∀ p : Int, 0 ≤ p → p < n → 0 ≤ e p) → e 0 = 0 → z_ss L n 0 y → z_ev L n y (fun p => x p - e p) → l ≤ fs_sum e n.toNat + z_mx (y 0)) (h2 : ∃ e y : Int → Int, (∀ p : Int, 0 ≤ p → p < n → 0 ≤ e p) ∧ e 0 = 0 ∧ z_ss L n 0 y ∧ z_ev L n y (fun p => x p - e p) ∧ l = fs_sum e n.toNat + z_mx (y 0)) : z_rk L n x l := by
  have hq : (0 : Int) ≤ 0 ∧ (0 : Int) < n := ⟨by omega, by omega⟩
  have sub : ∀ {y : Int → Int} (c : Int), z_ss L n 0 y → z_ss L n 0 (fun p => y p - (if p = 0 then c else 0)) := fun {y} c hy => by
    refine ⟨fun p p0 p1 p2 => ?_, hy.2.mono fun p p0 p1 p2 => ?_⟩
    · show 0 ≤ y p - (if p = 0 then c else 0)
      rw [if_neg p2, Int.sub_zero]
      exact hy.1 p p0 p1 p2
    · show s_val L n p - 1 - y p ≤ s_val L n p - 1 - (y p - (if p = 0 then c else 0))
      rw [if_neg p2]
      omega
  refine ⟨?_, fun e he => ?_, ?_⟩
  · obtain ⟨e, y, a1, a2, a3, a4, a5⟩ := h2
    have := fs_sum_le (f := fun _ => 0) (g := e) (m := n.toNat) (fun p p0 p1 => a1 p p0 (by omega))
    rw [fs_sum_zero] at this
    have := z_mx_ge (y 0)
    omega
  · have he0 := he.1 0 (by omega) (by omega)
    obtain ⟨b1, b2⟩ := r_rd_ss hg hn hq hJ (fun p => x p - (e p - (if p = 0 then e 0 else 0)))
    have h3 := h1 (fun p => e p - (if p = 0 then e 0 else 0)) _ (fun p p0 p1 => by
      have := he.1 p p0 p1
      show 0 ≤ e p - (if p = 0 then e 0 else 0)
      by_cases c : p = 0
      · rw [if_pos c, c]; omega
      · rw [if_neg c]; omega) (by show e 0 - (if (0 : Int) = 0 then e 0 else 0) = 0; rw [if_pos rfl, Int.sub_self]) b1 b2
    rw [fs_sum_sub, he.2, fs_sum_one (by omega) (by omega)] at h3
    have h4 := z_mx_ge (r_rd L n 0 (fun p => x p - (e p - (if p = 0 then e 0 else 0))) 0)
    have h5 := (z_ss_wn hg hn hq (sub (e 0) b1)).2 (by
      show 0 ≤ r_rd L n 0 _ 0 - (if (0 : Int) = 0 then e 0 else 0)
      rw [if_pos rfl]
      omega)
    refine h5.ev ?_
    exact (b2.sub (z_ev.rf (x := fun p => if p = 0 then e 0 else 0))).tr (z_ev.of fun p _ _ => by
      show x p - (e p - (if p = 0 then e 0 else 0)) - (if p = 0 then e 0 else 0) = x p - e p
      omega)
  · obtain ⟨e, y, a1, a2, a3, a4, a5⟩ := h2
    have hm := z_mx_ge (y 0)
    have h3 := z_eff.up (n := n) (e := e) (r := fs_sum e n.toNat) hn.1 ⟨a1, rfl⟩ (c := z_mx (y 0) + 1) (by omega)
    rw [show fs_sum e n.toNat + (z_mx (y 0) + 1) = l + 1 by omega] at h3
    refine ⟨_, h3, fun hw => ?_⟩
    have h4 := (z_ss_wn hg hn hq (sub (z_mx (y 0) + 1) a3)).1 (hw.ev (z_ev.sy ((a4.sub (z_ev.rf (x := fun p => if p = 0 then z_mx (y 0) + 1 else 0))).tr (z_ev.of fun p _ _ => by
      show x p - e p - (if p = 0 then z_mx (y 0) + 1 else 0) = x p - (e p + (if p = 0 then z_mx (y 0) + 1 else 0))
      omega))))
    have h4 : 0 ≤ y 0 - (if (0 : Int) = 0 then z_mx (y 0) + 1 else 0) := h4
    rw [if_pos rfl] at h4
    omega
end RK
