/-! numbers, sums, bits -/
def fs_sum (f : Int → Int) : Nat → Int
  | 0 => 0
  | n + 1 => fs_sum f n + f n
theorem fs_step {f : Int → Int} {k : Int} (h : 0 ≤ k) : fs_sum f (k + 1).toNat = fs_sum f k.toNat + f k := by
  have e : (k + 1).toNat = k.toNat + 1 := by omega
  rw [e]
  show fs_sum f k.toNat + f ((k.toNat : Nat) : Int) = _
  rw [Int.toNat_of_nonneg h]
theorem fs_sum_congr {f g : Int → Int} : ∀ {n : Nat}, (∀ k : Int, 0 ≤ k → k < n → f k = g k) → fs_sum f n = fs_sum g n
  | 0, _ => rfl
  | n + 1, h => by
    show fs_sum f n + f n = fs_sum g n + g n
    rw [fs_sum_congr (n := n) (fun k h0 h1 => h k h0 (by omega)), h n (by omega) (by omega)]
theorem fs_sum_bd {f : Int → Int} {lo hi : Int} : ∀ {n : Nat}, (∀ k : Int, 0 ≤ k → k < n → lo ≤ f k ∧ f k ≤ hi) → n * lo ≤ fs_sum f n ∧ fs_sum f n ≤ n * hi
  | 0, _ => by simp [fs_sum]
  | n + 1, h => by
    have ih := fs_sum_bd (n := n) (fun k h0 h1 => h k h0 (by omega))
    have h9 := h n (by omega) (by omega)
    show ((n + 1 : Nat) : Int) * lo ≤ fs_sum f n + f n ∧ fs_sum f n + f n ≤ ((n + 1 : Nat) : Int) * hi
    have e1 : ((n + 1 : Nat) : Int) * lo = n * lo + lo := by rw [Int.natCast_succ, Int.add_mul, Int.one_mul]
    have e2 : ((n + 1 : Nat) : Int) * hi = n * hi + hi := by rw [Int.natCast_succ, Int.add_mul, Int.one_mul]
    omega
theorem fz_lt {P : Int → Prop} {N : Nat} (h : ∀ k : Fin N, P ((k.val : Nat) : Int)) {s : Int} (h0 : 0 ≤ s) (h1 : s < N) : P s := by
  have h2 := h ⟨s.toNat, by omega⟩
  have e : ((s.toNat : Nat) : Int) = s := by omega
  rw [← e]
  exact h2
/-- the bit o of s -/
def fb_t (s o : Int) : Int := s / 2 ^ o.toNat % 2
theorem fb_and {s o : Int} (h0 : 0 ≤ s) (h1 : s < 32) (h2 : 0 ≤ o) (h3 : o < 5) : fc_and (fc_shr s o) 1 = fb_t s o := by
  have key : ∀ s : Fin 32, ∀ o : Fin 5, fc_and (fc_shr ((s.val : Nat) : Int) ((o.val : Nat) : Int)) 1 = fb_t ((s.val : Nat) : Int) ((o.val : Nat) : Int) := by decide +kernel
  exact fz_lt (P := fun s => fc_and (fc_shr s o) 1 = fb_t s o) (N := 32) (fun s => fz_lt (P := fun o => fc_and (fc_shr ((s.val : Nat) : Int) o) 1 = fb_t ((s.val : Nat) : Int) o) (N := 5) (fun o => key s o) h2 h3) h0 h1
theorem fb_01 (s o : Int) : fb_t s o = 0 ∨ fb_t s o = 1 := by unfold fb_t; omega
theorem fb_shl1 {p : Int} (h0 : 0 ≤ p) (h1 : p < 6) : fc_shl 1 p = 2 ^ p.toNat := by
  have key : ∀ p : Fin 6, fc_shl 1 ((p.val : Nat) : Int) = 2 ^ ((p.val : Nat) : Int).toNat := by decide +kernel
  exact fz_lt (P := fun p => fc_shl 1 p = 2 ^ p.toNat) (N := 6) key h0 h1
theorem fb_pow {p : Int} (h0 : 0 ≤ p) (h1 : p < 6) : 1 ≤ (2 : Int) ^ p.toNat ∧ (2 : Int) ^ p.toNat ≤ 32 := by
  have key : ∀ p : Fin 6, 1 ≤ (2 : Int) ^ ((p.val : Nat) : Int).toNat ∧ (2 : Int) ^ ((p.val : Nat) : Int).toNat ≤ 32 := by decide +kernel
  exact fz_lt (P := fun p => 1 ≤ (2 : Int) ^ p.toNat ∧ (2 : Int) ^ p.toNat ≤ 32) (N := 6) key h0 h1
theorem fb_pow5 {p : Int} (h0 : 0 ≤ p) (h1 : p < 5) : 1 ≤ (2 : Int) ^ p.toNat ∧ (2 : Int) ^ p.toNat ≤ 16 := by
  have key : ∀ p : Fin 5, 1 ≤ (2 : Int) ^ ((p.val : Nat) : Int).toNat ∧ (2 : Int) ^ ((p.val : Nat) : Int).toNat ≤ 16 := by decide +kernel
  exact fz_lt (P := fun p => 1 ≤ (2 : Int) ^ p.toNat ∧ (2 : Int) ^ p.toNat ≤ 16) (N := 5) key h0 h1
/-- s with the point p -/
def fb_in (s p : Int) : Int := if fb_t s p = 1 then s else s + 2 ^ p.toNat
theorem fb_or {s p : Int} (h0 : 0 ≤ s) (h1 : s < 32) (h2 : 0 ≤ p) (h3 : p < 5) : fc_or s (2 ^ p.toNat) = fb_in s p ∧ 0 ≤ fb_in s p ∧ fb_in s p < 32 := by
  have key : ∀ s : Fin 32, ∀ o : Fin 5, fc_or ((s.val : Nat) : Int) (2 ^ ((o.val : Nat) : Int).toNat) = fb_in ((s.val : Nat) : Int) ((o.val : Nat) : Int) ∧ 0 ≤ fb_in ((s.val : Nat) : Int) ((o.val : Nat) : Int) ∧ fb_in ((s.val : Nat) : Int) ((o.val : Nat) : Int) < 32 := by decide +kernel
  exact fz_lt (P := fun s => fc_or s (2 ^ p.toNat) = fb_in s p ∧ 0 ≤ fb_in s p ∧ fb_in s p < 32) (N := 32) (fun s => fz_lt (P := fun p => fc_or ((s.val : Nat) : Int) (2 ^ p.toNat) = fb_in ((s.val : Nat) : Int) p ∧ 0 ≤ fb_in ((s.val : Nat) : Int) p ∧ fb_in ((s.val : Nat) : Int) p < 32) (N := 5) (fun o => key s o) h2 h3) h0 h1
theorem fb_in_t {s p o : Int} (h0 : 0 ≤ s) (h1 : s < 32) (h2 : 0 ≤ p) (h3 : p < 5) (h4 : 0 ≤ o) (h5 : o < 5) : fb_t (fb_in s p) o = if o = p then 1 else fb_t s o := by
  have key : ∀ s : Fin 32, ∀ p : Fin 5, ∀ o : Fin 5, fb_t (fb_in ((s.val : Nat) : Int) ((p.val : Nat) : Int)) ((o.val : Nat) : Int) = if ((o.val : Nat) : Int) = ((p.val : Nat) : Int) then 1 else fb_t ((s.val : Nat) : Int) ((o.val : Nat) : Int) := by decide +kernel
  exact fz_lt (P := fun s => fb_t (fb_in s p) o = if o = p then 1 else fb_t s o) (N := 32) (fun s => fz_lt (P := fun p => fb_t (fb_in ((s.val : Nat) : Int) p) o = if o = p then 1 else fb_t ((s.val : Nat) : Int) o) (N := 5) (fun p => fz_lt (P := fun o => fb_t (fb_in ((s.val : Nat) : Int) ((p.val : Nat) : Int)) o = if o = ((p.val : Nat) : Int) then 1 else fb_t ((s.val : Nat) : Int) o) (N := 5) (fun o => key s p o) h4 h5) h2 h3) h0 h1
/-- all points -/
def fb_all (n : Int) : Int := 2 ^ n.toNat - 1
theorem fb_all_t {n o : Int} (h0 : 0 ≤ n) (h1 : n < 6) (h2 : 0 ≤ o) (h3 : o < 5) : fb_t (fb_all n) o = if o < n then 1 else 0 := by
  have key : ∀ s : Fin 6, ∀ o : Fin 5, fb_t (fb_all ((s.val : Nat) : Int)) ((o.val : Nat) : Int) = if ((o.val : Nat) : Int) < ((s.val : Nat) : Int) then 1 else 0 := by decide +kernel
  exact fz_lt (P := fun s => fb_t (fb_all s) o = if o < s then 1 else 0) (N := 6) (fun s => fz_lt (P := fun o => fb_t (fb_all ((s.val : Nat) : Int)) o = if o < ((s.val : Nat) : Int) then 1 else 0) (N := 5) (fun o => key s o) h2 h3) h0 h1
theorem fb_all_bd {n : Int} (h0 : 0 ≤ n) (h1 : n < 6) : 0 ≤ fb_all n ∧ fb_all n < 32 := by
  have := fb_pow h0 h1
  unfold fb_all
  omega
/-- two sets with the same bits are the same -/
theorem fb_ext {s t : Int} (h0 : 0 ≤ s) (h1 : s < 32) (h2 : 0 ≤ t) (h3 : t < 32) (h : ∀ o : Int, 0 ≤ o → o < 5 → fb_t s o = fb_t t o) : s = t := by
  have e0 := h 0 (by omega) (by omega)
  have e1 := h 1 (by omega) (by omega)
  have e2 := h 2 (by omega) (by omega)
  have e3 := h 3 (by omega) (by omega)
  have e4 := h 4 (by omega) (by omega)
  unfold fb_t at e0 e1 e2 e3 e4
  simp only [show (0 : Int).toNat = 0 from rfl, show (1 : Int).toNat = 1 from rfl, show (2 : Int).toNat = 2 from rfl, show (3 : Int).toNat = 3 from rfl, show (4 : Int).toNat = 4 from rfl] at e0 e1 e2 e3 e4
  simp only [show (2 : Int) ^ 0 = 1 from rfl, show (2 : Int) ^ 1 = 2 from rfl, show (2 : Int) ^ 2 = 4 from rfl, show (2 : Int) ^ 3 = 8 from rfl, show (2 : Int) ^ 4 = 16 from rfl] at e0 e1 e2 e3 e4
  omega
