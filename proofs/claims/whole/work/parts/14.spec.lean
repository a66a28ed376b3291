/-! words for the network: n points, L a b lines, c p chips -/
noncomputable def fc_ind (P : Prop) : Int := @ite _ P (Classical.propDecidable P) 1 0
theorem fc_ind_t {P : Prop} (h : P) : fc_ind P = 1 := by unfold fc_ind; rw [if_pos h]
theorem fc_ind_f {P : Prop} (h : ¬ P) : fc_ind P = 0 := by unfold fc_ind; rw [if_neg h]
theorem fc_ind_01 (P : Prop) : fc_ind P = 0 ∨ fc_ind P = 1 := by
  rcases Classical.em P with h | h
  · exact Or.inr (fc_ind_t h)
  · exact Or.inl (fc_ind_f h)
theorem fc_ind_1 {P : Prop} (h : fc_ind P = 1) : P := by
  rcases Classical.em P with q | q
  · exact q
  · rw [fc_ind_f q] at h; cases h
theorem fc_ind_0 {P : Prop} (h : fc_ind P = 0) : ¬ P := fun q => by rw [fc_ind_t q] at h; cases h
theorem fc_ind_ne {P : Prop} (h : fc_ind P ≠ 0) : P := by
  rcases fc_ind_01 P with q | q
  · exact absurd q h
  · exact fc_ind_1 q
theorem fc_ind_R (P : Prop) : fc_R (fc_ind P) := by
  rcases fc_ind_01 P with h | h <;> rw [h] <;> exact ⟨by decide, by decide⟩
theorem fc_ind_congr {P Q : Prop} (h : P ↔ Q) : fc_ind P = fc_ind Q := by
  rcases Classical.em P with q | q
  · rw [fc_ind_t q, fc_ind_t (h.mp q)]
  · rw [fc_ind_f q, fc_ind_f (fun z => q (h.mpr z))]
def g_ok (L : Int → Int → Int) : Prop := ∀ a b : Int, 0 ≤ a → a < 5 → 0 ≤ b → b < 5 → 0 ≤ L a b ∧ L a b ≤ 3 ∧ L a b = L b a ∧ L a a = 0
def s_li (L : Int → Int → Int) (n set p : Int) : Int := fs_sum (fun o => if fb_t set o = 1 then L p o else 0) n.toNat
def s_val (L : Int → Int → Int) (n p : Int) : Int := fs_sum (L p) n.toNat
def s_lc (L : Int → Int → Int) (n : Int) : Int := (fs_sum (fun p => s_val L n p) n.toNat).tdiv 2
theorem s_li_bd {L : Int → Int → Int} (hg : g_ok L) {n set p : Int} (h0 : 0 ≤ n) (h1 : n ≤ 5) (h2 : 0 ≤ p) (h3 : p < 5) : 0 ≤ s_li L n set p ∧ s_li L n set p ≤ 15 := by
  have := fs_sum_bd (f := fun o => if fb_t set o = 1 then L p o else 0) (lo := 0) (hi := 3) (n := n.toNat) (fun k q0 q1 => by
    have := hg p k h2 h3 q0 (by omega)
    split <;> omega)
  unfold s_li
  omega
theorem s_val_bd {L : Int → Int → Int} (hg : g_ok L) {n p : Int} (h0 : 0 ≤ n) (h1 : n ≤ 5) (h2 : 0 ≤ p) (h3 : p < 5) : 0 ≤ s_val L n p ∧ s_val L n p ≤ 15 := by
  have := fs_sum_bd (f := L p) (lo := 0) (hi := 3) (n := n.toNat) (fun k q0 q1 => by
    have := hg p k h2 h3 q0 (by omega)
    omega)
  unfold s_val
  omega
theorem s_li_all {L : Int → Int → Int} {n p : Int} (h0 : 0 ≤ n) (h1 : n ≤ 5) : s_li L n (fb_all n) p = s_val L n p := by
  refine fs_sum_congr fun k q0 q1 => ?_
  rw [if_pos]
  rw [fb_all_t h0 (by omega) q0 (by omega), if_pos (by omega)]
theorem s_lc_bd {L : Int → Int → Int} (hg : g_ok L) {n : Int} (h0 : 0 ≤ n) (h1 : n ≤ 5) : 0 ≤ fs_sum (fun p => s_val L n p) n.toNat ∧ fs_sum (fun p => s_val L n p) n.toNat ≤ 75 := by
  have := fs_sum_bd (f := fun p => s_val L n p) (lo := 0) (hi := 15) (n := n.toNat) (fun k q0 q1 => s_val_bd hg h0 h1 q0 (by omega))
  omega
/-! joined -/
def s_cl (L : Int → Int → Int) (n S : Int) : Prop := ∀ a b : Int, 0 ≤ a → a < n → 0 ≤ b → b < n → fb_t S a = 1 → 0 < L a b → fb_t S b = 1
def s_J (L : Int → Int → Int) (n : Int) : Prop := ∀ S : Int, 0 ≤ S → S < 32 → fb_t S 0 = 1 → s_cl L n S → ∀ p : Int, 0 ≤ p → p < n → fb_t S p = 1
/-- what a set has come to by lines from point 0 -/
def s_R (L : Int → Int → Int) (n r : Int) : Prop := 0 ≤ r ∧ r < 32 ∧ fb_t r 0 = 1 ∧ (∀ o : Int, 0 ≤ o → o < 5 → fb_t r o = 1 → o < n) ∧ ∀ S : Int, 0 ≤ S → S < 32 → fb_t S 0 = 1 → s_cl L n S → ∀ p : Int, 0 ≤ p → p < n → fb_t r p = 1 → fb_t S p = 1
def s_pc (r : Int) : Int := fs_sum (fb_t r) 5
theorem s_li_pos {L : Int → Int → Int} (hg : g_ok L) {n r p : Int} (h0 : 0 ≤ n) (h1 : n ≤ 5) (h2 : 0 ≤ p) (h3 : p < 5) (h : 0 < s_li L n r p) : ∃ o : Int, 0 ≤ o ∧ o < n ∧ fb_t r o = 1 ∧ 0 < L p o := by
  apply Classical.byContradiction
  intro hc
  have e : s_li L n r p = fs_sum (fun _ => 0) n.toNat := by
    refine fs_sum_congr fun k q0 q1 => ?_
    by_cases q : fb_t r k = 1
    · rw [if_pos q]
      have h9 := hg p k h2 h3 q0 (by omega)
      by_cases q9 : 0 < L p k
      · exact absurd ⟨k, q0, by omega, q, q9⟩ hc
      · omega
    · rw [if_neg q]
  have e2 : ∀ m : Nat, fs_sum (fun _ => 0) m = 0 := fun m => by
    induction m with
    | zero => rfl
    | succ m ih => show fs_sum (fun _ => 0) m + 0 = 0; rw [ih]; rfl
  rw [e, e2] at h
  omega
theorem fs_sum_mem {f : Int → Int} : ∀ {m : Nat} {k : Int}, (∀ j : Int, 0 ≤ j → j < m → 0 ≤ f j) → 0 ≤ k → k < m → f k ≤ fs_sum f m
  | 0, k, _, h0, h1 => by omega
  | m + 1, k, h, h0, h1 => by
    show f k ≤ fs_sum f m + f m
    have hm := h m (by omega) (by omega)
    have hs : 0 ≤ fs_sum f m := by
      have := fs_sum_bd (f := fun j => if j < (m : Int) ∧ 0 ≤ j then f j else 0) (lo := 0) (hi := fs_sum f m) (n := 0) (fun k q0 q1 => by omega)
      clear this
      have : ∀ q : Nat, q ≤ m → 0 ≤ fs_sum f q := fun q => by
        induction q with
        | zero => intro _; exact Int.le_refl 0
        | succ q ih => intro hq; show 0 ≤ fs_sum f q + f q; have := ih (by omega); have := h q (by omega) (by omega); omega
      exact this m (Nat.le_refl _)
    by_cases e : k = m
    · rw [e]; omega
    · have := fs_sum_mem (f := f) (m := m) (k := k) (fun j q0 q1 => h j q0 (by omega)) h0 (by omega)
      omega
theorem s_li_neg {L : Int → Int → Int} (hg : g_ok L) {n r p : Int} (h1 : n ≤ 5) (h2 : 0 ≤ p) (h3 : p < 5) (h : s_li L n r p ≤ 0) {o : Int} (q0 : 0 ≤ o) (q1 : o < n) (q2 : fb_t r o = 1) : L p o ≤ 0 := by
  have := fs_sum_mem (f := fun o => if fb_t r o = 1 then L p o else 0) (m := n.toNat) (k := o) (fun j z0 z1 => by
    have := hg p j h2 h3 z0 (by omega)
    split <;> omega) q0 (by omega)
  unfold s_li at h
  rw [if_pos q2] at this
  omega
/-- one point more -/
theorem s_R.add {L : Int → Int → Int} (hg : g_ok L) {n r p : Int} (hn0 : 0 ≤ n) (hn : n ≤ 5) (hR : s_R L n r) (h0 : 0 ≤ p) (h1 : p < n) (h : 0 < s_li L n r p) : s_R L n (fb_in r p) := by
  obtain ⟨a1, a2, a3, a4, a5⟩ := hR
  obtain ⟨-, b1, b2⟩ := fb_or a1 a2 h0 (show p < 5 by omega)
  refine ⟨b1, b2, ?_, ?_, ?_⟩
  · rw [fb_in_t a1 a2 h0 (by omega) (by omega) (by omega), a3]; split <;> rfl
  · intro o q0 q1 q2
    rw [fb_in_t a1 a2 h0 (by omega) q0 q1] at q2
    split at q2
    · omega
    · exact a4 o q0 q1 q2
  · intro S s0 s1 s2 s3 o q0 q1 q2
    rw [fb_in_t a1 a2 h0 (by omega) q0 (by omega)] at q2
    split at q2
    · obtain ⟨o', z0, z1, z2, z3⟩ := s_li_pos hg hn0 hn h0 (by omega) h
      rename_i e
      rw [e]
      exact s3 o' p z0 z1 h0 h1 (a5 S s0 s1 s2 s3 o' z0 z1 z2) (by rw [← (hg p o' h0 (by omega) z0 (by omega)).2.2.1]; exact z3)
    · exact a5 S s0 s1 s2 s3 o q0 q1 q2
theorem s_R.one {L : Int → Int → Int} {n : Int} (hn : 2 ≤ n) : s_R L n 1 := by
  have e : ∀ o : Fin 5, fb_t 1 ((o.val : Nat) : Int) = if ((o.val : Nat) : Int) = 0 then 1 else 0 := by decide +kernel
  have e' : ∀ {o : Int}, 0 ≤ o → o < 5 → fb_t 1 o = if o = 0 then 1 else 0 := fun h0 h1 => fz_lt (P := fun o => fb_t 1 o = if o = 0 then 1 else 0) (N := 5) e h0 h1
  refine ⟨by omega, by omega, by decide, ?_, ?_⟩
  · intro o q0 q1 q2
    rw [e' q0 q1] at q2
    split at q2 <;> omega
  · intro S s0 s1 s2 s3 o q0 q1 q2
    by_cases h5 : o < 5
    · rw [e' q0 h5] at q2
      split at q2
      · rename_i e; rw [e]; exact s2
      · omega
    · have e3 : fb_t 1 o = 0 := by
        unfold fb_t
        have : (32 : Int) ≤ 2 ^ o.toNat := by
          have h6 : 5 ≤ o.toNat := by omega
          have h7 : (2 : Nat) ^ 5 ≤ 2 ^ o.toNat := Nat.pow_le_pow_right (by decide) h6
          have h8 : ((2 ^ o.toNat : Nat) : Int) = (2 : Int) ^ o.toNat := by simp
          omega
        rw [Int.ediv_eq_zero_of_lt (by omega) (by omega)]
        rfl
      rw [e3] at q2
      omega
theorem fb_in_same {r p : Int} (h : fb_t r p = 1) : fb_in r p = r := if_pos h
/-- a set that is closed, or has all points, tells it -/
theorem s_R.end {L : Int → Int → Int} {n r : Int} (hn : n ≤ 5) (hn0 : 2 ≤ n) (hR : s_R L n r) (hc : s_cl L n r ∨ ∀ p : Int, 0 ≤ p → p < n → fb_t r p = 1) : r = fb_all n ↔ s_J L n := by
  obtain ⟨a1, a2, a3, a4, a5⟩ := hR
  constructor
  · intro e S s0 s1 s2 s3 p q0 q1
    refine a5 S s0 s1 s2 s3 p q0 q1 ?_
    rw [e, fb_all_t (by omega) (by omega) q0 (by omega), if_pos q1]
  · intro hJ
    have hall : ∀ p : Int, 0 ≤ p → p < n → fb_t r p = 1 := by
      rcases hc with hc | hc
      · exact hJ r a1 a2 a3 hc
      · exact hc
    have hb := fb_all_bd (n := n) (by omega) (by omega)
    refine fb_ext a1 a2 hb.1 hb.2 fun o q0 q1 => ?_
    rw [fb_all_t (by omega) (by omega) q0 q1]
    by_cases h : o < n
    · rw [if_pos h]; exact hall o q0 h
    · rw [if_neg h]
      rcases fb_01 r o with z | z
      · exact z
      · exact absurd (a4 o q0 q1 z) h
theorem s_pc5 (r : Int) : s_pc r = fb_t r 0 + fb_t r 1 + fb_t r 2 + fb_t r 3 + fb_t r 4 := by
  show 0 + fb_t r 0 + fb_t r 1 + fb_t r 2 + fb_t r 3 + fb_t r 4 = _
  omega
theorem s_pc_in {r p : Int} (h0 : 0 ≤ r) (h1 : r < 32) (h2 : 0 ≤ p) (h3 : p < 5) (h : fb_t r p = 0) : s_pc (fb_in r p) = s_pc r + 1 := by
  have key : ∀ r : Fin 32, ∀ p : Fin 5, fb_t ((r.val : Nat) : Int) ((p.val : Nat) : Int) = 0 → s_pc (fb_in ((r.val : Nat) : Int) ((p.val : Nat) : Int)) = s_pc ((r.val : Nat) : Int) + 1 := by decide +kernel
  exact fz_lt (P := fun r => fb_t r p = 0 → s_pc (fb_in r p) = s_pc r + 1) (N := 32) (fun r => fz_lt (P := fun p => fb_t ((r.val : Nat) : Int) p = 0 → s_pc (fb_in ((r.val : Nat) : Int) p) = s_pc ((r.val : Nat) : Int) + 1) (N := 5) (fun p => key r p) h2 h3) h0 h1 h
