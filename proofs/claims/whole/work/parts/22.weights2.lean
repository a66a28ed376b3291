/-! the weights of a network -/
def ad_mk (e0 e1 e2 e3 e4 e5 e6 e7 e8 e9 : Bool) : Nat := e0.toNat + 2 * e1.toNat + 4 * e2.toNat + 8 * e3.toNat + 16 * e4.toNat + 32 * e5.toNat + 64 * e6.toNat + 128 * e7.toNat + 256 * e8.toNat + 512 * e9.toNat
set_option maxRecDepth 100000 in
theorem ad_mk_bits : ∀ e0 e1 e2 e3 e4 e5 e6 e7 e8 e9 : Bool, (ad_mk e0 e1 e2 e3 e4 e5 e6 e7 e8 e9).testBit 0 = e0 ∧ (ad_mk e0 e1 e2 e3 e4 e5 e6 e7 e8 e9).testBit 1 = e1 ∧ (ad_mk e0 e1 e2 e3 e4 e5 e6 e7 e8 e9).testBit 2 = e2 ∧ (ad_mk e0 e1 e2 e3 e4 e5 e6 e7 e8 e9).testBit 3 = e3 ∧ (ad_mk e0 e1 e2 e3 e4 e5 e6 e7 e8 e9).testBit 4 = e4 ∧ (ad_mk e0 e1 e2 e3 e4 e5 e6 e7 e8 e9).testBit 5 = e5 ∧ (ad_mk e0 e1 e2 e3 e4 e5 e6 e7 e8 e9).testBit 6 = e6 ∧ (ad_mk e0 e1 e2 e3 e4 e5 e6 e7 e8 e9).testBit 7 = e7 ∧ (ad_mk e0 e1 e2 e3 e4 e5 e6 e7 e8 e9).testBit 8 = e8 ∧ (ad_mk e0 e1 e2 e3 e4 e5 e6 e7 e8 e9).testBit 9 = e9 ∧ ad_mk e0 e1 e2 e3 e4 e5 e6 e7 e8 e9 < 1024 := by decide +kernel
def ad_L (L : Int → Int → Int) : Nat := ad_mk (decide (0 < L 0 1)) (decide (0 < L 0 2)) (decide (0 < L 1 2)) (decide (0 < L 0 3)) (decide (0 < L 1 3)) (decide (0 < L 2 3)) (decide (0 < L 0 4)) (decide (0 < L 1 4)) (decide (0 < L 2 4)) (decide (0 < L 3 4))
theorem ad_t_L {L : Int → Int → Int} (hg : g_ok L) {a b : Nat} (ha : a < 5) (hb : b < 5) : ad_t (ad_L L) a b = decide (0 < L a b) := by
  obtain ⟨b0, b1, b2, b3, b4, b5, b6, b7, b8, b9, -⟩ := ad_mk_bits (decide (0 < L 0 1)) (decide (0 < L 0 2)) (decide (0 < L 1 2)) (decide (0 < L 0 3)) (decide (0 < L 1 3)) (decide (0 < L 2 3)) (decide (0 < L 0 4)) (decide (0 < L 1 4)) (decide (0 < L 2 4)) (decide (0 < L 3 4))
  have hs : ∀ x y : Int, 0 ≤ x → x < 5 → 0 ≤ y → y < 5 → L x y = L y x := fun x y h0 h1 h2 h3 => (hg x y h0 h1 h2 h3).2.2.1
  have hd : ∀ x : Int, 0 ≤ x → x < 5 → L x x = 0 := fun x h0 h1 => (hg x x h0 h1 h0 h1).2.2.2
  rcases (show a = 0 ∨ a = 1 ∨ a = 2 ∨ a = 3 ∨ a = 4 by omega) with rfl | rfl | rfl | rfl | rfl <;> rcases (show b = 0 ∨ b = 1 ∨ b = 2 ∨ b = 3 ∨ b = 4 by omega) with rfl | rfl | rfl | rfl | rfl
  · show false = decide (0 < L 0 0); rw [hd 0 (by omega) (by omega)]; rfl
  · exact b0
  · exact b1
  · exact b3
  · exact b6
  · show _ = decide (0 < L 1 0); rw [hs 1 0 (by omega) (by omega) (by omega) (by omega)]; exact b0
  · show false = decide (0 < L 1 1); rw [hd 1 (by omega) (by omega)]; rfl
  · exact b2
  · exact b4
  · exact b7
  · show _ = decide (0 < L 2 0); rw [hs 2 0 (by omega) (by omega) (by omega) (by omega)]; exact b1
  · show _ = decide (0 < L 2 1); rw [hs 2 1 (by omega) (by omega) (by omega) (by omega)]; exact b2
  · show false = decide (0 < L 2 2); rw [hd 2 (by omega) (by omega)]; rfl
  · exact b5
  · exact b8
  · show _ = decide (0 < L 3 0); rw [hs 3 0 (by omega) (by omega) (by omega) (by omega)]; exact b3
  · show _ = decide (0 < L 3 1); rw [hs 3 1 (by omega) (by omega) (by omega) (by omega)]; exact b4
  · show _ = decide (0 < L 3 2); rw [hs 3 2 (by omega) (by omega) (by omega) (by omega)]; exact b5
  · show false = decide (0 < L 3 3); rw [hd 3 (by omega) (by omega)]; rfl
  · exact b9
  · show _ = decide (0 < L 4 0); rw [hs 4 0 (by omega) (by omega) (by omega) (by omega)]; exact b6
  · show _ = decide (0 < L 4 1); rw [hs 4 1 (by omega) (by omega) (by omega) (by omega)]; exact b7
  · show _ = decide (0 < L 4 2); rw [hs 4 2 (by omega) (by omega) (by omega) (by omega)]; exact b8
  · show _ = decide (0 < L 4 3); rw [hs 4 3 (by omega) (by omega) (by omega) (by omega)]; exact b9
  · show false = decide (0 < L 4 4); rw [hd 4 (by omega) (by omega)]; rfl
theorem ad_all_spec {P : Nat → Bool} : ∀ {N : Nat}, ad_all P N = true → ∀ k : Nat, k < N → P k = true
  | 0, _, k, h => by omega
  | N + 1, h, k, hk => by
    unfold ad_all at h
    rw [Bool.and_eq_true] at h
    by_cases e : k = N
    · rw [e]; exact h.1
    · exact ad_all_spec h.2 k (by omega)
theorem ad_any_spec {P : Nat → Bool} : ∀ {N : Nat}, ad_any P N = true → ∃ k : Nat, k < N ∧ P k = true
  | 0, h => by cases h
  | N + 1, h => by
    unfold ad_any at h
    rw [Bool.or_eq_true] at h
    rcases h with h | h
    · exact ⟨N, by omega, h⟩
    · obtain ⟨k, h1, h2⟩ := ad_any_spec h
      exact ⟨k, by omega, h2⟩
theorem ad_h_in {m S p : Nat} : ∀ {N k : Nat}, k < N → S.testBit k = true → ad_t m p k = true → ad_h m S p N = true
  | 0, k, h, _, _ => by omega
  | N + 1, k, h, h1, h2 => by
    unfold ad_h
    by_cases e : k = N
    · rw [← e, h1, h2]; rfl
    · rw [ad_h_in (N := N) (by omega) h1 h2, Bool.or_true]
theorem ad_n_lt {m n S : Nat} : ∀ N : Nat, ad_n m n S N < 2 ^ N
  | 0 => Nat.zero_lt_one
  | N + 1 => by
    have := ad_n_lt (m := m) (n := n) (S := S) N
    unfold ad_n
    rw [Nat.pow_succ]
    split <;> omega
theorem ad_n_bit {m n S : Nat} : ∀ {N p : Nat}, p < N → (ad_n m n S N).testBit p = (S.testBit p || ad_h m S p n)
  | 0, p, h => by omega
  | N + 1, p, h => by
    have hlt := ad_n_lt (m := m) (n := n) (S := S) N
    unfold ad_n
    by_cases e : p = N
    · subst e
      cases hb : (S.testBit p || ad_h m S p n)
      · rw [if_neg (by decide), Nat.zero_add, Nat.testBit_lt_two_pow hlt]
      · rw [if_pos rfl, Nat.testBit_two_pow_add_eq, Nat.testBit_lt_two_pow hlt]; rfl
    · have ih := ad_n_bit (m := m) (n := n) (S := S) (N := N) (p := p) (by omega)
      split
      · rw [Nat.testBit_two_pow_add_gt (by omega)]; exact ih
      · rw [Nat.zero_add]; exact ih
set_option maxRecDepth 100000 in
theorem ad_st : ad_all (fun m => ad_n m 2 (ad_lv m 2 0 4) 2 == ad_lv m 2 0 4 && ad_n m 3 (ad_lv m 3 0 4) 3 == ad_lv m 3 0 4 && ad_n m 4 (ad_lv m 4 0 4) 4 == ad_lv m 4 0 4 && ad_n m 5 (ad_lv m 5 0 4) 5 == ad_lv m 5 0 4 && (ad_lv m 2 0 4).testBit 0 && (ad_lv m 3 0 4).testBit 0 && (ad_lv m 4 0 4).testBit 0 && (ad_lv m 5 0 4).testBit 0) 1024 = true := by decide +kernel
theorem fb_nat {S o : Nat} (h0 : S < 32) (h1 : o < 5) : fb_t S o = 1 ↔ S.testBit o = true := by
  have key : ∀ s : Fin 32, ∀ o : Fin 5, fb_t ((s.val : Nat) : Int) ((o.val : Nat) : Int) = 1 ↔ s.val.testBit o.val = true := by decide +kernel
  exact key ⟨S, h0⟩ ⟨o, h1⟩
theorem ad_full {n S : Nat} (hn : n = 2 ∨ n = 3 ∨ n = 4 ∨ n = 5) (hS : S < 2 ^ n) (h : ∀ p : Nat, p < n → S.testBit p = true) : S = 2 ^ n - 1 := by
  refine Nat.eq_of_testBit_eq fun i => ?_
  rw [Nat.testBit_two_pow_sub_one]
  by_cases hi : i < n
  · rw [h i hi, decide_eq_true hi]
  · rw [decide_eq_false hi]
    exact Nat.testBit_lt_two_pow (Nat.lt_of_lt_of_le hS (Nat.pow_le_pow_right (by decide) (by omega)))
theorem ad_J {L : Int → Int → Int} (hg : g_ok L) {N : Nat} (hn : N = 2 ∨ N = 3 ∨ N = 4 ∨ N = 5) (hJ : s_J L N) : ad_jn (ad_L L) N = true := by
  have hm : ad_L L < 1024 := (ad_mk_bits _ _ _ _ _ _ _ _ _ _).2.2.2.2.2.2.2.2.2.2
  have h1 := ad_all_spec ad_st (ad_L L) hm
  simp only [Bool.and_eq_true, beq_iff_eq] at h1
  have hst : ad_n (ad_L L) N (ad_lv (ad_L L) N 0 4) N = ad_lv (ad_L L) N 0 4 := by
    rcases hn with rfl | rfl | rfl | rfl
    · exact h1.1.1.1.1.1.1.1
    · exact h1.1.1.1.1.1.1.2
    · exact h1.1.1.1.1.1.2
    · exact h1.1.1.1.1.2
  have hb0 : (ad_lv (ad_L L) N 0 4).testBit 0 = true := by
    rcases hn with rfl | rfl | rfl | rfl
    · exact h1.1.1.1.2
    · exact h1.1.1.2
    · exact h1.1.2
    · exact h1.2
  have hlt : ad_lv (ad_L L) N 0 4 < 2 ^ N := by rw [← hst]; exact ad_n_lt N
  have hp : (2 : Nat) ^ N ≤ 32 := by rcases hn with rfl | rfl | rfl | rfl <;> decide
  unfold ad_jn
  generalize ad_lv (ad_L L) N 0 4 = S at hst hb0 hlt ⊢
  have hall : ∀ p : Nat, p < N → S.testBit p = true := by
    intro p hpn
    have := hJ (S : Int) (by omega) (by omega) ((fb_nat (o := 0) (by omega) (by omega)).mpr hb0) (fun a b a0 a1 b0 b1 h2 h3 => ?_) (p : Int) (by omega) (by omega)
    · exact (fb_nat (by omega) (by omega)).mp this
    · have ea : ((a.toNat : Nat) : Int) = a := by omega
      have eb : ((b.toNat : Nat) : Int) = b := by omega
      rw [← ea] at h2
      rw [← eb]
      have h4 := (fb_nat (by omega) (by omega)).mp h2
      refine (fb_nat (by omega) (by omega)).mpr ?_
      rw [← hst, ad_n_bit (by omega), ad_h_in (k := a.toNat) (by omega) h4 ?_, Bool.or_true]
      rw [ad_t_L hg (by omega) (by omega), ea, eb, (hg b a b0 (by omega) a0 (by omega)).2.2.1]
      exact decide_eq_true h3
  rw [beq_iff_eq]
  exact ad_full hn hlt hall
theorem ad_w_le (R0 R1 R2 R3 p : Nat) : ad_w R0 R1 R2 R3 p ≤ 256 := by
  unfold ad_w
  repeat' split
  all_goals omega
theorem ad_sum_eq {f : Nat → Nat} : ∀ {N : Nat}, ((ad_sum f N : Nat) : Int) = fs_sum (fun o => (f o.toNat : Int)) N
  | 0 => rfl
  | N + 1 => by
    show ((ad_sum f N + f N : Nat) : Int) = fs_sum (fun o => (f o.toNat : Int)) N + (f ((N : Nat) : Int).toNat : Int)
    rw [← ad_sum_eq (N := N), show ((N : Nat) : Int).toNat = N by omega]
    omega
theorem s_wt_ex {L : Int → Int → Int} (hg : g_ok L) {n q : Int} (hn : 2 ≤ n ∧ n ≤ 5) (hq : 0 ≤ q ∧ q < n) (hJ : s_J L n) : ∃ h : Int → Int, s_wt L n q h ∧ ∃ p : Int, 0 ≤ p ∧ p < n ∧ p ≠ q ∧ h p ≤ 226 := by
  obtain ⟨N, hN⟩ : ∃ N : Nat, n = N := ⟨n.toNat, by omega⟩
  subst hN
  obtain ⟨Q, hQ⟩ : ∃ Q : Nat, q = Q := ⟨q.toNat, by omega⟩
  subst hQ
  have hn' : N = 2 ∨ N = 3 ∨ N = 4 ∨ N = 5 := by omega
  have hm : ad_L L < 1024 := (ad_mk_bits _ _ _ _ _ _ _ _ _ _).2.2.2.2.2.2.2.2.2.2
  have h1 : ad_one (ad_L L) N Q = true := by
    rcases hn' with rfl | rfl | rfl | rfl
    · exact ad_all_spec (ad_all_spec ad_ok2 _ hm) Q (by omega)
    · exact ad_all_spec (ad_all_spec ad_ok3 _ hm) Q (by omega)
    · exact ad_all_spec (ad_all_spec ad_ok4 _ hm) Q (by omega)
    · exact ad_all_spec (ad_all_spec ad_ok5 _ hm) Q (by omega)
  unfold ad_one at h1
  rw [ad_J hg hn' hJ, Bool.not_true, Bool.false_or] at h1
  have hle : ∀ p, ad_wt (ad_L L) N Q p ≤ 256 := fun p => ad_w_le _ _ _ _ _
  generalize ad_wt (ad_L L) N Q = w at h1 hle
  unfold ad_chk at h1
  simp only [Bool.and_eq_true, decide_eq_true_eq] at h1
  obtain ⟨⟨h2, h3⟩, h4⟩ := h1
  refine ⟨fun p => (w p.toNat : Int), ⟨fun p p0 p1 => ⟨Int.natCast_nonneg _, by have := hle p.toNat; show ((w p.toNat : Nat) : Int) ≤ 256; omega⟩, by show ((w ((Q : Int).toNat) : Nat) : Int) = 0; rw [show ((Q : Nat) : Int).toNat = Q by omega]; omega, fun p p0 p1 pq => ?_⟩, ?_⟩
  · have h5 := ad_all_spec h2 p.toNat (by omega)
    simp only [Bool.or_eq_true, beq_iff_eq, decide_eq_true_eq] at h5
    have h6 : 3 * ad_sum (fun o => if ad_t (ad_L L) p.toNat o = true then w o - w p.toNat else 0) N + 1 ≤ ad_sum (fun o => if ad_t (ad_L L) p.toNat o = true then w p.toNat - w o else 0) N := by
      rcases h5 with h5 | h5
      · omega
      · exact h5
    have e1 := ad_sum_eq (f := fun o => if ad_t (ad_L L) p.toNat o = true then w o - w p.toNat else 0) (N := N)
    have e2 := ad_sum_eq (f := fun o => if ad_t (ad_L L) p.toNat o = true then w p.toNat - w o else 0) (N := N)
    have ep : ((p.toNat : Nat) : Int) = p := by omega
    -- the sum by lines
    have e3 : fs_sum (fun o => s_M L N p o * (w o.toNat : Int)) ((N : Nat) : Int).toNat = fs_sum (fun o => L p o * ((w p.toNat : Int) - (w o.toNat : Int))) ((N : Nat) : Int).toNat := by
      have e4 : fs_sum (fun o => L p o * ((w p.toNat : Int) - (w o.toNat : Int))) ((N : Nat) : Int).toNat = fs_sum (fun o => (w p.toNat : Int) * L p o - L p o * (w o.toNat : Int)) ((N : Nat) : Int).toNat := fs_sum_congr fun k _ _ => by rw [Int.mul_sub, Int.mul_comm]
      rw [e4, fs_sum_sub, fs_sum_mul]
      have e5 : fs_sum (fun o => s_M L N p o * (w o.toNat : Int)) ((N : Nat) : Int).toNat = fs_sum (fun o => (if o = p then s_val L N p * (w p.toNat : Int) else 0) - L p o * (w o.toNat : Int)) ((N : Nat) : Int).toNat := by
        refine fs_sum_congr fun k q0 q1 => ?_
        unfold s_M
        by_cases e : p = k
        · rw [if_pos e, if_pos e.symm, ← e, (hg p p p0 (by omega) p0 (by omega)).2.2.2]; omega
        · rw [if_neg e, if_neg (fun z => e z.symm), Int.neg_mul]; omega
      rw [e5, fs_sum_sub, fs_sum_one p0 (by omega)]
      unfold s_val
      rw [Int.mul_comm]
    rw [e3]
    have e6 : fs_sum (fun o => ((if ad_t (ad_L L) p.toNat o.toNat = true then w p.toNat - w o.toNat else 0 : Nat) : Int) - 3 * ((if ad_t (ad_L L) p.toNat o.toNat = true then w o.toNat - w p.toNat else 0 : Nat) : Int)) ((N : Nat) : Int).toNat ≤ fs_sum (fun o => L p o * ((w p.toNat : Int) - (w o.toNat : Int))) ((N : Nat) : Int).toNat := by
      refine fs_sum_le fun k q0 q1 => ?_
      have ek : ((k.toNat : Nat) : Int) = k := by omega
      have hb := hg p k p0 (by omega) q0 (by omega)
      rw [ad_t_L hg (show p.toNat < 5 by omega) (show k.toNat < 5 by omega), ep, ek]
      by_cases hl : 0 < L p k
      · rw [decide_eq_true hl, if_pos rfl, if_pos rfl]
        rcases (show L p k = 1 ∨ L p k = 2 ∨ L p k = 3 by omega) with e | e | e <;> rw [e] <;> omega
      · rw [decide_eq_false hl, if_neg (by decide), if_neg (by decide), show L p k = 0 by omega]
        omega
    rw [fs_sum_sub, fs_sum_mul] at e6
    rw [show ((N : Nat) : Int).toNat = N by omega] at e6 ⊢
    omega
  · obtain ⟨p, p1, p2⟩ := ad_any_spec h3
    simp only [Bool.and_eq_true, bne_iff_ne, decide_eq_true_eq] at p2
    exact ⟨(p : Int), by omega, by omega, by omega, by show ((w ((p : Int).toNat) : Nat) : Int) ≤ 226; rw [show ((p : Nat) : Int).toNat = p by omega]; omega⟩
