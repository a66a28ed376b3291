/-! what solved solves -/
section SV
variable {L : Int → Int → Int} {n q : Int}
theorem d_T_g : d_T L n q = g_T (s_M L n) n q := rfl
theorem d_cf_g {a b : Int} : d_cf L n q a b = g_cf (s_M L n) n q a b := rfl
theorem d_sv_M (hn : 2 ≤ n ∧ n ≤ 5) (hq : 0 ≤ q ∧ q < n) {x : Int → Int} {o : Int} (ho : 0 ≤ o ∧ o < n) (hoq : o ≠ q) : fs_sum (fun a => d_sv L n q x a * s_M L n a o) n.toNat = d_T L n q * x o := by
  have e1 : fs_sum (fun a => d_sv L n q x a * s_M L n a o) n.toNat = fs_sum (fun a => fs_sum (fun b => (if b = q then 0 else x b) * (if a = q then 0 else s_M L n a o * d_cf L n q a b)) n.toNat) n.toNat := by
    refine fs_sum_congr fun a a0 a1 => ?_
    unfold d_sv
    by_cases e : a = q
    · rw [if_pos e, Int.zero_mul, fs_sum_congr (g := fun _ => 0) (fun b b0 b1 => by rw [if_pos e, Int.mul_zero]), fs_sum_zero]
    · rw [if_neg e, Int.mul_comm, ← fs_sum_mul]
      refine fs_sum_congr fun b b0 b1 => ?_
      rw [if_neg e]
      by_cases e2 : b = q
      · rw [if_pos e2, if_pos e2]; simp
      · rw [if_neg e2, if_neg e2]; grind
  rw [e1, fs_sum_comm]
  have e2 : fs_sum (fun b => fs_sum (fun a => (if b = q then 0 else x b) * (if a = q then 0 else s_M L n a o * d_cf L n q a b)) n.toNat) n.toNat = fs_sum (fun b => if b = o then d_T L n q * x o else 0) n.toNat := by
    refine fs_sum_congr fun b b0 b1 => ?_
    rw [fs_sum_mul]
    by_cases e2 : b = q
    · rw [if_pos e2, if_neg (by omega), Int.zero_mul]
    · rw [if_neg e2]
      have h := g_adj_in (M := s_M L n) hn hq ho ⟨b0, by omega⟩ hoq e2
      have h' : fs_sum (fun a => if a = q then 0 else s_M L n a o * d_cf L n q a b) n.toNat = if o = b then d_T L n q else 0 := h
      rw [h']
      by_cases e3 : b = o
      · rw [if_pos e3, if_pos e3.symm, e3, Int.mul_comm]
      · rw [if_neg e3, if_neg (fun z => e3 z.symm), Int.mul_zero]
  rw [e2, fs_sum_one ho.1 (by omega)]
end SV
