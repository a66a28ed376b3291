/-! column by column: what the minors make up -/
theorem aj_1_0_0 (M : Int → Int → Int) (p1 : Int) : 0 + M p1 p1 * (1) = m1 M p1 p1 := by
  simp only [m1, m2, m3, m4]
  grind
theorem aj_2_0_0 (M : Int → Int → Int) (p1 p2 : Int) : 0 + M p1 p1 * (m1 M p2 p2) + M p2 p1 * (-(m1 M p1 p2)) = m2 M p1 p2 p1 p2 := by
  simp only [m1, m2, m3, m4]
  grind
theorem aj_2_0_1 (M : Int → Int → Int) (p1 p2 : Int) : 0 + M p1 p1 * (-(m1 M p2 p1)) + M p2 p1 * (m1 M p1 p1) = 0 := by
  simp only [m1, m2, m3, m4]
  grind
theorem aj_2_1_0 (M : Int → Int → Int) (p1 p2 : Int) : 0 + M p1 p2 * (m1 M p2 p2) + M p2 p2 * (-(m1 M p1 p2)) = 0 := by
  simp only [m1, m2, m3, m4]
  grind
theorem aj_2_1_1 (M : Int → Int → Int) (p1 p2 : Int) : 0 + M p1 p2 * (-(m1 M p2 p1)) + M p2 p2 * (m1 M p1 p1) = m2 M p1 p2 p1 p2 := by
  simp only [m1, m2, m3, m4]
  grind
theorem aj_3_0_0 (M : Int → Int → Int) (p1 p2 p3 : Int) : 0 + M p1 p1 * (m2 M p2 p3 p2 p3) + M p2 p1 * (-(m2 M p1 p3 p2 p3)) + M p3 p1 * (m2 M p1 p2 p2 p3) = m3 M p1 p2 p3 p1 p2 p3 := by
  simp only [m1, m2, m3, m4]
  grind
theorem aj_3_0_1 (M : Int → Int → Int) (p1 p2 p3 : Int) : 0 + M p1 p1 * (-(m2 M p2 p3 p1 p3)) + M p2 p1 * (m2 M p1 p3 p1 p3) + M p3 p1 * (-(m2 M p1 p2 p1 p3)) = 0 := by
  simp only [m1, m2, m3, m4]
  grind
theorem aj_3_0_2 (M : Int → Int → Int) (p1 p2 p3 : Int) : 0 + M p1 p1 * (m2 M p2 p3 p1 p2) + M p2 p1 * (-(m2 M p1 p3 p1 p2)) + M p3 p1 * (m2 M p1 p2 p1 p2) = 0 := by
  simp only [m1, m2, m3, m4]
  grind
theorem aj_3_1_0 (M : Int → Int → Int) (p1 p2 p3 : Int) : 0 + M p1 p2 * (m2 M p2 p3 p2 p3) + M p2 p2 * (-(m2 M p1 p3 p2 p3)) + M p3 p2 * (m2 M p1 p2 p2 p3) = 0 := by
  simp only [m1, m2, m3, m4]
  grind
theorem aj_3_1_1 (M : Int → Int → Int) (p1 p2 p3 : Int) : 0 + M p1 p2 * (-(m2 M p2 p3 p1 p3)) + M p2 p2 * (m2 M p1 p3 p1 p3) + M p3 p2 * (-(m2 M p1 p2 p1 p3)) = m3 M p1 p2 p3 p1 p2 p3 := by
  simp only [m1, m2, m3, m4]
  grind
theorem aj_3_1_2 (M : Int → Int → Int) (p1 p2 p3 : Int) : 0 + M p1 p2 * (m2 M p2 p3 p1 p2) + M p2 p2 * (-(m2 M p1 p3 p1 p2)) + M p3 p2 * (m2 M p1 p2 p1 p2) = 0 := by
  simp only [m1, m2, m3, m4]
  grind
theorem aj_3_2_0 (M : Int → Int → Int) (p1 p2 p3 : Int) : 0 + M p1 p3 * (m2 M p2 p3 p2 p3) + M p2 p3 * (-(m2 M p1 p3 p2 p3)) + M p3 p3 * (m2 M p1 p2 p2 p3) = 0 := by
  simp only [m1, m2, m3, m4]
  grind
theorem aj_3_2_1 (M : Int → Int → Int) (p1 p2 p3 : Int) : 0 + M p1 p3 * (-(m2 M p2 p3 p1 p3)) + M p2 p3 * (m2 M p1 p3 p1 p3) + M p3 p3 * (-(m2 M p1 p2 p1 p3)) = 0 := by
  simp only [m1, m2, m3, m4]
  grind
theorem aj_3_2_2 (M : Int → Int → Int) (p1 p2 p3 : Int) : 0 + M p1 p3 * (m2 M p2 p3 p1 p2) + M p2 p3 * (-(m2 M p1 p3 p1 p2)) + M p3 p3 * (m2 M p1 p2 p1 p2) = m3 M p1 p2 p3 p1 p2 p3 := by
  simp only [m1, m2, m3, m4]
  grind
theorem aj_4_0_0 (M : Int → Int → Int) (p1 p2 p3 p4 : Int) : 0 + M p1 p1 * (m3 M p2 p3 p4 p2 p3 p4) + M p2 p1 * (-(m3 M p1 p3 p4 p2 p3 p4)) + M p3 p1 * (m3 M p1 p2 p4 p2 p3 p4) + M p4 p1 * (-(m3 M p1 p2 p3 p2 p3 p4)) = m4 M p1 p2 p3 p4 p1 p2 p3 p4 := by
  simp only [m1, m2, m3, m4]
  grind
theorem aj_4_0_1 (M : Int → Int → Int) (p1 p2 p3 p4 : Int) : 0 + M p1 p1 * (-(m3 M p2 p3 p4 p1 p3 p4)) + M p2 p1 * (m3 M p1 p3 p4 p1 p3 p4) + M p3 p1 * (-(m3 M p1 p2 p4 p1 p3 p4)) + M p4 p1 * (m3 M p1 p2 p3 p1 p3 p4) = 0 := by
  simp only [m1, m2, m3, m4]
  grind
theorem aj_4_0_2 (M : Int → Int → Int) (p1 p2 p3 p4 : Int) : 0 + M p1 p1 * (m3 M p2 p3 p4 p1 p2 p4) + M p2 p1 * (-(m3 M p1 p3 p4 p1 p2 p4)) + M p3 p1 * (m3 M p1 p2 p4 p1 p2 p4) + M p4 p1 * (-(m3 M p1 p2 p3 p1 p2 p4)) = 0 := by
  simp only [m1, m2, m3, m4]
  grind
theorem aj_4_0_3 (M : Int → Int → Int) (p1 p2 p3 p4 : Int) : 0 + M p1 p1 * (-(m3 M p2 p3 p4 p1 p2 p3)) + M p2 p1 * (m3 M p1 p3 p4 p1 p2 p3) + M p3 p1 * (-(m3 M p1 p2 p4 p1 p2 p3)) + M p4 p1 * (m3 M p1 p2 p3 p1 p2 p3) = 0 := by
  simp only [m1, m2, m3, m4]
  grind
theorem aj_4_1_0 (M : Int → Int → Int) (p1 p2 p3 p4 : Int) : 0 + M p1 p2 * (m3 M p2 p3 p4 p2 p3 p4) + M p2 p2 * (-(m3 M p1 p3 p4 p2 p3 p4)) + M p3 p2 * (m3 M p1 p2 p4 p2 p3 p4) + M p4 p2 * (-(m3 M p1 p2 p3 p2 p3 p4)) = 0 := by
  simp only [m1, m2, m3, m4]
  grind
theorem aj_4_1_1 (M : Int → Int → Int) (p1 p2 p3 p4 : Int) : 0 + M p1 p2 * (-(m3 M p2 p3 p4 p1 p3 p4)) + M p2 p2 * (m3 M p1 p3 p4 p1 p3 p4) + M p3 p2 * (-(m3 M p1 p2 p4 p1 p3 p4)) + M p4 p2 * (m3 M p1 p2 p3 p1 p3 p4) = m4 M p1 p2 p3 p4 p1 p2 p3 p4 := by
  simp only [m1, m2, m3, m4]
  grind
theorem aj_4_1_2 (M : Int → Int → Int) (p1 p2 p3 p4 : Int) : 0 + M p1 p2 * (m3 M p2 p3 p4 p1 p2 p4) + M p2 p2 * (-(m3 M p1 p3 p4 p1 p2 p4)) + M p3 p2 * (m3 M p1 p2 p4 p1 p2 p4) + M p4 p2 * (-(m3 M p1 p2 p3 p1 p2 p4)) = 0 := by
  simp only [m1, m2, m3, m4]
  grind
theorem aj_4_1_3 (M : Int → Int → Int) (p1 p2 p3 p4 : Int) : 0 + M p1 p2 * (-(m3 M p2 p3 p4 p1 p2 p3)) + M p2 p2 * (m3 M p1 p3 p4 p1 p2 p3) + M p3 p2 * (-(m3 M p1 p2 p4 p1 p2 p3)) + M p4 p2 * (m3 M p1 p2 p3 p1 p2 p3) = 0 := by
  simp only [m1, m2, m3, m4]
  grind
theorem aj_4_2_0 (M : Int → Int → Int) (p1 p2 p3 p4 : Int) : 0 + M p1 p3 * (m3 M p2 p3 p4 p2 p3 p4) + M p2 p3 * (-(m3 M p1 p3 p4 p2 p3 p4)) + M p3 p3 * (m3 M p1 p2 p4 p2 p3 p4) + M p4 p3 * (-(m3 M p1 p2 p3 p2 p3 p4)) = 0 := by
  simp only [m1, m2, m3, m4]
  grind
theorem aj_4_2_1 (M : Int → Int → Int) (p1 p2 p3 p4 : Int) : 0 + M p1 p3 * (-(m3 M p2 p3 p4 p1 p3 p4)) + M p2 p3 * (m3 M p1 p3 p4 p1 p3 p4) + M p3 p3 * (-(m3 M p1 p2 p4 p1 p3 p4)) + M p4 p3 * (m3 M p1 p2 p3 p1 p3 p4) = 0 := by
  simp only [m1, m2, m3, m4]
  grind
theorem aj_4_2_2 (M : Int → Int → Int) (p1 p2 p3 p4 : Int) : 0 + M p1 p3 * (m3 M p2 p3 p4 p1 p2 p4) + M p2 p3 * (-(m3 M p1 p3 p4 p1 p2 p4)) + M p3 p3 * (m3 M p1 p2 p4 p1 p2 p4) + M p4 p3 * (-(m3 M p1 p2 p3 p1 p2 p4)) = m4 M p1 p2 p3 p4 p1 p2 p3 p4 := by
  simp only [m1, m2, m3, m4]
  grind
theorem aj_4_2_3 (M : Int → Int → Int) (p1 p2 p3 p4 : Int) : 0 + M p1 p3 * (-(m3 M p2 p3 p4 p1 p2 p3)) + M p2 p3 * (m3 M p1 p3 p4 p1 p2 p3) + M p3 p3 * (-(m3 M p1 p2 p4 p1 p2 p3)) + M p4 p3 * (m3 M p1 p2 p3 p1 p2 p3) = 0 := by
  simp only [m1, m2, m3, m4]
  grind
theorem aj_4_3_0 (M : Int → Int → Int) (p1 p2 p3 p4 : Int) : 0 + M p1 p4 * (m3 M p2 p3 p4 p2 p3 p4) + M p2 p4 * (-(m3 M p1 p3 p4 p2 p3 p4)) + M p3 p4 * (m3 M p1 p2 p4 p2 p3 p4) + M p4 p4 * (-(m3 M p1 p2 p3 p2 p3 p4)) = 0 := by
  simp only [m1, m2, m3, m4]
  grind
theorem aj_4_3_1 (M : Int → Int → Int) (p1 p2 p3 p4 : Int) : 0 + M p1 p4 * (-(m3 M p2 p3 p4 p1 p3 p4)) + M p2 p4 * (m3 M p1 p3 p4 p1 p3 p4) + M p3 p4 * (-(m3 M p1 p2 p4 p1 p3 p4)) + M p4 p4 * (m3 M p1 p2 p3 p1 p3 p4) = 0 := by
  simp only [m1, m2, m3, m4]
  grind
theorem aj_4_3_2 (M : Int → Int → Int) (p1 p2 p3 p4 : Int) : 0 + M p1 p4 * (m3 M p2 p3 p4 p1 p2 p4) + M p2 p4 * (-(m3 M p1 p3 p4 p1 p2 p4)) + M p3 p4 * (m3 M p1 p2 p4 p1 p2 p4) + M p4 p4 * (-(m3 M p1 p2 p3 p1 p2 p4)) = 0 := by
  simp only [m1, m2, m3, m4]
  grind
theorem aj_4_3_3 (M : Int → Int → Int) (p1 p2 p3 p4 : Int) : 0 + M p1 p4 * (-(m3 M p2 p3 p4 p1 p2 p3)) + M p2 p4 * (m3 M p1 p3 p4 p1 p2 p3) + M p3 p4 * (-(m3 M p1 p2 p4 p1 p2 p3)) + M p4 p4 * (m3 M p1 p2 p3 p1 p2 p3) = m4 M p1 p2 p3 p4 p1 p2 p3 p4 := by
  simp only [m1, m2, m3, m4]
  grind
theorem g_adj_2 {M : Int → Int → Int} {n q o b : Int} (hq : 0 ≤ q ∧ q < n) (ho : 0 ≤ o ∧ o < n) (hb : 0 ≤ b ∧ b < n) (hoq : o ≠ q) (hbq : b ≠ q) (en : n = 2) : fs_sum (fun a => if a = q then 0 else M a o * g_cf M n q a b) n.toNat = if o = b then g_T M n q else 0 := by
  subst en
  have eq_ : q = 0 ∨ q = 1 := by omega
  have eo : o = 0 ∨ o = 1 := by omega
  have eb : b = 0 ∨ b = 1 := by omega
  rcases eq_ with eq_ | eq_
  · subst eq_
    rcases eo with eo | eo
    · exact absurd eo hoq
    · subst eo
      rcases eb with eb | eb
      · exact absurd eb hbq
      · subst eb
        have h := aj_1_0_0 M 1
        rw [if_pos rfl, g_T_2_0]
        rw [show fs_sum (fun a => if a = 0 then 0 else M a 1 * g_cf M 2 0 a 1) (2 : Int).toNat = 0 + 0 + M 1 1 * g_cf M 2 0 1 1 from rfl, g_cf_2_0_1_1 M]
        simp only [Int.add_zero, Int.zero_add] at h ⊢
        exact h
  · subst eq_
    rcases eo with eo | eo
    · subst eo
      rcases eb with eb | eb
      · subst eb
        have h := aj_1_0_0 M 0
        rw [if_pos rfl, g_T_2_1]
        rw [show fs_sum (fun a => if a = 1 then 0 else M a 0 * g_cf M 2 1 a 0) (2 : Int).toNat = 0 + M 0 0 * g_cf M 2 1 0 0 + 0 from rfl, g_cf_2_1_0_0 M]
        simp only [Int.add_zero, Int.zero_add] at h ⊢
        exact h
      · exact absurd eb hbq
    · exact absurd eo hoq
theorem g_adj_3 {M : Int → Int → Int} {n q o b : Int} (hq : 0 ≤ q ∧ q < n) (ho : 0 ≤ o ∧ o < n) (hb : 0 ≤ b ∧ b < n) (hoq : o ≠ q) (hbq : b ≠ q) (en : n = 3) : fs_sum (fun a => if a = q then 0 else M a o * g_cf M n q a b) n.toNat = if o = b then g_T M n q else 0 := by
  subst en
  have eq_ : q = 0 ∨ q = 1 ∨ q = 2 := by omega
  have eo : o = 0 ∨ o = 1 ∨ o = 2 := by omega
  have eb : b = 0 ∨ b = 1 ∨ b = 2 := by omega
  rcases eq_ with eq_ | eq_ | eq_
  · subst eq_
    rcases eo with eo | eo | eo
    · exact absurd eo hoq
    · subst eo
      rcases eb with eb | eb | eb
      · exact absurd eb hbq
      · subst eb
        have h := aj_2_0_0 M 1 2
        rw [if_pos rfl, g_T_3_0]
        rw [show fs_sum (fun a => if a = 0 then 0 else M a 1 * g_cf M 3 0 a 1) (3 : Int).toNat = 0 + 0 + M 1 1 * g_cf M 3 0 1 1 + M 2 1 * g_cf M 3 0 2 1 from rfl, g_cf_3_0_1_1 M, g_cf_3_0_2_1 M]
        simp only [Int.add_zero, Int.zero_add] at h ⊢
        exact h
      · subst eb
        have h := aj_2_0_1 M 1 2
        rw [if_neg (by decide)]
        rw [show fs_sum (fun a => if a = 0 then 0 else M a 1 * g_cf M 3 0 a 2) (3 : Int).toNat = 0 + 0 + M 1 1 * g_cf M 3 0 1 2 + M 2 1 * g_cf M 3 0 2 2 from rfl, g_cf_3_0_1_2 M, g_cf_3_0_2_2 M]
        simp only [Int.add_zero, Int.zero_add] at h ⊢
        exact h
    · subst eo
      rcases eb with eb | eb | eb
      · exact absurd eb hbq
      · subst eb
        have h := aj_2_1_0 M 1 2
        rw [if_neg (by decide)]
        rw [show fs_sum (fun a => if a = 0 then 0 else M a 2 * g_cf M 3 0 a 1) (3 : Int).toNat = 0 + 0 + M 1 2 * g_cf M 3 0 1 1 + M 2 2 * g_cf M 3 0 2 1 from rfl, g_cf_3_0_1_1 M, g_cf_3_0_2_1 M]
        simp only [Int.add_zero, Int.zero_add] at h ⊢
        exact h
      · subst eb
        have h := aj_2_1_1 M 1 2
        rw [if_pos rfl, g_T_3_0]
        rw [show fs_sum (fun a => if a = 0 then 0 else M a 2 * g_cf M 3 0 a 2) (3 : Int).toNat = 0 + 0 + M 1 2 * g_cf M 3 0 1 2 + M 2 2 * g_cf M 3 0 2 2 from rfl, g_cf_3_0_1_2 M, g_cf_3_0_2_2 M]
        simp only [Int.add_zero, Int.zero_add] at h ⊢
        exact h
  · subst eq_
    rcases eo with eo | eo | eo
    · subst eo
      rcases eb with eb | eb | eb
      · subst eb
        have h := aj_2_0_0 M 0 2
        rw [if_pos rfl, g_T_3_1]
        rw [show fs_sum (fun a => if a = 1 then 0 else M a 0 * g_cf M 3 1 a 0) (3 : Int).toNat = 0 + M 0 0 * g_cf M 3 1 0 0 + 0 + M 2 0 * g_cf M 3 1 2 0 from rfl, g_cf_3_1_0_0 M, g_cf_3_1_2_0 M]
        simp only [Int.add_zero, Int.zero_add] at h ⊢
        exact h
      · exact absurd eb hbq
      · subst eb
        have h := aj_2_0_1 M 0 2
        rw [if_neg (by decide)]
        rw [show fs_sum (fun a => if a = 1 then 0 else M a 0 * g_cf M 3 1 a 2) (3 : Int).toNat = 0 + M 0 0 * g_cf M 3 1 0 2 + 0 + M 2 0 * g_cf M 3 1 2 2 from rfl, g_cf_3_1_0_2 M, g_cf_3_1_2_2 M]
        simp only [Int.add_zero, Int.zero_add] at h ⊢
        exact h
    · exact absurd eo hoq
    · subst eo
      rcases eb with eb | eb | eb
      · subst eb
        have h := aj_2_1_0 M 0 2
        rw [if_neg (by decide)]
        rw [show fs_sum (fun a => if a = 1 then 0 else M a 2 * g_cf M 3 1 a 0) (3 : Int).toNat = 0 + M 0 2 * g_cf M 3 1 0 0 + 0 + M 2 2 * g_cf M 3 1 2 0 from rfl, g_cf_3_1_0_0 M, g_cf_3_1_2_0 M]
        simp only [Int.add_zero, Int.zero_add] at h ⊢
        exact h
      · exact absurd eb hbq
      · subst eb
        have h := aj_2_1_1 M 0 2
        rw [if_pos rfl, g_T_3_1]
        rw [show fs_sum (fun a => if a = 1 then 0 else M a 2 * g_cf M 3 1 a 2) (3 : Int).toNat = 0 + M 0 2 * g_cf M 3 1 0 2 + 0 + M 2 2 * g_cf M 3 1 2 2 from rfl, g_cf_3_1_0_2 M, g_cf_3_1_2_2 M]
        simp only [Int.add_zero, Int.zero_add] at h ⊢
        exact h
  · subst eq_
    rcases eo with eo | eo | eo
    · subst eo
      rcases eb with eb | eb | eb
      · subst eb
        have h := aj_2_0_0 M 0 1
        rw [if_pos rfl, g_T_3_2]
        rw [show fs_sum (fun a => if a = 2 then 0 else M a 0 * g_cf M 3 2 a 0) (3 : Int).toNat = 0 + M 0 0 * g_cf M 3 2 0 0 + M 1 0 * g_cf M 3 2 1 0 + 0 from rfl, g_cf_3_2_0_0 M, g_cf_3_2_1_0 M]
        simp only [Int.add_zero, Int.zero_add] at h ⊢
        exact h
      · subst eb
        have h := aj_2_0_1 M 0 1
        rw [if_neg (by decide)]
        rw [show fs_sum (fun a => if a = 2 then 0 else M a 0 * g_cf M 3 2 a 1) (3 : Int).toNat = 0 + M 0 0 * g_cf M 3 2 0 1 + M 1 0 * g_cf M 3 2 1 1 + 0 from rfl, g_cf_3_2_0_1 M, g_cf_3_2_1_1 M]
        simp only [Int.add_zero, Int.zero_add] at h ⊢
        exact h
      · exact absurd eb hbq
    · subst eo
      rcases eb with eb | eb | eb
      · subst eb
        have h := aj_2_1_0 M 0 1
        rw [if_neg (by decide)]
        rw [show fs_sum (fun a => if a = 2 then 0 else M a 1 * g_cf M 3 2 a 0) (3 : Int).toNat = 0 + M 0 1 * g_cf M 3 2 0 0 + M 1 1 * g_cf M 3 2 1 0 + 0 from rfl, g_cf_3_2_0_0 M, g_cf_3_2_1_0 M]
        simp only [Int.add_zero, Int.zero_add] at h ⊢
        exact h
      · subst eb
        have h := aj_2_1_1 M 0 1
        rw [if_pos rfl, g_T_3_2]
        rw [show fs_sum (fun a => if a = 2 then 0 else M a 1 * g_cf M 3 2 a 1) (3 : Int).toNat = 0 + M 0 1 * g_cf M 3 2 0 1 + M 1 1 * g_cf M 3 2 1 1 + 0 from rfl, g_cf_3_2_0_1 M, g_cf_3_2_1_1 M]
        simp only [Int.add_zero, Int.zero_add] at h ⊢
        exact h
      · exact absurd eb hbq
    · exact absurd eo hoq
theorem g_adj_4 {M : Int → Int → Int} {n q o b : Int} (hq : 0 ≤ q ∧ q < n) (ho : 0 ≤ o ∧ o < n) (hb : 0 ≤ b ∧ b < n) (hoq : o ≠ q) (hbq : b ≠ q) (en : n = 4) : fs_sum (fun a => if a = q then 0 else M a o * g_cf M n q a b) n.toNat = if o = b then g_T M n q else 0 := by
  subst en
  have eq_ : q = 0 ∨ q = 1 ∨ q = 2 ∨ q = 3 := by omega
  have eo : o = 0 ∨ o = 1 ∨ o = 2 ∨ o = 3 := by omega
  have eb : b = 0 ∨ b = 1 ∨ b = 2 ∨ b = 3 := by omega
  rcases eq_ with eq_ | eq_ | eq_ | eq_
  · subst eq_
    rcases eo with eo | eo | eo | eo
    · exact absurd eo hoq
    · subst eo
      rcases eb with eb | eb | eb | eb
      · exact absurd eb hbq
      · subst eb
        have h := aj_3_0_0 M 1 2 3
        rw [if_pos rfl, g_T_4_0]
        rw [show fs_sum (fun a => if a = 0 then 0 else M a 1 * g_cf M 4 0 a 1) (4 : Int).toNat = 0 + 0 + M 1 1 * g_cf M 4 0 1 1 + M 2 1 * g_cf M 4 0 2 1 + M 3 1 * g_cf M 4 0 3 1 from rfl, g_cf_4_0_1_1 M, g_cf_4_0_2_1 M, g_cf_4_0_3_1 M]
        simp only [Int.add_zero, Int.zero_add] at h ⊢
        exact h
      · subst eb
        have h := aj_3_0_1 M 1 2 3
        rw [if_neg (by decide)]
        rw [show fs_sum (fun a => if a = 0 then 0 else M a 1 * g_cf M 4 0 a 2) (4 : Int).toNat = 0 + 0 + M 1 1 * g_cf M 4 0 1 2 + M 2 1 * g_cf M 4 0 2 2 + M 3 1 * g_cf M 4 0 3 2 from rfl, g_cf_4_0_1_2 M, g_cf_4_0_2_2 M, g_cf_4_0_3_2 M]
        simp only [Int.add_zero, Int.zero_add] at h ⊢
        exact h
      · subst eb
        have h := aj_3_0_2 M 1 2 3
        rw [if_neg (by decide)]
        rw [show fs_sum (fun a => if a = 0 then 0 else M a 1 * g_cf M 4 0 a 3) (4 : Int).toNat = 0 + 0 + M 1 1 * g_cf M 4 0 1 3 + M 2 1 * g_cf M 4 0 2 3 + M 3 1 * g_cf M 4 0 3 3 from rfl, g_cf_4_0_1_3 M, g_cf_4_0_2_3 M, g_cf_4_0_3_3 M]
        simp only [Int.add_zero, Int.zero_add] at h ⊢
        exact h
    · subst eo
      rcases eb with eb | eb | eb | eb
      · exact absurd eb hbq
      · subst eb
        have h := aj_3_1_0 M 1 2 3
        rw [if_neg (by decide)]
        rw [show fs_sum (fun a => if a = 0 then 0 else M a 2 * g_cf M 4 0 a 1) (4 : Int).toNat = 0 + 0 + M 1 2 * g_cf M 4 0 1 1 + M 2 2 * g_cf M 4 0 2 1 + M 3 2 * g_cf M 4 0 3 1 from rfl, g_cf_4_0_1_1 M, g_cf_4_0_2_1 M, g_cf_4_0_3_1 M]
        simp only [Int.add_zero, Int.zero_add] at h ⊢
        exact h
      · subst eb
        have h := aj_3_1_1 M 1 2 3
        rw [if_pos rfl, g_T_4_0]
        rw [show fs_sum (fun a => if a = 0 then 0 else M a 2 * g_cf M 4 0 a 2) (4 : Int).toNat = 0 + 0 + M 1 2 * g_cf M 4 0 1 2 + M 2 2 * g_cf M 4 0 2 2 + M 3 2 * g_cf M 4 0 3 2 from rfl, g_cf_4_0_1_2 M, g_cf_4_0_2_2 M, g_cf_4_0_3_2 M]
        simp only [Int.add_zero, Int.zero_add] at h ⊢
        exact h
      · subst eb
        have h := aj_3_1_2 M 1 2 3
        rw [if_neg (by decide)]
        rw [show fs_sum (fun a => if a = 0 then 0 else M a 2 * g_cf M 4 0 a 3) (4 : Int).toNat = 0 + 0 + M 1 2 * g_cf M 4 0 1 3 + M 2 2 * g_cf M 4 0 2 3 + M 3 2 * g_cf M 4 0 3 3 from rfl, g_cf_4_0_1_3 M, g_cf_4_0_2_3 M, g_cf_4_0_3_3 M]
        simp only [Int.add_zero, Int.zero_add] at h ⊢
        exact h
    · subst eo
      rcases eb with eb | eb | eb | eb
      · exact absurd eb hbq
      · subst eb
        have h := aj_3_2_0 M 1 2 3
        rw [if_neg (by decide)]
        rw [show fs_sum (fun a => if a = 0 then 0 else M a 3 * g_cf M 4 0 a 1) (4 : Int).toNat = 0 + 0 + M 1 3 * g_cf M 4 0 1 1 + M 2 3 * g_cf M 4 0 2 1 + M 3 3 * g_cf M 4 0 3 1 from rfl, g_cf_4_0_1_1 M, g_cf_4_0_2_1 M, g_cf_4_0_3_1 M]
        simp only [Int.add_zero, Int.zero_add] at h ⊢
        exact h
      · subst eb
        have h := aj_3_2_1 M 1 2 3
        rw [if_neg (by decide)]
        rw [show fs_sum (fun a => if a = 0 then 0 else M a 3 * g_cf M 4 0 a 2) (4 : Int).toNat = 0 + 0 + M 1 3 * g_cf M 4 0 1 2 + M 2 3 * g_cf M 4 0 2 2 + M 3 3 * g_cf M 4 0 3 2 from rfl, g_cf_4_0_1_2 M, g_cf_4_0_2_2 M, g_cf_4_0_3_2 M]
        simp only [Int.add_zero, Int.zero_add] at h ⊢
        exact h
      · subst eb
        have h := aj_3_2_2 M 1 2 3
        rw [if_pos rfl, g_T_4_0]
        rw [show fs_sum (fun a => if a = 0 then 0 else M a 3 * g_cf M 4 0 a 3) (4 : Int).toNat = 0 + 0 + M 1 3 * g_cf M 4 0 1 3 + M 2 3 * g_cf M 4 0 2 3 + M 3 3 * g_cf M 4 0 3 3 from rfl, g_cf_4_0_1_3 M, g_cf_4_0_2_3 M, g_cf_4_0_3_3 M]
        simp only [Int.add_zero, Int.zero_add] at h ⊢
        exact h
  · subst eq_
    rcases eo with eo | eo | eo | eo
    · subst eo
      rcases eb with eb | eb | eb | eb
      · subst eb
        have h := aj_3_0_0 M 0 2 3
        rw [if_pos rfl, g_T_4_1]
        rw [show fs_sum (fun a => if a = 1 then 0 else M a 0 * g_cf M 4 1 a 0) (4 : Int).toNat = 0 + M 0 0 * g_cf M 4 1 0 0 + 0 + M 2 0 * g_cf M 4 1 2 0 + M 3 0 * g_cf M 4 1 3 0 from rfl, g_cf_4_1_0_0 M, g_cf_4_1_2_0 M, g_cf_4_1_3_0 M]
        simp only [Int.add_zero, Int.zero_add] at h ⊢
        exact h
      · exact absurd eb hbq
      · subst eb
        have h := aj_3_0_1 M 0 2 3
        rw [if_neg (by decide)]
        rw [show fs_sum (fun a => if a = 1 then 0 else M a 0 * g_cf M 4 1 a 2) (4 : Int).toNat = 0 + M 0 0 * g_cf M 4 1 0 2 + 0 + M 2 0 * g_cf M 4 1 2 2 + M 3 0 * g_cf M 4 1 3 2 from rfl, g_cf_4_1_0_2 M, g_cf_4_1_2_2 M, g_cf_4_1_3_2 M]
        simp only [Int.add_zero, Int.zero_add] at h ⊢
        exact h
      · subst eb
        have h := aj_3_0_2 M 0 2 3
        rw [if_neg (by decide)]
        rw [show fs_sum (fun a => if a = 1 then 0 else M a 0 * g_cf M 4 1 a 3) (4 : Int).toNat = 0 + M 0 0 * g_cf M 4 1 0 3 + 0 + M 2 0 * g_cf M 4 1 2 3 + M 3 0 * g_cf M 4 1 3 3 from rfl, g_cf_4_1_0_3 M, g_cf_4_1_2_3 M, g_cf_4_1_3_3 M]
        simp only [Int.add_zero, Int.zero_add] at h ⊢
        exact h
    · exact absurd eo hoq
    · subst eo
      rcases eb with eb | eb | eb | eb
      · subst eb
        have h := aj_3_1_0 M 0 2 3
        rw [if_neg (by decide)]
        rw [show fs_sum (fun a => if a = 1 then 0 else M a 2 * g_cf M 4 1 a 0) (4 : Int).toNat = 0 + M 0 2 * g_cf M 4 1 0 0 + 0 + M 2 2 * g_cf M 4 1 2 0 + M 3 2 * g_cf M 4 1 3 0 from rfl, g_cf_4_1_0_0 M, g_cf_4_1_2_0 M, g_cf_4_1_3_0 M]
        simp only [Int.add_zero, Int.zero_add] at h ⊢
        exact h
      · exact absurd eb hbq
      · subst eb
        have h := aj_3_1_1 M 0 2 3
        rw [if_pos rfl, g_T_4_1]
        rw [show fs_sum (fun a => if a = 1 then 0 else M a 2 * g_cf M 4 1 a 2) (4 : Int).toNat = 0 + M 0 2 * g_cf M 4 1 0 2 + 0 + M 2 2 * g_cf M 4 1 2 2 + M 3 2 * g_cf M 4 1 3 2 from rfl, g_cf_4_1_0_2 M, g_cf_4_1_2_2 M, g_cf_4_1_3_2 M]
        simp only [Int.add_zero, Int.zero_add] at h ⊢
        exact h
      · subst eb
        have h := aj_3_1_2 M 0 2 3
        rw [if_neg (by decide)]
        rw [show fs_sum (fun a => if a = 1 then 0 else M a 2 * g_cf M 4 1 a 3) (4 : Int).toNat = 0 + M 0 2 * g_cf M 4 1 0 3 + 0 + M 2 2 * g_cf M 4 1 2 3 + M 3 2 * g_cf M 4 1 3 3 from rfl, g_cf_4_1_0_3 M, g_cf_4_1_2_3 M, g_cf_4_1_3_3 M]
        simp only [Int.add_zero, Int.zero_add] at h ⊢
        exact h
    · subst eo
      rcases eb with eb | eb | eb | eb
      · subst eb
        have h := aj_3_2_0 M 0 2 3
        rw [if_neg (by decide)]
        rw [show fs_sum (fun a => if a = 1 then 0 else M a 3 * g_cf M 4 1 a 0) (4 : Int).toNat = 0 + M 0 3 * g_cf M 4 1 0 0 + 0 + M 2 3 * g_cf M 4 1 2 0 + M 3 3 * g_cf M 4 1 3 0 from rfl, g_cf_4_1_0_0 M, g_cf_4_1_2_0 M, g_cf_4_1_3_0 M]
        simp only [Int.add_zero, Int.zero_add] at h ⊢
        exact h
      · exact absurd eb hbq
      · subst eb
        have h := aj_3_2_1 M 0 2 3
        rw [if_neg (by decide)]
        rw [show fs_sum (fun a => if a = 1 then 0 else M a 3 * g_cf M 4 1 a 2) (4 : Int).toNat = 0 + M 0 3 * g_cf M 4 1 0 2 + 0 + M 2 3 * g_cf M 4 1 2 2 + M 3 3 * g_cf M 4 1 3 2 from rfl, g_cf_4_1_0_2 M, g_cf_4_1_2_2 M, g_cf_4_1_3_2 M]
        simp only [Int.add_zero, Int.zero_add] at h ⊢
        exact h
      · subst eb
        have h := aj_3_2_2 M 0 2 3
        rw [if_pos rfl, g_T_4_1]
        rw [show fs_sum (fun a => if a = 1 then 0 else M a 3 * g_cf M 4 1 a 3) (4 : Int).toNat = 0 + M 0 3 * g_cf M 4 1 0 3 + 0 + M 2 3 * g_cf M 4 1 2 3 + M 3 3 * g_cf M 4 1 3 3 from rfl, g_cf_4_1_0_3 M, g_cf_4_1_2_3 M, g_cf_4_1_3_3 M]
        simp only [Int.add_zero, Int.zero_add] at h ⊢
        exact h
  · subst eq_
    rcases eo with eo | eo | eo | eo
    · subst eo
      rcases eb with eb | eb | eb | eb
      · subst eb
        have h := aj_3_0_0 M 0 1 3
        rw [if_pos rfl, g_T_4_2]
        rw [show fs_sum (fun a => if a = 2 then 0 else M a 0 * g_cf M 4 2 a 0) (4 : Int).toNat = 0 + M 0 0 * g_cf M 4 2 0 0 + M 1 0 * g_cf M 4 2 1 0 + 0 + M 3 0 * g_cf M 4 2 3 0 from rfl, g_cf_4_2_0_0 M, g_cf_4_2_1_0 M, g_cf_4_2_3_0 M]
        simp only [Int.add_zero, Int.zero_add] at h ⊢
        exact h
      · subst eb
        have h := aj_3_0_1 M 0 1 3
        rw [if_neg (by decide)]
        rw [show fs_sum (fun a => if a = 2 then 0 else M a 0 * g_cf M 4 2 a 1) (4 : Int).toNat = 0 + M 0 0 * g_cf M 4 2 0 1 + M 1 0 * g_cf M 4 2 1 1 + 0 + M 3 0 * g_cf M 4 2 3 1 from rfl, g_cf_4_2_0_1 M, g_cf_4_2_1_1 M, g_cf_4_2_3_1 M]
        simp only [Int.add_zero, Int.zero_add] at h ⊢
        exact h
      · exact absurd eb hbq
      · subst eb
        have h := aj_3_0_2 M 0 1 3
        rw [if_neg (by decide)]
        rw [show fs_sum (fun a => if a = 2 then 0 else M a 0 * g_cf M 4 2 a 3) (4 : Int).toNat = 0 + M 0 0 * g_cf M 4 2 0 3 + M 1 0 * g_cf M 4 2 1 3 + 0 + M 3 0 * g_cf M 4 2 3 3 from rfl, g_cf_4_2_0_3 M, g_cf_4_2_1_3 M, g_cf_4_2_3_3 M]
        simp only [Int.add_zero, Int.zero_add] at h ⊢
        exact h
    · subst eo
      rcases eb with eb | eb | eb | eb
      · subst eb
        have h := aj_3_1_0 M 0 1 3
        rw [if_neg (by decide)]
        rw [show fs_sum (fun a => if a = 2 then 0 else M a 1 * g_cf M 4 2 a 0) (4 : Int).toNat = 0 + M 0 1 * g_cf M 4 2 0 0 + M 1 1 * g_cf M 4 2 1 0 + 0 + M 3 1 * g_cf M 4 2 3 0 from rfl, g_cf_4_2_0_0 M, g_cf_4_2_1_0 M, g_cf_4_2_3_0 M]
        simp only [Int.add_zero, Int.zero_add] at h ⊢
        exact h
      · subst eb
        have h := aj_3_1_1 M 0 1 3
        rw [if_pos rfl, g_T_4_2]
        rw [show fs_sum (fun a => if a = 2 then 0 else M a 1 * g_cf M 4 2 a 1) (4 : Int).toNat = 0 + M 0 1 * g_cf M 4 2 0 1 + M 1 1 * g_cf M 4 2 1 1 + 0 + M 3 1 * g_cf M 4 2 3 1 from rfl, g_cf_4_2_0_1 M, g_cf_4_2_1_1 M, g_cf_4_2_3_1 M]
        simp only [Int.add_zero, Int.zero_add] at h ⊢
        exact h
      · exact absurd eb hbq
      · subst eb
        have h := aj_3_1_2 M 0 1 3
        rw [if_neg (by decide)]
        rw [show fs_sum (fun a => if a = 2 then 0 else M a 1 * g_cf M 4 2 a 3) (4 : Int).toNat = 0 + M 0 1 * g_cf M 4 2 0 3 + M 1 1 * g_cf M 4 2 1 3 + 0 + M 3 1 * g_cf M 4 2 3 3 from rfl, g_cf_4_2_0_3 M, g_cf_4_2_1_3 M, g_cf_4_2_3_3 M]
        simp only [Int.add_zero, Int.zero_add] at h ⊢
        exact h
    · exact absurd eo hoq
    · subst eo
      rcases eb with eb | eb | eb | eb
      · subst eb
        have h := aj_3_2_0 M 0 1 3
        rw [if_neg (by decide)]
        rw [show fs_sum (fun a => if a = 2 then 0 else M a 3 * g_cf M 4 2 a 0) (4 : Int).toNat = 0 + M 0 3 * g_cf M 4 2 0 0 + M 1 3 * g_cf M 4 2 1 0 + 0 + M 3 3 * g_cf M 4 2 3 0 from rfl, g_cf_4_2_0_0 M, g_cf_4_2_1_0 M, g_cf_4_2_3_0 M]
        simp only [Int.add_zero, Int.zero_add] at h ⊢
        exact h
      · subst eb
        have h := aj_3_2_1 M 0 1 3
        rw [if_neg (by decide)]
        rw [show fs_sum (fun a => if a = 2 then 0 else M a 3 * g_cf M 4 2 a 1) (4 : Int).toNat = 0 + M 0 3 * g_cf M 4 2 0 1 + M 1 3 * g_cf M 4 2 1 1 + 0 + M 3 3 * g_cf M 4 2 3 1 from rfl, g_cf_4_2_0_1 M, g_cf_4_2_1_1 M, g_cf_4_2_3_1 M]
        simp only [Int.add_zero, Int.zero_add] at h ⊢
        exact h
      · exact absurd eb hbq
      · subst eb
        have h := aj_3_2_2 M 0 1 3
        rw [if_pos rfl, g_T_4_2]
        rw [show fs_sum (fun a => if a = 2 then 0 else M a 3 * g_cf M 4 2 a 3) (4 : Int).toNat = 0 + M 0 3 * g_cf M 4 2 0 3 + M 1 3 * g_cf M 4 2 1 3 + 0 + M 3 3 * g_cf M 4 2 3 3 from rfl, g_cf_4_2_0_3 M, g_cf_4_2_1_3 M, g_cf_4_2_3_3 M]
        simp only [Int.add_zero, Int.zero_add] at h ⊢
        exact h
  · subst eq_
    rcases eo with eo | eo | eo | eo
    · subst eo
      rcases eb with eb | eb | eb | eb
      · subst eb
        have h := aj_3_0_0 M 0 1 2
        rw [if_pos rfl, g_T_4_3]
        rw [show fs_sum (fun a => if a = 3 then 0 else M a 0 * g_cf M 4 3 a 0) (4 : Int).toNat = 0 + M 0 0 * g_cf M 4 3 0 0 + M 1 0 * g_cf M 4 3 1 0 + M 2 0 * g_cf M 4 3 2 0 + 0 from rfl, g_cf_4_3_0_0 M, g_cf_4_3_1_0 M, g_cf_4_3_2_0 M]
        simp only [Int.add_zero, Int.zero_add] at h ⊢
        exact h
      · subst eb
        have h := aj_3_0_1 M 0 1 2
        rw [if_neg (by decide)]
        rw [show fs_sum (fun a => if a = 3 then 0 else M a 0 * g_cf M 4 3 a 1) (4 : Int).toNat = 0 + M 0 0 * g_cf M 4 3 0 1 + M 1 0 * g_cf M 4 3 1 1 + M 2 0 * g_cf M 4 3 2 1 + 0 from rfl, g_cf_4_3_0_1 M, g_cf_4_3_1_1 M, g_cf_4_3_2_1 M]
        simp only [Int.add_zero, Int.zero_add] at h ⊢
        exact h
      · subst eb
        have h := aj_3_0_2 M 0 1 2
        rw [if_neg (by decide)]
        rw [show fs_sum (fun a => if a = 3 then 0 else M a 0 * g_cf M 4 3 a 2) (4 : Int).toNat = 0 + M 0 0 * g_cf M 4 3 0 2 + M 1 0 * g_cf M 4 3 1 2 + M 2 0 * g_cf M 4 3 2 2 + 0 from rfl, g_cf_4_3_0_2 M, g_cf_4_3_1_2 M, g_cf_4_3_2_2 M]
        simp only [Int.add_zero, Int.zero_add] at h ⊢
        exact h
      · exact absurd eb hbq
    · subst eo
      rcases eb with eb | eb | eb | eb
      · subst eb
        have h := aj_3_1_0 M 0 1 2
        rw [if_neg (by decide)]
        rw [show fs_sum (fun a => if a = 3 then 0 else M a 1 * g_cf M 4 3 a 0) (4 : Int).toNat = 0 + M 0 1 * g_cf M 4 3 0 0 + M 1 1 * g_cf M 4 3 1 0 + M 2 1 * g_cf M 4 3 2 0 + 0 from rfl, g_cf_4_3_0_0 M, g_cf_4_3_1_0 M, g_cf_4_3_2_0 M]
        simp only [Int.add_zero, Int.zero_add] at h ⊢
        exact h
      · subst eb
        have h := aj_3_1_1 M 0 1 2
        rw [if_pos rfl, g_T_4_3]
        rw [show fs_sum (fun a => if a = 3 then 0 else M a 1 * g_cf M 4 3 a 1) (4 : Int).toNat = 0 + M 0 1 * g_cf M 4 3 0 1 + M 1 1 * g_cf M 4 3 1 1 + M 2 1 * g_cf M 4 3 2 1 + 0 from rfl, g_cf_4_3_0_1 M, g_cf_4_3_1_1 M, g_cf_4_3_2_1 M]
        simp only [Int.add_zero, Int.zero_add] at h ⊢
        exact h
      · subst eb
        have h := aj_3_1_2 M 0 1 2
        rw [if_neg (by decide)]
        rw [show fs_sum (fun a => if a = 3 then 0 else M a 1 * g_cf M 4 3 a 2) (4 : Int).toNat = 0 + M 0 1 * g_cf M 4 3 0 2 + M 1 1 * g_cf M 4 3 1 2 + M 2 1 * g_cf M 4 3 2 2 + 0 from rfl, g_cf_4_3_0_2 M, g_cf_4_3_1_2 M, g_cf_4_3_2_2 M]
        simp only [Int.add_zero, Int.zero_add] at h ⊢
        exact h
      · exact absurd eb hbq
    · subst eo
      rcases eb with eb | eb | eb | eb
      · subst eb
        have h := aj_3_2_0 M 0 1 2
        rw [if_neg (by decide)]
        rw [show fs_sum (fun a => if a = 3 then 0 else M a 2 * g_cf M 4 3 a 0) (4 : Int).toNat = 0 + M 0 2 * g_cf M 4 3 0 0 + M 1 2 * g_cf M 4 3 1 0 + M 2 2 * g_cf M 4 3 2 0 + 0 from rfl, g_cf_4_3_0_0 M, g_cf_4_3_1_0 M, g_cf_4_3_2_0 M]
        simp only [Int.add_zero, Int.zero_add] at h ⊢
        exact h
      · subst eb
        have h := aj_3_2_1 M 0 1 2
        rw [if_neg (by decide)]
        rw [show fs_sum (fun a => if a = 3 then 0 else M a 2 * g_cf M 4 3 a 1) (4 : Int).toNat = 0 + M 0 2 * g_cf M 4 3 0 1 + M 1 2 * g_cf M 4 3 1 1 + M 2 2 * g_cf M 4 3 2 1 + 0 from rfl, g_cf_4_3_0_1 M, g_cf_4_3_1_1 M, g_cf_4_3_2_1 M]
        simp only [Int.add_zero, Int.zero_add] at h ⊢
        exact h
      · subst eb
        have h := aj_3_2_2 M 0 1 2
        rw [if_pos rfl, g_T_4_3]
        rw [show fs_sum (fun a => if a = 3 then 0 else M a 2 * g_cf M 4 3 a 2) (4 : Int).toNat = 0 + M 0 2 * g_cf M 4 3 0 2 + M 1 2 * g_cf M 4 3 1 2 + M 2 2 * g_cf M 4 3 2 2 + 0 from rfl, g_cf_4_3_0_2 M, g_cf_4_3_1_2 M, g_cf_4_3_2_2 M]
        simp only [Int.add_zero, Int.zero_add] at h ⊢
        exact h
      · exact absurd eb hbq
    · exact absurd eo hoq
theorem g_adj_5 {M : Int → Int → Int} {n q o b : Int} (hq : 0 ≤ q ∧ q < n) (ho : 0 ≤ o ∧ o < n) (hb : 0 ≤ b ∧ b < n) (hoq : o ≠ q) (hbq : b ≠ q) (en : n = 5) : fs_sum (fun a => if a = q then 0 else M a o * g_cf M n q a b) n.toNat = if o = b then g_T M n q else 0 := by
  subst en
  have eq_ : q = 0 ∨ q = 1 ∨ q = 2 ∨ q = 3 ∨ q = 4 := by omega
  have eo : o = 0 ∨ o = 1 ∨ o = 2 ∨ o = 3 ∨ o = 4 := by omega
  have eb : b = 0 ∨ b = 1 ∨ b = 2 ∨ b = 3 ∨ b = 4 := by omega
  rcases eq_ with eq_ | eq_ | eq_ | eq_ | eq_
  · subst eq_
    rcases eo with eo | eo | eo | eo | eo
    · exact absurd eo hoq
    · subst eo
      rcases eb with eb | eb | eb | eb | eb
      · exact absurd eb hbq
      · subst eb
        have h := aj_4_0_0 M 1 2 3 4
        rw [if_pos rfl, g_T_5_0]
        rw [show fs_sum (fun a => if a = 0 then 0 else M a 1 * g_cf M 5 0 a 1) (5 : Int).toNat = 0 + 0 + M 1 1 * g_cf M 5 0 1 1 + M 2 1 * g_cf M 5 0 2 1 + M 3 1 * g_cf M 5 0 3 1 + M 4 1 * g_cf M 5 0 4 1 from rfl, g_cf_5_0_1_1 M, g_cf_5_0_2_1 M, g_cf_5_0_3_1 M, g_cf_5_0_4_1 M]
        simp only [Int.add_zero, Int.zero_add] at h ⊢
        exact h
      · subst eb
        have h := aj_4_0_1 M 1 2 3 4
        rw [if_neg (by decide)]
        rw [show fs_sum (fun a => if a = 0 then 0 else M a 1 * g_cf M 5 0 a 2) (5 : Int).toNat = 0 + 0 + M 1 1 * g_cf M 5 0 1 2 + M 2 1 * g_cf M 5 0 2 2 + M 3 1 * g_cf M 5 0 3 2 + M 4 1 * g_cf M 5 0 4 2 from rfl, g_cf_5_0_1_2 M, g_cf_5_0_2_2 M, g_cf_5_0_3_2 M, g_cf_5_0_4_2 M]
        simp only [Int.add_zero, Int.zero_add] at h ⊢
        exact h
      · subst eb
        have h := aj_4_0_2 M 1 2 3 4
        rw [if_neg (by decide)]
        rw [show fs_sum (fun a => if a = 0 then 0 else M a 1 * g_cf M 5 0 a 3) (5 : Int).toNat = 0 + 0 + M 1 1 * g_cf M 5 0 1 3 + M 2 1 * g_cf M 5 0 2 3 + M 3 1 * g_cf M 5 0 3 3 + M 4 1 * g_cf M 5 0 4 3 from rfl, g_cf_5_0_1_3 M, g_cf_5_0_2_3 M, g_cf_5_0_3_3 M, g_cf_5_0_4_3 M]
        simp only [Int.add_zero, Int.zero_add] at h ⊢
        exact h
      · subst eb
        have h := aj_4_0_3 M 1 2 3 4
        rw [if_neg (by decide)]
        rw [show fs_sum (fun a => if a = 0 then 0 else M a 1 * g_cf M 5 0 a 4) (5 : Int).toNat = 0 + 0 + M 1 1 * g_cf M 5 0 1 4 + M 2 1 * g_cf M 5 0 2 4 + M 3 1 * g_cf M 5 0 3 4 + M 4 1 * g_cf M 5 0 4 4 from rfl, g_cf_5_0_1_4 M, g_cf_5_0_2_4 M, g_cf_5_0_3_4 M, g_cf_5_0_4_4 M]
        simp only [Int.add_zero, Int.zero_add] at h ⊢
        exact h
    · subst eo
      rcases eb with eb | eb | eb | eb | eb
      · exact absurd eb hbq
      · subst eb
        have h := aj_4_1_0 M 1 2 3 4
        rw [if_neg (by decide)]
        rw [show fs_sum (fun a => if a = 0 then 0 else M a 2 * g_cf M 5 0 a 1) (5 : Int).toNat = 0 + 0 + M 1 2 * g_cf M 5 0 1 1 + M 2 2 * g_cf M 5 0 2 1 + M 3 2 * g_cf M 5 0 3 1 + M 4 2 * g_cf M 5 0 4 1 from rfl, g_cf_5_0_1_1 M, g_cf_5_0_2_1 M, g_cf_5_0_3_1 M, g_cf_5_0_4_1 M]
        simp only [Int.add_zero, Int.zero_add] at h ⊢
        exact h
      · subst eb
        have h := aj_4_1_1 M 1 2 3 4
        rw [if_pos rfl, g_T_5_0]
        rw [show fs_sum (fun a => if a = 0 then 0 else M a 2 * g_cf M 5 0 a 2) (5 : Int).toNat = 0 + 0 + M 1 2 * g_cf M 5 0 1 2 + M 2 2 * g_cf M 5 0 2 2 + M 3 2 * g_cf M 5 0 3 2 + M 4 2 * g_cf M 5 0 4 2 from rfl, g_cf_5_0_1_2 M, g_cf_5_0_2_2 M, g_cf_5_0_3_2 M, g_cf_5_0_4_2 M]
        simp only [Int.add_zero, Int.zero_add] at h ⊢
        exact h
      · subst eb
        have h := aj_4_1_2 M 1 2 3 4
        rw [if_neg (by decide)]
        rw [show fs_sum (fun a => if a = 0 then 0 else M a 2 * g_cf M 5 0 a 3) (5 : Int).toNat = 0 + 0 + M 1 2 * g_cf M 5 0 1 3 + M 2 2 * g_cf M 5 0 2 3 + M 3 2 * g_cf M 5 0 3 3 + M 4 2 * g_cf M 5 0 4 3 from rfl, g_cf_5_0_1_3 M, g_cf_5_0_2_3 M, g_cf_5_0_3_3 M, g_cf_5_0_4_3 M]
        simp only [Int.add_zero, Int.zero_add] at h ⊢
        exact h
      · subst eb
        have h := aj_4_1_3 M 1 2 3 4
        rw [if_neg (by decide)]
        rw [show fs_sum (fun a => if a = 0 then 0 else M a 2 * g_cf M 5 0 a 4) (5 : Int).toNat = 0 + 0 + M 1 2 * g_cf M 5 0 1 4 + M 2 2 * g_cf M 5 0 2 4 + M 3 2 * g_cf M 5 0 3 4 + M 4 2 * g_cf M 5 0 4 4 from rfl, g_cf_5_0_1_4 M, g_cf_5_0_2_4 M, g_cf_5_0_3_4 M, g_cf_5_0_4_4 M]
        simp only [Int.add_zero, Int.zero_add] at h ⊢
        exact h
    · subst eo
      rcases eb with eb | eb | eb | eb | eb
      · exact absurd eb hbq
      · subst eb
        have h := aj_4_2_0 M 1 2 3 4
        rw [if_neg (by decide)]
        rw [show fs_sum (fun a => if a = 0 then 0 else M a 3 * g_cf M 5 0 a 1) (5 : Int).toNat = 0 + 0 + M 1 3 * g_cf M 5 0 1 1 + M 2 3 * g_cf M 5 0 2 1 + M 3 3 * g_cf M 5 0 3 1 + M 4 3 * g_cf M 5 0 4 1 from rfl, g_cf_5_0_1_1 M, g_cf_5_0_2_1 M, g_cf_5_0_3_1 M, g_cf_5_0_4_1 M]
        simp only [Int.add_zero, Int.zero_add] at h ⊢
        exact h
      · subst eb
        have h := aj_4_2_1 M 1 2 3 4
        rw [if_neg (by decide)]
        rw [show fs_sum (fun a => if a = 0 then 0 else M a 3 * g_cf M 5 0 a 2) (5 : Int).toNat = 0 + 0 + M 1 3 * g_cf M 5 0 1 2 + M 2 3 * g_cf M 5 0 2 2 + M 3 3 * g_cf M 5 0 3 2 + M 4 3 * g_cf M 5 0 4 2 from rfl, g_cf_5_0_1_2 M, g_cf_5_0_2_2 M, g_cf_5_0_3_2 M, g_cf_5_0_4_2 M]
        simp only [Int.add_zero, Int.zero_add] at h ⊢
        exact h
      · subst eb
        have h := aj_4_2_2 M 1 2 3 4
        rw [if_pos rfl, g_T_5_0]
        rw [show fs_sum (fun a => if a = 0 then 0 else M a 3 * g_cf M 5 0 a 3) (5 : Int).toNat = 0 + 0 + M 1 3 * g_cf M 5 0 1 3 + M 2 3 * g_cf M 5 0 2 3 + M 3 3 * g_cf M 5 0 3 3 + M 4 3 * g_cf M 5 0 4 3 from rfl, g_cf_5_0_1_3 M, g_cf_5_0_2_3 M, g_cf_5_0_3_3 M, g_cf_5_0_4_3 M]
        simp only [Int.add_zero, Int.zero_add] at h ⊢
        exact h
      · subst eb
        have h := aj_4_2_3 M 1 2 3 4
        rw [if_neg (by decide)]
        rw [show fs_sum (fun a => if a = 0 then 0 else M a 3 * g_cf M 5 0 a 4) (5 : Int).toNat = 0 + 0 + M 1 3 * g_cf M 5 0 1 4 + M 2 3 * g_cf M 5 0 2 4 + M 3 3 * g_cf M 5 0 3 4 + M 4 3 * g_cf M 5 0 4 4 from rfl, g_cf_5_0_1_4 M, g_cf_5_0_2_4 M, g_cf_5_0_3_4 M, g_cf_5_0_4_4 M]
        simp only [Int.add_zero, Int.zero_add] at h ⊢
        exact h
    · subst eo
      rcases eb with eb | eb | eb | eb | eb
      · exact absurd eb hbq
      · subst eb
        have h := aj_4_3_0 M 1 2 3 4
        rw [if_neg (by decide)]
        rw [show fs_sum (fun a => if a = 0 then 0 else M a 4 * g_cf M 5 0 a 1) (5 : Int).toNat = 0 + 0 + M 1 4 * g_cf M 5 0 1 1 + M 2 4 * g_cf M 5 0 2 1 + M 3 4 * g_cf M 5 0 3 1 + M 4 4 * g_cf M 5 0 4 1 from rfl, g_cf_5_0_1_1 M, g_cf_5_0_2_1 M, g_cf_5_0_3_1 M, g_cf_5_0_4_1 M]
        simp only [Int.add_zero, Int.zero_add] at h ⊢
        exact h
      · subst eb
        have h := aj_4_3_1 M 1 2 3 4
        rw [if_neg (by decide)]
        rw [show fs_sum (fun a => if a = 0 then 0 else M a 4 * g_cf M 5 0 a 2) (5 : Int).toNat = 0 + 0 + M 1 4 * g_cf M 5 0 1 2 + M 2 4 * g_cf M 5 0 2 2 + M 3 4 * g_cf M 5 0 3 2 + M 4 4 * g_cf M 5 0 4 2 from rfl, g_cf_5_0_1_2 M, g_cf_5_0_2_2 M, g_cf_5_0_3_2 M, g_cf_5_0_4_2 M]
        simp only [Int.add_zero, Int.zero_add] at h ⊢
        exact h
      · subst eb
        have h := aj_4_3_2 M 1 2 3 4
        rw [if_neg (by decide)]
        rw [show fs_sum (fun a => if a = 0 then 0 else M a 4 * g_cf M 5 0 a 3) (5 : Int).toNat = 0 + 0 + M 1 4 * g_cf M 5 0 1 3 + M 2 4 * g_cf M 5 0 2 3 + M 3 4 * g_cf M 5 0 3 3 + M 4 4 * g_cf M 5 0 4 3 from rfl, g_cf_5_0_1_3 M, g_cf_5_0_2_3 M, g_cf_5_0_3_3 M, g_cf_5_0_4_3 M]
        simp only [Int.add_zero, Int.zero_add] at h ⊢
        exact h
      · subst eb
        have h := aj_4_3_3 M 1 2 3 4
        rw [if_pos rfl, g_T_5_0]
        rw [show fs_sum (fun a => if a = 0 then 0 else M a 4 * g_cf M 5 0 a 4) (5 : Int).toNat = 0 + 0 + M 1 4 * g_cf M 5 0 1 4 + M 2 4 * g_cf M 5 0 2 4 + M 3 4 * g_cf M 5 0 3 4 + M 4 4 * g_cf M 5 0 4 4 from rfl, g_cf_5_0_1_4 M, g_cf_5_0_2_4 M, g_cf_5_0_3_4 M, g_cf_5_0_4_4 M]
        simp only [Int.add_zero, Int.zero_add] at h ⊢
        exact h
  · subst eq_
    rcases eo with eo | eo | eo | eo | eo
    · subst eo
      rcases eb with eb | eb | eb | eb | eb
      · subst eb
        have h := aj_4_0_0 M 0 2 3 4
        rw [if_pos rfl, g_T_5_1]
        rw [show fs_sum (fun a => if a = 1 then 0 else M a 0 * g_cf M 5 1 a 0) (5 : Int).toNat = 0 + M 0 0 * g_cf M 5 1 0 0 + 0 + M 2 0 * g_cf M 5 1 2 0 + M 3 0 * g_cf M 5 1 3 0 + M 4 0 * g_cf M 5 1 4 0 from rfl, g_cf_5_1_0_0 M, g_cf_5_1_2_0 M, g_cf_5_1_3_0 M, g_cf_5_1_4_0 M]
        simp only [Int.add_zero, Int.zero_add] at h ⊢
        exact h
      · exact absurd eb hbq
      · subst eb
        have h := aj_4_0_1 M 0 2 3 4
        rw [if_neg (by decide)]
        rw [show fs_sum (fun a => if a = 1 then 0 else M a 0 * g_cf M 5 1 a 2) (5 : Int).toNat = 0 + M 0 0 * g_cf M 5 1 0 2 + 0 + M 2 0 * g_cf M 5 1 2 2 + M 3 0 * g_cf M 5 1 3 2 + M 4 0 * g_cf M 5 1 4 2 from rfl, g_cf_5_1_0_2 M, g_cf_5_1_2_2 M, g_cf_5_1_3_2 M, g_cf_5_1_4_2 M]
        simp only [Int.add_zero, Int.zero_add] at h ⊢
        exact h
      · subst eb
        have h := aj_4_0_2 M 0 2 3 4
        rw [if_neg (by decide)]
        rw [show fs_sum (fun a => if a = 1 then 0 else M a 0 * g_cf M 5 1 a 3) (5 : Int).toNat = 0 + M 0 0 * g_cf M 5 1 0 3 + 0 + M 2 0 * g_cf M 5 1 2 3 + M 3 0 * g_cf M 5 1 3 3 + M 4 0 * g_cf M 5 1 4 3 from rfl, g_cf_5_1_0_3 M, g_cf_5_1_2_3 M, g_cf_5_1_3_3 M, g_cf_5_1_4_3 M]
        simp only [Int.add_zero, Int.zero_add] at h ⊢
        exact h
      · subst eb
        have h := aj_4_0_3 M 0 2 3 4
        rw [if_neg (by decide)]
        rw [show fs_sum (fun a => if a = 1 then 0 else M a 0 * g_cf M 5 1 a 4) (5 : Int).toNat = 0 + M 0 0 * g_cf M 5 1 0 4 + 0 + M 2 0 * g_cf M 5 1 2 4 + M 3 0 * g_cf M 5 1 3 4 + M 4 0 * g_cf M 5 1 4 4 from rfl, g_cf_5_1_0_4 M, g_cf_5_1_2_4 M, g_cf_5_1_3_4 M, g_cf_5_1_4_4 M]
        simp only [Int.add_zero, Int.zero_add] at h ⊢
        exact h
    · exact absurd eo hoq
    · subst eo
      rcases eb with eb | eb | eb | eb | eb
      · subst eb
        have h := aj_4_1_0 M 0 2 3 4
        rw [if_neg (by decide)]
        rw [show fs_sum (fun a => if a = 1 then 0 else M a 2 * g_cf M 5 1 a 0) (5 : Int).toNat = 0 + M 0 2 * g_cf M 5 1 0 0 + 0 + M 2 2 * g_cf M 5 1 2 0 + M 3 2 * g_cf M 5 1 3 0 + M 4 2 * g_cf M 5 1 4 0 from rfl, g_cf_5_1_0_0 M, g_cf_5_1_2_0 M, g_cf_5_1_3_0 M, g_cf_5_1_4_0 M]
        simp only [Int.add_zero, Int.zero_add] at h ⊢
        exact h
      · exact absurd eb hbq
      · subst eb
        have h := aj_4_1_1 M 0 2 3 4
        rw [if_pos rfl, g_T_5_1]
        rw [show fs_sum (fun a => if a = 1 then 0 else M a 2 * g_cf M 5 1 a 2) (5 : Int).toNat = 0 + M 0 2 * g_cf M 5 1 0 2 + 0 + M 2 2 * g_cf M 5 1 2 2 + M 3 2 * g_cf M 5 1 3 2 + M 4 2 * g_cf M 5 1 4 2 from rfl, g_cf_5_1_0_2 M, g_cf_5_1_2_2 M, g_cf_5_1_3_2 M, g_cf_5_1_4_2 M]
        simp only [Int.add_zero, Int.zero_add] at h ⊢
        exact h
      · subst eb
        have h := aj_4_1_2 M 0 2 3 4
        rw [if_neg (by decide)]
        rw [show fs_sum (fun a => if a = 1 then 0 else M a 2 * g_cf M 5 1 a 3) (5 : Int).toNat = 0 + M 0 2 * g_cf M 5 1 0 3 + 0 + M 2 2 * g_cf M 5 1 2 3 + M 3 2 * g_cf M 5 1 3 3 + M 4 2 * g_cf M 5 1 4 3 from rfl, g_cf_5_1_0_3 M, g_cf_5_1_2_3 M, g_cf_5_1_3_3 M, g_cf_5_1_4_3 M]
        simp only [Int.add_zero, Int.zero_add] at h ⊢
        exact h
      · subst eb
        have h := aj_4_1_3 M 0 2 3 4
        rw [if_neg (by decide)]
        rw [show fs_sum (fun a => if a = 1 then 0 else M a 2 * g_cf M 5 1 a 4) (5 : Int).toNat = 0 + M 0 2 * g_cf M 5 1 0 4 + 0 + M 2 2 * g_cf M 5 1 2 4 + M 3 2 * g_cf M 5 1 3 4 + M 4 2 * g_cf M 5 1 4 4 from rfl, g_cf_5_1_0_4 M, g_cf_5_1_2_4 M, g_cf_5_1_3_4 M, g_cf_5_1_4_4 M]
        simp only [Int.add_zero, Int.zero_add] at h ⊢
        exact h
    · subst eo
      rcases eb with eb | eb | eb | eb | eb
      · subst eb
        have h := aj_4_2_0 M 0 2 3 4
        rw [if_neg (by decide)]
        rw [show fs_sum (fun a => if a = 1 then 0 else M a 3 * g_cf M 5 1 a 0) (5 : Int).toNat = 0 + M 0 3 * g_cf M 5 1 0 0 + 0 + M 2 3 * g_cf M 5 1 2 0 + M 3 3 * g_cf M 5 1 3 0 + M 4 3 * g_cf M 5 1 4 0 from rfl, g_cf_5_1_0_0 M, g_cf_5_1_2_0 M, g_cf_5_1_3_0 M, g_cf_5_1_4_0 M]
        simp only [Int.add_zero, Int.zero_add] at h ⊢
        exact h
      · exact absurd eb hbq
      · subst eb
        have h := aj_4_2_1 M 0 2 3 4
        rw [if_neg (by decide)]
        rw [show fs_sum (fun a => if a = 1 then 0 else M a 3 * g_cf M 5 1 a 2) (5 : Int).toNat = 0 + M 0 3 * g_cf M 5 1 0 2 + 0 + M 2 3 * g_cf M 5 1 2 2 + M 3 3 * g_cf M 5 1 3 2 + M 4 3 * g_cf M 5 1 4 2 from rfl, g_cf_5_1_0_2 M, g_cf_5_1_2_2 M, g_cf_5_1_3_2 M, g_cf_5_1_4_2 M]
        simp only [Int.add_zero, Int.zero_add] at h ⊢
        exact h
      · subst eb
        have h := aj_4_2_2 M 0 2 3 4
        rw [if_pos rfl, g_T_5_1]
        rw [show fs_sum (fun a => if a = 1 then 0 else M a 3 * g_cf M 5 1 a 3) (5 : Int).toNat = 0 + M 0 3 * g_cf M 5 1 0 3 + 0 + M 2 3 * g_cf M 5 1 2 3 + M 3 3 * g_cf M 5 1 3 3 + M 4 3 * g_cf M 5 1 4 3 from rfl, g_cf_5_1_0_3 M, g_cf_5_1_2_3 M, g_cf_5_1_3_3 M, g_cf_5_1_4_3 M]
        simp only [Int.add_zero, Int.zero_add] at h ⊢
        exact h
      · subst eb
        have h := aj_4_2_3 M 0 2 3 4
        rw [if_neg (by decide)]
        rw [show fs_sum (fun a => if a = 1 then 0 else M a 3 * g_cf M 5 1 a 4) (5 : Int).toNat = 0 + M 0 3 * g_cf M 5 1 0 4 + 0 + M 2 3 * g_cf M 5 1 2 4 + M 3 3 * g_cf M 5 1 3 4 + M 4 3 * g_cf M 5 1 4 4 from rfl, g_cf_5_1_0_4 M, g_cf_5_1_2_4 M, g_cf_5_1_3_4 M, g_cf_5_1_4_4 M]
        simp only [Int.add_zero, Int.zero_add] at h ⊢
        exact h
    · subst eo
      rcases eb with eb | eb | eb | eb | eb
      · subst eb
        have h := aj_4_3_0 M 0 2 3 4
        rw [if_neg (by decide)]
        rw [show fs_sum (fun a => if a = 1 then 0 else M a 4 * g_cf M 5 1 a 0) (5 : Int).toNat = 0 + M 0 4 * g_cf M 5 1 0 0 + 0 + M 2 4 * g_cf M 5 1 2 0 + M 3 4 * g_cf M 5 1 3 0 + M 4 4 * g_cf M 5 1 4 0 from rfl, g_cf_5_1_0_0 M, g_cf_5_1_2_0 M, g_cf_5_1_3_0 M, g_cf_5_1_4_0 M]
        simp only [Int.add_zero, Int.zero_add] at h ⊢
        exact h
      · exact absurd eb hbq
      · subst eb
        have h := aj_4_3_1 M 0 2 3 4
        rw [if_neg (by decide)]
        rw [show fs_sum (fun a => if a = 1 then 0 else M a 4 * g_cf M 5 1 a 2) (5 : Int).toNat = 0 + M 0 4 * g_cf M 5 1 0 2 + 0 + M 2 4 * g_cf M 5 1 2 2 + M 3 4 * g_cf M 5 1 3 2 + M 4 4 * g_cf M 5 1 4 2 from rfl, g_cf_5_1_0_2 M, g_cf_5_1_2_2 M, g_cf_5_1_3_2 M, g_cf_5_1_4_2 M]
        simp only [Int.add_zero, Int.zero_add] at h ⊢
        exact h
      · subst eb
        have h := aj_4_3_2 M 0 2 3 4
        rw [if_neg (by decide)]
        rw [show fs_sum (fun a => if a = 1 then 0 else M a 4 * g_cf M 5 1 a 3) (5 : Int).toNat = 0 + M 0 4 * g_cf M 5 1 0 3 + 0 + M 2 4 * g_cf M 5 1 2 3 + M 3 4 * g_cf M 5 1 3 3 + M 4 4 * g_cf M 5 1 4 3 from rfl, g_cf_5_1_0_3 M, g_cf_5_1_2_3 M, g_cf_5_1_3_3 M, g_cf_5_1_4_3 M]
        simp only [Int.add_zero, Int.zero_add] at h ⊢
        exact h
      · subst eb
        have h := aj_4_3_3 M 0 2 3 4
        rw [if_pos rfl, g_T_5_1]
        rw [show fs_sum (fun a => if a = 1 then 0 else M a 4 * g_cf M 5 1 a 4) (5 : Int).toNat = 0 + M 0 4 * g_cf M 5 1 0 4 + 0 + M 2 4 * g_cf M 5 1 2 4 + M 3 4 * g_cf M 5 1 3 4 + M 4 4 * g_cf M 5 1 4 4 from rfl, g_cf_5_1_0_4 M, g_cf_5_1_2_4 M, g_cf_5_1_3_4 M, g_cf_5_1_4_4 M]
        simp only [Int.add_zero, Int.zero_add] at h ⊢
        exact h
  · subst eq_
    rcases eo with eo | eo | eo | eo | eo
    · subst eo
      rcases eb with eb | eb | eb | eb | eb
      · subst eb
        have h := aj_4_0_0 M 0 1 3 4
        rw [if_pos rfl, g_T_5_2]
        rw [show fs_sum (fun a => if a = 2 then 0 else M a 0 * g_cf M 5 2 a 0) (5 : Int).toNat = 0 + M 0 0 * g_cf M 5 2 0 0 + M 1 0 * g_cf M 5 2 1 0 + 0 + M 3 0 * g_cf M 5 2 3 0 + M 4 0 * g_cf M 5 2 4 0 from rfl, g_cf_5_2_0_0 M, g_cf_5_2_1_0 M, g_cf_5_2_3_0 M, g_cf_5_2_4_0 M]
        simp only [Int.add_zero, Int.zero_add] at h ⊢
        exact h
      · subst eb
        have h := aj_4_0_1 M 0 1 3 4
        rw [if_neg (by decide)]
        rw [show fs_sum (fun a => if a = 2 then 0 else M a 0 * g_cf M 5 2 a 1) (5 : Int).toNat = 0 + M 0 0 * g_cf M 5 2 0 1 + M 1 0 * g_cf M 5 2 1 1 + 0 + M 3 0 * g_cf M 5 2 3 1 + M 4 0 * g_cf M 5 2 4 1 from rfl, g_cf_5_2_0_1 M, g_cf_5_2_1_1 M, g_cf_5_2_3_1 M, g_cf_5_2_4_1 M]
        simp only [Int.add_zero, Int.zero_add] at h ⊢
        exact h
      · exact absurd eb hbq
      · subst eb
        have h := aj_4_0_2 M 0 1 3 4
        rw [if_neg (by decide)]
        rw [show fs_sum (fun a => if a = 2 then 0 else M a 0 * g_cf M 5 2 a 3) (5 : Int).toNat = 0 + M 0 0 * g_cf M 5 2 0 3 + M 1 0 * g_cf M 5 2 1 3 + 0 + M 3 0 * g_cf M 5 2 3 3 + M 4 0 * g_cf M 5 2 4 3 from rfl, g_cf_5_2_0_3 M, g_cf_5_2_1_3 M, g_cf_5_2_3_3 M, g_cf_5_2_4_3 M]
        simp only [Int.add_zero, Int.zero_add] at h ⊢
        exact h
      · subst eb
        have h := aj_4_0_3 M 0 1 3 4
        rw [if_neg (by decide)]
        rw [show fs_sum (fun a => if a = 2 then 0 else M a 0 * g_cf M 5 2 a 4) (5 : Int).toNat = 0 + M 0 0 * g_cf M 5 2 0 4 + M 1 0 * g_cf M 5 2 1 4 + 0 + M 3 0 * g_cf M 5 2 3 4 + M 4 0 * g_cf M 5 2 4 4 from rfl, g_cf_5_2_0_4 M, g_cf_5_2_1_4 M, g_cf_5_2_3_4 M, g_cf_5_2_4_4 M]
        simp only [Int.add_zero, Int.zero_add] at h ⊢
        exact h
    · subst eo
      rcases eb with eb | eb | eb | eb | eb
      · subst eb
        have h := aj_4_1_0 M 0 1 3 4
        rw [if_neg (by decide)]
        rw [show fs_sum (fun a => if a = 2 then 0 else M a 1 * g_cf M 5 2 a 0) (5 : Int).toNat = 0 + M 0 1 * g_cf M 5 2 0 0 + M 1 1 * g_cf M 5 2 1 0 + 0 + M 3 1 * g_cf M 5 2 3 0 + M 4 1 * g_cf M 5 2 4 0 from rfl, g_cf_5_2_0_0 M, g_cf_5_2_1_0 M, g_cf_5_2_3_0 M, g_cf_5_2_4_0 M]
        simp only [Int.add_zero, Int.zero_add] at h ⊢
        exact h
      · subst eb
        have h := aj_4_1_1 M 0 1 3 4
        rw [if_pos rfl, g_T_5_2]
        rw [show fs_sum (fun a => if a = 2 then 0 else M a 1 * g_cf M 5 2 a 1) (5 : Int).toNat = 0 + M 0 1 * g_cf M 5 2 0 1 + M 1 1 * g_cf M 5 2 1 1 + 0 + M 3 1 * g_cf M 5 2 3 1 + M 4 1 * g_cf M 5 2 4 1 from rfl, g_cf_5_2_0_1 M, g_cf_5_2_1_1 M, g_cf_5_2_3_1 M, g_cf_5_2_4_1 M]
        simp only [Int.add_zero, Int.zero_add] at h ⊢
        exact h
      · exact absurd eb hbq
      · subst eb
        have h := aj_4_1_2 M 0 1 3 4
        rw [if_neg (by decide)]
        rw [show fs_sum (fun a => if a = 2 then 0 else M a 1 * g_cf M 5 2 a 3) (5 : Int).toNat = 0 + M 0 1 * g_cf M 5 2 0 3 + M 1 1 * g_cf M 5 2 1 3 + 0 + M 3 1 * g_cf M 5 2 3 3 + M 4 1 * g_cf M 5 2 4 3 from rfl, g_cf_5_2_0_3 M, g_cf_5_2_1_3 M, g_cf_5_2_3_3 M, g_cf_5_2_4_3 M]
        simp only [Int.add_zero, Int.zero_add] at h ⊢
        exact h
      · subst eb
        have h := aj_4_1_3 M 0 1 3 4
        rw [if_neg (by decide)]
        rw [show fs_sum (fun a => if a = 2 then 0 else M a 1 * g_cf M 5 2 a 4) (5 : Int).toNat = 0 + M 0 1 * g_cf M 5 2 0 4 + M 1 1 * g_cf M 5 2 1 4 + 0 + M 3 1 * g_cf M 5 2 3 4 + M 4 1 * g_cf M 5 2 4 4 from rfl, g_cf_5_2_0_4 M, g_cf_5_2_1_4 M, g_cf_5_2_3_4 M, g_cf_5_2_4_4 M]
        simp only [Int.add_zero, Int.zero_add] at h ⊢
        exact h
    · exact absurd eo hoq
    · subst eo
      rcases eb with eb | eb | eb | eb | eb
      · subst eb
        have h := aj_4_2_0 M 0 1 3 4
        rw [if_neg (by decide)]
        rw [show fs_sum (fun a => if a = 2 then 0 else M a 3 * g_cf M 5 2 a 0) (5 : Int).toNat = 0 + M 0 3 * g_cf M 5 2 0 0 + M 1 3 * g_cf M 5 2 1 0 + 0 + M 3 3 * g_cf M 5 2 3 0 + M 4 3 * g_cf M 5 2 4 0 from rfl, g_cf_5_2_0_0 M, g_cf_5_2_1_0 M, g_cf_5_2_3_0 M, g_cf_5_2_4_0 M]
        simp only [Int.add_zero, Int.zero_add] at h ⊢
        exact h
      · subst eb
        have h := aj_4_2_1 M 0 1 3 4
        rw [if_neg (by decide)]
        rw [show fs_sum (fun a => if a = 2 then 0 else M a 3 * g_cf M 5 2 a 1) (5 : Int).toNat = 0 + M 0 3 * g_cf M 5 2 0 1 + M 1 3 * g_cf M 5 2 1 1 + 0 + M 3 3 * g_cf M 5 2 3 1 + M 4 3 * g_cf M 5 2 4 1 from rfl, g_cf_5_2_0_1 M, g_cf_5_2_1_1 M, g_cf_5_2_3_1 M, g_cf_5_2_4_1 M]
        simp only [Int.add_zero, Int.zero_add] at h ⊢
        exact h
      · exact absurd eb hbq
      · subst eb
        have h := aj_4_2_2 M 0 1 3 4
        rw [if_pos rfl, g_T_5_2]
        rw [show fs_sum (fun a => if a = 2 then 0 else M a 3 * g_cf M 5 2 a 3) (5 : Int).toNat = 0 + M 0 3 * g_cf M 5 2 0 3 + M 1 3 * g_cf M 5 2 1 3 + 0 + M 3 3 * g_cf M 5 2 3 3 + M 4 3 * g_cf M 5 2 4 3 from rfl, g_cf_5_2_0_3 M, g_cf_5_2_1_3 M, g_cf_5_2_3_3 M, g_cf_5_2_4_3 M]
        simp only [Int.add_zero, Int.zero_add] at h ⊢
        exact h
      · subst eb
        have h := aj_4_2_3 M 0 1 3 4
        rw [if_neg (by decide)]
        rw [show fs_sum (fun a => if a = 2 then 0 else M a 3 * g_cf M 5 2 a 4) (5 : Int).toNat = 0 + M 0 3 * g_cf M 5 2 0 4 + M 1 3 * g_cf M 5 2 1 4 + 0 + M 3 3 * g_cf M 5 2 3 4 + M 4 3 * g_cf M 5 2 4 4 from rfl, g_cf_5_2_0_4 M, g_cf_5_2_1_4 M, g_cf_5_2_3_4 M, g_cf_5_2_4_4 M]
        simp only [Int.add_zero, Int.zero_add] at h ⊢
        exact h
    · subst eo
      rcases eb with eb | eb | eb | eb | eb
      · subst eb
        have h := aj_4_3_0 M 0 1 3 4
        rw [if_neg (by decide)]
        rw [show fs_sum (fun a => if a = 2 then 0 else M a 4 * g_cf M 5 2 a 0) (5 : Int).toNat = 0 + M 0 4 * g_cf M 5 2 0 0 + M 1 4 * g_cf M 5 2 1 0 + 0 + M 3 4 * g_cf M 5 2 3 0 + M 4 4 * g_cf M 5 2 4 0 from rfl, g_cf_5_2_0_0 M, g_cf_5_2_1_0 M, g_cf_5_2_3_0 M, g_cf_5_2_4_0 M]
        simp only [Int.add_zero, Int.zero_add] at h ⊢
        exact h
      · subst eb
        have h := aj_4_3_1 M 0 1 3 4
        rw [if_neg (by decide)]
        rw [show fs_sum (fun a => if a = 2 then 0 else M a 4 * g_cf M 5 2 a 1) (5 : Int).toNat = 0 + M 0 4 * g_cf M 5 2 0 1 + M 1 4 * g_cf M 5 2 1 1 + 0 + M 3 4 * g_cf M 5 2 3 1 + M 4 4 * g_cf M 5 2 4 1 from rfl, g_cf_5_2_0_1 M, g_cf_5_2_1_1 M, g_cf_5_2_3_1 M, g_cf_5_2_4_1 M]
        simp only [Int.add_zero, Int.zero_add] at h ⊢
        exact h
      · exact absurd eb hbq
      · subst eb
        have h := aj_4_3_2 M 0 1 3 4
        rw [if_neg (by decide)]
        rw [show fs_sum (fun a => if a = 2 then 0 else M a 4 * g_cf M 5 2 a 3) (5 : Int).toNat = 0 + M 0 4 * g_cf M 5 2 0 3 + M 1 4 * g_cf M 5 2 1 3 + 0 + M 3 4 * g_cf M 5 2 3 3 + M 4 4 * g_cf M 5 2 4 3 from rfl, g_cf_5_2_0_3 M, g_cf_5_2_1_3 M, g_cf_5_2_3_3 M, g_cf_5_2_4_3 M]
        simp only [Int.add_zero, Int.zero_add] at h ⊢
        exact h
      · subst eb
        have h := aj_4_3_3 M 0 1 3 4
        rw [if_pos rfl, g_T_5_2]
        rw [show fs_sum (fun a => if a = 2 then 0 else M a 4 * g_cf M 5 2 a 4) (5 : Int).toNat = 0 + M 0 4 * g_cf M 5 2 0 4 + M 1 4 * g_cf M 5 2 1 4 + 0 + M 3 4 * g_cf M 5 2 3 4 + M 4 4 * g_cf M 5 2 4 4 from rfl, g_cf_5_2_0_4 M, g_cf_5_2_1_4 M, g_cf_5_2_3_4 M, g_cf_5_2_4_4 M]
        simp only [Int.add_zero, Int.zero_add] at h ⊢
        exact h
  · subst eq_
    rcases eo with eo | eo | eo | eo | eo
    · subst eo
      rcases eb with eb | eb | eb | eb | eb
      · subst eb
        have h := aj_4_0_0 M 0 1 2 4
        rw [if_pos rfl, g_T_5_3]
        rw [show fs_sum (fun a => if a = 3 then 0 else M a 0 * g_cf M 5 3 a 0) (5 : Int).toNat = 0 + M 0 0 * g_cf M 5 3 0 0 + M 1 0 * g_cf M 5 3 1 0 + M 2 0 * g_cf M 5 3 2 0 + 0 + M 4 0 * g_cf M 5 3 4 0 from rfl, g_cf_5_3_0_0 M, g_cf_5_3_1_0 M, g_cf_5_3_2_0 M, g_cf_5_3_4_0 M]
        simp only [Int.add_zero, Int.zero_add] at h ⊢
        exact h
      · subst eb
        have h := aj_4_0_1 M 0 1 2 4
        rw [if_neg (by decide)]
        rw [show fs_sum (fun a => if a = 3 then 0 else M a 0 * g_cf M 5 3 a 1) (5 : Int).toNat = 0 + M 0 0 * g_cf M 5 3 0 1 + M 1 0 * g_cf M 5 3 1 1 + M 2 0 * g_cf M 5 3 2 1 + 0 + M 4 0 * g_cf M 5 3 4 1 from rfl, g_cf_5_3_0_1 M, g_cf_5_3_1_1 M, g_cf_5_3_2_1 M, g_cf_5_3_4_1 M]
        simp only [Int.add_zero, Int.zero_add] at h ⊢
        exact h
      · subst eb
        have h := aj_4_0_2 M 0 1 2 4
        rw [if_neg (by decide)]
        rw [show fs_sum (fun a => if a = 3 then 0 else M a 0 * g_cf M 5 3 a 2) (5 : Int).toNat = 0 + M 0 0 * g_cf M 5 3 0 2 + M 1 0 * g_cf M 5 3 1 2 + M 2 0 * g_cf M 5 3 2 2 + 0 + M 4 0 * g_cf M 5 3 4 2 from rfl, g_cf_5_3_0_2 M, g_cf_5_3_1_2 M, g_cf_5_3_2_2 M, g_cf_5_3_4_2 M]
        simp only [Int.add_zero, Int.zero_add] at h ⊢
        exact h
      · exact absurd eb hbq
      · subst eb
        have h := aj_4_0_3 M 0 1 2 4
        rw [if_neg (by decide)]
        rw [show fs_sum (fun a => if a = 3 then 0 else M a 0 * g_cf M 5 3 a 4) (5 : Int).toNat = 0 + M 0 0 * g_cf M 5 3 0 4 + M 1 0 * g_cf M 5 3 1 4 + M 2 0 * g_cf M 5 3 2 4 + 0 + M 4 0 * g_cf M 5 3 4 4 from rfl, g_cf_5_3_0_4 M, g_cf_5_3_1_4 M, g_cf_5_3_2_4 M, g_cf_5_3_4_4 M]
        simp only [Int.add_zero, Int.zero_add] at h ⊢
        exact h
    · subst eo
      rcases eb with eb | eb | eb | eb | eb
      · subst eb
        have h := aj_4_1_0 M 0 1 2 4
        rw [if_neg (by decide)]
        rw [show fs_sum (fun a => if a = 3 then 0 else M a 1 * g_cf M 5 3 a 0) (5 : Int).toNat = 0 + M 0 1 * g_cf M 5 3 0 0 + M 1 1 * g_cf M 5 3 1 0 + M 2 1 * g_cf M 5 3 2 0 + 0 + M 4 1 * g_cf M 5 3 4 0 from rfl, g_cf_5_3_0_0 M, g_cf_5_3_1_0 M, g_cf_5_3_2_0 M, g_cf_5_3_4_0 M]
        simp only [Int.add_zero, Int.zero_add] at h ⊢
        exact h
      · subst eb
        have h := aj_4_1_1 M 0 1 2 4
        rw [if_pos rfl, g_T_5_3]
        rw [show fs_sum (fun a => if a = 3 then 0 else M a 1 * g_cf M 5 3 a 1) (5 : Int).toNat = 0 + M 0 1 * g_cf M 5 3 0 1 + M 1 1 * g_cf M 5 3 1 1 + M 2 1 * g_cf M 5 3 2 1 + 0 + M 4 1 * g_cf M 5 3 4 1 from rfl, g_cf_5_3_0_1 M, g_cf_5_3_1_1 M, g_cf_5_3_2_1 M, g_cf_5_3_4_1 M]
        simp only [Int.add_zero, Int.zero_add] at h ⊢
        exact h
      · subst eb
        have h := aj_4_1_2 M 0 1 2 4
        rw [if_neg (by decide)]
        rw [show fs_sum (fun a => if a = 3 then 0 else M a 1 * g_cf M 5 3 a 2) (5 : Int).toNat = 0 + M 0 1 * g_cf M 5 3 0 2 + M 1 1 * g_cf M 5 3 1 2 + M 2 1 * g_cf M 5 3 2 2 + 0 + M 4 1 * g_cf M 5 3 4 2 from rfl, g_cf_5_3_0_2 M, g_cf_5_3_1_2 M, g_cf_5_3_2_2 M, g_cf_5_3_4_2 M]
        simp only [Int.add_zero, Int.zero_add] at h ⊢
        exact h
      · exact absurd eb hbq
      · subst eb
        have h := aj_4_1_3 M 0 1 2 4
        rw [if_neg (by decide)]
        rw [show fs_sum (fun a => if a = 3 then 0 else M a 1 * g_cf M 5 3 a 4) (5 : Int).toNat = 0 + M 0 1 * g_cf M 5 3 0 4 + M 1 1 * g_cf M 5 3 1 4 + M 2 1 * g_cf M 5 3 2 4 + 0 + M 4 1 * g_cf M 5 3 4 4 from rfl, g_cf_5_3_0_4 M, g_cf_5_3_1_4 M, g_cf_5_3_2_4 M, g_cf_5_3_4_4 M]
        simp only [Int.add_zero, Int.zero_add] at h ⊢
        exact h
    · subst eo
      rcases eb with eb | eb | eb | eb | eb
      · subst eb
        have h := aj_4_2_0 M 0 1 2 4
        rw [if_neg (by decide)]
        rw [show fs_sum (fun a => if a = 3 then 0 else M a 2 * g_cf M 5 3 a 0) (5 : Int).toNat = 0 + M 0 2 * g_cf M 5 3 0 0 + M 1 2 * g_cf M 5 3 1 0 + M 2 2 * g_cf M 5 3 2 0 + 0 + M 4 2 * g_cf M 5 3 4 0 from rfl, g_cf_5_3_0_0 M, g_cf_5_3_1_0 M, g_cf_5_3_2_0 M, g_cf_5_3_4_0 M]
        simp only [Int.add_zero, Int.zero_add] at h ⊢
        exact h
      · subst eb
        have h := aj_4_2_1 M 0 1 2 4
        rw [if_neg (by decide)]
        rw [show fs_sum (fun a => if a = 3 then 0 else M a 2 * g_cf M 5 3 a 1) (5 : Int).toNat = 0 + M 0 2 * g_cf M 5 3 0 1 + M 1 2 * g_cf M 5 3 1 1 + M 2 2 * g_cf M 5 3 2 1 + 0 + M 4 2 * g_cf M 5 3 4 1 from rfl, g_cf_5_3_0_1 M, g_cf_5_3_1_1 M, g_cf_5_3_2_1 M, g_cf_5_3_4_1 M]
        simp only [Int.add_zero, Int.zero_add] at h ⊢
        exact h
      · subst eb
        have h := aj_4_2_2 M 0 1 2 4
        rw [if_pos rfl, g_T_5_3]
        rw [show fs_sum (fun a => if a = 3 then 0 else M a 2 * g_cf M 5 3 a 2) (5 : Int).toNat = 0 + M 0 2 * g_cf M 5 3 0 2 + M 1 2 * g_cf M 5 3 1 2 + M 2 2 * g_cf M 5 3 2 2 + 0 + M 4 2 * g_cf M 5 3 4 2 from rfl, g_cf_5_3_0_2 M, g_cf_5_3_1_2 M, g_cf_5_3_2_2 M, g_cf_5_3_4_2 M]
        simp only [Int.add_zero, Int.zero_add] at h ⊢
        exact h
      · exact absurd eb hbq
      · subst eb
        have h := aj_4_2_3 M 0 1 2 4
        rw [if_neg (by decide)]
        rw [show fs_sum (fun a => if a = 3 then 0 else M a 2 * g_cf M 5 3 a 4) (5 : Int).toNat = 0 + M 0 2 * g_cf M 5 3 0 4 + M 1 2 * g_cf M 5 3 1 4 + M 2 2 * g_cf M 5 3 2 4 + 0 + M 4 2 * g_cf M 5 3 4 4 from rfl, g_cf_5_3_0_4 M, g_cf_5_3_1_4 M, g_cf_5_3_2_4 M, g_cf_5_3_4_4 M]
        simp only [Int.add_zero, Int.zero_add] at h ⊢
        exact h
    · exact absurd eo hoq
    · subst eo
      rcases eb with eb | eb | eb | eb | eb
      · subst eb
        have h := aj_4_3_0 M 0 1 2 4
        rw [if_neg (by decide)]
        rw [show fs_sum (fun a => if a = 3 then 0 else M a 4 * g_cf M 5 3 a 0) (5 : Int).toNat = 0 + M 0 4 * g_cf M 5 3 0 0 + M 1 4 * g_cf M 5 3 1 0 + M 2 4 * g_cf M 5 3 2 0 + 0 + M 4 4 * g_cf M 5 3 4 0 from rfl, g_cf_5_3_0_0 M, g_cf_5_3_1_0 M, g_cf_5_3_2_0 M, g_cf_5_3_4_0 M]
        simp only [Int.add_zero, Int.zero_add] at h ⊢
        exact h
      · subst eb
        have h := aj_4_3_1 M 0 1 2 4
        rw [if_neg (by decide)]
        rw [show fs_sum (fun a => if a = 3 then 0 else M a 4 * g_cf M 5 3 a 1) (5 : Int).toNat = 0 + M 0 4 * g_cf M 5 3 0 1 + M 1 4 * g_cf M 5 3 1 1 + M 2 4 * g_cf M 5 3 2 1 + 0 + M 4 4 * g_cf M 5 3 4 1 from rfl, g_cf_5_3_0_1 M, g_cf_5_3_1_1 M, g_cf_5_3_2_1 M, g_cf_5_3_4_1 M]
        simp only [Int.add_zero, Int.zero_add] at h ⊢
        exact h
      · subst eb
        have h := aj_4_3_2 M 0 1 2 4
        rw [if_neg (by decide)]
        rw [show fs_sum (fun a => if a = 3 then 0 else M a 4 * g_cf M 5 3 a 2) (5 : Int).toNat = 0 + M 0 4 * g_cf M 5 3 0 2 + M 1 4 * g_cf M 5 3 1 2 + M 2 4 * g_cf M 5 3 2 2 + 0 + M 4 4 * g_cf M 5 3 4 2 from rfl, g_cf_5_3_0_2 M, g_cf_5_3_1_2 M, g_cf_5_3_2_2 M, g_cf_5_3_4_2 M]
        simp only [Int.add_zero, Int.zero_add] at h ⊢
        exact h
      · exact absurd eb hbq
      · subst eb
        have h := aj_4_3_3 M 0 1 2 4
        rw [if_pos rfl, g_T_5_3]
        rw [show fs_sum (fun a => if a = 3 then 0 else M a 4 * g_cf M 5 3 a 4) (5 : Int).toNat = 0 + M 0 4 * g_cf M 5 3 0 4 + M 1 4 * g_cf M 5 3 1 4 + M 2 4 * g_cf M 5 3 2 4 + 0 + M 4 4 * g_cf M 5 3 4 4 from rfl, g_cf_5_3_0_4 M, g_cf_5_3_1_4 M, g_cf_5_3_2_4 M, g_cf_5_3_4_4 M]
        simp only [Int.add_zero, Int.zero_add] at h ⊢
        exact h
  · subst eq_
    rcases eo with eo | eo | eo | eo | eo
    · subst eo
      rcases eb with eb | eb | eb | eb | eb
      · subst eb
        have h := aj_4_0_0 M 0 1 2 3
        rw [if_pos rfl, g_T_5_4]
        rw [show fs_sum (fun a => if a = 4 then 0 else M a 0 * g_cf M 5 4 a 0) (5 : Int).toNat = 0 + M 0 0 * g_cf M 5 4 0 0 + M 1 0 * g_cf M 5 4 1 0 + M 2 0 * g_cf M 5 4 2 0 + M 3 0 * g_cf M 5 4 3 0 + 0 from rfl, g_cf_5_4_0_0 M, g_cf_5_4_1_0 M, g_cf_5_4_2_0 M, g_cf_5_4_3_0 M]
        simp only [Int.add_zero, Int.zero_add] at h ⊢
        exact h
      · subst eb
        have h := aj_4_0_1 M 0 1 2 3
        rw [if_neg (by decide)]
        rw [show fs_sum (fun a => if a = 4 then 0 else M a 0 * g_cf M 5 4 a 1) (5 : Int).toNat = 0 + M 0 0 * g_cf M 5 4 0 1 + M 1 0 * g_cf M 5 4 1 1 + M 2 0 * g_cf M 5 4 2 1 + M 3 0 * g_cf M 5 4 3 1 + 0 from rfl, g_cf_5_4_0_1 M, g_cf_5_4_1_1 M, g_cf_5_4_2_1 M, g_cf_5_4_3_1 M]
        simp only [Int.add_zero, Int.zero_add] at h ⊢
        exact h
      · subst eb
        have h := aj_4_0_2 M 0 1 2 3
        rw [if_neg (by decide)]
        rw [show fs_sum (fun a => if a = 4 then 0 else M a 0 * g_cf M 5 4 a 2) (5 : Int).toNat = 0 + M 0 0 * g_cf M 5 4 0 2 + M 1 0 * g_cf M 5 4 1 2 + M 2 0 * g_cf M 5 4 2 2 + M 3 0 * g_cf M 5 4 3 2 + 0 from rfl, g_cf_5_4_0_2 M, g_cf_5_4_1_2 M, g_cf_5_4_2_2 M, g_cf_5_4_3_2 M]
        simp only [Int.add_zero, Int.zero_add] at h ⊢
        exact h
      · subst eb
        have h := aj_4_0_3 M 0 1 2 3
        rw [if_neg (by decide)]
        rw [show fs_sum (fun a => if a = 4 then 0 else M a 0 * g_cf M 5 4 a 3) (5 : Int).toNat = 0 + M 0 0 * g_cf M 5 4 0 3 + M 1 0 * g_cf M 5 4 1 3 + M 2 0 * g_cf M 5 4 2 3 + M 3 0 * g_cf M 5 4 3 3 + 0 from rfl, g_cf_5_4_0_3 M, g_cf_5_4_1_3 M, g_cf_5_4_2_3 M, g_cf_5_4_3_3 M]
        simp only [Int.add_zero, Int.zero_add] at h ⊢
        exact h
      · exact absurd eb hbq
    · subst eo
      rcases eb with eb | eb | eb | eb | eb
      · subst eb
        have h := aj_4_1_0 M 0 1 2 3
        rw [if_neg (by decide)]
        rw [show fs_sum (fun a => if a = 4 then 0 else M a 1 * g_cf M 5 4 a 0) (5 : Int).toNat = 0 + M 0 1 * g_cf M 5 4 0 0 + M 1 1 * g_cf M 5 4 1 0 + M 2 1 * g_cf M 5 4 2 0 + M 3 1 * g_cf M 5 4 3 0 + 0 from rfl, g_cf_5_4_0_0 M, g_cf_5_4_1_0 M, g_cf_5_4_2_0 M, g_cf_5_4_3_0 M]
        simp only [Int.add_zero, Int.zero_add] at h ⊢
        exact h
      · subst eb
        have h := aj_4_1_1 M 0 1 2 3
        rw [if_pos rfl, g_T_5_4]
        rw [show fs_sum (fun a => if a = 4 then 0 else M a 1 * g_cf M 5 4 a 1) (5 : Int).toNat = 0 + M 0 1 * g_cf M 5 4 0 1 + M 1 1 * g_cf M 5 4 1 1 + M 2 1 * g_cf M 5 4 2 1 + M 3 1 * g_cf M 5 4 3 1 + 0 from rfl, g_cf_5_4_0_1 M, g_cf_5_4_1_1 M, g_cf_5_4_2_1 M, g_cf_5_4_3_1 M]
        simp only [Int.add_zero, Int.zero_add] at h ⊢
        exact h
      · subst eb
        have h := aj_4_1_2 M 0 1 2 3
        rw [if_neg (by decide)]
        rw [show fs_sum (fun a => if a = 4 then 0 else M a 1 * g_cf M 5 4 a 2) (5 : Int).toNat = 0 + M 0 1 * g_cf M 5 4 0 2 + M 1 1 * g_cf M 5 4 1 2 + M 2 1 * g_cf M 5 4 2 2 + M 3 1 * g_cf M 5 4 3 2 + 0 from rfl, g_cf_5_4_0_2 M, g_cf_5_4_1_2 M, g_cf_5_4_2_2 M, g_cf_5_4_3_2 M]
        simp only [Int.add_zero, Int.zero_add] at h ⊢
        exact h
      · subst eb
        have h := aj_4_1_3 M 0 1 2 3
        rw [if_neg (by decide)]
        rw [show fs_sum (fun a => if a = 4 then 0 else M a 1 * g_cf M 5 4 a 3) (5 : Int).toNat = 0 + M 0 1 * g_cf M 5 4 0 3 + M 1 1 * g_cf M 5 4 1 3 + M 2 1 * g_cf M 5 4 2 3 + M 3 1 * g_cf M 5 4 3 3 + 0 from rfl, g_cf_5_4_0_3 M, g_cf_5_4_1_3 M, g_cf_5_4_2_3 M, g_cf_5_4_3_3 M]
        simp only [Int.add_zero, Int.zero_add] at h ⊢
        exact h
      · exact absurd eb hbq
    · subst eo
      rcases eb with eb | eb | eb | eb | eb
      · subst eb
        have h := aj_4_2_0 M 0 1 2 3
        rw [if_neg (by decide)]
        rw [show fs_sum (fun a => if a = 4 then 0 else M a 2 * g_cf M 5 4 a 0) (5 : Int).toNat = 0 + M 0 2 * g_cf M 5 4 0 0 + M 1 2 * g_cf M 5 4 1 0 + M 2 2 * g_cf M 5 4 2 0 + M 3 2 * g_cf M 5 4 3 0 + 0 from rfl, g_cf_5_4_0_0 M, g_cf_5_4_1_0 M, g_cf_5_4_2_0 M, g_cf_5_4_3_0 M]
        simp only [Int.add_zero, Int.zero_add] at h ⊢
        exact h
      · subst eb
        have h := aj_4_2_1 M 0 1 2 3
        rw [if_neg (by decide)]
        rw [show fs_sum (fun a => if a = 4 then 0 else M a 2 * g_cf M 5 4 a 1) (5 : Int).toNat = 0 + M 0 2 * g_cf M 5 4 0 1 + M 1 2 * g_cf M 5 4 1 1 + M 2 2 * g_cf M 5 4 2 1 + M 3 2 * g_cf M 5 4 3 1 + 0 from rfl, g_cf_5_4_0_1 M, g_cf_5_4_1_1 M, g_cf_5_4_2_1 M, g_cf_5_4_3_1 M]
        simp only [Int.add_zero, Int.zero_add] at h ⊢
        exact h
      · subst eb
        have h := aj_4_2_2 M 0 1 2 3
        rw [if_pos rfl, g_T_5_4]
        rw [show fs_sum (fun a => if a = 4 then 0 else M a 2 * g_cf M 5 4 a 2) (5 : Int).toNat = 0 + M 0 2 * g_cf M 5 4 0 2 + M 1 2 * g_cf M 5 4 1 2 + M 2 2 * g_cf M 5 4 2 2 + M 3 2 * g_cf M 5 4 3 2 + 0 from rfl, g_cf_5_4_0_2 M, g_cf_5_4_1_2 M, g_cf_5_4_2_2 M, g_cf_5_4_3_2 M]
        simp only [Int.add_zero, Int.zero_add] at h ⊢
        exact h
      · subst eb
        have h := aj_4_2_3 M 0 1 2 3
        rw [if_neg (by decide)]
        rw [show fs_sum (fun a => if a = 4 then 0 else M a 2 * g_cf M 5 4 a 3) (5 : Int).toNat = 0 + M 0 2 * g_cf M 5 4 0 3 + M 1 2 * g_cf M 5 4 1 3 + M 2 2 * g_cf M 5 4 2 3 + M 3 2 * g_cf M 5 4 3 3 + 0 from rfl, g_cf_5_4_0_3 M, g_cf_5_4_1_3 M, g_cf_5_4_2_3 M, g_cf_5_4_3_3 M]
        simp only [Int.add_zero, Int.zero_add] at h ⊢
        exact h
      · exact absurd eb hbq
    · subst eo
      rcases eb with eb | eb | eb | eb | eb
      · subst eb
        have h := aj_4_3_0 M 0 1 2 3
        rw [if_neg (by decide)]
        rw [show fs_sum (fun a => if a = 4 then 0 else M a 3 * g_cf M 5 4 a 0) (5 : Int).toNat = 0 + M 0 3 * g_cf M 5 4 0 0 + M 1 3 * g_cf M 5 4 1 0 + M 2 3 * g_cf M 5 4 2 0 + M 3 3 * g_cf M 5 4 3 0 + 0 from rfl, g_cf_5_4_0_0 M, g_cf_5_4_1_0 M, g_cf_5_4_2_0 M, g_cf_5_4_3_0 M]
        simp only [Int.add_zero, Int.zero_add] at h ⊢
        exact h
      · subst eb
        have h := aj_4_3_1 M 0 1 2 3
        rw [if_neg (by decide)]
        rw [show fs_sum (fun a => if a = 4 then 0 else M a 3 * g_cf M 5 4 a 1) (5 : Int).toNat = 0 + M 0 3 * g_cf M 5 4 0 1 + M 1 3 * g_cf M 5 4 1 1 + M 2 3 * g_cf M 5 4 2 1 + M 3 3 * g_cf M 5 4 3 1 + 0 from rfl, g_cf_5_4_0_1 M, g_cf_5_4_1_1 M, g_cf_5_4_2_1 M, g_cf_5_4_3_1 M]
        simp only [Int.add_zero, Int.zero_add] at h ⊢
        exact h
      · subst eb
        have h := aj_4_3_2 M 0 1 2 3
        rw [if_neg (by decide)]
        rw [show fs_sum (fun a => if a = 4 then 0 else M a 3 * g_cf M 5 4 a 2) (5 : Int).toNat = 0 + M 0 3 * g_cf M 5 4 0 2 + M 1 3 * g_cf M 5 4 1 2 + M 2 3 * g_cf M 5 4 2 2 + M 3 3 * g_cf M 5 4 3 2 + 0 from rfl, g_cf_5_4_0_2 M, g_cf_5_4_1_2 M, g_cf_5_4_2_2 M, g_cf_5_4_3_2 M]
        simp only [Int.add_zero, Int.zero_add] at h ⊢
        exact h
      · subst eb
        have h := aj_4_3_3 M 0 1 2 3
        rw [if_pos rfl, g_T_5_4]
        rw [show fs_sum (fun a => if a = 4 then 0 else M a 3 * g_cf M 5 4 a 3) (5 : Int).toNat = 0 + M 0 3 * g_cf M 5 4 0 3 + M 1 3 * g_cf M 5 4 1 3 + M 2 3 * g_cf M 5 4 2 3 + M 3 3 * g_cf M 5 4 3 3 + 0 from rfl, g_cf_5_4_0_3 M, g_cf_5_4_1_3 M, g_cf_5_4_2_3 M, g_cf_5_4_3_3 M]
        simp only [Int.add_zero, Int.zero_add] at h ⊢
        exact h
      · exact absurd eb hbq
    · exact absurd eo hoq
theorem g_adj_in {M : Int → Int → Int} {n q o b : Int} (hn : 2 ≤ n ∧ n ≤ 5) (hq : 0 ≤ q ∧ q < n) (ho : 0 ≤ o ∧ o < n) (hb : 0 ≤ b ∧ b < n) (hoq : o ≠ q) (hbq : b ≠ q) : fs_sum (fun a => if a = q then 0 else M a o * g_cf M n q a b) n.toNat = if o = b then g_T M n q else 0 := by
  have en : n = 2 ∨ n = 3 ∨ n = 4 ∨ n = 5 := by omega
  rcases en with en | en | en | en
  · exact g_adj_2 hq ho hb hoq hbq en
  · exact g_adj_3 hq ho hb hoq hbq en
  · exact g_adj_4 hq ho hb hoq hbq en
  · exact g_adj_5 hq ho hb hoq hbq en
