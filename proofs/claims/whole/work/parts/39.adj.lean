/-! minors written out -/
theorem d_mi_0 {M : Int → Int → Int} {n R S : Int} : d_mi M n R 0 S = 1 := rfl
theorem d_mi_s {M : Int → Int → Int} {n R S : Int} {k : Nat} : d_mi M n R (k + 1) S = if fb_t R (n - (k + 1)) = 1 then fs_sum (fun c => if fb_t S c = 1 then d_sg S c.toNat * M (n - (k + 1)) c * d_mi M n R k (fb_out S c) else 0) n.toNat else d_mi M n R k S := rfl
theorem d_sg_0 {S : Int} : d_sg S 0 = 1 := rfl
theorem d_sg_s {S : Int} {c : Nat} : d_sg S (c + 1) = if fb_t S c = 1 then - d_sg S c else d_sg S c := rfl
theorem fs_0 {f : Int → Int} : fs_sum f 0 = 0 := rfl
theorem fs_s {f : Int → Int} {k : Nat} : fs_sum f (k + 1) = fs_sum f k + f k := rfl
def g_T (M : Int → Int → Int) (n q : Int) : Int := d_mi M n (fb_oth n q) n.toNat (fb_oth n q)
def g_cf (M : Int → Int → Int) (n q a b : Int) : Int := if (d_pl q a + d_pl q b).tmod 2 = 0 then d_mi M n (fb_out (fb_oth n q) a) n.toNat (fb_out (fb_oth n q) b) else - d_mi M n (fb_out (fb_oth n q) a) n.toNat (fb_out (fb_oth n q) b)
def m1 (M : Int → Int → Int) (a c : Int) : Int := M a c
def m2 (M : Int → Int → Int) (a b c d : Int) : Int := M a c * M b d - M a d * M b c
def m3 (M : Int → Int → Int) (a b c d e f : Int) : Int := M a d * m2 M b c e f - M a e * m2 M b c d f + M a f * m2 M b c d e
def m4 (M : Int → Int → Int) (a b c d e f g h : Int) : Int := M a e * m3 M b c d f g h - M a f * m3 M b c d e g h + M a g * m3 M b c d e f h - M a h * m3 M b c d e f g
theorem g_T_2_0 (M : Int → Int → Int) : g_T M 2 0 = m1 M 1 1 := by
  simp [g_T, fb_oth, fb_all, d_mi_0, d_mi_s, fs_0, fs_s, fb_t, fb_out, d_sg_0, d_sg_s, m1, m2, m3, m4]
theorem g_cf_2_0_1_1 (M : Int → Int → Int) : g_cf M 2 0 1 1 = 1 := by
  simp [g_cf, d_pl, fb_oth, fb_all, d_mi_0, d_mi_s, fs_0, fs_s, fb_t, fb_out, d_sg_0, d_sg_s, m1, m2, m3]
theorem g_T_2_1 (M : Int → Int → Int) : g_T M 2 1 = m1 M 0 0 := by
  simp [g_T, fb_oth, fb_all, d_mi_0, d_mi_s, fs_0, fs_s, fb_t, fb_out, d_sg_0, d_sg_s, m1, m2, m3, m4]
theorem g_cf_2_1_0_0 (M : Int → Int → Int) : g_cf M 2 1 0 0 = 1 := by
  simp [g_cf, d_pl, fb_oth, fb_all, d_mi_0, d_mi_s, fs_0, fs_s, fb_t, fb_out, d_sg_0, d_sg_s, m1, m2, m3]
theorem g_T_3_0 (M : Int → Int → Int) : g_T M 3 0 = m2 M 1 2 1 2 := by
  simp [g_T, fb_oth, fb_all, d_mi_0, d_mi_s, fs_0, fs_s, fb_t, fb_out, d_sg_0, d_sg_s, m1, m2, m3, m4]
  grind
theorem g_cf_3_0_1_1 (M : Int → Int → Int) : g_cf M 3 0 1 1 = m1 M 2 2 := by
  simp [g_cf, d_pl, fb_oth, fb_all, d_mi_0, d_mi_s, fs_0, fs_s, fb_t, fb_out, d_sg_0, d_sg_s, m1, m2, m3]
theorem g_cf_3_0_1_2 (M : Int → Int → Int) : g_cf M 3 0 1 2 = -(m1 M 2 1) := by
  simp [g_cf, d_pl, fb_oth, fb_all, d_mi_0, d_mi_s, fs_0, fs_s, fb_t, fb_out, d_sg_0, d_sg_s, m1, m2, m3]
theorem g_cf_3_0_2_1 (M : Int → Int → Int) : g_cf M 3 0 2 1 = -(m1 M 1 2) := by
  simp [g_cf, d_pl, fb_oth, fb_all, d_mi_0, d_mi_s, fs_0, fs_s, fb_t, fb_out, d_sg_0, d_sg_s, m1, m2, m3]
theorem g_cf_3_0_2_2 (M : Int → Int → Int) : g_cf M 3 0 2 2 = m1 M 1 1 := by
  simp [g_cf, d_pl, fb_oth, fb_all, d_mi_0, d_mi_s, fs_0, fs_s, fb_t, fb_out, d_sg_0, d_sg_s, m1, m2, m3]
theorem g_T_3_1 (M : Int → Int → Int) : g_T M 3 1 = m2 M 0 2 0 2 := by
  simp [g_T, fb_oth, fb_all, d_mi_0, d_mi_s, fs_0, fs_s, fb_t, fb_out, d_sg_0, d_sg_s, m1, m2, m3, m4]
  grind
theorem g_cf_3_1_0_0 (M : Int → Int → Int) : g_cf M 3 1 0 0 = m1 M 2 2 := by
  simp [g_cf, d_pl, fb_oth, fb_all, d_mi_0, d_mi_s, fs_0, fs_s, fb_t, fb_out, d_sg_0, d_sg_s, m1, m2, m3]
theorem g_cf_3_1_0_2 (M : Int → Int → Int) : g_cf M 3 1 0 2 = -(m1 M 2 0) := by
  simp [g_cf, d_pl, fb_oth, fb_all, d_mi_0, d_mi_s, fs_0, fs_s, fb_t, fb_out, d_sg_0, d_sg_s, m1, m2, m3]
theorem g_cf_3_1_2_0 (M : Int → Int → Int) : g_cf M 3 1 2 0 = -(m1 M 0 2) := by
  simp [g_cf, d_pl, fb_oth, fb_all, d_mi_0, d_mi_s, fs_0, fs_s, fb_t, fb_out, d_sg_0, d_sg_s, m1, m2, m3]
theorem g_cf_3_1_2_2 (M : Int → Int → Int) : g_cf M 3 1 2 2 = m1 M 0 0 := by
  simp [g_cf, d_pl, fb_oth, fb_all, d_mi_0, d_mi_s, fs_0, fs_s, fb_t, fb_out, d_sg_0, d_sg_s, m1, m2, m3]
theorem g_T_3_2 (M : Int → Int → Int) : g_T M 3 2 = m2 M 0 1 0 1 := by
  simp [g_T, fb_oth, fb_all, d_mi_0, d_mi_s, fs_0, fs_s, fb_t, fb_out, d_sg_0, d_sg_s, m1, m2, m3, m4]
  grind
theorem g_cf_3_2_0_0 (M : Int → Int → Int) : g_cf M 3 2 0 0 = m1 M 1 1 := by
  simp [g_cf, d_pl, fb_oth, fb_all, d_mi_0, d_mi_s, fs_0, fs_s, fb_t, fb_out, d_sg_0, d_sg_s, m1, m2, m3]
theorem g_cf_3_2_0_1 (M : Int → Int → Int) : g_cf M 3 2 0 1 = -(m1 M 1 0) := by
  simp [g_cf, d_pl, fb_oth, fb_all, d_mi_0, d_mi_s, fs_0, fs_s, fb_t, fb_out, d_sg_0, d_sg_s, m1, m2, m3]
theorem g_cf_3_2_1_0 (M : Int → Int → Int) : g_cf M 3 2 1 0 = -(m1 M 0 1) := by
  simp [g_cf, d_pl, fb_oth, fb_all, d_mi_0, d_mi_s, fs_0, fs_s, fb_t, fb_out, d_sg_0, d_sg_s, m1, m2, m3]
theorem g_cf_3_2_1_1 (M : Int → Int → Int) : g_cf M 3 2 1 1 = m1 M 0 0 := by
  simp [g_cf, d_pl, fb_oth, fb_all, d_mi_0, d_mi_s, fs_0, fs_s, fb_t, fb_out, d_sg_0, d_sg_s, m1, m2, m3]
theorem g_T_4_0 (M : Int → Int → Int) : g_T M 4 0 = m3 M 1 2 3 1 2 3 := by
  simp [g_T, fb_oth, fb_all, d_mi_0, d_mi_s, fs_0, fs_s, fb_t, fb_out, d_sg_0, d_sg_s, m1, m2, m3, m4]
  grind
theorem g_cf_4_0_1_1 (M : Int → Int → Int) : g_cf M 4 0 1 1 = m2 M 2 3 2 3 := by
  simp [g_cf, d_pl, fb_oth, fb_all, d_mi_0, d_mi_s, fs_0, fs_s, fb_t, fb_out, d_sg_0, d_sg_s, m1, m2, m3]
  grind
theorem g_cf_4_0_1_2 (M : Int → Int → Int) : g_cf M 4 0 1 2 = -(m2 M 2 3 1 3) := by
  simp [g_cf, d_pl, fb_oth, fb_all, d_mi_0, d_mi_s, fs_0, fs_s, fb_t, fb_out, d_sg_0, d_sg_s, m1, m2, m3]
  grind
theorem g_cf_4_0_1_3 (M : Int → Int → Int) : g_cf M 4 0 1 3 = m2 M 2 3 1 2 := by
  simp [g_cf, d_pl, fb_oth, fb_all, d_mi_0, d_mi_s, fs_0, fs_s, fb_t, fb_out, d_sg_0, d_sg_s, m1, m2, m3]
  grind
theorem g_cf_4_0_2_1 (M : Int → Int → Int) : g_cf M 4 0 2 1 = -(m2 M 1 3 2 3) := by
  simp [g_cf, d_pl, fb_oth, fb_all, d_mi_0, d_mi_s, fs_0, fs_s, fb_t, fb_out, d_sg_0, d_sg_s, m1, m2, m3]
  grind
theorem g_cf_4_0_2_2 (M : Int → Int → Int) : g_cf M 4 0 2 2 = m2 M 1 3 1 3 := by
  simp [g_cf, d_pl, fb_oth, fb_all, d_mi_0, d_mi_s, fs_0, fs_s, fb_t, fb_out, d_sg_0, d_sg_s, m1, m2, m3]
  grind
theorem g_cf_4_0_2_3 (M : Int → Int → Int) : g_cf M 4 0 2 3 = -(m2 M 1 3 1 2) := by
  simp [g_cf, d_pl, fb_oth, fb_all, d_mi_0, d_mi_s, fs_0, fs_s, fb_t, fb_out, d_sg_0, d_sg_s, m1, m2, m3]
  grind
theorem g_cf_4_0_3_1 (M : Int → Int → Int) : g_cf M 4 0 3 1 = m2 M 1 2 2 3 := by
  simp [g_cf, d_pl, fb_oth, fb_all, d_mi_0, d_mi_s, fs_0, fs_s, fb_t, fb_out, d_sg_0, d_sg_s, m1, m2, m3]
  grind
theorem g_cf_4_0_3_2 (M : Int → Int → Int) : g_cf M 4 0 3 2 = -(m2 M 1 2 1 3) := by
  simp [g_cf, d_pl, fb_oth, fb_all, d_mi_0, d_mi_s, fs_0, fs_s, fb_t, fb_out, d_sg_0, d_sg_s, m1, m2, m3]
  grind
theorem g_cf_4_0_3_3 (M : Int → Int → Int) : g_cf M 4 0 3 3 = m2 M 1 2 1 2 := by
  simp [g_cf, d_pl, fb_oth, fb_all, d_mi_0, d_mi_s, fs_0, fs_s, fb_t, fb_out, d_sg_0, d_sg_s, m1, m2, m3]
  grind
theorem g_T_4_1 (M : Int → Int → Int) : g_T M 4 1 = m3 M 0 2 3 0 2 3 := by
  simp [g_T, fb_oth, fb_all, d_mi_0, d_mi_s, fs_0, fs_s, fb_t, fb_out, d_sg_0, d_sg_s, m1, m2, m3, m4]
  grind
theorem g_cf_4_1_0_0 (M : Int → Int → Int) : g_cf M 4 1 0 0 = m2 M 2 3 2 3 := by
  simp [g_cf, d_pl, fb_oth, fb_all, d_mi_0, d_mi_s, fs_0, fs_s, fb_t, fb_out, d_sg_0, d_sg_s, m1, m2, m3]
  grind
theorem g_cf_4_1_0_2 (M : Int → Int → Int) : g_cf M 4 1 0 2 = -(m2 M 2 3 0 3) := by
  simp [g_cf, d_pl, fb_oth, fb_all, d_mi_0, d_mi_s, fs_0, fs_s, fb_t, fb_out, d_sg_0, d_sg_s, m1, m2, m3]
  grind
theorem g_cf_4_1_0_3 (M : Int → Int → Int) : g_cf M 4 1 0 3 = m2 M 2 3 0 2 := by
  simp [g_cf, d_pl, fb_oth, fb_all, d_mi_0, d_mi_s, fs_0, fs_s, fb_t, fb_out, d_sg_0, d_sg_s, m1, m2, m3]
  grind
theorem g_cf_4_1_2_0 (M : Int → Int → Int) : g_cf M 4 1 2 0 = -(m2 M 0 3 2 3) := by
  simp [g_cf, d_pl, fb_oth, fb_all, d_mi_0, d_mi_s, fs_0, fs_s, fb_t, fb_out, d_sg_0, d_sg_s, m1, m2, m3]
  grind
theorem g_cf_4_1_2_2 (M : Int → Int → Int) : g_cf M 4 1 2 2 = m2 M 0 3 0 3 := by
  simp [g_cf, d_pl, fb_oth, fb_all, d_mi_0, d_mi_s, fs_0, fs_s, fb_t, fb_out, d_sg_0, d_sg_s, m1, m2, m3]
  grind
theorem g_cf_4_1_2_3 (M : Int → Int → Int) : g_cf M 4 1 2 3 = -(m2 M 0 3 0 2) := by
  simp [g_cf, d_pl, fb_oth, fb_all, d_mi_0, d_mi_s, fs_0, fs_s, fb_t, fb_out, d_sg_0, d_sg_s, m1, m2, m3]
  grind
theorem g_cf_4_1_3_0 (M : Int → Int → Int) : g_cf M 4 1 3 0 = m2 M 0 2 2 3 := by
  simp [g_cf, d_pl, fb_oth, fb_all, d_mi_0, d_mi_s, fs_0, fs_s, fb_t, fb_out, d_sg_0, d_sg_s, m1, m2, m3]
  grind
theorem g_cf_4_1_3_2 (M : Int → Int → Int) : g_cf M 4 1 3 2 = -(m2 M 0 2 0 3) := by
  simp [g_cf, d_pl, fb_oth, fb_all, d_mi_0, d_mi_s, fs_0, fs_s, fb_t, fb_out, d_sg_0, d_sg_s, m1, m2, m3]
  grind
theorem g_cf_4_1_3_3 (M : Int → Int → Int) : g_cf M 4 1 3 3 = m2 M 0 2 0 2 := by
  simp [g_cf, d_pl, fb_oth, fb_all, d_mi_0, d_mi_s, fs_0, fs_s, fb_t, fb_out, d_sg_0, d_sg_s, m1, m2, m3]
  grind
theorem g_T_4_2 (M : Int → Int → Int) : g_T M 4 2 = m3 M 0 1 3 0 1 3 := by
  simp [g_T, fb_oth, fb_all, d_mi_0, d_mi_s, fs_0, fs_s, fb_t, fb_out, d_sg_0, d_sg_s, m1, m2, m3, m4]
  grind
theorem g_cf_4_2_0_0 (M : Int → Int → Int) : g_cf M 4 2 0 0 = m2 M 1 3 1 3 := by
  simp [g_cf, d_pl, fb_oth, fb_all, d_mi_0, d_mi_s, fs_0, fs_s, fb_t, fb_out, d_sg_0, d_sg_s, m1, m2, m3]
  grind
theorem g_cf_4_2_0_1 (M : Int → Int → Int) : g_cf M 4 2 0 1 = -(m2 M 1 3 0 3) := by
  simp [g_cf, d_pl, fb_oth, fb_all, d_mi_0, d_mi_s, fs_0, fs_s, fb_t, fb_out, d_sg_0, d_sg_s, m1, m2, m3]
  grind
theorem g_cf_4_2_0_3 (M : Int → Int → Int) : g_cf M 4 2 0 3 = m2 M 1 3 0 1 := by
  simp [g_cf, d_pl, fb_oth, fb_all, d_mi_0, d_mi_s, fs_0, fs_s, fb_t, fb_out, d_sg_0, d_sg_s, m1, m2, m3]
  grind
theorem g_cf_4_2_1_0 (M : Int → Int → Int) : g_cf M 4 2 1 0 = -(m2 M 0 3 1 3) := by
  simp [g_cf, d_pl, fb_oth, fb_all, d_mi_0, d_mi_s, fs_0, fs_s, fb_t, fb_out, d_sg_0, d_sg_s, m1, m2, m3]
  grind
theorem g_cf_4_2_1_1 (M : Int → Int → Int) : g_cf M 4 2 1 1 = m2 M 0 3 0 3 := by
  simp [g_cf, d_pl, fb_oth, fb_all, d_mi_0, d_mi_s, fs_0, fs_s, fb_t, fb_out, d_sg_0, d_sg_s, m1, m2, m3]
  grind
theorem g_cf_4_2_1_3 (M : Int → Int → Int) : g_cf M 4 2 1 3 = -(m2 M 0 3 0 1) := by
  simp [g_cf, d_pl, fb_oth, fb_all, d_mi_0, d_mi_s, fs_0, fs_s, fb_t, fb_out, d_sg_0, d_sg_s, m1, m2, m3]
  grind
theorem g_cf_4_2_3_0 (M : Int → Int → Int) : g_cf M 4 2 3 0 = m2 M 0 1 1 3 := by
  simp [g_cf, d_pl, fb_oth, fb_all, d_mi_0, d_mi_s, fs_0, fs_s, fb_t, fb_out, d_sg_0, d_sg_s, m1, m2, m3]
  grind
theorem g_cf_4_2_3_1 (M : Int → Int → Int) : g_cf M 4 2 3 1 = -(m2 M 0 1 0 3) := by
  simp [g_cf, d_pl, fb_oth, fb_all, d_mi_0, d_mi_s, fs_0, fs_s, fb_t, fb_out, d_sg_0, d_sg_s, m1, m2, m3]
  grind
theorem g_cf_4_2_3_3 (M : Int → Int → Int) : g_cf M 4 2 3 3 = m2 M 0 1 0 1 := by
  simp [g_cf, d_pl, fb_oth, fb_all, d_mi_0, d_mi_s, fs_0, fs_s, fb_t, fb_out, d_sg_0, d_sg_s, m1, m2, m3]
  grind
theorem g_T_4_3 (M : Int → Int → Int) : g_T M 4 3 = m3 M 0 1 2 0 1 2 := by
  simp [g_T, fb_oth, fb_all, d_mi_0, d_mi_s, fs_0, fs_s, fb_t, fb_out, d_sg_0, d_sg_s, m1, m2, m3, m4]
  grind
theorem g_cf_4_3_0_0 (M : Int → Int → Int) : g_cf M 4 3 0 0 = m2 M 1 2 1 2 := by
  simp [g_cf, d_pl, fb_oth, fb_all, d_mi_0, d_mi_s, fs_0, fs_s, fb_t, fb_out, d_sg_0, d_sg_s, m1, m2, m3]
  grind
theorem g_cf_4_3_0_1 (M : Int → Int → Int) : g_cf M 4 3 0 1 = -(m2 M 1 2 0 2) := by
  simp [g_cf, d_pl, fb_oth, fb_all, d_mi_0, d_mi_s, fs_0, fs_s, fb_t, fb_out, d_sg_0, d_sg_s, m1, m2, m3]
  grind
theorem g_cf_4_3_0_2 (M : Int → Int → Int) : g_cf M 4 3 0 2 = m2 M 1 2 0 1 := by
  simp [g_cf, d_pl, fb_oth, fb_all, d_mi_0, d_mi_s, fs_0, fs_s, fb_t, fb_out, d_sg_0, d_sg_s, m1, m2, m3]
  grind
theorem g_cf_4_3_1_0 (M : Int → Int → Int) : g_cf M 4 3 1 0 = -(m2 M 0 2 1 2) := by
  simp [g_cf, d_pl, fb_oth, fb_all, d_mi_0, d_mi_s, fs_0, fs_s, fb_t, fb_out, d_sg_0, d_sg_s, m1, m2, m3]
  grind
theorem g_cf_4_3_1_1 (M : Int → Int → Int) : g_cf M 4 3 1 1 = m2 M 0 2 0 2 := by
  simp [g_cf, d_pl, fb_oth, fb_all, d_mi_0, d_mi_s, fs_0, fs_s, fb_t, fb_out, d_sg_0, d_sg_s, m1, m2, m3]
  grind
theorem g_cf_4_3_1_2 (M : Int → Int → Int) : g_cf M 4 3 1 2 = -(m2 M 0 2 0 1) := by
  simp [g_cf, d_pl, fb_oth, fb_all, d_mi_0, d_mi_s, fs_0, fs_s, fb_t, fb_out, d_sg_0, d_sg_s, m1, m2, m3]
  grind
theorem g_cf_4_3_2_0 (M : Int → Int → Int) : g_cf M 4 3 2 0 = m2 M 0 1 1 2 := by
  simp [g_cf, d_pl, fb_oth, fb_all, d_mi_0, d_mi_s, fs_0, fs_s, fb_t, fb_out, d_sg_0, d_sg_s, m1, m2, m3]
  grind
theorem g_cf_4_3_2_1 (M : Int → Int → Int) : g_cf M 4 3 2 1 = -(m2 M 0 1 0 2) := by
  simp [g_cf, d_pl, fb_oth, fb_all, d_mi_0, d_mi_s, fs_0, fs_s, fb_t, fb_out, d_sg_0, d_sg_s, m1, m2, m3]
  grind
theorem g_cf_4_3_2_2 (M : Int → Int → Int) : g_cf M 4 3 2 2 = m2 M 0 1 0 1 := by
  simp [g_cf, d_pl, fb_oth, fb_all, d_mi_0, d_mi_s, fs_0, fs_s, fb_t, fb_out, d_sg_0, d_sg_s, m1, m2, m3]
  grind
theorem g_T_5_0 (M : Int → Int → Int) : g_T M 5 0 = m4 M 1 2 3 4 1 2 3 4 := by
  simp [g_T, fb_oth, fb_all, d_mi_0, d_mi_s, fs_0, fs_s, fb_t, fb_out, d_sg_0, d_sg_s, m1, m2, m3, m4]
  grind
theorem g_cf_5_0_1_1 (M : Int → Int → Int) : g_cf M 5 0 1 1 = m3 M 2 3 4 2 3 4 := by
  simp [g_cf, d_pl, fb_oth, fb_all, d_mi_0, d_mi_s, fs_0, fs_s, fb_t, fb_out, d_sg_0, d_sg_s, m1, m2, m3]
  grind
theorem g_cf_5_0_1_2 (M : Int → Int → Int) : g_cf M 5 0 1 2 = -(m3 M 2 3 4 1 3 4) := by
  simp [g_cf, d_pl, fb_oth, fb_all, d_mi_0, d_mi_s, fs_0, fs_s, fb_t, fb_out, d_sg_0, d_sg_s, m1, m2, m3]
  grind
theorem g_cf_5_0_1_3 (M : Int → Int → Int) : g_cf M 5 0 1 3 = m3 M 2 3 4 1 2 4 := by
  simp [g_cf, d_pl, fb_oth, fb_all, d_mi_0, d_mi_s, fs_0, fs_s, fb_t, fb_out, d_sg_0, d_sg_s, m1, m2, m3]
  grind
theorem g_cf_5_0_1_4 (M : Int → Int → Int) : g_cf M 5 0 1 4 = -(m3 M 2 3 4 1 2 3) := by
  simp [g_cf, d_pl, fb_oth, fb_all, d_mi_0, d_mi_s, fs_0, fs_s, fb_t, fb_out, d_sg_0, d_sg_s, m1, m2, m3]
  grind
theorem g_cf_5_0_2_1 (M : Int → Int → Int) : g_cf M 5 0 2 1 = -(m3 M 1 3 4 2 3 4) := by
  simp [g_cf, d_pl, fb_oth, fb_all, d_mi_0, d_mi_s, fs_0, fs_s, fb_t, fb_out, d_sg_0, d_sg_s, m1, m2, m3]
  grind
theorem g_cf_5_0_2_2 (M : Int → Int → Int) : g_cf M 5 0 2 2 = m3 M 1 3 4 1 3 4 := by
  simp [g_cf, d_pl, fb_oth, fb_all, d_mi_0, d_mi_s, fs_0, fs_s, fb_t, fb_out, d_sg_0, d_sg_s, m1, m2, m3]
  grind
theorem g_cf_5_0_2_3 (M : Int → Int → Int) : g_cf M 5 0 2 3 = -(m3 M 1 3 4 1 2 4) := by
  simp [g_cf, d_pl, fb_oth, fb_all, d_mi_0, d_mi_s, fs_0, fs_s, fb_t, fb_out, d_sg_0, d_sg_s, m1, m2, m3]
  grind
theorem g_cf_5_0_2_4 (M : Int → Int → Int) : g_cf M 5 0 2 4 = m3 M 1 3 4 1 2 3 := by
  simp [g_cf, d_pl, fb_oth, fb_all, d_mi_0, d_mi_s, fs_0, fs_s, fb_t, fb_out, d_sg_0, d_sg_s, m1, m2, m3]
  grind
theorem g_cf_5_0_3_1 (M : Int → Int → Int) : g_cf M 5 0 3 1 = m3 M 1 2 4 2 3 4 := by
  simp [g_cf, d_pl, fb_oth, fb_all, d_mi_0, d_mi_s, fs_0, fs_s, fb_t, fb_out, d_sg_0, d_sg_s, m1, m2, m3]
  grind
theorem g_cf_5_0_3_2 (M : Int → Int → Int) : g_cf M 5 0 3 2 = -(m3 M 1 2 4 1 3 4) := by
  simp [g_cf, d_pl, fb_oth, fb_all, d_mi_0, d_mi_s, fs_0, fs_s, fb_t, fb_out, d_sg_0, d_sg_s, m1, m2, m3]
  grind
theorem g_cf_5_0_3_3 (M : Int → Int → Int) : g_cf M 5 0 3 3 = m3 M 1 2 4 1 2 4 := by
  simp [g_cf, d_pl, fb_oth, fb_all, d_mi_0, d_mi_s, fs_0, fs_s, fb_t, fb_out, d_sg_0, d_sg_s, m1, m2, m3]
  grind
theorem g_cf_5_0_3_4 (M : Int → Int → Int) : g_cf M 5 0 3 4 = -(m3 M 1 2 4 1 2 3) := by
  simp [g_cf, d_pl, fb_oth, fb_all, d_mi_0, d_mi_s, fs_0, fs_s, fb_t, fb_out, d_sg_0, d_sg_s, m1, m2, m3]
  grind
theorem g_cf_5_0_4_1 (M : Int → Int → Int) : g_cf M 5 0 4 1 = -(m3 M 1 2 3 2 3 4) := by
  simp [g_cf, d_pl, fb_oth, fb_all, d_mi_0, d_mi_s, fs_0, fs_s, fb_t, fb_out, d_sg_0, d_sg_s, m1, m2, m3]
  grind
theorem g_cf_5_0_4_2 (M : Int → Int → Int) : g_cf M 5 0 4 2 = m3 M 1 2 3 1 3 4 := by
  simp [g_cf, d_pl, fb_oth, fb_all, d_mi_0, d_mi_s, fs_0, fs_s, fb_t, fb_out, d_sg_0, d_sg_s, m1, m2, m3]
  grind
theorem g_cf_5_0_4_3 (M : Int → Int → Int) : g_cf M 5 0 4 3 = -(m3 M 1 2 3 1 2 4) := by
  simp [g_cf, d_pl, fb_oth, fb_all, d_mi_0, d_mi_s, fs_0, fs_s, fb_t, fb_out, d_sg_0, d_sg_s, m1, m2, m3]
  grind
theorem g_cf_5_0_4_4 (M : Int → Int → Int) : g_cf M 5 0 4 4 = m3 M 1 2 3 1 2 3 := by
  simp [g_cf, d_pl, fb_oth, fb_all, d_mi_0, d_mi_s, fs_0, fs_s, fb_t, fb_out, d_sg_0, d_sg_s, m1, m2, m3]
  grind
theorem g_T_5_1 (M : Int → Int → Int) : g_T M 5 1 = m4 M 0 2 3 4 0 2 3 4 := by
  simp [g_T, fb_oth, fb_all, d_mi_0, d_mi_s, fs_0, fs_s, fb_t, fb_out, d_sg_0, d_sg_s, m1, m2, m3, m4]
  grind
theorem g_cf_5_1_0_0 (M : Int → Int → Int) : g_cf M 5 1 0 0 = m3 M 2 3 4 2 3 4 := by
  simp [g_cf, d_pl, fb_oth, fb_all, d_mi_0, d_mi_s, fs_0, fs_s, fb_t, fb_out, d_sg_0, d_sg_s, m1, m2, m3]
  grind
theorem g_cf_5_1_0_2 (M : Int → Int → Int) : g_cf M 5 1 0 2 = -(m3 M 2 3 4 0 3 4) := by
  simp [g_cf, d_pl, fb_oth, fb_all, d_mi_0, d_mi_s, fs_0, fs_s, fb_t, fb_out, d_sg_0, d_sg_s, m1, m2, m3]
  grind
theorem g_cf_5_1_0_3 (M : Int → Int → Int) : g_cf M 5 1 0 3 = m3 M 2 3 4 0 2 4 := by
  simp [g_cf, d_pl, fb_oth, fb_all, d_mi_0, d_mi_s, fs_0, fs_s, fb_t, fb_out, d_sg_0, d_sg_s, m1, m2, m3]
  grind
theorem g_cf_5_1_0_4 (M : Int → Int → Int) : g_cf M 5 1 0 4 = -(m3 M 2 3 4 0 2 3) := by
  simp [g_cf, d_pl, fb_oth, fb_all, d_mi_0, d_mi_s, fs_0, fs_s, fb_t, fb_out, d_sg_0, d_sg_s, m1, m2, m3]
  grind
theorem g_cf_5_1_2_0 (M : Int → Int → Int) : g_cf M 5 1 2 0 = -(m3 M 0 3 4 2 3 4) := by
  simp [g_cf, d_pl, fb_oth, fb_all, d_mi_0, d_mi_s, fs_0, fs_s, fb_t, fb_out, d_sg_0, d_sg_s, m1, m2, m3]
  grind
theorem g_cf_5_1_2_2 (M : Int → Int → Int) : g_cf M 5 1 2 2 = m3 M 0 3 4 0 3 4 := by
  simp [g_cf, d_pl, fb_oth, fb_all, d_mi_0, d_mi_s, fs_0, fs_s, fb_t, fb_out, d_sg_0, d_sg_s, m1, m2, m3]
  grind
theorem g_cf_5_1_2_3 (M : Int → Int → Int) : g_cf M 5 1 2 3 = -(m3 M 0 3 4 0 2 4) := by
  simp [g_cf, d_pl, fb_oth, fb_all, d_mi_0, d_mi_s, fs_0, fs_s, fb_t, fb_out, d_sg_0, d_sg_s, m1, m2, m3]
  grind
theorem g_cf_5_1_2_4 (M : Int → Int → Int) : g_cf M 5 1 2 4 = m3 M 0 3 4 0 2 3 := by
  simp [g_cf, d_pl, fb_oth, fb_all, d_mi_0, d_mi_s, fs_0, fs_s, fb_t, fb_out, d_sg_0, d_sg_s, m1, m2, m3]
  grind
theorem g_cf_5_1_3_0 (M : Int → Int → Int) : g_cf M 5 1 3 0 = m3 M 0 2 4 2 3 4 := by
  simp [g_cf, d_pl, fb_oth, fb_all, d_mi_0, d_mi_s, fs_0, fs_s, fb_t, fb_out, d_sg_0, d_sg_s, m1, m2, m3]
  grind
theorem g_cf_5_1_3_2 (M : Int → Int → Int) : g_cf M 5 1 3 2 = -(m3 M 0 2 4 0 3 4) := by
  simp [g_cf, d_pl, fb_oth, fb_all, d_mi_0, d_mi_s, fs_0, fs_s, fb_t, fb_out, d_sg_0, d_sg_s, m1, m2, m3]
  grind
theorem g_cf_5_1_3_3 (M : Int → Int → Int) : g_cf M 5 1 3 3 = m3 M 0 2 4 0 2 4 := by
  simp [g_cf, d_pl, fb_oth, fb_all, d_mi_0, d_mi_s, fs_0, fs_s, fb_t, fb_out, d_sg_0, d_sg_s, m1, m2, m3]
  grind
theorem g_cf_5_1_3_4 (M : Int → Int → Int) : g_cf M 5 1 3 4 = -(m3 M 0 2 4 0 2 3) := by
  simp [g_cf, d_pl, fb_oth, fb_all, d_mi_0, d_mi_s, fs_0, fs_s, fb_t, fb_out, d_sg_0, d_sg_s, m1, m2, m3]
  grind
theorem g_cf_5_1_4_0 (M : Int → Int → Int) : g_cf M 5 1 4 0 = -(m3 M 0 2 3 2 3 4) := by
  simp [g_cf, d_pl, fb_oth, fb_all, d_mi_0, d_mi_s, fs_0, fs_s, fb_t, fb_out, d_sg_0, d_sg_s, m1, m2, m3]
  grind
theorem g_cf_5_1_4_2 (M : Int → Int → Int) : g_cf M 5 1 4 2 = m3 M 0 2 3 0 3 4 := by
  simp [g_cf, d_pl, fb_oth, fb_all, d_mi_0, d_mi_s, fs_0, fs_s, fb_t, fb_out, d_sg_0, d_sg_s, m1, m2, m3]
  grind
theorem g_cf_5_1_4_3 (M : Int → Int → Int) : g_cf M 5 1 4 3 = -(m3 M 0 2 3 0 2 4) := by
  simp [g_cf, d_pl, fb_oth, fb_all, d_mi_0, d_mi_s, fs_0, fs_s, fb_t, fb_out, d_sg_0, d_sg_s, m1, m2, m3]
  grind
theorem g_cf_5_1_4_4 (M : Int → Int → Int) : g_cf M 5 1 4 4 = m3 M 0 2 3 0 2 3 := by
  simp [g_cf, d_pl, fb_oth, fb_all, d_mi_0, d_mi_s, fs_0, fs_s, fb_t, fb_out, d_sg_0, d_sg_s, m1, m2, m3]
  grind
theorem g_T_5_2 (M : Int → Int → Int) : g_T M 5 2 = m4 M 0 1 3 4 0 1 3 4 := by
  simp [g_T, fb_oth, fb_all, d_mi_0, d_mi_s, fs_0, fs_s, fb_t, fb_out, d_sg_0, d_sg_s, m1, m2, m3, m4]
  grind
theorem g_cf_5_2_0_0 (M : Int → Int → Int) : g_cf M 5 2 0 0 = m3 M 1 3 4 1 3 4 := by
  simp [g_cf, d_pl, fb_oth, fb_all, d_mi_0, d_mi_s, fs_0, fs_s, fb_t, fb_out, d_sg_0, d_sg_s, m1, m2, m3]
  grind
theorem g_cf_5_2_0_1 (M : Int → Int → Int) : g_cf M 5 2 0 1 = -(m3 M 1 3 4 0 3 4) := by
  simp [g_cf, d_pl, fb_oth, fb_all, d_mi_0, d_mi_s, fs_0, fs_s, fb_t, fb_out, d_sg_0, d_sg_s, m1, m2, m3]
  grind
theorem g_cf_5_2_0_3 (M : Int → Int → Int) : g_cf M 5 2 0 3 = m3 M 1 3 4 0 1 4 := by
  simp [g_cf, d_pl, fb_oth, fb_all, d_mi_0, d_mi_s, fs_0, fs_s, fb_t, fb_out, d_sg_0, d_sg_s, m1, m2, m3]
  grind
theorem g_cf_5_2_0_4 (M : Int → Int → Int) : g_cf M 5 2 0 4 = -(m3 M 1 3 4 0 1 3) := by
  simp [g_cf, d_pl, fb_oth, fb_all, d_mi_0, d_mi_s, fs_0, fs_s, fb_t, fb_out, d_sg_0, d_sg_s, m1, m2, m3]
  grind
theorem g_cf_5_2_1_0 (M : Int → Int → Int) : g_cf M 5 2 1 0 = -(m3 M 0 3 4 1 3 4) := by
  simp [g_cf, d_pl, fb_oth, fb_all, d_mi_0, d_mi_s, fs_0, fs_s, fb_t, fb_out, d_sg_0, d_sg_s, m1, m2, m3]
  grind
theorem g_cf_5_2_1_1 (M : Int → Int → Int) : g_cf M 5 2 1 1 = m3 M 0 3 4 0 3 4 := by
  simp [g_cf, d_pl, fb_oth, fb_all, d_mi_0, d_mi_s, fs_0, fs_s, fb_t, fb_out, d_sg_0, d_sg_s, m1, m2, m3]
  grind
theorem g_cf_5_2_1_3 (M : Int → Int → Int) : g_cf M 5 2 1 3 = -(m3 M 0 3 4 0 1 4) := by
  simp [g_cf, d_pl, fb_oth, fb_all, d_mi_0, d_mi_s, fs_0, fs_s, fb_t, fb_out, d_sg_0, d_sg_s, m1, m2, m3]
  grind
theorem g_cf_5_2_1_4 (M : Int → Int → Int) : g_cf M 5 2 1 4 = m3 M 0 3 4 0 1 3 := by
  simp [g_cf, d_pl, fb_oth, fb_all, d_mi_0, d_mi_s, fs_0, fs_s, fb_t, fb_out, d_sg_0, d_sg_s, m1, m2, m3]
  grind
theorem g_cf_5_2_3_0 (M : Int → Int → Int) : g_cf M 5 2 3 0 = m3 M 0 1 4 1 3 4 := by
  simp [g_cf, d_pl, fb_oth, fb_all, d_mi_0, d_mi_s, fs_0, fs_s, fb_t, fb_out, d_sg_0, d_sg_s, m1, m2, m3]
  grind
theorem g_cf_5_2_3_1 (M : Int → Int → Int) : g_cf M 5 2 3 1 = -(m3 M 0 1 4 0 3 4) := by
  simp [g_cf, d_pl, fb_oth, fb_all, d_mi_0, d_mi_s, fs_0, fs_s, fb_t, fb_out, d_sg_0, d_sg_s, m1, m2, m3]
  grind
theorem g_cf_5_2_3_3 (M : Int → Int → Int) : g_cf M 5 2 3 3 = m3 M 0 1 4 0 1 4 := by
  simp [g_cf, d_pl, fb_oth, fb_all, d_mi_0, d_mi_s, fs_0, fs_s, fb_t, fb_out, d_sg_0, d_sg_s, m1, m2, m3]
  grind
theorem g_cf_5_2_3_4 (M : Int → Int → Int) : g_cf M 5 2 3 4 = -(m3 M 0 1 4 0 1 3) := by
  simp [g_cf, d_pl, fb_oth, fb_all, d_mi_0, d_mi_s, fs_0, fs_s, fb_t, fb_out, d_sg_0, d_sg_s, m1, m2, m3]
  grind
theorem g_cf_5_2_4_0 (M : Int → Int → Int) : g_cf M 5 2 4 0 = -(m3 M 0 1 3 1 3 4) := by
  simp [g_cf, d_pl, fb_oth, fb_all, d_mi_0, d_mi_s, fs_0, fs_s, fb_t, fb_out, d_sg_0, d_sg_s, m1, m2, m3]
  grind
theorem g_cf_5_2_4_1 (M : Int → Int → Int) : g_cf M 5 2 4 1 = m3 M 0 1 3 0 3 4 := by
  simp [g_cf, d_pl, fb_oth, fb_all, d_mi_0, d_mi_s, fs_0, fs_s, fb_t, fb_out, d_sg_0, d_sg_s, m1, m2, m3]
  grind
theorem g_cf_5_2_4_3 (M : Int → Int → Int) : g_cf M 5 2 4 3 = -(m3 M 0 1 3 0 1 4) := by
  simp [g_cf, d_pl, fb_oth, fb_all, d_mi_0, d_mi_s, fs_0, fs_s, fb_t, fb_out, d_sg_0, d_sg_s, m1, m2, m3]
  grind
theorem g_cf_5_2_4_4 (M : Int → Int → Int) : g_cf M 5 2 4 4 = m3 M 0 1 3 0 1 3 := by
  simp [g_cf, d_pl, fb_oth, fb_all, d_mi_0, d_mi_s, fs_0, fs_s, fb_t, fb_out, d_sg_0, d_sg_s, m1, m2, m3]
  grind
theorem g_T_5_3 (M : Int → Int → Int) : g_T M 5 3 = m4 M 0 1 2 4 0 1 2 4 := by
  simp [g_T, fb_oth, fb_all, d_mi_0, d_mi_s, fs_0, fs_s, fb_t, fb_out, d_sg_0, d_sg_s, m1, m2, m3, m4]
  grind
theorem g_cf_5_3_0_0 (M : Int → Int → Int) : g_cf M 5 3 0 0 = m3 M 1 2 4 1 2 4 := by
  simp [g_cf, d_pl, fb_oth, fb_all, d_mi_0, d_mi_s, fs_0, fs_s, fb_t, fb_out, d_sg_0, d_sg_s, m1, m2, m3]
  grind
theorem g_cf_5_3_0_1 (M : Int → Int → Int) : g_cf M 5 3 0 1 = -(m3 M 1 2 4 0 2 4) := by
  simp [g_cf, d_pl, fb_oth, fb_all, d_mi_0, d_mi_s, fs_0, fs_s, fb_t, fb_out, d_sg_0, d_sg_s, m1, m2, m3]
  grind
theorem g_cf_5_3_0_2 (M : Int → Int → Int) : g_cf M 5 3 0 2 = m3 M 1 2 4 0 1 4 := by
  simp [g_cf, d_pl, fb_oth, fb_all, d_mi_0, d_mi_s, fs_0, fs_s, fb_t, fb_out, d_sg_0, d_sg_s, m1, m2, m3]
  grind
theorem g_cf_5_3_0_4 (M : Int → Int → Int) : g_cf M 5 3 0 4 = -(m3 M 1 2 4 0 1 2) := by
  simp [g_cf, d_pl, fb_oth, fb_all, d_mi_0, d_mi_s, fs_0, fs_s, fb_t, fb_out, d_sg_0, d_sg_s, m1, m2, m3]
  grind
theorem g_cf_5_3_1_0 (M : Int → Int → Int) : g_cf M 5 3 1 0 = -(m3 M 0 2 4 1 2 4) := by
  simp [g_cf, d_pl, fb_oth, fb_all, d_mi_0, d_mi_s, fs_0, fs_s, fb_t, fb_out, d_sg_0, d_sg_s, m1, m2, m3]
  grind
theorem g_cf_5_3_1_1 (M : Int → Int → Int) : g_cf M 5 3 1 1 = m3 M 0 2 4 0 2 4 := by
  simp [g_cf, d_pl, fb_oth, fb_all, d_mi_0, d_mi_s, fs_0, fs_s, fb_t, fb_out, d_sg_0, d_sg_s, m1, m2, m3]
  grind
theorem g_cf_5_3_1_2 (M : Int → Int → Int) : g_cf M 5 3 1 2 = -(m3 M 0 2 4 0 1 4) := by
  simp [g_cf, d_pl, fb_oth, fb_all, d_mi_0, d_mi_s, fs_0, fs_s, fb_t, fb_out, d_sg_0, d_sg_s, m1, m2, m3]
  grind
theorem g_cf_5_3_1_4 (M : Int → Int → Int) : g_cf M 5 3 1 4 = m3 M 0 2 4 0 1 2 := by
  simp [g_cf, d_pl, fb_oth, fb_all, d_mi_0, d_mi_s, fs_0, fs_s, fb_t, fb_out, d_sg_0, d_sg_s, m1, m2, m3]
  grind
theorem g_cf_5_3_2_0 (M : Int → Int → Int) : g_cf M 5 3 2 0 = m3 M 0 1 4 1 2 4 := by
  simp [g_cf, d_pl, fb_oth, fb_all, d_mi_0, d_mi_s, fs_0, fs_s, fb_t, fb_out, d_sg_0, d_sg_s, m1, m2, m3]
  grind
theorem g_cf_5_3_2_1 (M : Int → Int → Int) : g_cf M 5 3 2 1 = -(m3 M 0 1 4 0 2 4) := by
  simp [g_cf, d_pl, fb_oth, fb_all, d_mi_0, d_mi_s, fs_0, fs_s, fb_t, fb_out, d_sg_0, d_sg_s, m1, m2, m3]
  grind
theorem g_cf_5_3_2_2 (M : Int → Int → Int) : g_cf M 5 3 2 2 = m3 M 0 1 4 0 1 4 := by
  simp [g_cf, d_pl, fb_oth, fb_all, d_mi_0, d_mi_s, fs_0, fs_s, fb_t, fb_out, d_sg_0, d_sg_s, m1, m2, m3]
  grind
theorem g_cf_5_3_2_4 (M : Int → Int → Int) : g_cf M 5 3 2 4 = -(m3 M 0 1 4 0 1 2) := by
  simp [g_cf, d_pl, fb_oth, fb_all, d_mi_0, d_mi_s, fs_0, fs_s, fb_t, fb_out, d_sg_0, d_sg_s, m1, m2, m3]
  grind
theorem g_cf_5_3_4_0 (M : Int → Int → Int) : g_cf M 5 3 4 0 = -(m3 M 0 1 2 1 2 4) := by
  simp [g_cf, d_pl, fb_oth, fb_all, d_mi_0, d_mi_s, fs_0, fs_s, fb_t, fb_out, d_sg_0, d_sg_s, m1, m2, m3]
  grind
theorem g_cf_5_3_4_1 (M : Int → Int → Int) : g_cf M 5 3 4 1 = m3 M 0 1 2 0 2 4 := by
  simp [g_cf, d_pl, fb_oth, fb_all, d_mi_0, d_mi_s, fs_0, fs_s, fb_t, fb_out, d_sg_0, d_sg_s, m1, m2, m3]
  grind
theorem g_cf_5_3_4_2 (M : Int → Int → Int) : g_cf M 5 3 4 2 = -(m3 M 0 1 2 0 1 4) := by
  simp [g_cf, d_pl, fb_oth, fb_all, d_mi_0, d_mi_s, fs_0, fs_s, fb_t, fb_out, d_sg_0, d_sg_s, m1, m2, m3]
  grind
theorem g_cf_5_3_4_4 (M : Int → Int → Int) : g_cf M 5 3 4 4 = m3 M 0 1 2 0 1 2 := by
  simp [g_cf, d_pl, fb_oth, fb_all, d_mi_0, d_mi_s, fs_0, fs_s, fb_t, fb_out, d_sg_0, d_sg_s, m1, m2, m3]
  grind
theorem g_T_5_4 (M : Int → Int → Int) : g_T M 5 4 = m4 M 0 1 2 3 0 1 2 3 := by
  simp [g_T, fb_oth, fb_all, d_mi_0, d_mi_s, fs_0, fs_s, fb_t, fb_out, d_sg_0, d_sg_s, m1, m2, m3, m4]
  grind
theorem g_cf_5_4_0_0 (M : Int → Int → Int) : g_cf M 5 4 0 0 = m3 M 1 2 3 1 2 3 := by
  simp [g_cf, d_pl, fb_oth, fb_all, d_mi_0, d_mi_s, fs_0, fs_s, fb_t, fb_out, d_sg_0, d_sg_s, m1, m2, m3]
  grind
theorem g_cf_5_4_0_1 (M : Int → Int → Int) : g_cf M 5 4 0 1 = -(m3 M 1 2 3 0 2 3) := by
  simp [g_cf, d_pl, fb_oth, fb_all, d_mi_0, d_mi_s, fs_0, fs_s, fb_t, fb_out, d_sg_0, d_sg_s, m1, m2, m3]
  grind
theorem g_cf_5_4_0_2 (M : Int → Int → Int) : g_cf M 5 4 0 2 = m3 M 1 2 3 0 1 3 := by
  simp [g_cf, d_pl, fb_oth, fb_all, d_mi_0, d_mi_s, fs_0, fs_s, fb_t, fb_out, d_sg_0, d_sg_s, m1, m2, m3]
  grind
theorem g_cf_5_4_0_3 (M : Int → Int → Int) : g_cf M 5 4 0 3 = -(m3 M 1 2 3 0 1 2) := by
  simp [g_cf, d_pl, fb_oth, fb_all, d_mi_0, d_mi_s, fs_0, fs_s, fb_t, fb_out, d_sg_0, d_sg_s, m1, m2, m3]
  grind
theorem g_cf_5_4_1_0 (M : Int → Int → Int) : g_cf M 5 4 1 0 = -(m3 M 0 2 3 1 2 3) := by
  simp [g_cf, d_pl, fb_oth, fb_all, d_mi_0, d_mi_s, fs_0, fs_s, fb_t, fb_out, d_sg_0, d_sg_s, m1, m2, m3]
  grind
theorem g_cf_5_4_1_1 (M : Int → Int → Int) : g_cf M 5 4 1 1 = m3 M 0 2 3 0 2 3 := by
  simp [g_cf, d_pl, fb_oth, fb_all, d_mi_0, d_mi_s, fs_0, fs_s, fb_t, fb_out, d_sg_0, d_sg_s, m1, m2, m3]
  grind
theorem g_cf_5_4_1_2 (M : Int → Int → Int) : g_cf M 5 4 1 2 = -(m3 M 0 2 3 0 1 3) := by
  simp [g_cf, d_pl, fb_oth, fb_all, d_mi_0, d_mi_s, fs_0, fs_s, fb_t, fb_out, d_sg_0, d_sg_s, m1, m2, m3]
  grind
theorem g_cf_5_4_1_3 (M : Int → Int → Int) : g_cf M 5 4 1 3 = m3 M 0 2 3 0 1 2 := by
  simp [g_cf, d_pl, fb_oth, fb_all, d_mi_0, d_mi_s, fs_0, fs_s, fb_t, fb_out, d_sg_0, d_sg_s, m1, m2, m3]
  grind
theorem g_cf_5_4_2_0 (M : Int → Int → Int) : g_cf M 5 4 2 0 = m3 M 0 1 3 1 2 3 := by
  simp [g_cf, d_pl, fb_oth, fb_all, d_mi_0, d_mi_s, fs_0, fs_s, fb_t, fb_out, d_sg_0, d_sg_s, m1, m2, m3]
  grind
theorem g_cf_5_4_2_1 (M : Int → Int → Int) : g_cf M 5 4 2 1 = -(m3 M 0 1 3 0 2 3) := by
  simp [g_cf, d_pl, fb_oth, fb_all, d_mi_0, d_mi_s, fs_0, fs_s, fb_t, fb_out, d_sg_0, d_sg_s, m1, m2, m3]
  grind
theorem g_cf_5_4_2_2 (M : Int → Int → Int) : g_cf M 5 4 2 2 = m3 M 0 1 3 0 1 3 := by
  simp [g_cf, d_pl, fb_oth, fb_all, d_mi_0, d_mi_s, fs_0, fs_s, fb_t, fb_out, d_sg_0, d_sg_s, m1, m2, m3]
  grind
theorem g_cf_5_4_2_3 (M : Int → Int → Int) : g_cf M 5 4 2 3 = -(m3 M 0 1 3 0 1 2) := by
  simp [g_cf, d_pl, fb_oth, fb_all, d_mi_0, d_mi_s, fs_0, fs_s, fb_t, fb_out, d_sg_0, d_sg_s, m1, m2, m3]
  grind
theorem g_cf_5_4_3_0 (M : Int → Int → Int) : g_cf M 5 4 3 0 = -(m3 M 0 1 2 1 2 3) := by
  simp [g_cf, d_pl, fb_oth, fb_all, d_mi_0, d_mi_s, fs_0, fs_s, fb_t, fb_out, d_sg_0, d_sg_s, m1, m2, m3]
  grind
theorem g_cf_5_4_3_1 (M : Int → Int → Int) : g_cf M 5 4 3 1 = m3 M 0 1 2 0 2 3 := by
  simp [g_cf, d_pl, fb_oth, fb_all, d_mi_0, d_mi_s, fs_0, fs_s, fb_t, fb_out, d_sg_0, d_sg_s, m1, m2, m3]
  grind
theorem g_cf_5_4_3_2 (M : Int → Int → Int) : g_cf M 5 4 3 2 = -(m3 M 0 1 2 0 1 3) := by
  simp [g_cf, d_pl, fb_oth, fb_all, d_mi_0, d_mi_s, fs_0, fs_s, fb_t, fb_out, d_sg_0, d_sg_s, m1, m2, m3]
  grind
theorem g_cf_5_4_3_3 (M : Int → Int → Int) : g_cf M 5 4 3 3 = m3 M 0 1 2 0 1 2 := by
  simp [g_cf, d_pl, fb_oth, fb_all, d_mi_0, d_mi_s, fs_0, fs_s, fb_t, fb_out, d_sg_0, d_sg_s, m1, m2, m3]
  grind
