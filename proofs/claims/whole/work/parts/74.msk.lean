/-! the minors by masks, written out (genmin.py) -/
theorem srt2 {f : Int → Int → Int} {d s : Int} (h12 : ∀ a b : Int, f b a = - f a b) (H : ∀ a b : Int, u_i s a → u_i s b → a < b → d ∣ f a b) (a b : Int) (ha : u_i s a) (hb : u_i s b) : d ∣ f a b := by
  by_cases c1 : a < b
  · exact H a b ha hb c1
  · by_cases c2 : b < a
    · have := H b a hb ha c2
      rw [h12] at this
      exact Int.dvd_neg.1 this
    · have e : a = b := by omega
      have := h12 a a
      rw [← e, show f a a = 0 by omega]
      exact Int.dvd_zero d
theorem srt3 {f : Int → Int → Int → Int} {d s : Int} (h12 : ∀ a b c : Int, f b a c = - f a b c) (h23 : ∀ a b c : Int, f a c b = - f a b c) (H : ∀ a b c : Int, u_i s a → u_i s b → u_i s c → a < b → b < c → d ∣ f a b c) (a b c : Int) (ha : u_i s a) (hb : u_i s b) (hc : u_i s c) : d ∣ f a b c := by
  refine srt2 (f := fun a b => f a b c) (s := s) (fun a b => h12 a b c) (fun a b ha hb hab => ?_) a b ha hb
  show d ∣ f a b c
  by_cases c1 : b < c
  · exact H a b c ha hb hc hab c1
  · refine Int.dvd_neg.1 ?_
    rw [← h23]
    by_cases c2 : b = c
    · have := h23 a b b
      rw [← c2, show f a b b = 0 by omega]
      exact Int.dvd_zero d
    · by_cases c3 : a < c
      · exact H a c b ha hc hb c3 (by omega)
      · by_cases c4 : a = c
        · have := h12 a a b
          rw [← c4, show f a a b = 0 by omega]
          exact Int.dvd_zero d
        · have := H c a b hc ha hb (by omega) hab
          rw [h12] at this
          exact Int.dvd_neg.1 this
theorem srt4 {f : Int → Int → Int → Int → Int} {d s : Int} (h12 : ∀ a b c e : Int, f b a c e = - f a b c e) (h23 : ∀ a b c e : Int, f a c b e = - f a b c e) (h34 : ∀ a b c e : Int, f a b e c = - f a b c e) (H : ∀ a b c e : Int, u_i s a → u_i s b → u_i s c → u_i s e → a < b → b < c → c < e → d ∣ f a b c e) (a b c e : Int) (ha : u_i s a) (hb : u_i s b) (hc : u_i s c) (he : u_i s e) : d ∣ f a b c e := by
  refine srt3 (f := fun a b c => f a b c e) (s := s) (fun a b c => h12 a b c e) (fun a b c => h23 a b c e) (fun a b c ha hb hc hab hbc => ?_) a b c ha hb hc
  show d ∣ f a b c e
  by_cases c1 : c < e
  · exact H a b c e ha hb hc he hab hbc c1
  · refine Int.dvd_neg.1 ?_
    rw [← h34]
    by_cases c2 : c = e
    · have := h34 a b c c
      rw [← c2, show f a b c c = 0 by omega]
      exact Int.dvd_zero d
    · by_cases c3 : b < e
      · exact H a b e c ha hb he hc hab c3 (by omega)
      · refine Int.dvd_neg.1 ?_
        rw [← h23]
        by_cases c4 : b = e
        · have := h23 a b b c
          rw [← c4, show f a b b c = 0 by omega]
          exact Int.dvd_zero d
        · by_cases c5 : a < e
          · exact H a e b c ha he hb hc c5 (by omega) hbc
          · by_cases c6 : a = e
            · have := h12 a a b c
              rw [← c6, show f a a b c = 0 by omega]
              exact Int.dvd_zero d
            · have := H e a b c he ha hb hc (by omega) hab hbc
              rw [h12] at this
              exact Int.dvd_neg.1 this
section SGN
variable {U : Int → Int → Int} {a b c o e f g h : Int}
theorem m2_12 : m2 U b a e f = - m2 U a b e f := by unfold m2; grind
theorem m2_c12 : m2 U a b f e = - m2 U a b e f := by unfold m2; grind
theorem m3_12 : m3 U b a c e f g = - m3 U a b c e f g := by unfold m3 m2; grind
theorem m3_23 : m3 U a c b e f g = - m3 U a b c e f g := by unfold m3 m2; grind
theorem m3_c12 : m3 U a b c f e g = - m3 U a b c e f g := by unfold m3 m2; grind
theorem m3_c23 : m3 U a b c e g f = - m3 U a b c e f g := by unfold m3 m2; grind
theorem m4_12 : m4 U b a c o e f g h = - m4 U a b c o e f g h := by unfold m4 m3 m2; grind
theorem m4_23 : m4 U a c b o e f g h = - m4 U a b c o e f g h := by unfold m4 m3 m2; grind
theorem m4_34 : m4 U a b o c e f g h = - m4 U a b c o e f g h := by unfold m4 m3 m2; grind
theorem m4_c12 : m4 U a b c o f e g h = - m4 U a b c o e f g h := by unfold m4 m3 m2; grind
theorem m4_c23 : m4 U a b c o e g f h = - m4 U a b c o e f g h := by unfold m4 m3 m2; grind
theorem m4_c34 : m4 U a b c o e f h g = - m4 U a b c o e f g h := by unfold m4 m3 m2; grind
end SGN
/-- rows in order -/
theorem u_D2_r {d s : Int} {U : Int → Int → Int} (H : ∀ a b e f : Int, u_i s a → u_i s b → u_i s e → u_i s f → a < b → d ∣ m2 U a b e f) : u_D2 d U s := fun a b e f ha hb he hf => srt2 (f := fun a b => m2 U a b e f) (fun _ _ => m2_12) (fun a b ha hb hab => H a b e f ha hb he hf hab) a b ha hb
theorem u_D3_r {d s : Int} {U : Int → Int → Int} (H : ∀ a b c e f g : Int, u_i s a → u_i s b → u_i s c → u_i s e → u_i s f → u_i s g → a < b → b < c → d ∣ m3 U a b c e f g) : u_D3 d U s := fun a b c e f g ha hb hc he hf hg => srt3 (f := fun a b c => m3 U a b c e f g) (fun _ _ _ => m3_12) (fun _ _ _ => m3_23) (fun a b c ha hb hc hab hbc => H a b c e f g ha hb hc he hf hg hab hbc) a b c ha hb hc
theorem u_D4_r {d s : Int} {U : Int → Int → Int} (H : ∀ a b c o e f g h : Int, u_i s a → u_i s b → u_i s c → u_i s o → u_i s e → u_i s f → u_i s g → u_i s h → a < b → b < c → c < o → d ∣ m4 U a b c o e f g h) : u_D4 d U s := fun a b c o e f g h ha hb hc ho he hf hg hh => srt4 (f := fun a b c o => m4 U a b c o e f g h) (fun _ _ _ _ => m4_12) (fun _ _ _ _ => m4_23) (fun _ _ _ _ => m4_34) (fun a b c o ha hb hc ho hab hbc hco => H a b c o e f g h ha hb hc ho he hf hg hh hab hbc hco) a b c o ha hb hc ho
theorem u_D2_rc {d s : Int} {U : Int → Int → Int} (H : ∀ a b e f : Int, u_i s a → u_i s b → u_i s e → u_i s f → a < b → e < f → d ∣ m2 U a b e f) : u_D2 d U s := u_D2_r (fun a b e f ha hb he hf hab => srt2 (f := fun e f => m2 U a b e f) (fun _ _ => m2_c12) (fun e f he hf hef => H a b e f ha hb he hf hab hef) e f he hf)
theorem u_D3_rc {d s : Int} {U : Int → Int → Int} (H : ∀ a b c e f g : Int, u_i s a → u_i s b → u_i s c → u_i s e → u_i s f → u_i s g → a < b → b < c → e < f → f < g → d ∣ m3 U a b c e f g) : u_D3 d U s := u_D3_r (fun a b c e f g ha hb hc he hf hg hab hbc => srt3 (f := fun e f g => m3 U a b c e f g) (fun _ _ _ => m3_c12) (fun _ _ _ => m3_c23) (fun e f g he hf hg hef hfg => H a b c e f g ha hb hc he hf hg hab hbc hef hfg) e f g he hf hg)
theorem u_D4_rc {d s : Int} {U : Int → Int → Int} (H : ∀ a b c o e f g h : Int, u_i s a → u_i s b → u_i s c → u_i s o → u_i s e → u_i s f → u_i s g → u_i s h → a < b → b < c → c < o → e < f → f < g → g < h → d ∣ m4 U a b c o e f g h) : u_D4 d U s := u_D4_r (fun a b c o e f g h ha hb hc ho he hf hg hh hab hbc hco => srt4 (f := fun e f g h => m4 U a b c o e f g h) (fun _ _ _ _ => m4_c12) (fun _ _ _ _ => m4_c23) (fun _ _ _ _ => m4_c34) (fun e f g h he hf hg hh hef hfg hgh => H a b c o e f g h ha hb hc ho he hf hg hh hab hbc hco hef hfg hgh) e f g h he hf hg hh)
theorem g_mi_2_2_2 (M : Int → Int → Int) : d_mi M 2 2 ((2 : Int)).toNat 2 = (M (0 + 1) (0 + 1)) := by
  simp [d_mi_0, d_mi_s, fs_0, fs_s, fb_t, fb_out, d_sg_0, d_sg_s, m2, m3, m4]
theorem vd_2_1 {R : Int} (h : d_vd 2 0 1 R) : R = 2 := by
  obtain ⟨h0, h1, h2, h3⟩ := h
  have key : ∀ R : Fin 32, fc_and ((R.val : Nat) : Int) (fc_xor (fb_oth 2 0) (-1)) = 0 → s_pc ((R.val : Nat) : Int) = 1 → ((R.val : Nat) : Int) = 2 := by decide +kernel
  exact fz_lt (P := fun R => fc_and R (fc_xor (fb_oth 2 0) (-1)) = 0 → s_pc R = 1 → R = 2) (N := 32) key h0 h1 h2 h3
theorem vi_2_2 : d_vd 2 0 1 2 := ⟨by decide, by decide, by decide +kernel, by decide +kernel⟩
theorem u_lk_2_1 {M : Int → Int → Int} {d : Int} : (∀ R S : Int, d_vd 2 0 1 R → d_vd 2 0 1 S → d ∣ d_mi M 2 R ((2 : Int)).toNat S) ↔ u_D1 d (fun i j => M (i + 1) (j + 1)) 1 := by
  constructor
  · intro H
    intro a e ha he
    have ha0 := ha.1
    have ha1 := ha.2
    have he0 := he.1
    have he1 := he.2
    have kr : (a = 0) := by omega
    have kc : (e = 0) := by omega
    rcases kr with rfl <;> rcases kc with rfl
    · have := H 2 2 vi_2_2 vi_2_2
      rw [g_mi_2_2_2] at this
      exact this
  · intro H R S hR hS
    rcases vd_2_1 hR with rfl <;> rcases vd_2_1 hS with rfl
    · rw [g_mi_2_2_2]
      exact H 0 0 ⟨by decide, by decide⟩ ⟨by decide, by decide⟩
theorem g_mi_3_2_2 (M : Int → Int → Int) : d_mi M 3 2 ((3 : Int)).toNat 2 = (M (0 + 1) (0 + 1)) := by
  simp [d_mi_0, d_mi_s, fs_0, fs_s, fb_t, fb_out, d_sg_0, d_sg_s, m2, m3, m4]
theorem g_mi_3_2_4 (M : Int → Int → Int) : d_mi M 3 2 ((3 : Int)).toNat 4 = (M (0 + 1) (1 + 1)) := by
  simp [d_mi_0, d_mi_s, fs_0, fs_s, fb_t, fb_out, d_sg_0, d_sg_s, m2, m3, m4]
theorem g_mi_3_4_2 (M : Int → Int → Int) : d_mi M 3 4 ((3 : Int)).toNat 2 = (M (1 + 1) (0 + 1)) := by
  simp [d_mi_0, d_mi_s, fs_0, fs_s, fb_t, fb_out, d_sg_0, d_sg_s, m2, m3, m4]
theorem g_mi_3_4_4 (M : Int → Int → Int) : d_mi M 3 4 ((3 : Int)).toNat 4 = (M (1 + 1) (1 + 1)) := by
  simp [d_mi_0, d_mi_s, fs_0, fs_s, fb_t, fb_out, d_sg_0, d_sg_s, m2, m3, m4]
theorem vd_3_1 {R : Int} (h : d_vd 3 0 1 R) : R = 2 ∨ R = 4 := by
  obtain ⟨h0, h1, h2, h3⟩ := h
  have key : ∀ R : Fin 32, fc_and ((R.val : Nat) : Int) (fc_xor (fb_oth 3 0) (-1)) = 0 → s_pc ((R.val : Nat) : Int) = 1 → ((R.val : Nat) : Int) = 2 ∨ ((R.val : Nat) : Int) = 4 := by decide +kernel
  exact fz_lt (P := fun R => fc_and R (fc_xor (fb_oth 3 0) (-1)) = 0 → s_pc R = 1 → R = 2 ∨ R = 4) (N := 32) key h0 h1 h2 h3
theorem vi_3_2 : d_vd 3 0 1 2 := ⟨by decide, by decide, by decide +kernel, by decide +kernel⟩
theorem vi_3_4 : d_vd 3 0 1 4 := ⟨by decide, by decide, by decide +kernel, by decide +kernel⟩
theorem u_lk_3_1 {M : Int → Int → Int} {d : Int} : (∀ R S : Int, d_vd 3 0 1 R → d_vd 3 0 1 S → d ∣ d_mi M 3 R ((3 : Int)).toNat S) ↔ u_D1 d (fun i j => M (i + 1) (j + 1)) 2 := by
  constructor
  · intro H
    intro a e ha he
    have ha0 := ha.1
    have ha1 := ha.2
    have he0 := he.1
    have he1 := he.2
    have kr : (a = 0) ∨ (a = 1) := by omega
    have kc : (e = 0) ∨ (e = 1) := by omega
    rcases kr with rfl | rfl <;> rcases kc with rfl | rfl
    · have := H 2 2 vi_3_2 vi_3_2
      rw [g_mi_3_2_2] at this
      exact this
    · have := H 2 4 vi_3_2 vi_3_4
      rw [g_mi_3_2_4] at this
      exact this
    · have := H 4 2 vi_3_4 vi_3_2
      rw [g_mi_3_4_2] at this
      exact this
    · have := H 4 4 vi_3_4 vi_3_4
      rw [g_mi_3_4_4] at this
      exact this
  · intro H R S hR hS
    rcases vd_3_1 hR with rfl | rfl <;> rcases vd_3_1 hS with rfl | rfl
    · rw [g_mi_3_2_2]
      exact H 0 0 ⟨by decide, by decide⟩ ⟨by decide, by decide⟩
    · rw [g_mi_3_2_4]
      exact H 0 1 ⟨by decide, by decide⟩ ⟨by decide, by decide⟩
    · rw [g_mi_3_4_2]
      exact H 1 0 ⟨by decide, by decide⟩ ⟨by decide, by decide⟩
    · rw [g_mi_3_4_4]
      exact H 1 1 ⟨by decide, by decide⟩ ⟨by decide, by decide⟩
theorem g_mi_3_6_6 (M : Int → Int → Int) : d_mi M 3 6 ((3 : Int)).toNat 6 = m2 (fun i j => M (i + 1) (j + 1)) 0 1 0 1 := by
  simp [d_mi_0, d_mi_s, fs_0, fs_s, fb_t, fb_out, d_sg_0, d_sg_s, m2, m3, m4]
  try grind
theorem vd_3_2 {R : Int} (h : d_vd 3 0 2 R) : R = 6 := by
  obtain ⟨h0, h1, h2, h3⟩ := h
  have key : ∀ R : Fin 32, fc_and ((R.val : Nat) : Int) (fc_xor (fb_oth 3 0) (-1)) = 0 → s_pc ((R.val : Nat) : Int) = 2 → ((R.val : Nat) : Int) = 6 := by decide +kernel
  exact fz_lt (P := fun R => fc_and R (fc_xor (fb_oth 3 0) (-1)) = 0 → s_pc R = 2 → R = 6) (N := 32) key h0 h1 h2 h3
theorem vi_3_6 : d_vd 3 0 2 6 := ⟨by decide, by decide, by decide +kernel, by decide +kernel⟩
theorem u_lk_3_2 {M : Int → Int → Int} {d : Int} : (∀ R S : Int, d_vd 3 0 2 R → d_vd 3 0 2 S → d ∣ d_mi M 3 R ((3 : Int)).toNat S) ↔ u_D2 d (fun i j => M (i + 1) (j + 1)) 2 := by
  constructor
  · intro H
    refine u_D2_rc (fun a b e f ha hb he hf q0 q1 => ?_)
    have ha0 := ha.1
    have ha1 := ha.2
    have hb0 := hb.1
    have hb1 := hb.2
    have he0 := he.1
    have he1 := he.2
    have hf0 := hf.1
    have hf1 := hf.2
    have kr : (a = 0 ∧ b = 1) := by omega
    have kc : (e = 0 ∧ f = 1) := by omega
    rcases kr with ⟨rfl, rfl⟩ <;> rcases kc with ⟨rfl, rfl⟩
    · have := H 6 6 vi_3_6 vi_3_6
      rw [g_mi_3_6_6] at this
      exact this
  · intro H R S hR hS
    rcases vd_3_2 hR with rfl <;> rcases vd_3_2 hS with rfl
    · rw [g_mi_3_6_6]
      exact H 0 1 0 1 ⟨by decide, by decide⟩ ⟨by decide, by decide⟩ ⟨by decide, by decide⟩ ⟨by decide, by decide⟩
theorem g_mi_4_2_2 (M : Int → Int → Int) : d_mi M 4 2 ((4 : Int)).toNat 2 = (M (0 + 1) (0 + 1)) := by
  simp [d_mi_0, d_mi_s, fs_0, fs_s, fb_t, fb_out, d_sg_0, d_sg_s, m2, m3, m4]
theorem g_mi_4_2_4 (M : Int → Int → Int) : d_mi M 4 2 ((4 : Int)).toNat 4 = (M (0 + 1) (1 + 1)) := by
  simp [d_mi_0, d_mi_s, fs_0, fs_s, fb_t, fb_out, d_sg_0, d_sg_s, m2, m3, m4]
theorem g_mi_4_2_8 (M : Int → Int → Int) : d_mi M 4 2 ((4 : Int)).toNat 8 = (M (0 + 1) (2 + 1)) := by
  simp [d_mi_0, d_mi_s, fs_0, fs_s, fb_t, fb_out, d_sg_0, d_sg_s, m2, m3, m4]
theorem g_mi_4_4_2 (M : Int → Int → Int) : d_mi M 4 4 ((4 : Int)).toNat 2 = (M (1 + 1) (0 + 1)) := by
  simp [d_mi_0, d_mi_s, fs_0, fs_s, fb_t, fb_out, d_sg_0, d_sg_s, m2, m3, m4]
theorem g_mi_4_4_4 (M : Int → Int → Int) : d_mi M 4 4 ((4 : Int)).toNat 4 = (M (1 + 1) (1 + 1)) := by
  simp [d_mi_0, d_mi_s, fs_0, fs_s, fb_t, fb_out, d_sg_0, d_sg_s, m2, m3, m4]
theorem g_mi_4_4_8 (M : Int → Int → Int) : d_mi M 4 4 ((4 : Int)).toNat 8 = (M (1 + 1) (2 + 1)) := by
  simp [d_mi_0, d_mi_s, fs_0, fs_s, fb_t, fb_out, d_sg_0, d_sg_s, m2, m3, m4]
theorem g_mi_4_8_2 (M : Int → Int → Int) : d_mi M 4 8 ((4 : Int)).toNat 2 = (M (2 + 1) (0 + 1)) := by
  simp [d_mi_0, d_mi_s, fs_0, fs_s, fb_t, fb_out, d_sg_0, d_sg_s, m2, m3, m4]
theorem g_mi_4_8_4 (M : Int → Int → Int) : d_mi M 4 8 ((4 : Int)).toNat 4 = (M (2 + 1) (1 + 1)) := by
  simp [d_mi_0, d_mi_s, fs_0, fs_s, fb_t, fb_out, d_sg_0, d_sg_s, m2, m3, m4]
theorem g_mi_4_8_8 (M : Int → Int → Int) : d_mi M 4 8 ((4 : Int)).toNat 8 = (M (2 + 1) (2 + 1)) := by
  simp [d_mi_0, d_mi_s, fs_0, fs_s, fb_t, fb_out, d_sg_0, d_sg_s, m2, m3, m4]
theorem vd_4_1 {R : Int} (h : d_vd 4 0 1 R) : R = 2 ∨ R = 4 ∨ R = 8 := by
  obtain ⟨h0, h1, h2, h3⟩ := h
  have key : ∀ R : Fin 32, fc_and ((R.val : Nat) : Int) (fc_xor (fb_oth 4 0) (-1)) = 0 → s_pc ((R.val : Nat) : Int) = 1 → ((R.val : Nat) : Int) = 2 ∨ ((R.val : Nat) : Int) = 4 ∨ ((R.val : Nat) : Int) = 8 := by decide +kernel
  exact fz_lt (P := fun R => fc_and R (fc_xor (fb_oth 4 0) (-1)) = 0 → s_pc R = 1 → R = 2 ∨ R = 4 ∨ R = 8) (N := 32) key h0 h1 h2 h3
theorem vi_4_2 : d_vd 4 0 1 2 := ⟨by decide, by decide, by decide +kernel, by decide +kernel⟩
theorem vi_4_4 : d_vd 4 0 1 4 := ⟨by decide, by decide, by decide +kernel, by decide +kernel⟩
theorem vi_4_8 : d_vd 4 0 1 8 := ⟨by decide, by decide, by decide +kernel, by decide +kernel⟩
theorem u_lk_4_1 {M : Int → Int → Int} {d : Int} : (∀ R S : Int, d_vd 4 0 1 R → d_vd 4 0 1 S → d ∣ d_mi M 4 R ((4 : Int)).toNat S) ↔ u_D1 d (fun i j => M (i + 1) (j + 1)) 3 := by
  constructor
  · intro H
    intro a e ha he
    have ha0 := ha.1
    have ha1 := ha.2
    have he0 := he.1
    have he1 := he.2
    have kr : (a = 0) ∨ (a = 1) ∨ (a = 2) := by omega
    have kc : (e = 0) ∨ (e = 1) ∨ (e = 2) := by omega
    rcases kr with rfl | rfl | rfl <;> rcases kc with rfl | rfl | rfl
    · have := H 2 2 vi_4_2 vi_4_2
      rw [g_mi_4_2_2] at this
      exact this
    · have := H 2 4 vi_4_2 vi_4_4
      rw [g_mi_4_2_4] at this
      exact this
    · have := H 2 8 vi_4_2 vi_4_8
      rw [g_mi_4_2_8] at this
      exact this
    · have := H 4 2 vi_4_4 vi_4_2
      rw [g_mi_4_4_2] at this
      exact this
    · have := H 4 4 vi_4_4 vi_4_4
      rw [g_mi_4_4_4] at this
      exact this
    · have := H 4 8 vi_4_4 vi_4_8
      rw [g_mi_4_4_8] at this
      exact this
    · have := H 8 2 vi_4_8 vi_4_2
      rw [g_mi_4_8_2] at this
      exact this
    · have := H 8 4 vi_4_8 vi_4_4
      rw [g_mi_4_8_4] at this
      exact this
    · have := H 8 8 vi_4_8 vi_4_8
      rw [g_mi_4_8_8] at this
      exact this
  · intro H R S hR hS
    rcases vd_4_1 hR with rfl | rfl | rfl <;> rcases vd_4_1 hS with rfl | rfl | rfl
    · rw [g_mi_4_2_2]
      exact H 0 0 ⟨by decide, by decide⟩ ⟨by decide, by decide⟩
    · rw [g_mi_4_2_4]
      exact H 0 1 ⟨by decide, by decide⟩ ⟨by decide, by decide⟩
    · rw [g_mi_4_2_8]
      exact H 0 2 ⟨by decide, by decide⟩ ⟨by decide, by decide⟩
    · rw [g_mi_4_4_2]
      exact H 1 0 ⟨by decide, by decide⟩ ⟨by decide, by decide⟩
    · rw [g_mi_4_4_4]
      exact H 1 1 ⟨by decide, by decide⟩ ⟨by decide, by decide⟩
    · rw [g_mi_4_4_8]
      exact H 1 2 ⟨by decide, by decide⟩ ⟨by decide, by decide⟩
    · rw [g_mi_4_8_2]
      exact H 2 0 ⟨by decide, by decide⟩ ⟨by decide, by decide⟩
    · rw [g_mi_4_8_4]
      exact H 2 1 ⟨by decide, by decide⟩ ⟨by decide, by decide⟩
    · rw [g_mi_4_8_8]
      exact H 2 2 ⟨by decide, by decide⟩ ⟨by decide, by decide⟩
theorem g_mi_4_6_6 (M : Int → Int → Int) : d_mi M 4 6 ((4 : Int)).toNat 6 = m2 (fun i j => M (i + 1) (j + 1)) 0 1 0 1 := by
  simp [d_mi_0, d_mi_s, fs_0, fs_s, fb_t, fb_out, d_sg_0, d_sg_s, m2, m3, m4]
  try grind
theorem g_mi_4_6_10 (M : Int → Int → Int) : d_mi M 4 6 ((4 : Int)).toNat 10 = m2 (fun i j => M (i + 1) (j + 1)) 0 1 0 2 := by
  simp [d_mi_0, d_mi_s, fs_0, fs_s, fb_t, fb_out, d_sg_0, d_sg_s, m2, m3, m4]
  try grind
theorem g_mi_4_6_12 (M : Int → Int → Int) : d_mi M 4 6 ((4 : Int)).toNat 12 = m2 (fun i j => M (i + 1) (j + 1)) 0 1 1 2 := by
  simp [d_mi_0, d_mi_s, fs_0, fs_s, fb_t, fb_out, d_sg_0, d_sg_s, m2, m3, m4]
  try grind
theorem g_mi_4_10_6 (M : Int → Int → Int) : d_mi M 4 10 ((4 : Int)).toNat 6 = m2 (fun i j => M (i + 1) (j + 1)) 0 2 0 1 := by
  simp [d_mi_0, d_mi_s, fs_0, fs_s, fb_t, fb_out, d_sg_0, d_sg_s, m2, m3, m4]
  try grind
theorem g_mi_4_10_10 (M : Int → Int → Int) : d_mi M 4 10 ((4 : Int)).toNat 10 = m2 (fun i j => M (i + 1) (j + 1)) 0 2 0 2 := by
  simp [d_mi_0, d_mi_s, fs_0, fs_s, fb_t, fb_out, d_sg_0, d_sg_s, m2, m3, m4]
  try grind
theorem g_mi_4_10_12 (M : Int → Int → Int) : d_mi M 4 10 ((4 : Int)).toNat 12 = m2 (fun i j => M (i + 1) (j + 1)) 0 2 1 2 := by
  simp [d_mi_0, d_mi_s, fs_0, fs_s, fb_t, fb_out, d_sg_0, d_sg_s, m2, m3, m4]
  try grind
theorem g_mi_4_12_6 (M : Int → Int → Int) : d_mi M 4 12 ((4 : Int)).toNat 6 = m2 (fun i j => M (i + 1) (j + 1)) 1 2 0 1 := by
  simp [d_mi_0, d_mi_s, fs_0, fs_s, fb_t, fb_out, d_sg_0, d_sg_s, m2, m3, m4]
  try grind
theorem g_mi_4_12_10 (M : Int → Int → Int) : d_mi M 4 12 ((4 : Int)).toNat 10 = m2 (fun i j => M (i + 1) (j + 1)) 1 2 0 2 := by
  simp [d_mi_0, d_mi_s, fs_0, fs_s, fb_t, fb_out, d_sg_0, d_sg_s, m2, m3, m4]
  try grind
theorem g_mi_4_12_12 (M : Int → Int → Int) : d_mi M 4 12 ((4 : Int)).toNat 12 = m2 (fun i j => M (i + 1) (j + 1)) 1 2 1 2 := by
  simp [d_mi_0, d_mi_s, fs_0, fs_s, fb_t, fb_out, d_sg_0, d_sg_s, m2, m3, m4]
  try grind
theorem vd_4_2 {R : Int} (h : d_vd 4 0 2 R) : R = 6 ∨ R = 10 ∨ R = 12 := by
  obtain ⟨h0, h1, h2, h3⟩ := h
  have key : ∀ R : Fin 32, fc_and ((R.val : Nat) : Int) (fc_xor (fb_oth 4 0) (-1)) = 0 → s_pc ((R.val : Nat) : Int) = 2 → ((R.val : Nat) : Int) = 6 ∨ ((R.val : Nat) : Int) = 10 ∨ ((R.val : Nat) : Int) = 12 := by decide +kernel
  exact fz_lt (P := fun R => fc_and R (fc_xor (fb_oth 4 0) (-1)) = 0 → s_pc R = 2 → R = 6 ∨ R = 10 ∨ R = 12) (N := 32) key h0 h1 h2 h3
theorem vi_4_6 : d_vd 4 0 2 6 := ⟨by decide, by decide, by decide +kernel, by decide +kernel⟩
theorem vi_4_10 : d_vd 4 0 2 10 := ⟨by decide, by decide, by decide +kernel, by decide +kernel⟩
theorem vi_4_12 : d_vd 4 0 2 12 := ⟨by decide, by decide, by decide +kernel, by decide +kernel⟩
theorem u_lk_4_2 {M : Int → Int → Int} {d : Int} : (∀ R S : Int, d_vd 4 0 2 R → d_vd 4 0 2 S → d ∣ d_mi M 4 R ((4 : Int)).toNat S) ↔ u_D2 d (fun i j => M (i + 1) (j + 1)) 3 := by
  constructor
  · intro H
    refine u_D2_rc (fun a b e f ha hb he hf q0 q1 => ?_)
    have ha0 := ha.1
    have ha1 := ha.2
    have hb0 := hb.1
    have hb1 := hb.2
    have he0 := he.1
    have he1 := he.2
    have hf0 := hf.1
    have hf1 := hf.2
    have kr : (a = 0 ∧ b = 1) ∨ (a = 0 ∧ b = 2) ∨ (a = 1 ∧ b = 2) := by omega
    have kc : (e = 0 ∧ f = 1) ∨ (e = 0 ∧ f = 2) ∨ (e = 1 ∧ f = 2) := by omega
    rcases kr with ⟨rfl, rfl⟩ | ⟨rfl, rfl⟩ | ⟨rfl, rfl⟩ <;> rcases kc with ⟨rfl, rfl⟩ | ⟨rfl, rfl⟩ | ⟨rfl, rfl⟩
    · have := H 6 6 vi_4_6 vi_4_6
      rw [g_mi_4_6_6] at this
      exact this
    · have := H 6 10 vi_4_6 vi_4_10
      rw [g_mi_4_6_10] at this
      exact this
    · have := H 6 12 vi_4_6 vi_4_12
      rw [g_mi_4_6_12] at this
      exact this
    · have := H 10 6 vi_4_10 vi_4_6
      rw [g_mi_4_10_6] at this
      exact this
    · have := H 10 10 vi_4_10 vi_4_10
      rw [g_mi_4_10_10] at this
      exact this
    · have := H 10 12 vi_4_10 vi_4_12
      rw [g_mi_4_10_12] at this
      exact this
    · have := H 12 6 vi_4_12 vi_4_6
      rw [g_mi_4_12_6] at this
      exact this
    · have := H 12 10 vi_4_12 vi_4_10
      rw [g_mi_4_12_10] at this
      exact this
    · have := H 12 12 vi_4_12 vi_4_12
      rw [g_mi_4_12_12] at this
      exact this
  · intro H R S hR hS
    rcases vd_4_2 hR with rfl | rfl | rfl <;> rcases vd_4_2 hS with rfl | rfl | rfl
    · rw [g_mi_4_6_6]
      exact H 0 1 0 1 ⟨by decide, by decide⟩ ⟨by decide, by decide⟩ ⟨by decide, by decide⟩ ⟨by decide, by decide⟩
    · rw [g_mi_4_6_10]
      exact H 0 1 0 2 ⟨by decide, by decide⟩ ⟨by decide, by decide⟩ ⟨by decide, by decide⟩ ⟨by decide, by decide⟩
    · rw [g_mi_4_6_12]
      exact H 0 1 1 2 ⟨by decide, by decide⟩ ⟨by decide, by decide⟩ ⟨by decide, by decide⟩ ⟨by decide, by decide⟩
    · rw [g_mi_4_10_6]
      exact H 0 2 0 1 ⟨by decide, by decide⟩ ⟨by decide, by decide⟩ ⟨by decide, by decide⟩ ⟨by decide, by decide⟩
    · rw [g_mi_4_10_10]
      exact H 0 2 0 2 ⟨by decide, by decide⟩ ⟨by decide, by decide⟩ ⟨by decide, by decide⟩ ⟨by decide, by decide⟩
    · rw [g_mi_4_10_12]
      exact H 0 2 1 2 ⟨by decide, by decide⟩ ⟨by decide, by decide⟩ ⟨by decide, by decide⟩ ⟨by decide, by decide⟩
    · rw [g_mi_4_12_6]
      exact H 1 2 0 1 ⟨by decide, by decide⟩ ⟨by decide, by decide⟩ ⟨by decide, by decide⟩ ⟨by decide, by decide⟩
    · rw [g_mi_4_12_10]
      exact H 1 2 0 2 ⟨by decide, by decide⟩ ⟨by decide, by decide⟩ ⟨by decide, by decide⟩ ⟨by decide, by decide⟩
    · rw [g_mi_4_12_12]
      exact H 1 2 1 2 ⟨by decide, by decide⟩ ⟨by decide, by decide⟩ ⟨by decide, by decide⟩ ⟨by decide, by decide⟩
theorem g_mi_4_14_14 (M : Int → Int → Int) : d_mi M 4 14 ((4 : Int)).toNat 14 = m3 (fun i j => M (i + 1) (j + 1)) 0 1 2 0 1 2 := by
  simp [d_mi_0, d_mi_s, fs_0, fs_s, fb_t, fb_out, d_sg_0, d_sg_s, m2, m3, m4]
  try grind
theorem vd_4_3 {R : Int} (h : d_vd 4 0 3 R) : R = 14 := by
  obtain ⟨h0, h1, h2, h3⟩ := h
  have key : ∀ R : Fin 32, fc_and ((R.val : Nat) : Int) (fc_xor (fb_oth 4 0) (-1)) = 0 → s_pc ((R.val : Nat) : Int) = 3 → ((R.val : Nat) : Int) = 14 := by decide +kernel
  exact fz_lt (P := fun R => fc_and R (fc_xor (fb_oth 4 0) (-1)) = 0 → s_pc R = 3 → R = 14) (N := 32) key h0 h1 h2 h3
theorem vi_4_14 : d_vd 4 0 3 14 := ⟨by decide, by decide, by decide +kernel, by decide +kernel⟩
theorem u_lk_4_3 {M : Int → Int → Int} {d : Int} : (∀ R S : Int, d_vd 4 0 3 R → d_vd 4 0 3 S → d ∣ d_mi M 4 R ((4 : Int)).toNat S) ↔ u_D3 d (fun i j => M (i + 1) (j + 1)) 3 := by
  constructor
  · intro H
    refine u_D3_rc (fun a b c e f g ha hb hc he hf hg q0 q1 q2 q3 => ?_)
    have ha0 := ha.1
    have ha1 := ha.2
    have hb0 := hb.1
    have hb1 := hb.2
    have hc0 := hc.1
    have hc1 := hc.2
    have he0 := he.1
    have he1 := he.2
    have hf0 := hf.1
    have hf1 := hf.2
    have hg0 := hg.1
    have hg1 := hg.2
    have kr : (a = 0 ∧ b = 1 ∧ c = 2) := by omega
    have kc : (e = 0 ∧ f = 1 ∧ g = 2) := by omega
    rcases kr with ⟨rfl, rfl, rfl⟩ <;> rcases kc with ⟨rfl, rfl, rfl⟩
    · have := H 14 14 vi_4_14 vi_4_14
      rw [g_mi_4_14_14] at this
      exact this
  · intro H R S hR hS
    rcases vd_4_3 hR with rfl <;> rcases vd_4_3 hS with rfl
    · rw [g_mi_4_14_14]
      exact H 0 1 2 0 1 2 ⟨by decide, by decide⟩ ⟨by decide, by decide⟩ ⟨by decide, by decide⟩ ⟨by decide, by decide⟩ ⟨by decide, by decide⟩ ⟨by decide, by decide⟩
theorem g_mi_5_2_2 (M : Int → Int → Int) : d_mi M 5 2 ((5 : Int)).toNat 2 = (M (0 + 1) (0 + 1)) := by
  simp [d_mi_0, d_mi_s, fs_0, fs_s, fb_t, fb_out, d_sg_0, d_sg_s, m2, m3, m4]
theorem g_mi_5_2_4 (M : Int → Int → Int) : d_mi M 5 2 ((5 : Int)).toNat 4 = (M (0 + 1) (1 + 1)) := by
  simp [d_mi_0, d_mi_s, fs_0, fs_s, fb_t, fb_out, d_sg_0, d_sg_s, m2, m3, m4]
theorem g_mi_5_2_8 (M : Int → Int → Int) : d_mi M 5 2 ((5 : Int)).toNat 8 = (M (0 + 1) (2 + 1)) := by
  simp [d_mi_0, d_mi_s, fs_0, fs_s, fb_t, fb_out, d_sg_0, d_sg_s, m2, m3, m4]
theorem g_mi_5_2_16 (M : Int → Int → Int) : d_mi M 5 2 ((5 : Int)).toNat 16 = (M (0 + 1) (3 + 1)) := by
  simp [d_mi_0, d_mi_s, fs_0, fs_s, fb_t, fb_out, d_sg_0, d_sg_s, m2, m3, m4]
theorem g_mi_5_4_2 (M : Int → Int → Int) : d_mi M 5 4 ((5 : Int)).toNat 2 = (M (1 + 1) (0 + 1)) := by
  simp [d_mi_0, d_mi_s, fs_0, fs_s, fb_t, fb_out, d_sg_0, d_sg_s, m2, m3, m4]
theorem g_mi_5_4_4 (M : Int → Int → Int) : d_mi M 5 4 ((5 : Int)).toNat 4 = (M (1 + 1) (1 + 1)) := by
  simp [d_mi_0, d_mi_s, fs_0, fs_s, fb_t, fb_out, d_sg_0, d_sg_s, m2, m3, m4]
theorem g_mi_5_4_8 (M : Int → Int → Int) : d_mi M 5 4 ((5 : Int)).toNat 8 = (M (1 + 1) (2 + 1)) := by
  simp [d_mi_0, d_mi_s, fs_0, fs_s, fb_t, fb_out, d_sg_0, d_sg_s, m2, m3, m4]
theorem g_mi_5_4_16 (M : Int → Int → Int) : d_mi M 5 4 ((5 : Int)).toNat 16 = (M (1 + 1) (3 + 1)) := by
  simp [d_mi_0, d_mi_s, fs_0, fs_s, fb_t, fb_out, d_sg_0, d_sg_s, m2, m3, m4]
theorem g_mi_5_8_2 (M : Int → Int → Int) : d_mi M 5 8 ((5 : Int)).toNat 2 = (M (2 + 1) (0 + 1)) := by
  simp [d_mi_0, d_mi_s, fs_0, fs_s, fb_t, fb_out, d_sg_0, d_sg_s, m2, m3, m4]
theorem g_mi_5_8_4 (M : Int → Int → Int) : d_mi M 5 8 ((5 : Int)).toNat 4 = (M (2 + 1) (1 + 1)) := by
  simp [d_mi_0, d_mi_s, fs_0, fs_s, fb_t, fb_out, d_sg_0, d_sg_s, m2, m3, m4]
theorem g_mi_5_8_8 (M : Int → Int → Int) : d_mi M 5 8 ((5 : Int)).toNat 8 = (M (2 + 1) (2 + 1)) := by
  simp [d_mi_0, d_mi_s, fs_0, fs_s, fb_t, fb_out, d_sg_0, d_sg_s, m2, m3, m4]
theorem g_mi_5_8_16 (M : Int → Int → Int) : d_mi M 5 8 ((5 : Int)).toNat 16 = (M (2 + 1) (3 + 1)) := by
  simp [d_mi_0, d_mi_s, fs_0, fs_s, fb_t, fb_out, d_sg_0, d_sg_s, m2, m3, m4]
theorem g_mi_5_16_2 (M : Int → Int → Int) : d_mi M 5 16 ((5 : Int)).toNat 2 = (M (3 + 1) (0 + 1)) := by
  simp [d_mi_0, d_mi_s, fs_0, fs_s, fb_t, fb_out, d_sg_0, d_sg_s, m2, m3, m4]
theorem g_mi_5_16_4 (M : Int → Int → Int) : d_mi M 5 16 ((5 : Int)).toNat 4 = (M (3 + 1) (1 + 1)) := by
  simp [d_mi_0, d_mi_s, fs_0, fs_s, fb_t, fb_out, d_sg_0, d_sg_s, m2, m3, m4]
theorem g_mi_5_16_8 (M : Int → Int → Int) : d_mi M 5 16 ((5 : Int)).toNat 8 = (M (3 + 1) (2 + 1)) := by
  simp [d_mi_0, d_mi_s, fs_0, fs_s, fb_t, fb_out, d_sg_0, d_sg_s, m2, m3, m4]
theorem g_mi_5_16_16 (M : Int → Int → Int) : d_mi M 5 16 ((5 : Int)).toNat 16 = (M (3 + 1) (3 + 1)) := by
  simp [d_mi_0, d_mi_s, fs_0, fs_s, fb_t, fb_out, d_sg_0, d_sg_s, m2, m3, m4]
theorem vd_5_1 {R : Int} (h : d_vd 5 0 1 R) : R = 2 ∨ R = 4 ∨ R = 8 ∨ R = 16 := by
  obtain ⟨h0, h1, h2, h3⟩ := h
  have key : ∀ R : Fin 32, fc_and ((R.val : Nat) : Int) (fc_xor (fb_oth 5 0) (-1)) = 0 → s_pc ((R.val : Nat) : Int) = 1 → ((R.val : Nat) : Int) = 2 ∨ ((R.val : Nat) : Int) = 4 ∨ ((R.val : Nat) : Int) = 8 ∨ ((R.val : Nat) : Int) = 16 := by decide +kernel
  exact fz_lt (P := fun R => fc_and R (fc_xor (fb_oth 5 0) (-1)) = 0 → s_pc R = 1 → R = 2 ∨ R = 4 ∨ R = 8 ∨ R = 16) (N := 32) key h0 h1 h2 h3
theorem vi_5_2 : d_vd 5 0 1 2 := ⟨by decide, by decide, by decide +kernel, by decide +kernel⟩
theorem vi_5_4 : d_vd 5 0 1 4 := ⟨by decide, by decide, by decide +kernel, by decide +kernel⟩
theorem vi_5_8 : d_vd 5 0 1 8 := ⟨by decide, by decide, by decide +kernel, by decide +kernel⟩
theorem vi_5_16 : d_vd 5 0 1 16 := ⟨by decide, by decide, by decide +kernel, by decide +kernel⟩
theorem u_lk_5_1 {M : Int → Int → Int} {d : Int} : (∀ R S : Int, d_vd 5 0 1 R → d_vd 5 0 1 S → d ∣ d_mi M 5 R ((5 : Int)).toNat S) ↔ u_D1 d (fun i j => M (i + 1) (j + 1)) 4 := by
  constructor
  · intro H
    intro a e ha he
    have ha0 := ha.1
    have ha1 := ha.2
    have he0 := he.1
    have he1 := he.2
    have kr : (a = 0) ∨ (a = 1) ∨ (a = 2) ∨ (a = 3) := by omega
    have kc : (e = 0) ∨ (e = 1) ∨ (e = 2) ∨ (e = 3) := by omega
    rcases kr with rfl | rfl | rfl | rfl <;> rcases kc with rfl | rfl | rfl | rfl
    · have := H 2 2 vi_5_2 vi_5_2
      rw [g_mi_5_2_2] at this
      exact this
    · have := H 2 4 vi_5_2 vi_5_4
      rw [g_mi_5_2_4] at this
      exact this
    · have := H 2 8 vi_5_2 vi_5_8
      rw [g_mi_5_2_8] at this
      exact this
    · have := H 2 16 vi_5_2 vi_5_16
      rw [g_mi_5_2_16] at this
      exact this
    · have := H 4 2 vi_5_4 vi_5_2
      rw [g_mi_5_4_2] at this
      exact this
    · have := H 4 4 vi_5_4 vi_5_4
      rw [g_mi_5_4_4] at this
      exact this
    · have := H 4 8 vi_5_4 vi_5_8
      rw [g_mi_5_4_8] at this
      exact this
    · have := H 4 16 vi_5_4 vi_5_16
      rw [g_mi_5_4_16] at this
      exact this
    · have := H 8 2 vi_5_8 vi_5_2
      rw [g_mi_5_8_2] at this
      exact this
    · have := H 8 4 vi_5_8 vi_5_4
      rw [g_mi_5_8_4] at this
      exact this
    · have := H 8 8 vi_5_8 vi_5_8
      rw [g_mi_5_8_8] at this
      exact this
    · have := H 8 16 vi_5_8 vi_5_16
      rw [g_mi_5_8_16] at this
      exact this
    · have := H 16 2 vi_5_16 vi_5_2
      rw [g_mi_5_16_2] at this
      exact this
    · have := H 16 4 vi_5_16 vi_5_4
      rw [g_mi_5_16_4] at this
      exact this
    · have := H 16 8 vi_5_16 vi_5_8
      rw [g_mi_5_16_8] at this
      exact this
    · have := H 16 16 vi_5_16 vi_5_16
      rw [g_mi_5_16_16] at this
      exact this
  · intro H R S hR hS
    rcases vd_5_1 hR with rfl | rfl | rfl | rfl <;> rcases vd_5_1 hS with rfl | rfl | rfl | rfl
    · rw [g_mi_5_2_2]
      exact H 0 0 ⟨by decide, by decide⟩ ⟨by decide, by decide⟩
    · rw [g_mi_5_2_4]
      exact H 0 1 ⟨by decide, by decide⟩ ⟨by decide, by decide⟩
    · rw [g_mi_5_2_8]
      exact H 0 2 ⟨by decide, by decide⟩ ⟨by decide, by decide⟩
    · rw [g_mi_5_2_16]
      exact H 0 3 ⟨by decide, by decide⟩ ⟨by decide, by decide⟩
    · rw [g_mi_5_4_2]
      exact H 1 0 ⟨by decide, by decide⟩ ⟨by decide, by decide⟩
    · rw [g_mi_5_4_4]
      exact H 1 1 ⟨by decide, by decide⟩ ⟨by decide, by decide⟩
    · rw [g_mi_5_4_8]
      exact H 1 2 ⟨by decide, by decide⟩ ⟨by decide, by decide⟩
    · rw [g_mi_5_4_16]
      exact H 1 3 ⟨by decide, by decide⟩ ⟨by decide, by decide⟩
    · rw [g_mi_5_8_2]
      exact H 2 0 ⟨by decide, by decide⟩ ⟨by decide, by decide⟩
    · rw [g_mi_5_8_4]
      exact H 2 1 ⟨by decide, by decide⟩ ⟨by decide, by decide⟩
    · rw [g_mi_5_8_8]
      exact H 2 2 ⟨by decide, by decide⟩ ⟨by decide, by decide⟩
    · rw [g_mi_5_8_16]
      exact H 2 3 ⟨by decide, by decide⟩ ⟨by decide, by decide⟩
    · rw [g_mi_5_16_2]
      exact H 3 0 ⟨by decide, by decide⟩ ⟨by decide, by decide⟩
    · rw [g_mi_5_16_4]
      exact H 3 1 ⟨by decide, by decide⟩ ⟨by decide, by decide⟩
    · rw [g_mi_5_16_8]
      exact H 3 2 ⟨by decide, by decide⟩ ⟨by decide, by decide⟩
    · rw [g_mi_5_16_16]
      exact H 3 3 ⟨by decide, by decide⟩ ⟨by decide, by decide⟩
theorem g_mi_5_6_6 (M : Int → Int → Int) : d_mi M 5 6 ((5 : Int)).toNat 6 = m2 (fun i j => M (i + 1) (j + 1)) 0 1 0 1 := by
  simp [d_mi_0, d_mi_s, fs_0, fs_s, fb_t, fb_out, d_sg_0, d_sg_s, m2, m3, m4]
  try grind
theorem g_mi_5_6_10 (M : Int → Int → Int) : d_mi M 5 6 ((5 : Int)).toNat 10 = m2 (fun i j => M (i + 1) (j + 1)) 0 1 0 2 := by
  simp [d_mi_0, d_mi_s, fs_0, fs_s, fb_t, fb_out, d_sg_0, d_sg_s, m2, m3, m4]
  try grind
theorem g_mi_5_6_18 (M : Int → Int → Int) : d_mi M 5 6 ((5 : Int)).toNat 18 = m2 (fun i j => M (i + 1) (j + 1)) 0 1 0 3 := by
  simp [d_mi_0, d_mi_s, fs_0, fs_s, fb_t, fb_out, d_sg_0, d_sg_s, m2, m3, m4]
  try grind
theorem g_mi_5_6_12 (M : Int → Int → Int) : d_mi M 5 6 ((5 : Int)).toNat 12 = m2 (fun i j => M (i + 1) (j + 1)) 0 1 1 2 := by
  simp [d_mi_0, d_mi_s, fs_0, fs_s, fb_t, fb_out, d_sg_0, d_sg_s, m2, m3, m4]
  try grind
theorem g_mi_5_6_20 (M : Int → Int → Int) : d_mi M 5 6 ((5 : Int)).toNat 20 = m2 (fun i j => M (i + 1) (j + 1)) 0 1 1 3 := by
  simp [d_mi_0, d_mi_s, fs_0, fs_s, fb_t, fb_out, d_sg_0, d_sg_s, m2, m3, m4]
  try grind
theorem g_mi_5_6_24 (M : Int → Int → Int) : d_mi M 5 6 ((5 : Int)).toNat 24 = m2 (fun i j => M (i + 1) (j + 1)) 0 1 2 3 := by
  simp [d_mi_0, d_mi_s, fs_0, fs_s, fb_t, fb_out, d_sg_0, d_sg_s, m2, m3, m4]
  try grind
theorem g_mi_5_10_6 (M : Int → Int → Int) : d_mi M 5 10 ((5 : Int)).toNat 6 = m2 (fun i j => M (i + 1) (j + 1)) 0 2 0 1 := by
  simp [d_mi_0, d_mi_s, fs_0, fs_s, fb_t, fb_out, d_sg_0, d_sg_s, m2, m3, m4]
  try grind
theorem g_mi_5_10_10 (M : Int → Int → Int) : d_mi M 5 10 ((5 : Int)).toNat 10 = m2 (fun i j => M (i + 1) (j + 1)) 0 2 0 2 := by
  simp [d_mi_0, d_mi_s, fs_0, fs_s, fb_t, fb_out, d_sg_0, d_sg_s, m2, m3, m4]
  try grind
theorem g_mi_5_10_18 (M : Int → Int → Int) : d_mi M 5 10 ((5 : Int)).toNat 18 = m2 (fun i j => M (i + 1) (j + 1)) 0 2 0 3 := by
  simp [d_mi_0, d_mi_s, fs_0, fs_s, fb_t, fb_out, d_sg_0, d_sg_s, m2, m3, m4]
  try grind
theorem g_mi_5_10_12 (M : Int → Int → Int) : d_mi M 5 10 ((5 : Int)).toNat 12 = m2 (fun i j => M (i + 1) (j + 1)) 0 2 1 2 := by
  simp [d_mi_0, d_mi_s, fs_0, fs_s, fb_t, fb_out, d_sg_0, d_sg_s, m2, m3, m4]
  try grind
theorem g_mi_5_10_20 (M : Int → Int → Int) : d_mi M 5 10 ((5 : Int)).toNat 20 = m2 (fun i j => M (i + 1) (j + 1)) 0 2 1 3 := by
  simp [d_mi_0, d_mi_s, fs_0, fs_s, fb_t, fb_out, d_sg_0, d_sg_s, m2, m3, m4]
  try grind
theorem g_mi_5_10_24 (M : Int → Int → Int) : d_mi M 5 10 ((5 : Int)).toNat 24 = m2 (fun i j => M (i + 1) (j + 1)) 0 2 2 3 := by
  simp [d_mi_0, d_mi_s, fs_0, fs_s, fb_t, fb_out, d_sg_0, d_sg_s, m2, m3, m4]
  try grind
theorem g_mi_5_18_6 (M : Int → Int → Int) : d_mi M 5 18 ((5 : Int)).toNat 6 = m2 (fun i j => M (i + 1) (j + 1)) 0 3 0 1 := by
  simp [d_mi_0, d_mi_s, fs_0, fs_s, fb_t, fb_out, d_sg_0, d_sg_s, m2, m3, m4]
  try grind
theorem g_mi_5_18_10 (M : Int → Int → Int) : d_mi M 5 18 ((5 : Int)).toNat 10 = m2 (fun i j => M (i + 1) (j + 1)) 0 3 0 2 := by
  simp [d_mi_0, d_mi_s, fs_0, fs_s, fb_t, fb_out, d_sg_0, d_sg_s, m2, m3, m4]
  try grind
theorem g_mi_5_18_18 (M : Int → Int → Int) : d_mi M 5 18 ((5 : Int)).toNat 18 = m2 (fun i j => M (i + 1) (j + 1)) 0 3 0 3 := by
  simp [d_mi_0, d_mi_s, fs_0, fs_s, fb_t, fb_out, d_sg_0, d_sg_s, m2, m3, m4]
  try grind
theorem g_mi_5_18_12 (M : Int → Int → Int) : d_mi M 5 18 ((5 : Int)).toNat 12 = m2 (fun i j => M (i + 1) (j + 1)) 0 3 1 2 := by
  simp [d_mi_0, d_mi_s, fs_0, fs_s, fb_t, fb_out, d_sg_0, d_sg_s, m2, m3, m4]
  try grind
theorem g_mi_5_18_20 (M : Int → Int → Int) : d_mi M 5 18 ((5 : Int)).toNat 20 = m2 (fun i j => M (i + 1) (j + 1)) 0 3 1 3 := by
  simp [d_mi_0, d_mi_s, fs_0, fs_s, fb_t, fb_out, d_sg_0, d_sg_s, m2, m3, m4]
  try grind
theorem g_mi_5_18_24 (M : Int → Int → Int) : d_mi M 5 18 ((5 : Int)).toNat 24 = m2 (fun i j => M (i + 1) (j + 1)) 0 3 2 3 := by
  simp [d_mi_0, d_mi_s, fs_0, fs_s, fb_t, fb_out, d_sg_0, d_sg_s, m2, m3, m4]
  try grind
theorem g_mi_5_12_6 (M : Int → Int → Int) : d_mi M 5 12 ((5 : Int)).toNat 6 = m2 (fun i j => M (i + 1) (j + 1)) 1 2 0 1 := by
  simp [d_mi_0, d_mi_s, fs_0, fs_s, fb_t, fb_out, d_sg_0, d_sg_s, m2, m3, m4]
  try grind
theorem g_mi_5_12_10 (M : Int → Int → Int) : d_mi M 5 12 ((5 : Int)).toNat 10 = m2 (fun i j => M (i + 1) (j + 1)) 1 2 0 2 := by
  simp [d_mi_0, d_mi_s, fs_0, fs_s, fb_t, fb_out, d_sg_0, d_sg_s, m2, m3, m4]
  try grind
theorem g_mi_5_12_18 (M : Int → Int → Int) : d_mi M 5 12 ((5 : Int)).toNat 18 = m2 (fun i j => M (i + 1) (j + 1)) 1 2 0 3 := by
  simp [d_mi_0, d_mi_s, fs_0, fs_s, fb_t, fb_out, d_sg_0, d_sg_s, m2, m3, m4]
  try grind
theorem g_mi_5_12_12 (M : Int → Int → Int) : d_mi M 5 12 ((5 : Int)).toNat 12 = m2 (fun i j => M (i + 1) (j + 1)) 1 2 1 2 := by
  simp [d_mi_0, d_mi_s, fs_0, fs_s, fb_t, fb_out, d_sg_0, d_sg_s, m2, m3, m4]
  try grind
theorem g_mi_5_12_20 (M : Int → Int → Int) : d_mi M 5 12 ((5 : Int)).toNat 20 = m2 (fun i j => M (i + 1) (j + 1)) 1 2 1 3 := by
  simp [d_mi_0, d_mi_s, fs_0, fs_s, fb_t, fb_out, d_sg_0, d_sg_s, m2, m3, m4]
  try grind
theorem g_mi_5_12_24 (M : Int → Int → Int) : d_mi M 5 12 ((5 : Int)).toNat 24 = m2 (fun i j => M (i + 1) (j + 1)) 1 2 2 3 := by
  simp [d_mi_0, d_mi_s, fs_0, fs_s, fb_t, fb_out, d_sg_0, d_sg_s, m2, m3, m4]
  try grind
theorem g_mi_5_20_6 (M : Int → Int → Int) : d_mi M 5 20 ((5 : Int)).toNat 6 = m2 (fun i j => M (i + 1) (j + 1)) 1 3 0 1 := by
  simp [d_mi_0, d_mi_s, fs_0, fs_s, fb_t, fb_out, d_sg_0, d_sg_s, m2, m3, m4]
  try grind
theorem g_mi_5_20_10 (M : Int → Int → Int) : d_mi M 5 20 ((5 : Int)).toNat 10 = m2 (fun i j => M (i + 1) (j + 1)) 1 3 0 2 := by
  simp [d_mi_0, d_mi_s, fs_0, fs_s, fb_t, fb_out, d_sg_0, d_sg_s, m2, m3, m4]
  try grind
theorem g_mi_5_20_18 (M : Int → Int → Int) : d_mi M 5 20 ((5 : Int)).toNat 18 = m2 (fun i j => M (i + 1) (j + 1)) 1 3 0 3 := by
  simp [d_mi_0, d_mi_s, fs_0, fs_s, fb_t, fb_out, d_sg_0, d_sg_s, m2, m3, m4]
  try grind
theorem g_mi_5_20_12 (M : Int → Int → Int) : d_mi M 5 20 ((5 : Int)).toNat 12 = m2 (fun i j => M (i + 1) (j + 1)) 1 3 1 2 := by
  simp [d_mi_0, d_mi_s, fs_0, fs_s, fb_t, fb_out, d_sg_0, d_sg_s, m2, m3, m4]
  try grind
theorem g_mi_5_20_20 (M : Int → Int → Int) : d_mi M 5 20 ((5 : Int)).toNat 20 = m2 (fun i j => M (i + 1) (j + 1)) 1 3 1 3 := by
  simp [d_mi_0, d_mi_s, fs_0, fs_s, fb_t, fb_out, d_sg_0, d_sg_s, m2, m3, m4]
  try grind
theorem g_mi_5_20_24 (M : Int → Int → Int) : d_mi M 5 20 ((5 : Int)).toNat 24 = m2 (fun i j => M (i + 1) (j + 1)) 1 3 2 3 := by
  simp [d_mi_0, d_mi_s, fs_0, fs_s, fb_t, fb_out, d_sg_0, d_sg_s, m2, m3, m4]
  try grind
theorem g_mi_5_24_6 (M : Int → Int → Int) : d_mi M 5 24 ((5 : Int)).toNat 6 = m2 (fun i j => M (i + 1) (j + 1)) 2 3 0 1 := by
  simp [d_mi_0, d_mi_s, fs_0, fs_s, fb_t, fb_out, d_sg_0, d_sg_s, m2, m3, m4]
  try grind
theorem g_mi_5_24_10 (M : Int → Int → Int) : d_mi M 5 24 ((5 : Int)).toNat 10 = m2 (fun i j => M (i + 1) (j + 1)) 2 3 0 2 := by
  simp [d_mi_0, d_mi_s, fs_0, fs_s, fb_t, fb_out, d_sg_0, d_sg_s, m2, m3, m4]
  try grind
theorem g_mi_5_24_18 (M : Int → Int → Int) : d_mi M 5 24 ((5 : Int)).toNat 18 = m2 (fun i j => M (i + 1) (j + 1)) 2 3 0 3 := by
  simp [d_mi_0, d_mi_s, fs_0, fs_s, fb_t, fb_out, d_sg_0, d_sg_s, m2, m3, m4]
  try grind
theorem g_mi_5_24_12 (M : Int → Int → Int) : d_mi M 5 24 ((5 : Int)).toNat 12 = m2 (fun i j => M (i + 1) (j + 1)) 2 3 1 2 := by
  simp [d_mi_0, d_mi_s, fs_0, fs_s, fb_t, fb_out, d_sg_0, d_sg_s, m2, m3, m4]
  try grind
theorem g_mi_5_24_20 (M : Int → Int → Int) : d_mi M 5 24 ((5 : Int)).toNat 20 = m2 (fun i j => M (i + 1) (j + 1)) 2 3 1 3 := by
  simp [d_mi_0, d_mi_s, fs_0, fs_s, fb_t, fb_out, d_sg_0, d_sg_s, m2, m3, m4]
  try grind
theorem g_mi_5_24_24 (M : Int → Int → Int) : d_mi M 5 24 ((5 : Int)).toNat 24 = m2 (fun i j => M (i + 1) (j + 1)) 2 3 2 3 := by
  simp [d_mi_0, d_mi_s, fs_0, fs_s, fb_t, fb_out, d_sg_0, d_sg_s, m2, m3, m4]
  try grind
theorem vd_5_2 {R : Int} (h : d_vd 5 0 2 R) : R = 6 ∨ R = 10 ∨ R = 18 ∨ R = 12 ∨ R = 20 ∨ R = 24 := by
  obtain ⟨h0, h1, h2, h3⟩ := h
  have key : ∀ R : Fin 32, fc_and ((R.val : Nat) : Int) (fc_xor (fb_oth 5 0) (-1)) = 0 → s_pc ((R.val : Nat) : Int) = 2 → ((R.val : Nat) : Int) = 6 ∨ ((R.val : Nat) : Int) = 10 ∨ ((R.val : Nat) : Int) = 18 ∨ ((R.val : Nat) : Int) = 12 ∨ ((R.val : Nat) : Int) = 20 ∨ ((R.val : Nat) : Int) = 24 := by decide +kernel
  exact fz_lt (P := fun R => fc_and R (fc_xor (fb_oth 5 0) (-1)) = 0 → s_pc R = 2 → R = 6 ∨ R = 10 ∨ R = 18 ∨ R = 12 ∨ R = 20 ∨ R = 24) (N := 32) key h0 h1 h2 h3
theorem vi_5_6 : d_vd 5 0 2 6 := ⟨by decide, by decide, by decide +kernel, by decide +kernel⟩
theorem vi_5_10 : d_vd 5 0 2 10 := ⟨by decide, by decide, by decide +kernel, by decide +kernel⟩
theorem vi_5_18 : d_vd 5 0 2 18 := ⟨by decide, by decide, by decide +kernel, by decide +kernel⟩
theorem vi_5_12 : d_vd 5 0 2 12 := ⟨by decide, by decide, by decide +kernel, by decide +kernel⟩
theorem vi_5_20 : d_vd 5 0 2 20 := ⟨by decide, by decide, by decide +kernel, by decide +kernel⟩
theorem vi_5_24 : d_vd 5 0 2 24 := ⟨by decide, by decide, by decide +kernel, by decide +kernel⟩
theorem u_lk_5_2 {M : Int → Int → Int} {d : Int} : (∀ R S : Int, d_vd 5 0 2 R → d_vd 5 0 2 S → d ∣ d_mi M 5 R ((5 : Int)).toNat S) ↔ u_D2 d (fun i j => M (i + 1) (j + 1)) 4 := by
  constructor
  · intro H
    refine u_D2_rc (fun a b e f ha hb he hf q0 q1 => ?_)
    have ha0 := ha.1
    have ha1 := ha.2
    have hb0 := hb.1
    have hb1 := hb.2
    have he0 := he.1
    have he1 := he.2
    have hf0 := hf.1
    have hf1 := hf.2
    have kr : (a = 0 ∧ b = 1) ∨ (a = 0 ∧ b = 2) ∨ (a = 0 ∧ b = 3) ∨ (a = 1 ∧ b = 2) ∨ (a = 1 ∧ b = 3) ∨ (a = 2 ∧ b = 3) := by omega
    have kc : (e = 0 ∧ f = 1) ∨ (e = 0 ∧ f = 2) ∨ (e = 0 ∧ f = 3) ∨ (e = 1 ∧ f = 2) ∨ (e = 1 ∧ f = 3) ∨ (e = 2 ∧ f = 3) := by omega
    rcases kr with ⟨rfl, rfl⟩ | ⟨rfl, rfl⟩ | ⟨rfl, rfl⟩ | ⟨rfl, rfl⟩ | ⟨rfl, rfl⟩ | ⟨rfl, rfl⟩ <;> rcases kc with ⟨rfl, rfl⟩ | ⟨rfl, rfl⟩ | ⟨rfl, rfl⟩ | ⟨rfl, rfl⟩ | ⟨rfl, rfl⟩ | ⟨rfl, rfl⟩
    · have := H 6 6 vi_5_6 vi_5_6
      rw [g_mi_5_6_6] at this
      exact this
    · have := H 6 10 vi_5_6 vi_5_10
      rw [g_mi_5_6_10] at this
      exact this
    · have := H 6 18 vi_5_6 vi_5_18
      rw [g_mi_5_6_18] at this
      exact this
    · have := H 6 12 vi_5_6 vi_5_12
      rw [g_mi_5_6_12] at this
      exact this
    · have := H 6 20 vi_5_6 vi_5_20
      rw [g_mi_5_6_20] at this
      exact this
    · have := H 6 24 vi_5_6 vi_5_24
      rw [g_mi_5_6_24] at this
      exact this
    · have := H 10 6 vi_5_10 vi_5_6
      rw [g_mi_5_10_6] at this
      exact this
    · have := H 10 10 vi_5_10 vi_5_10
      rw [g_mi_5_10_10] at this
      exact this
    · have := H 10 18 vi_5_10 vi_5_18
      rw [g_mi_5_10_18] at this
      exact this
    · have := H 10 12 vi_5_10 vi_5_12
      rw [g_mi_5_10_12] at this
      exact this
    · have := H 10 20 vi_5_10 vi_5_20
      rw [g_mi_5_10_20] at this
      exact this
    · have := H 10 24 vi_5_10 vi_5_24
      rw [g_mi_5_10_24] at this
      exact this
    · have := H 18 6 vi_5_18 vi_5_6
      rw [g_mi_5_18_6] at this
      exact this
    · have := H 18 10 vi_5_18 vi_5_10
      rw [g_mi_5_18_10] at this
      exact this
    · have := H 18 18 vi_5_18 vi_5_18
      rw [g_mi_5_18_18] at this
      exact this
    · have := H 18 12 vi_5_18 vi_5_12
      rw [g_mi_5_18_12] at this
      exact this
    · have := H 18 20 vi_5_18 vi_5_20
      rw [g_mi_5_18_20] at this
      exact this
    · have := H 18 24 vi_5_18 vi_5_24
      rw [g_mi_5_18_24] at this
      exact this
    · have := H 12 6 vi_5_12 vi_5_6
      rw [g_mi_5_12_6] at this
      exact this
    · have := H 12 10 vi_5_12 vi_5_10
      rw [g_mi_5_12_10] at this
      exact this
    · have := H 12 18 vi_5_12 vi_5_18
      rw [g_mi_5_12_18] at this
      exact this
    · have := H 12 12 vi_5_12 vi_5_12
      rw [g_mi_5_12_12] at this
      exact this
    · have := H 12 20 vi_5_12 vi_5_20
      rw [g_mi_5_12_20] at this
      exact this
    · have := H 12 24 vi_5_12 vi_5_24
      rw [g_mi_5_12_24] at this
      exact this
    · have := H 20 6 vi_5_20 vi_5_6
      rw [g_mi_5_20_6] at this
      exact this
    · have := H 20 10 vi_5_20 vi_5_10
      rw [g_mi_5_20_10] at this
      exact this
    · have := H 20 18 vi_5_20 vi_5_18
      rw [g_mi_5_20_18] at this
      exact this
    · have := H 20 12 vi_5_20 vi_5_12
      rw [g_mi_5_20_12] at this
      exact this
    · have := H 20 20 vi_5_20 vi_5_20
      rw [g_mi_5_20_20] at this
      exact this
    · have := H 20 24 vi_5_20 vi_5_24
      rw [g_mi_5_20_24] at this
      exact this
    · have := H 24 6 vi_5_24 vi_5_6
      rw [g_mi_5_24_6] at this
      exact this
    · have := H 24 10 vi_5_24 vi_5_10
      rw [g_mi_5_24_10] at this
      exact this
    · have := H 24 18 vi_5_24 vi_5_18
      rw [g_mi_5_24_18] at this
      exact this
    · have := H 24 12 vi_5_24 vi_5_12
      rw [g_mi_5_24_12] at this
      exact this
    · have := H 24 20 vi_5_24 vi_5_20
      rw [g_mi_5_24_20] at this
      exact this
    · have := H 24 24 vi_5_24 vi_5_24
      rw [g_mi_5_24_24] at this
      exact this
  · intro H R S hR hS
    rcases vd_5_2 hR with rfl | rfl | rfl | rfl | rfl | rfl <;> rcases vd_5_2 hS with rfl | rfl | rfl | rfl | rfl | rfl
    · rw [g_mi_5_6_6]
      exact H 0 1 0 1 ⟨by decide, by decide⟩ ⟨by decide, by decide⟩ ⟨by decide, by decide⟩ ⟨by decide, by decide⟩
    · rw [g_mi_5_6_10]
      exact H 0 1 0 2 ⟨by decide, by decide⟩ ⟨by decide, by decide⟩ ⟨by decide, by decide⟩ ⟨by decide, by decide⟩
    · rw [g_mi_5_6_18]
      exact H 0 1 0 3 ⟨by decide, by decide⟩ ⟨by decide, by decide⟩ ⟨by decide, by decide⟩ ⟨by decide, by decide⟩
    · rw [g_mi_5_6_12]
      exact H 0 1 1 2 ⟨by decide, by decide⟩ ⟨by decide, by decide⟩ ⟨by decide, by decide⟩ ⟨by decide, by decide⟩
    · rw [g_mi_5_6_20]
      exact H 0 1 1 3 ⟨by decide, by decide⟩ ⟨by decide, by decide⟩ ⟨by decide, by decide⟩ ⟨by decide, by decide⟩
    · rw [g_mi_5_6_24]
      exact H 0 1 2 3 ⟨by decide, by decide⟩ ⟨by decide, by decide⟩ ⟨by decide, by decide⟩ ⟨by decide, by decide⟩
    · rw [g_mi_5_10_6]
      exact H 0 2 0 1 ⟨by decide, by decide⟩ ⟨by decide, by decide⟩ ⟨by decide, by decide⟩ ⟨by decide, by decide⟩
    · rw [g_mi_5_10_10]
      exact H 0 2 0 2 ⟨by decide, by decide⟩ ⟨by decide, by decide⟩ ⟨by decide, by decide⟩ ⟨by decide, by decide⟩
    · rw [g_mi_5_10_18]
      exact H 0 2 0 3 ⟨by decide, by decide⟩ ⟨by decide, by decide⟩ ⟨by decide, by decide⟩ ⟨by decide, by decide⟩
    · rw [g_mi_5_10_12]
      exact H 0 2 1 2 ⟨by decide, by decide⟩ ⟨by decide, by decide⟩ ⟨by decide, by decide⟩ ⟨by decide, by decide⟩
    · rw [g_mi_5_10_20]
      exact H 0 2 1 3 ⟨by decide, by decide⟩ ⟨by decide, by decide⟩ ⟨by decide, by decide⟩ ⟨by decide, by decide⟩
    · rw [g_mi_5_10_24]
      exact H 0 2 2 3 ⟨by decide, by decide⟩ ⟨by decide, by decide⟩ ⟨by decide, by decide⟩ ⟨by decide, by decide⟩
    · rw [g_mi_5_18_6]
      exact H 0 3 0 1 ⟨by decide, by decide⟩ ⟨by decide, by decide⟩ ⟨by decide, by decide⟩ ⟨by decide, by decide⟩
    · rw [g_mi_5_18_10]
      exact H 0 3 0 2 ⟨by decide, by decide⟩ ⟨by decide, by decide⟩ ⟨by decide, by decide⟩ ⟨by decide, by decide⟩
    · rw [g_mi_5_18_18]
      exact H 0 3 0 3 ⟨by decide, by decide⟩ ⟨by decide, by decide⟩ ⟨by decide, by decide⟩ ⟨by decide, by decide⟩
    · rw [g_mi_5_18_12]
      exact H 0 3 1 2 ⟨by decide, by decide⟩ ⟨by decide, by decide⟩ ⟨by decide, by decide⟩ ⟨by decide, by decide⟩
    · rw [g_mi_5_18_20]
      exact H 0 3 1 3 ⟨by decide, by decide⟩ ⟨by decide, by decide⟩ ⟨by decide, by decide⟩ ⟨by decide, by decide⟩
    · rw [g_mi_5_18_24]
      exact H 0 3 2 3 ⟨by decide, by decide⟩ ⟨by decide, by decide⟩ ⟨by decide, by decide⟩ ⟨by decide, by decide⟩
    · rw [g_mi_5_12_6]
      exact H 1 2 0 1 ⟨by decide, by decide⟩ ⟨by decide, by decide⟩ ⟨by decide, by decide⟩ ⟨by decide, by decide⟩
    · rw [g_mi_5_12_10]
      exact H 1 2 0 2 ⟨by decide, by decide⟩ ⟨by decide, by decide⟩ ⟨by decide, by decide⟩ ⟨by decide, by decide⟩
    · rw [g_mi_5_12_18]
      exact H 1 2 0 3 ⟨by decide, by decide⟩ ⟨by decide, by decide⟩ ⟨by decide, by decide⟩ ⟨by decide, by decide⟩
    · rw [g_mi_5_12_12]
      exact H 1 2 1 2 ⟨by decide, by decide⟩ ⟨by decide, by decide⟩ ⟨by decide, by decide⟩ ⟨by decide, by decide⟩
    · rw [g_mi_5_12_20]
      exact H 1 2 1 3 ⟨by decide, by decide⟩ ⟨by decide, by decide⟩ ⟨by decide, by decide⟩ ⟨by decide, by decide⟩
    · rw [g_mi_5_12_24]
      exact H 1 2 2 3 ⟨by decide, by decide⟩ ⟨by decide, by decide⟩ ⟨by decide, by decide⟩ ⟨by decide, by decide⟩
    · rw [g_mi_5_20_6]
      exact H 1 3 0 1 ⟨by decide, by decide⟩ ⟨by decide, by decide⟩ ⟨by decide, by decide⟩ ⟨by decide, by decide⟩
    · rw [g_mi_5_20_10]
      exact H 1 3 0 2 ⟨by decide, by decide⟩ ⟨by decide, by decide⟩ ⟨by decide, by decide⟩ ⟨by decide, by decide⟩
    · rw [g_mi_5_20_18]
      exact H 1 3 0 3 ⟨by decide, by decide⟩ ⟨by decide, by decide⟩ ⟨by decide, by decide⟩ ⟨by decide, by decide⟩
    · rw [g_mi_5_20_12]
      exact H 1 3 1 2 ⟨by decide, by decide⟩ ⟨by decide, by decide⟩ ⟨by decide, by decide⟩ ⟨by decide, by decide⟩
    · rw [g_mi_5_20_20]
      exact H 1 3 1 3 ⟨by decide, by decide⟩ ⟨by decide, by decide⟩ ⟨by decide, by decide⟩ ⟨by decide, by decide⟩
    · rw [g_mi_5_20_24]
      exact H 1 3 2 3 ⟨by decide, by decide⟩ ⟨by decide, by decide⟩ ⟨by decide, by decide⟩ ⟨by decide, by decide⟩
    · rw [g_mi_5_24_6]
      exact H 2 3 0 1 ⟨by decide, by decide⟩ ⟨by decide, by decide⟩ ⟨by decide, by decide⟩ ⟨by decide, by decide⟩
    · rw [g_mi_5_24_10]
      exact H 2 3 0 2 ⟨by decide, by decide⟩ ⟨by decide, by decide⟩ ⟨by decide, by decide⟩ ⟨by decide, by decide⟩
    · rw [g_mi_5_24_18]
      exact H 2 3 0 3 ⟨by decide, by decide⟩ ⟨by decide, by decide⟩ ⟨by decide, by decide⟩ ⟨by decide, by decide⟩
    · rw [g_mi_5_24_12]
      exact H 2 3 1 2 ⟨by decide, by decide⟩ ⟨by decide, by decide⟩ ⟨by decide, by decide⟩ ⟨by decide, by decide⟩
    · rw [g_mi_5_24_20]
      exact H 2 3 1 3 ⟨by decide, by decide⟩ ⟨by decide, by decide⟩ ⟨by decide, by decide⟩ ⟨by decide, by decide⟩
    · rw [g_mi_5_24_24]
      exact H 2 3 2 3 ⟨by decide, by decide⟩ ⟨by decide, by decide⟩ ⟨by decide, by decide⟩ ⟨by decide, by decide⟩
theorem g_mi_5_14_14 (M : Int → Int → Int) : d_mi M 5 14 ((5 : Int)).toNat 14 = m3 (fun i j => M (i + 1) (j + 1)) 0 1 2 0 1 2 := by
  simp [d_mi_0, d_mi_s, fs_0, fs_s, fb_t, fb_out, d_sg_0, d_sg_s, m2, m3, m4]
  try grind
theorem g_mi_5_14_22 (M : Int → Int → Int) : d_mi M 5 14 ((5 : Int)).toNat 22 = m3 (fun i j => M (i + 1) (j + 1)) 0 1 2 0 1 3 := by
  simp [d_mi_0, d_mi_s, fs_0, fs_s, fb_t, fb_out, d_sg_0, d_sg_s, m2, m3, m4]
  try grind
theorem g_mi_5_14_26 (M : Int → Int → Int) : d_mi M 5 14 ((5 : Int)).toNat 26 = m3 (fun i j => M (i + 1) (j + 1)) 0 1 2 0 2 3 := by
  simp [d_mi_0, d_mi_s, fs_0, fs_s, fb_t, fb_out, d_sg_0, d_sg_s, m2, m3, m4]
  try grind
theorem g_mi_5_14_28 (M : Int → Int → Int) : d_mi M 5 14 ((5 : Int)).toNat 28 = m3 (fun i j => M (i + 1) (j + 1)) 0 1 2 1 2 3 := by
  simp [d_mi_0, d_mi_s, fs_0, fs_s, fb_t, fb_out, d_sg_0, d_sg_s, m2, m3, m4]
  try grind
theorem g_mi_5_22_14 (M : Int → Int → Int) : d_mi M 5 22 ((5 : Int)).toNat 14 = m3 (fun i j => M (i + 1) (j + 1)) 0 1 3 0 1 2 := by
  simp [d_mi_0, d_mi_s, fs_0, fs_s, fb_t, fb_out, d_sg_0, d_sg_s, m2, m3, m4]
  try grind
theorem g_mi_5_22_22 (M : Int → Int → Int) : d_mi M 5 22 ((5 : Int)).toNat 22 = m3 (fun i j => M (i + 1) (j + 1)) 0 1 3 0 1 3 := by
  simp [d_mi_0, d_mi_s, fs_0, fs_s, fb_t, fb_out, d_sg_0, d_sg_s, m2, m3, m4]
  try grind
theorem g_mi_5_22_26 (M : Int → Int → Int) : d_mi M 5 22 ((5 : Int)).toNat 26 = m3 (fun i j => M (i + 1) (j + 1)) 0 1 3 0 2 3 := by
  simp [d_mi_0, d_mi_s, fs_0, fs_s, fb_t, fb_out, d_sg_0, d_sg_s, m2, m3, m4]
  try grind
theorem g_mi_5_22_28 (M : Int → Int → Int) : d_mi M 5 22 ((5 : Int)).toNat 28 = m3 (fun i j => M (i + 1) (j + 1)) 0 1 3 1 2 3 := by
  simp [d_mi_0, d_mi_s, fs_0, fs_s, fb_t, fb_out, d_sg_0, d_sg_s, m2, m3, m4]
  try grind
theorem g_mi_5_26_14 (M : Int → Int → Int) : d_mi M 5 26 ((5 : Int)).toNat 14 = m3 (fun i j => M (i + 1) (j + 1)) 0 2 3 0 1 2 := by
  simp [d_mi_0, d_mi_s, fs_0, fs_s, fb_t, fb_out, d_sg_0, d_sg_s, m2, m3, m4]
  try grind
theorem g_mi_5_26_22 (M : Int → Int → Int) : d_mi M 5 26 ((5 : Int)).toNat 22 = m3 (fun i j => M (i + 1) (j + 1)) 0 2 3 0 1 3 := by
  simp [d_mi_0, d_mi_s, fs_0, fs_s, fb_t, fb_out, d_sg_0, d_sg_s, m2, m3, m4]
  try grind
theorem g_mi_5_26_26 (M : Int → Int → Int) : d_mi M 5 26 ((5 : Int)).toNat 26 = m3 (fun i j => M (i + 1) (j + 1)) 0 2 3 0 2 3 := by
  simp [d_mi_0, d_mi_s, fs_0, fs_s, fb_t, fb_out, d_sg_0, d_sg_s, m2, m3, m4]
  try grind
theorem g_mi_5_26_28 (M : Int → Int → Int) : d_mi M 5 26 ((5 : Int)).toNat 28 = m3 (fun i j => M (i + 1) (j + 1)) 0 2 3 1 2 3 := by
  simp [d_mi_0, d_mi_s, fs_0, fs_s, fb_t, fb_out, d_sg_0, d_sg_s, m2, m3, m4]
  try grind
theorem g_mi_5_28_14 (M : Int → Int → Int) : d_mi M 5 28 ((5 : Int)).toNat 14 = m3 (fun i j => M (i + 1) (j + 1)) 1 2 3 0 1 2 := by
  simp [d_mi_0, d_mi_s, fs_0, fs_s, fb_t, fb_out, d_sg_0, d_sg_s, m2, m3, m4]
  try grind
theorem g_mi_5_28_22 (M : Int → Int → Int) : d_mi M 5 28 ((5 : Int)).toNat 22 = m3 (fun i j => M (i + 1) (j + 1)) 1 2 3 0 1 3 := by
  simp [d_mi_0, d_mi_s, fs_0, fs_s, fb_t, fb_out, d_sg_0, d_sg_s, m2, m3, m4]
  try grind
theorem g_mi_5_28_26 (M : Int → Int → Int) : d_mi M 5 28 ((5 : Int)).toNat 26 = m3 (fun i j => M (i + 1) (j + 1)) 1 2 3 0 2 3 := by
  simp [d_mi_0, d_mi_s, fs_0, fs_s, fb_t, fb_out, d_sg_0, d_sg_s, m2, m3, m4]
  try grind
theorem g_mi_5_28_28 (M : Int → Int → Int) : d_mi M 5 28 ((5 : Int)).toNat 28 = m3 (fun i j => M (i + 1) (j + 1)) 1 2 3 1 2 3 := by
  simp [d_mi_0, d_mi_s, fs_0, fs_s, fb_t, fb_out, d_sg_0, d_sg_s, m2, m3, m4]
  try grind
theorem vd_5_3 {R : Int} (h : d_vd 5 0 3 R) : R = 14 ∨ R = 22 ∨ R = 26 ∨ R = 28 := by
  obtain ⟨h0, h1, h2, h3⟩ := h
  have key : ∀ R : Fin 32, fc_and ((R.val : Nat) : Int) (fc_xor (fb_oth 5 0) (-1)) = 0 → s_pc ((R.val : Nat) : Int) = 3 → ((R.val : Nat) : Int) = 14 ∨ ((R.val : Nat) : Int) = 22 ∨ ((R.val : Nat) : Int) = 26 ∨ ((R.val : Nat) : Int) = 28 := by decide +kernel
  exact fz_lt (P := fun R => fc_and R (fc_xor (fb_oth 5 0) (-1)) = 0 → s_pc R = 3 → R = 14 ∨ R = 22 ∨ R = 26 ∨ R = 28) (N := 32) key h0 h1 h2 h3
theorem vi_5_14 : d_vd 5 0 3 14 := ⟨by decide, by decide, by decide +kernel, by decide +kernel⟩
theorem vi_5_22 : d_vd 5 0 3 22 := ⟨by decide, by decide, by decide +kernel, by decide +kernel⟩
theorem vi_5_26 : d_vd 5 0 3 26 := ⟨by decide, by decide, by decide +kernel, by decide +kernel⟩
theorem vi_5_28 : d_vd 5 0 3 28 := ⟨by decide, by decide, by decide +kernel, by decide +kernel⟩
theorem u_lk_5_3 {M : Int → Int → Int} {d : Int} : (∀ R S : Int, d_vd 5 0 3 R → d_vd 5 0 3 S → d ∣ d_mi M 5 R ((5 : Int)).toNat S) ↔ u_D3 d (fun i j => M (i + 1) (j + 1)) 4 := by
  constructor
  · intro H
    refine u_D3_rc (fun a b c e f g ha hb hc he hf hg q0 q1 q2 q3 => ?_)
    have ha0 := ha.1
    have ha1 := ha.2
    have hb0 := hb.1
    have hb1 := hb.2
    have hc0 := hc.1
    have hc1 := hc.2
    have he0 := he.1
    have he1 := he.2
    have hf0 := hf.1
    have hf1 := hf.2
    have hg0 := hg.1
    have hg1 := hg.2
    have kr : (a = 0 ∧ b = 1 ∧ c = 2) ∨ (a = 0 ∧ b = 1 ∧ c = 3) ∨ (a = 0 ∧ b = 2 ∧ c = 3) ∨ (a = 1 ∧ b = 2 ∧ c = 3) := by omega
    have kc : (e = 0 ∧ f = 1 ∧ g = 2) ∨ (e = 0 ∧ f = 1 ∧ g = 3) ∨ (e = 0 ∧ f = 2 ∧ g = 3) ∨ (e = 1 ∧ f = 2 ∧ g = 3) := by omega
    rcases kr with ⟨rfl, rfl, rfl⟩ | ⟨rfl, rfl, rfl⟩ | ⟨rfl, rfl, rfl⟩ | ⟨rfl, rfl, rfl⟩ <;> rcases kc with ⟨rfl, rfl, rfl⟩ | ⟨rfl, rfl, rfl⟩ | ⟨rfl, rfl, rfl⟩ | ⟨rfl, rfl, rfl⟩
    · have := H 14 14 vi_5_14 vi_5_14
      rw [g_mi_5_14_14] at this
      exact this
    · have := H 14 22 vi_5_14 vi_5_22
      rw [g_mi_5_14_22] at this
      exact this
    · have := H 14 26 vi_5_14 vi_5_26
      rw [g_mi_5_14_26] at this
      exact this
    · have := H 14 28 vi_5_14 vi_5_28
      rw [g_mi_5_14_28] at this
      exact this
    · have := H 22 14 vi_5_22 vi_5_14
      rw [g_mi_5_22_14] at this
      exact this
    · have := H 22 22 vi_5_22 vi_5_22
      rw [g_mi_5_22_22] at this
      exact this
    · have := H 22 26 vi_5_22 vi_5_26
      rw [g_mi_5_22_26] at this
      exact this
    · have := H 22 28 vi_5_22 vi_5_28
      rw [g_mi_5_22_28] at this
      exact this
    · have := H 26 14 vi_5_26 vi_5_14
      rw [g_mi_5_26_14] at this
      exact this
    · have := H 26 22 vi_5_26 vi_5_22
      rw [g_mi_5_26_22] at this
      exact this
    · have := H 26 26 vi_5_26 vi_5_26
      rw [g_mi_5_26_26] at this
      exact this
    · have := H 26 28 vi_5_26 vi_5_28
      rw [g_mi_5_26_28] at this
      exact this
    · have := H 28 14 vi_5_28 vi_5_14
      rw [g_mi_5_28_14] at this
      exact this
    · have := H 28 22 vi_5_28 vi_5_22
      rw [g_mi_5_28_22] at this
      exact this
    · have := H 28 26 vi_5_28 vi_5_26
      rw [g_mi_5_28_26] at this
      exact this
    · have := H 28 28 vi_5_28 vi_5_28
      rw [g_mi_5_28_28] at this
      exact this
  · intro H R S hR hS
    rcases vd_5_3 hR with rfl | rfl | rfl | rfl <;> rcases vd_5_3 hS with rfl | rfl | rfl | rfl
    · rw [g_mi_5_14_14]
      exact H 0 1 2 0 1 2 ⟨by decide, by decide⟩ ⟨by decide, by decide⟩ ⟨by decide, by decide⟩ ⟨by decide, by decide⟩ ⟨by decide, by decide⟩ ⟨by decide, by decide⟩
    · rw [g_mi_5_14_22]
      exact H 0 1 2 0 1 3 ⟨by decide, by decide⟩ ⟨by decide, by decide⟩ ⟨by decide, by decide⟩ ⟨by decide, by decide⟩ ⟨by decide, by decide⟩ ⟨by decide, by decide⟩
    · rw [g_mi_5_14_26]
      exact H 0 1 2 0 2 3 ⟨by decide, by decide⟩ ⟨by decide, by decide⟩ ⟨by decide, by decide⟩ ⟨by decide, by decide⟩ ⟨by decide, by decide⟩ ⟨by decide, by decide⟩
    · rw [g_mi_5_14_28]
      exact H 0 1 2 1 2 3 ⟨by decide, by decide⟩ ⟨by decide, by decide⟩ ⟨by decide, by decide⟩ ⟨by decide, by decide⟩ ⟨by decide, by decide⟩ ⟨by decide, by decide⟩
    · rw [g_mi_5_22_14]
      exact H 0 1 3 0 1 2 ⟨by decide, by decide⟩ ⟨by decide, by decide⟩ ⟨by decide, by decide⟩ ⟨by decide, by decide⟩ ⟨by decide, by decide⟩ ⟨by decide, by decide⟩
    · rw [g_mi_5_22_22]
      exact H 0 1 3 0 1 3 ⟨by decide, by decide⟩ ⟨by decide, by decide⟩ ⟨by decide, by decide⟩ ⟨by decide, by decide⟩ ⟨by decide, by decide⟩ ⟨by decide, by decide⟩
    · rw [g_mi_5_22_26]
      exact H 0 1 3 0 2 3 ⟨by decide, by decide⟩ ⟨by decide, by decide⟩ ⟨by decide, by decide⟩ ⟨by decide, by decide⟩ ⟨by decide, by decide⟩ ⟨by decide, by decide⟩
    · rw [g_mi_5_22_28]
      exact H 0 1 3 1 2 3 ⟨by decide, by decide⟩ ⟨by decide, by decide⟩ ⟨by decide, by decide⟩ ⟨by decide, by decide⟩ ⟨by decide, by decide⟩ ⟨by decide, by decide⟩
    · rw [g_mi_5_26_14]
      exact H 0 2 3 0 1 2 ⟨by decide, by decide⟩ ⟨by decide, by decide⟩ ⟨by decide, by decide⟩ ⟨by decide, by decide⟩ ⟨by decide, by decide⟩ ⟨by decide, by decide⟩
    · rw [g_mi_5_26_22]
      exact H 0 2 3 0 1 3 ⟨by decide, by decide⟩ ⟨by decide, by decide⟩ ⟨by decide, by decide⟩ ⟨by decide, by decide⟩ ⟨by decide, by decide⟩ ⟨by decide, by decide⟩
    · rw [g_mi_5_26_26]
      exact H 0 2 3 0 2 3 ⟨by decide, by decide⟩ ⟨by decide, by decide⟩ ⟨by decide, by decide⟩ ⟨by decide, by decide⟩ ⟨by decide, by decide⟩ ⟨by decide, by decide⟩
    · rw [g_mi_5_26_28]
      exact H 0 2 3 1 2 3 ⟨by decide, by decide⟩ ⟨by decide, by decide⟩ ⟨by decide, by decide⟩ ⟨by decide, by decide⟩ ⟨by decide, by decide⟩ ⟨by decide, by decide⟩
    · rw [g_mi_5_28_14]
      exact H 1 2 3 0 1 2 ⟨by decide, by decide⟩ ⟨by decide, by decide⟩ ⟨by decide, by decide⟩ ⟨by decide, by decide⟩ ⟨by decide, by decide⟩ ⟨by decide, by decide⟩
    · rw [g_mi_5_28_22]
      exact H 1 2 3 0 1 3 ⟨by decide, by decide⟩ ⟨by decide, by decide⟩ ⟨by decide, by decide⟩ ⟨by decide, by decide⟩ ⟨by decide, by decide⟩ ⟨by decide, by decide⟩
    · rw [g_mi_5_28_26]
      exact H 1 2 3 0 2 3 ⟨by decide, by decide⟩ ⟨by decide, by decide⟩ ⟨by decide, by decide⟩ ⟨by decide, by decide⟩ ⟨by decide, by decide⟩ ⟨by decide, by decide⟩
    · rw [g_mi_5_28_28]
      exact H 1 2 3 1 2 3 ⟨by decide, by decide⟩ ⟨by decide, by decide⟩ ⟨by decide, by decide⟩ ⟨by decide, by decide⟩ ⟨by decide, by decide⟩ ⟨by decide, by decide⟩
theorem g_mi_5_30_30 (M : Int → Int → Int) : d_mi M 5 30 ((5 : Int)).toNat 30 = m4 (fun i j => M (i + 1) (j + 1)) 0 1 2 3 0 1 2 3 := by
  simp [d_mi_0, d_mi_s, fs_0, fs_s, fb_t, fb_out, d_sg_0, d_sg_s, m2, m3, m4]
  try grind
theorem vd_5_4 {R : Int} (h : d_vd 5 0 4 R) : R = 30 := by
  obtain ⟨h0, h1, h2, h3⟩ := h
  have key : ∀ R : Fin 32, fc_and ((R.val : Nat) : Int) (fc_xor (fb_oth 5 0) (-1)) = 0 → s_pc ((R.val : Nat) : Int) = 4 → ((R.val : Nat) : Int) = 30 := by decide +kernel
  exact fz_lt (P := fun R => fc_and R (fc_xor (fb_oth 5 0) (-1)) = 0 → s_pc R = 4 → R = 30) (N := 32) key h0 h1 h2 h3
theorem vi_5_30 : d_vd 5 0 4 30 := ⟨by decide, by decide, by decide +kernel, by decide +kernel⟩
theorem u_lk_5_4 {M : Int → Int → Int} {d : Int} : (∀ R S : Int, d_vd 5 0 4 R → d_vd 5 0 4 S → d ∣ d_mi M 5 R ((5 : Int)).toNat S) ↔ u_D4 d (fun i j => M (i + 1) (j + 1)) 4 := by
  constructor
  · intro H
    refine u_D4_rc (fun a b c o e f g h ha hb hc ho he hf hg hh q0 q1 q2 q3 q4 q5 => ?_)
    have ha0 := ha.1
    have ha1 := ha.2
    have hb0 := hb.1
    have hb1 := hb.2
    have hc0 := hc.1
    have hc1 := hc.2
    have ho0 := ho.1
    have ho1 := ho.2
    have he0 := he.1
    have he1 := he.2
    have hf0 := hf.1
    have hf1 := hf.2
    have hg0 := hg.1
    have hg1 := hg.2
    have hh0 := hh.1
    have hh1 := hh.2
    have kr : (a = 0 ∧ b = 1 ∧ c = 2 ∧ o = 3) := by omega
    have kc : (e = 0 ∧ f = 1 ∧ g = 2 ∧ h = 3) := by omega
    rcases kr with ⟨rfl, rfl, rfl, rfl⟩ <;> rcases kc with ⟨rfl, rfl, rfl, rfl⟩
    · have := H 30 30 vi_5_30 vi_5_30
      rw [g_mi_5_30_30] at this
      exact this
  · intro H R S hR hS
    rcases vd_5_4 hR with rfl <;> rcases vd_5_4 hS with rfl
    · rw [g_mi_5_30_30]
      exact H 0 1 2 3 0 1 2 3 ⟨by decide, by decide⟩ ⟨by decide, by decide⟩ ⟨by decide, by decide⟩ ⟨by decide, by decide⟩ ⟨by decide, by decide⟩ ⟨by decide, by decide⟩ ⟨by decide, by decide⟩ ⟨by decide, by decide⟩
