/-! public: digest -/
def dg_t (v : Int → Int) (st : Int) (rf : Int → Int) (tl : Int) : Nat → Int
  | 0 => 2293
  | k + 1 => 31 * dg_t v st rf tl k + a_td v st rf tl k
def dg_i (v : Int → Int) (b h : Int) : Nat → Int
  | 0 => h
  | a + 1 => 31 * dg_i v b h a + v_L v a b
/-- b = 1 .. k -/
def dg_l (v : Int → Int) (h : Int) : Nat → Int
  | 0 => h
  | b + 1 => dg_i v ((b + 1 : Nat) : Int) (dg_l v h b) (b + 1)
noncomputable def dg_o (v : Int → Int) (p h : Int) : Nat → Int
  | 0 => h
  | w + 1 => 31 * dg_o v p h w + a_of v p w
noncomputable def dg_p (v : Int → Int) (h : Int) : Nat → Int
  | 0 => h
  | p + 1 => 31 * dg_o v p (dg_p v h p) 3 + v (31 + p)
noncomputable def dg_h (v : Int → Int) (st : Int) (rf : Int → Int) (tl : Int) : Int := dg_p v (dg_l v (dg_t v st rf tl 7) (v 0 - 1).toNat) (v 0).toNat
noncomputable def a_dg (v : Int → Int) (st : Int) (rf : Int → Int) (tl : Int) : Int := 31 * (31 * (31 * (31 * (31 * dg_h v st rf tl + fc_ind (s_J (v_L v) (v 0))) + fc_ind (s_stable (v_L v) (v 0) (v_c v))) + d_T (v_L v) (v 0) 0) + (fs_sum (v_c v) (v 0).toNat + 10000)) + (s_lc (v_L v) (v 0) - v 0 + 1 + 10)
def k_anL (A : Nat → Int → Int) (F : Nat → Nat → Int) (ans : Int) (v : Int → Int) (ps : Int → Int → Int) (st : Int) (rf tx : Int → Int) (tl : Int) : Option fc_AV → (Nat → Int → Int) → (Nat → Nat → Int) → Prop := fun r A' F' => r = some (vL ans) ∧ k_RC A' F' v ps st rf tx tl ∧ k_fr 0 142 A F A' F'
theorem d_mi_b2 {M : Int → Int → Int} {n R : Int} {B : Int} (hB : 0 ≤ B) (hM : ∀ a : Int, 0 ≤ a → a < n → fs_sum (fun c => ((M a c).natAbs : Int)) n.toNat ≤ B) : ∀ (k : Nat) (S : Int), (k : Int) ≤ n → -(B ^ k) ≤ d_mi M n R k S ∧ d_mi M n R k S ≤ B ^ k ∨ B = 0 := by
  intro k
  by_cases hB0 : B = 0
  · exact fun _ _ => Or.inr hB0
  induction k with
  | zero => intro S _; exact Or.inl (by show -(B ^ 0) ≤ 1 ∧ 1 ≤ B ^ 0; rw [Int.pow_zero]; omega)
  | succ k ih =>
    intro S hk
    refine Or.inl ?_
    have hp : 0 ≤ B ^ k := Int.pow_nonneg hB
    have hp1 : B ^ k ≤ B ^ (k + 1) := by
      rw [Int.pow_succ]
      have := Int.mul_le_mul_of_nonneg_left (show 1 ≤ B by omega) hp
      omega
    unfold d_mi
    split
    · have ih' : ∀ S : Int, -(B ^ k) ≤ d_mi M n R k S ∧ d_mi M n R k S ≤ B ^ k := fun S => (ih S (by omega)).resolve_right hB0
      have hrow := hM (n - (k + 1)) (by omega) (by omega)
      have key : ∀ c : Int, -(((M (n - (k + 1)) c).natAbs : Int) * B ^ k) ≤ (if fb_t S c = 1 then d_sg S c.toNat * M (n - (k + 1)) c * d_mi M n R k (fb_out S c) else 0) ∧ (if fb_t S c = 1 then d_sg S c.toNat * M (n - (k + 1)) c * d_mi M n R k (fb_out S c) else 0) ≤ ((M (n - (k + 1)) c).natAbs : Int) * B ^ k := by
        intro c
        split
        · have h1 : -((M (n - (k + 1)) c).natAbs : Int) ≤ d_sg S c.toNat * M (n - (k + 1)) c ∧ d_sg S c.toNat * M (n - (k + 1)) c ≤ ((M (n - (k + 1)) c).natAbs : Int) := by
            rcases d_sg_1 (S := S) (c := c.toNat) with e | e <;> rw [e] <;> omega
          exact im_bd h1.1 h1.2 (ih' _).1 (ih' _).2
        · have := Int.mul_nonneg (show 0 ≤ ((M (n - (k + 1)) c).natAbs : Int) by omega) hp
          omega
      have u := fs_sum_le (f := fun c => if fb_t S c = 1 then d_sg S c.toNat * M (n - (k + 1)) c * d_mi M n R k (fb_out S c) else 0) (g := fun c => B ^ k * ((M (n - (k + 1)) c).natAbs : Int)) (m := n.toNat) (fun c _ _ => by show _ ≤ B ^ k * _; rw [Int.mul_comm (B ^ k)]; exact (key c).2)
      have l := fs_sum_le (f := fun c => -(B ^ k) * ((M (n - (k + 1)) c).natAbs : Int)) (g := fun c => if fb_t S c = 1 then d_sg S c.toNat * M (n - (k + 1)) c * d_mi M n R k (fb_out S c) else 0) (m := n.toNat) (fun c _ _ => by show -(B ^ k) * _ ≤ _; rw [Int.neg_mul, Int.mul_comm (B ^ k)]; exact (key c).1)
      rw [fs_sum_mul] at u l
      have h2 := Int.mul_le_mul_of_nonneg_left hrow hp
      rw [show B ^ k * B = B ^ (k + 1) from (Int.pow_succ B k).symm] at h2
      rw [Int.neg_mul] at l
      omega
    · have := (ih S (by omega)).resolve_right hB0
      omega
theorem s_M_row2 {L : Int → Int → Int} (hg : g_ok L) {n : Int} (hn : 2 ≤ n ∧ n ≤ 5) : ∀ a : Int, 0 ≤ a → a < n → fs_sum (fun c => ((s_M L n a c).natAbs : Int)) n.toNat ≤ 30 := by
  intro a a0 a1
  have h1 := fs_sum_le (f := fun c => ((s_M L n a c).natAbs : Int)) (g := fun c => L a c + (if c = a then s_val L n a else 0)) (m := n.toNat) (fun c c0 c1 => by
    have hl := hg a c a0 (by omega) c0 (by omega)
    have hv := s_val_bd hg (n := n) (p := a) (by omega) hn.2 a0 (by omega)
    unfold s_M
    by_cases e : a = c
    · rw [if_pos e, if_pos e.symm]; omega
    · rw [if_neg e, if_neg (fun z => e z.symm)]; omega)
  rw [fs_sum_add, fs_sum_one a0 (by omega)] at h1
  have hv := s_val_bd hg (n := n) (p := a) (by omega) hn.2 a0 (by omega)
  have e : fs_sum (L a) n.toNat = s_val L n a := rfl
  omega
theorem d_T_b2 {L : Int → Int → Int} (hg : g_ok L) {n q : Int} (hn : 2 ≤ n ∧ n ≤ 5) : -24300000 ≤ d_T L n q ∧ d_T L n q ≤ 24300000 := by
  have h := (d_mi_b2 (M := s_M L n) (n := n) (R := fb_oth n q) (B := 30) (by omega) (s_M_row2 hg hn) n.toNat (fb_oth n q) (by omega)).resolve_right (by decide)
  have e : (30 : Int) ^ n.toNat ≤ 24300000 := by
    have : n = 2 ∨ n = 3 ∨ n = 4 ∨ n = 5 := by omega
    rcases this with rfl | rfl | rfl | rfl <;> decide
  unfold d_T
  omega
section DIG
variable {A : Nat → Int → Int} {F : Nat → Nat → Int} {v : Int → Int} {ps : Int → Int → Int} {st : Int} {rf tx : Int → Int} {tl : Int}
theorem s_kb_bd (kn : Int → Int) : 0 ≤ s_kb kn ∧ s_kb kn ≤ 7 := by
  show 0 ≤ 0 + (if 0 < kn 0 then (2 : Int) ^ 0 else 0) + (if 0 < kn 1 then (2 : Int) ^ 1 else 0) + (if 0 < kn 2 then (2 : Int) ^ 2 else 0) ∧ 0 + (if 0 < kn 0 then (2 : Int) ^ 0 else 0) + (if 0 < kn 1 then (2 : Int) ^ 1 else 0) + (if 0 < kn 2 then (2 : Int) ^ 2 else 0) ≤ 7
  split <;> split <;> split <;> decide
theorem a_td_R (RC : k_RC A F v ps st rf tx tl) (hrf : ∀ i : Int, 0 ≤ i → i < 3 → fc_R (rf i)) {w : Int} (h0 : 0 ≤ w) : fc_R (a_td v st rf tl w) := by
  obtain ⟨E, hv, H, R⟩ := RC
  obtain ⟨u, h1, h2, h3, h4, h5, h6, h7⟩ := H
  obtain ⟨-, -, r3, r4, -⟩ := R
  have hn := hv.n
  have := s_kb_bd (fun s => v (36 + 6 * s))
  unfold a_td
  split
  · exact hrf w h0 (by omega)
  · split
    · exact fc_Rm (by omega)
    · split
      · exact fc_Rm (by omega)
      · split
        · exact fc_Rm (by omega)
        · exact fc_Rm (by omega)
theorem a_of_R (hv : v_ok v) {p w : Int} (p0 : 0 ≤ p) (p1 : p < v 0) : fc_R (a_of v p w) := by
  have hn := hv.n
  have h1 := hv.2.2.2.1 p p0 (by omega)
  have h2 := s_val_bd hv.g (n := v 0) (p := p) (by omega) hn.2 p0 (by omega)
  unfold a_of
  split
  · exact fc_Rm (by omega)
  · split
    · exact fc_Rm (by omega)
    · exact fc_ind_R _
theorem o_digest (RC : k_RC A F v ps st rf tx tl) (hrf : ∀ i : Int, 0 ≤ i → i < 3 → fc_R (rf i)) : fh_E mX6_digest 18 [vR 0] A F (k_anL A F (a_dg v st rf tl) v ps st rf tx tl) := by
  obtain ⟨-, hv, -, -⟩ := id RC
  have hn := hv.n
  refine fh_E.of mi_X6_digest (Nat.le_of_ble_eq_true rfl) ?_
  intro X C T
  -- the end
  have tail : ∀ (A1 : Nat → Int → Int) (F1 : Nat → Nat → Int) (h : Int) (y1 y2 : Option fc_AV), k_RC A1 F1 v ps st rf tx tl → k_fr 0 142 A F A1 F1 → h = dg_h v st rf tl → fc_W X 0 0 159 (fc_H A1 F1) 145 [some (vR 0), some (vL h), none, y1, y2] [] := by
    intro A1 F1 h y1 y2 RC1 fr1 eh
    refine fc_ldc2_w C dX6_digest_145 kc_X6_264 ?_
    refine fc_lload_n C dX6_digest_148 rfl rfl ?_
    refine fc_lmul C dX6_digest_149 ?_
    refine fc_aload_n C dX6_digest_150 rfl rfl ?_
    refine fh_callVE (y := mX6_joined) C dX6_digest_151 ml_X6_275 mi_X6_joined im_X6_joined se_X6_joined (o_joined RC1) rfl rfl (by decide) rfl (Nat.le_of_ble_eq_true rfl) (Nat.zero_le _) (Nat.zero_le _) rfl ?_
    rintro r A2 F2 ⟨rfl, RC2, fr2⟩
    rw [if_pos rfl] at RC2
    refine fc_eq (st' := [vI (fc_ind (s_J (v_L v) (v 0))), vL (31 * h)]) rfl rfl ?_
    refine fc_i2l C dX6_digest_154 (fc_ind_R _) ?_
    refine fc_ladd C dX6_digest_155 ?_
    refine fc_lstore_n C dX6_digest_156 rfl (by decide) ?_
    refine fc_ldc2_w C dX6_digest_157 kc_X6_264 ?_
    refine fc_lload_n C dX6_digest_160 rfl rfl ?_
    refine fc_lmul C dX6_digest_161 ?_
    refine fc_aload_n C dX6_digest_162 rfl rfl ?_
    refine fh_callVE (y := mX6_stable) C dX6_digest_163 ml_X6_278 mi_X6_stable im_X6_stable se_X6_stable (o_stable RC2) rfl rfl (by decide) rfl (Nat.le_of_ble_eq_true rfl) (Nat.zero_le _) (Nat.zero_le _) rfl ?_
    rintro r A3 F3 ⟨rfl, RC3, fr3⟩
    rw [if_pos rfl] at RC3
    refine fc_eq (st' := [vI (fc_ind (s_stable (v_L v) (v 0) (v_c v))), vL (31 * (31 * h + fc_ind (s_J (v_L v) (v 0))))]) rfl rfl ?_
    refine fc_i2l C dX6_digest_166 (fc_ind_R _) ?_
    refine fc_ladd C dX6_digest_167 ?_
    refine fc_lstore_n C dX6_digest_168 rfl (by decide) ?_
    refine fc_ldc2_w C dX6_digest_169 kc_X6_264 ?_
    refine fc_lload_n C dX6_digest_172 rfl rfl ?_
    refine fc_lmul C dX6_digest_173 ?_
    refine fc_aload_n C dX6_digest_174 rfl rfl ?_
    refine fh_callVE (y := mX6_trees) C dX6_digest_175 ml_X6_196 mi_X6_trees im_X6_trees se_X6_trees (o_trees RC3) rfl rfl (by decide) rfl (Nat.le_of_ble_eq_true rfl) (Nat.zero_le _) (Nat.zero_le _) rfl ?_
    rintro r A4 F4 ⟨rfl, RC4, fr4⟩
    rw [if_pos rfl] at RC4
    refine fc_eq (st' := [vI (d_T (v_L v) (v 0) 0), vL (31 * (31 * (31 * h + fc_ind (s_J (v_L v) (v 0))) + fc_ind (s_stable (v_L v) (v 0) (v_c v))))]) rfl rfl ?_
    have hT := d_T_b2 hv.g (n := v 0) (q := 0) hn
    have x0 : x_rk v 0 = 0 := by unfold x_rk; rw [if_pos (by omega), if_neg (by omega)]
    have x1 : x_rk v 1 = 0 := by unfold x_rk; rw [if_pos (by omega), if_neg (by omega)]
    refine fc_i2l C dX6_digest_178 (fc_Rm (by omega)) ?_
    refine fc_ladd C dX6_digest_179 ?_
    refine fc_lstore_n C dX6_digest_180 rfl (by decide) ?_
    refine fc_ldc2_w C dX6_digest_181 kc_X6_264 ?_
    refine fc_lload_n C dX6_digest_184 rfl rfl ?_
    refine fc_lmul C dX6_digest_185 ?_
    refine fc_aload_n C dX6_digest_186 rfl rfl ?_
    refine fc_iconst C dX6_digest_187 ?_
    refine fh_callVE (y := mX6_rank) C dX6_digest_188 ml_X6_281 mi_X6_rank im_X6_rank se_X6_rank (o_rank RC4 (w := 0) (fc_Rm (by omega))) rfl rfl (by decide) rfl (Nat.le_of_ble_eq_true rfl) (Nat.zero_le _) (Nat.zero_le _) rfl ?_
    rintro r A5 F5 ⟨a, ha, rfl, RC5, fr5⟩
    rw [x0, if_pos rfl] at RC5
    have ea := (ha x0).1 rfl
    subst ea
    have hdg := fs_sum5 (f := v_c v) (n := v 0) (B := 999) (by omega) (by omega) (fun p p0 p1 => hv.2.2.2.1 p p0 (by omega))
    refine fc_eq (st' := [vI (fs_sum (v_c v) (v 0).toNat + 10000), vL (31 * (31 * (31 * (31 * h + fc_ind (s_J (v_L v) (v 0))) + fc_ind (s_stable (v_L v) (v 0) (v_c v))) + d_T (v_L v) (v 0) 0))]) rfl (by rw [x0, if_pos rfl]; rfl) ?_
    refine fc_i2l C dX6_digest_191 (fc_Rm (by omega)) ?_
    refine fc_ladd C dX6_digest_192 ?_
    refine fc_lstore_n C dX6_digest_193 rfl (by decide) ?_
    refine fc_ldc2_w C dX6_digest_194 kc_X6_264 ?_
    refine fc_lload_n C dX6_digest_197 rfl rfl ?_
    refine fc_lmul C dX6_digest_198 ?_
    refine fc_aload_n C dX6_digest_199 rfl rfl ?_
    refine fc_iconst C dX6_digest_200 ?_
    refine fh_callVE (y := mX6_rank) C dX6_digest_201 ml_X6_281 mi_X6_rank im_X6_rank se_X6_rank (o_rank RC5 (w := 1) (fc_Rm (by omega))) rfl rfl (by decide) rfl (Nat.le_of_ble_eq_true rfl) (Nat.zero_le _) (Nat.zero_le _) rfl ?_
    rintro r A6 F6 ⟨a, ha, rfl, RC6, fr6⟩
    rw [x1, if_pos rfl] at RC6
    have ea := (ha x1).2.1 rfl
    subst ea
    have hlc := s_lc_bd hv.g (n := v 0) (by omega) hn.2
    have hlc2 : 0 ≤ s_lc (v_L v) (v 0) ∧ s_lc (v_L v) (v 0) ≤ 75 := by
      unfold s_lc
      rw [Int.tdiv_eq_ediv_of_nonneg hlc.1]
      omega
    refine fc_eq (st' := [vI (s_lc (v_L v) (v 0) - v 0 + 1 + 10), vL (31 * (31 * (31 * (31 * (31 * h + fc_ind (s_J (v_L v) (v 0))) + fc_ind (s_stable (v_L v) (v 0) (v_c v))) + d_T (v_L v) (v 0) 0) + (fs_sum (v_c v) (v 0).toNat + 10000)))]) rfl (by rw [x1, if_pos rfl]; rfl) ?_
    refine fc_i2l C dX6_digest_204 (fc_Rm (by omega)) ?_
    refine fc_ladd C dX6_digest_205 ?_
    exact fh_lretE C T dX6_digest_206 ⟨by rw [eh]; rfl, RC6, fr1.tr (fr2.tr (fr3.tr (fr4.tr (fr5.tr fr6))))⟩
  have loopP : ∀ (m : Nat) (p : Int) (A1 : Nat → Int → Int) (F1 : Nat → Nat → Int) (h : Int) (y2 : Option fc_AV), 0 ≤ p → p ≤ v 0 → v 0 - p < m → k_RC A1 F1 v ps st rf tx tl → k_fr 0 142 A F A1 F1 → h = dg_p v (dg_l v (dg_t v st rf tl 7) (v 0 - 1).toNat) p.toNat → fc_W X 0 0 159 (fc_H A1 F1) 85 [some (vR 0), some (vL h), none, some (vI p), y2] [] := by
    intro m
    induction m with
    | zero => intro p A1 F1 h y2 z0 z1 z2; exfalso; omega
    | succ m ih =>
      intro p A1 F1 h y2 z0 z1 z2 RC1 fr1 eh
      have e3 : F1 3 0 = v 0 := RC1.1.1
      refine fc_iload_n C dX6_digest_85 rfl rfl ?_
      refine fc_aload_n C dX6_digest_86 rfl rfl ?_
      refine fh_getf C dX6_digest_87 fl_X6_24 rfl rfl ?_
      refine fh_getf C dX6_digest_90 fl_X6_54 rfl rfl ?_
      rw [e3]
      refine fc_icmp_ge (tgt := 145) C dX6_digest_93 (by decide) (fc_Rm (by omega)) (fc_Rm (by omega)) (fun c93 => ?_) (fun c93 => ?_)
      · exact tail A1 F1 h _ _ RC1 fr1 (by rw [eh, show p = v 0 by omega]; rfl)
      · have hpp : dg_p v (dg_l v (dg_t v st rf tl 7) (v 0 - 1).toNat) (p + 1).toNat = 31 * dg_o v p h 3 + v (31 + p) := by
          rw [show (p + 1).toNat = p.toNat + 1 by omega]
          show 31 * dg_o v ((p.toNat : Nat) : Int) _ 3 + v (31 + ((p.toNat : Nat) : Int)) = _
          rw [Int.toNat_of_nonneg z0, ← eh]
        have loopO : ∀ (m2 : Nat) (w : Int) (A2 : Nat → Int → Int) (F2 : Nat → Nat → Int), 0 ≤ w → w ≤ 3 → 3 - w < m2 → k_RC A2 F2 v ps st rf tx tl → k_fr 0 142 A F A2 F2 → fc_W X 0 0 159 (fc_H A2 F2) 99 [some (vR 0), some (vL (dg_o v p h w.toNat)), none, some (vI p), some (vI w)] [] := by
          intro m2
          induction m2 with
          | zero => intro w A2 F2 y0 y1 y2; exfalso; omega
          | succ m2 ih2 =>
            intro w A2 F2 y0 y1 y2 RC2 fr2
            refine fc_iload C dX6_digest_99 rfl ?_
            refine fc_iconst C dX6_digest_101 ?_
            refine fc_icmp_gt (tgt := 126) C dX6_digest_102 (by decide) (fc_Rm (by omega)) (fc_Rm (by omega)) (fun c102 => ?_) (fun c102 => ?_)
            · have ew : w = 3 := by omega
              subst ew
              have h31 := hv.2.2.2.2.2.1 p z0 (by omega)
              refine fc_ldc2_w C dX6_digest_126 kc_X6_264 ?_
              refine fc_lload_n C dX6_digest_129 rfl rfl ?_
              refine fc_lmul C dX6_digest_130 ?_
              refine fc_aload_n C dX6_digest_131 rfl rfl ?_
              refine fc_iload_n C dX6_digest_132 rfl rfl ?_
              refine fh_callVE (y := mX6_script) C dX6_digest_133 ml_X6_272 mi_X6_script im_X6_script se_X6_script (o_script RC2 (p := p) (fc_Rm (by omega))) rfl rfl (by decide) rfl (Nat.le_of_ble_eq_true rfl) (Nat.zero_le _) (Nat.zero_le _) rfl ?_
              have xp : x_pt v p = 0 := if_pos ⟨z0, by omega⟩
              rintro r A3 F3 ⟨rfl, RC3, fr3⟩
              rw [xp, if_pos rfl] at RC3
              refine fc_eq (st' := [vI (v (31 + p)), vL (31 * dg_o v p h 3)]) rfl (by rw [xp, if_pos rfl]; rfl) ?_
              refine fc_i2l C dX6_digest_136 (fc_Rm (by omega)) ?_
              refine fc_ladd C dX6_digest_137 ?_
              refine fc_lstore_n C dX6_digest_138 rfl (by decide) ?_
              refine fc_iinc C dX6_digest_139 rfl (by decide) ?_
              refine fc_goto (tgt := 85) C dX6_digest_142 (by decide) ?_
              exact ih (p + 1) A3 F3 _ _ (by omega) (by omega) (by omega) RC3 (fr2.tr fr3) (by rw [hpp])
            · refine fc_ldc2_w C dX6_digest_105 kc_X6_264 ?_
              refine fc_lload_n C dX6_digest_108 rfl rfl ?_
              refine fc_lmul C dX6_digest_109 ?_
              refine fc_aload_n C dX6_digest_110 rfl rfl ?_
              refine fc_iload_n C dX6_digest_111 rfl rfl ?_
              refine fc_iload C dX6_digest_112 rfl ?_
              refine fh_callVE (y := mX6_of) C dX6_digest_114 ml_X6_269 mi_X6_of im_X6_of se_X6_of (o_of RC2 (p := p) (w := w) (fc_Rm (by omega)) (fc_Rm (by omega))) rfl rfl (by decide) rfl (Nat.le_of_ble_eq_true rfl) (Nat.zero_le _) (Nat.zero_le _) rfl ?_
              have xo : x_of v p w = 0 := if_pos ⟨⟨z0, by omega⟩, by omega, by omega⟩
              rintro r A3 F3 ⟨rfl, RC3, fr3⟩
              rw [xo, if_pos rfl] at RC3
              refine fc_eq (st' := [vI (a_of v p w), vL (31 * dg_o v p h w.toNat)]) rfl (by rw [xo, if_pos rfl]; rfl) ?_
              refine fc_i2l C dX6_digest_117 (a_of_R hv z0 (by omega)) ?_
              refine fc_ladd C dX6_digest_118 ?_
              refine fc_lstore_n C dX6_digest_119 rfl (by decide) ?_
              refine fc_iinc C dX6_digest_120 rfl (by decide) ?_
              refine fc_goto (tgt := 99) C dX6_digest_123 (by decide) ?_
              have := ih2 (w + 1) A3 F3 (by omega) (by omega) (by omega) RC3 (fr2.tr fr3)
              rw [show (w + 1).toNat = w.toNat + 1 by omega] at this
              refine fc_eq (st' := []) ?_ rfl this
              show [some (vR 0), some (vL (31 * dg_o v p h w.toNat + a_of v p w)), none, some (vI p), some (vI (w + 1))] = [some (vR 0), some (vL (31 * dg_o v p h w.toNat + a_of v p ((w.toNat : Nat) : Int))), none, some (vI p), some (vI (w + 1))]
              rw [Int.toNat_of_nonneg y0]
        refine fc_iconst C dX6_digest_96 ?_
        refine fc_istore C dX6_digest_97 (by decide) ?_
        exact loopO 4 0 A1 F1 (by omega) (by omega) (by omega) RC1 fr1
  have loopL : ∀ (m : Nat) (b : Int) (A1 : Nat → Int → Int) (F1 : Nat → Nat → Int) (h : Int) (y2 : Option fc_AV), 1 ≤ b → b ≤ v 0 → v 0 - b < m → k_RC A1 F1 v ps st rf tx tl → k_fr 0 142 A F A1 F1 → h = dg_l v (dg_t v st rf tl 7) (b - 1).toNat → fc_W X 0 0 159 (fc_H A1 F1) 33 [some (vR 0), some (vL h), none, some (vI b), y2] [] := by
    intro m
    induction m with
    | zero => intro p A1 F1 h y2 z0 z1 z2; exfalso; omega
    | succ m ih =>
      intro b A1 F1 h y2 z0 z1 z2 RC1 fr1 eh
      obtain ⟨E1, -, -, -⟩ := id RC1
      have e3 : F1 3 0 = v 0 := E1.1
      refine fc_iload_n C dX6_digest_33 rfl rfl ?_
      refine fc_aload_n C dX6_digest_34 rfl rfl ?_
      refine fh_getf C dX6_digest_35 fl_X6_24 rfl rfl ?_
      refine fh_getf C dX6_digest_38 fl_X6_54 rfl rfl ?_
      rw [e3]
      refine fc_icmp_ge (tgt := 83) C dX6_digest_41 (by decide) (fc_Rm (by omega)) (fc_Rm (by omega)) (fun c41 => ?_) (fun c41 => ?_)
      · refine fc_iconst C dX6_digest_83 ?_
        refine fc_istore_n C dX6_digest_84 rfl (by decide) ?_
        exact loopP 6 0 A1 F1 h y2 (by omega) (by omega) (by omega) RC1 fr1 (by rw [eh, show b = v 0 by omega]; rfl)
      · have hbb : dg_l v (dg_t v st rf tl 7) (b + 1 - 1).toNat = dg_i v b h b.toNat := by
          rw [show (b + 1 - 1).toNat = (b - 1).toNat + 1 by omega]
          show dg_i v (((b - 1).toNat + 1 : Nat) : Int) _ ((b - 1).toNat + 1) = _
          rw [show (((b - 1).toNat + 1 : Nat) : Int) = b by omega, ← eh, show (b - 1).toNat + 1 = b.toNat by omega]
        have loopI : ∀ (m2 : Nat) (a : Int), 0 ≤ a → a ≤ b → b - a < m2 → fc_W X 0 0 159 (fc_H A1 F1) 47 [some (vR 0), some (vL (dg_i v b h a.toNat)), none, some (vI b), some (vI a)] [] := by
          intro m2
          induction m2 with
          | zero => intro a y0 y1 y2; exfalso; omega
          | succ m2 ih2 =>
            intro a y0 y1 y2
            refine fc_iload C dX6_digest_47 rfl ?_
            refine fc_iload_n C dX6_digest_49 rfl rfl ?_
            refine fc_icmp_ge (tgt := 77) C dX6_digest_50 (by decide) (fc_Rm (by omega)) (fc_Rm (by omega)) (fun c50 => ?_) (fun c50 => ?_)
            · have ea : a = b := by omega
              subst ea
              refine fc_iinc C dX6_digest_77 rfl (by decide) ?_
              refine fc_goto (tgt := 33) C dX6_digest_80 (by decide) ?_
              exact ih (a + 1) A1 F1 _ _ (by omega) (by omega) (by omega) RC1 fr1 hbb.symm
            · have hl := hv.g a b y0 (by omega) (by omega) (by omega)
              refine fc_ldc2_w C dX6_digest_53 kc_X6_264 ?_
              refine fc_lload_n C dX6_digest_56 rfl rfl ?_
              refine fc_lmul C dX6_digest_57 ?_
              refine fc_aload_n C dX6_digest_58 rfl rfl ?_
              refine fh_getf C dX6_digest_59 fl_X6_24 rfl rfl ?_
              refine fc_iload C dX6_digest_62 rfl ?_
              refine fc_iload_n C dX6_digest_64 rfl rfl ?_
              refine fh_callV (y := mX3_linesBetween) C dX6_digest_65 ml_X6_72 mi_X3_linesBetween im_X3_linesBetween se_X3_linesBetween (c_linesBetween (E1.net hv) (fc_Rm (by omega)) (fc_Rm (by omega))) rfl rfl (by decide) rfl (Nat.le_of_ble_eq_true rfl) (Nat.zero_le _) (Nat.zero_le _) rfl ?_
              refine fc_eq (st' := [vI (v_L v a b), vL (31 * dg_i v b h a.toNat)]) rfl (by rw [if_pos ⟨⟨y0, by omega⟩, by omega, by omega⟩]) ?_
              refine fc_i2l C dX6_digest_68 (fc_Rm (by omega)) ?_
              refine fc_ladd C dX6_digest_69 ?_
              refine fc_lstore_n C dX6_digest_70 rfl (by decide) ?_
              refine fc_iinc C dX6_digest_71 rfl (by decide) ?_
              refine fc_goto (tgt := 47) C dX6_digest_74 (by decide) ?_
              have := ih2 (a + 1) (by omega) (by omega) (by omega)
              rw [show (a + 1).toNat = a.toNat + 1 by omega] at this
              refine fc_eq (st' := []) ?_ rfl this
              show [some (vR 0), some (vL (31 * dg_i v b h a.toNat + v_L v a b)), none, some (vI b), some (vI (a + 1))] = [some (vR 0), some (vL (31 * dg_i v b h a.toNat + v_L v ((a.toNat : Nat) : Int) b)), none, some (vI b), some (vI (a + 1))]
              rw [Int.toNat_of_nonneg y0]
        refine fc_iconst C dX6_digest_44 ?_
        refine fc_istore C dX6_digest_45 (by decide) ?_
        exact loopI 6 0 (by omega) (by omega) (by omega)
  have loopT : ∀ (m : Nat) (w : Int) (A1 : Nat → Int → Int) (F1 : Nat → Nat → Int) (y2 : Option fc_AV), 0 ≤ w → w ≤ 7 → 7 - w < m → k_RC A1 F1 v ps st rf tx tl → k_fr 0 142 A F A1 F1 → fc_W X 0 0 159 (fc_H A1 F1) 6 [some (vR 0), some (vL (dg_t v st rf tl w.toNat)), none, some (vI w), y2] [] := by
    intro m
    induction m with
    | zero => intro p A1 F1 y2 z0 z1 z2; exfalso; omega
    | succ m ih =>
      intro w A1 F1 y2 z0 z1 z2 RC1 fr1
      refine fc_iload_n C dX6_digest_6 rfl rfl ?_
      refine fc_bipush C dX6_digest_7 (by decide) ?_
      refine fc_icmp_gt (tgt := 31) C dX6_digest_9 (by decide) (fc_Rm (by omega)) (fc_Rm (by omega)) (fun c9 => ?_) (fun c9 => ?_)
      · refine fc_iconst C dX6_digest_31 ?_
        refine fc_istore_n C dX6_digest_32 rfl (by decide) ?_
        exact loopL 6 1 A1 F1 _ y2 (by omega) (by omega) (by omega) RC1 fr1 (by rw [show w = 7 by omega]; rfl)
      · refine fc_ldc2_w C dX6_digest_12 kc_X6_264 ?_
        refine fc_lload_n C dX6_digest_15 rfl rfl ?_
        refine fc_lmul C dX6_digest_16 ?_
        refine fc_aload_n C dX6_digest_17 rfl rfl ?_
        refine fc_iload_n C dX6_digest_18 rfl rfl ?_
        refine fh_callVE (y := mX6_told) C dX6_digest_19 ml_X6_266 mi_X6_told im_X6_told se_X6_told (o_told RC1 (w := w) (fc_Rm (by omega))) rfl rfl (by decide) rfl (Nat.le_of_ble_eq_true rfl) (Nat.zero_le _) (Nat.zero_le _) rfl ?_
        have xt : x_td w = 0 := if_pos ⟨z0, by omega⟩
        rintro r A2 F2 ⟨rfl, RC2, fr2⟩
        rw [xt, if_pos rfl] at RC2
        refine fc_eq (st' := [vI (a_td v st rf tl w), vL (31 * dg_t v st rf tl w.toNat)]) rfl (by rw [xt, if_pos rfl]; rfl) ?_
        refine fc_i2l C dX6_digest_22 (a_td_R RC hrf z0) ?_
        refine fc_ladd C dX6_digest_23 ?_
        refine fc_lstore_n C dX6_digest_24 rfl (by decide) ?_
        refine fc_iinc C dX6_digest_25 rfl (by decide) ?_
        refine fc_goto (tgt := 6) C dX6_digest_28 (by decide) ?_
        have := ih (w + 1) A2 F2 y2 (by omega) (by omega) (by omega) RC2 (fr1.tr fr2)
        rw [show (w + 1).toNat = w.toNat + 1 by omega] at this
        refine fc_eq (st' := []) ?_ rfl this
        show [some (vR 0), some (vL (31 * dg_t v st rf tl w.toNat + a_td v st rf tl w)), none, some (vI (w + 1)), y2] = [some (vR 0), some (vL (31 * dg_t v st rf tl w.toNat + a_td v st rf tl ((w.toNat : Nat) : Int))), none, some (vI (w + 1)), y2]
        rw [Int.toNat_of_nonneg z0]
  refine fc_ldc2_w C dX6_digest_0 kc_X6_262 ?_
  refine fc_lstore_n C dX6_digest_3 rfl (by decide) ?_
  refine fc_iconst C dX6_digest_4 ?_
  refine fc_istore_n C dX6_digest_5 rfl (by decide) ?_
  exact loopT 8 0 A F none (by omega) (by omega) (by omega) RC k_fr.rf
end DIG
