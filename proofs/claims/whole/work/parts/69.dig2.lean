/-! the reference's digest -/
section DG2
variable {A : Nat → Int → Int} {F : Nat → Nat → Int} {v : Int → Int} {ps : Int → Int → Int} {st : Int} {rf tx : Int → Int} {tl : Int}
def m_anL (A : Nat → Int → Int) (F : Nat → Nat → Int) (ans : Int) (v : Int → Int) (ps : Int → Int → Int) (st : Int) (rf tx : Int → Int) (tl : Int) : Option fc_AV → (Nat → Int → Int) → (Nat → Nat → Int) → Prop := fun r A' F' => r = some (vL ans) ∧ v_eq (A' 144) v ∧ m_RX A' F' ps st rf tx tl ∧ k_fr 143 158 A F A' F'
theorem a_td_R2 (RC : m_RC A F v ps st rf tx tl) (hrf : ∀ i : Int, 0 ≤ i → i < 3 → fc_R (rf i)) {w : Int} (h0 : 0 ≤ w) : fc_R (a_td v st rf tl w) := by
  obtain ⟨-, hv, hst, htl, -⟩ := RC
  have hn := hv.n
  have := s_kb_bd (fun s => v (36 + 6 * s))
  unfold a_td
  split
  · exact hrf w h0 (by omega)
  · split
    · exact fc_Rm (by omega)
    · split
      · exact fc_Rm (by omega)
      · split
        · exact fc_Rm (by omega)
        · exact fc_Rm (by omega)
theorem q_digest (RC : m_RC A F v ps st rf tx tl) (hrf : ∀ i : Int, 0 ≤ i → i < 3 → fc_R (rf i)) : fh_E mX7_digest 10 [vR 143] A F (m_anL A F (a_dg v st rf tl) v ps st rf tx tl) := by
  obtain ⟨e, hv, -, -⟩ := id RC
  have hn := hv.n
  refine fh_E.of mi_X7_digest (Nat.le_of_ble_eq_true rfl) ?_
  intro X C T
  have tail3 : ∀ (h : Int) (y1 y2 : Option fc_AV), h = 31 * (31 * dg_h v st rf tl + fc_ind (s_J (v_L v) (v 0))) + fc_ind (s_stable (v_L v) (v 0) (v_c v)) → fc_W X 0 0 159 (fc_H A F) 178 [some (vR 143), some (vL h), none, y1, y2] [] := by
    intro h y1 y2 eh
    refine fc_ldc2_w C dX7_digest_178 kc_X7_358 ?_
    refine fc_ldc2_w C dX7_digest_181 kc_X7_358 ?_
    refine fc_ldc2_w C dX7_digest_184 kc_X7_358 ?_
    refine fc_lload_n C dX7_digest_187 rfl rfl ?_
    refine fc_lmul C dX7_digest_188 ?_
    refine fc_aload_n C dX7_digest_189 rfl rfl ?_
    refine fh_callVE (y := mX7_treesNow) C dX7_digest_190 ml_X7_205 mi_X7_treesNow im_X7_treesNow se_X7_treesNow (r_treesNow e hv) rfl rfl (by decide) rfl (Nat.le_of_ble_eq_true rfl) (Nat.zero_le _) (Nat.zero_le _) rfl ?_
    rintro r A4 F4 ⟨rfl, rfl, fr4⟩
    have hT := d_T_b2 hv.g (n := v 0) (q := 0) hn
    refine fc_eq (st' := [vI (d_T (v_L v) (v 0) 0), vL (31 * h), vL 31, vL 31]) rfl rfl ?_
    have x0 : x_rk v 0 = 0 := by unfold x_rk; rw [if_pos (by omega), if_neg (by omega)]
    have x1 : x_rk v 1 = 0 := by unfold x_rk; rw [if_pos (by omega), if_neg (by omega)]
    refine fc_i2l C dX7_digest_193 (fc_Rm (by omega)) ?_
    refine fc_ladd C dX7_digest_194 ?_
    refine fc_lmul C dX7_digest_195 ?_
    refine fc_aload_n C dX7_digest_196 rfl rfl ?_
    refine fc_iconst C dX7_digest_197 ?_
    refine fh_callVE (y := mX7_rankNow) C dX7_digest_198 ml_X7_276 mi_X7_rankNow im_X7_rankNow se_X7_rankNow (r_rankNow ((fr4 144 (by omega)).trans e) hv (w := 0) (by omega) x0) rfl rfl (by decide) rfl (Nat.le_of_ble_eq_true rfl) (Nat.zero_le _) (Nat.zero_le _) rfl ?_
    rintro r A5 F5 ⟨⟨a, rfl, ha⟩, rfl, fr5⟩
    have ea := ha.1 rfl
    subst ea
    have hdg := fs_sum5 (f := v_c v) (n := v 0) (B := 999) (by omega) (by omega) (fun p p0 p1 => hv.2.2.2.1 p p0 (by omega))
    refine fc_eq (st' := [vI (fs_sum (v_c v) (v 0).toNat + 10000), vL (31 * (31 * h + d_T (v_L v) (v 0) 0)), vL 31]) rfl rfl ?_
    refine fc_i2l C dX7_digest_201 (fc_Rm (by omega)) ?_
    refine fc_ladd C dX7_digest_202 ?_
    refine fc_lmul C dX7_digest_203 ?_
    refine fc_aload_n C dX7_digest_204 rfl rfl ?_
    refine fc_iconst C dX7_digest_205 ?_
    refine fh_callVE (y := mX7_rankNow) C dX7_digest_206 ml_X7_276 mi_X7_rankNow im_X7_rankNow se_X7_rankNow (r_rankNow ((fr5 144 (by omega) (by omega) (by omega) (by omega) (by omega)).trans ((fr4 144 (by omega)).trans e)) hv (w := 1) (by omega) x1) rfl rfl (by decide) rfl (Nat.le_of_ble_eq_true rfl) (Nat.zero_le _) (Nat.zero_le _) rfl ?_
    rintro r A6 F6 ⟨⟨a, rfl, ha2⟩, rfl, fr6⟩
    have ea := ha2.2.1 rfl
    subst ea
    have hlc := s_lc_bd hv.g (n := v 0) (by omega) hn.2
    have hlc2 : 0 ≤ s_lc (v_L v) (v 0) ∧ s_lc (v_L v) (v 0) ≤ 75 := by
      unfold s_lc
      rw [Int.tdiv_eq_ediv_of_nonneg hlc.1]
      omega
    refine fc_eq (st' := [vI (s_lc (v_L v) (v 0) - v 0 + 1 + 10), vL (31 * (31 * (31 * h + d_T (v_L v) (v 0) 0) + (fs_sum (v_c v) (v 0).toNat + 10000)))]) rfl rfl ?_
    refine fc_i2l C dX7_digest_209 (fc_Rm (by omega)) ?_
    refine fc_ladd C dX7_digest_210 ?_
    have hm := m_an.red (x := 0) (y := 0) (ans := 0) RC (A' := A6) (fun j j1 j2 j3 j4 j5 j6 j7 => by rw [fr6 j (by omega) (by omega) (by omega) (by omega) (by omega), fr5 j (by omega) (by omega) (by omega) (by omega) (by omega), fr4 j (by omega)]) rfl rfl
    exact fh_lretE C T dX7_digest_211 ⟨by rw [eh]; rfl, hm.2.1, hm.2.2.1, hm.2.2.2⟩
  have stbl : ∀ (h h2 : Int) (y1 y2 : Option fc_AV), h = 31 * dg_h v st rf tl + fc_ind (s_J (v_L v) (v 0)) → fc_W X 0 0 159 (fc_H A F) 163 [some (vR 143), some (vL h2), none, y1, y2] [vL (31 * h)] := by
    intro h h2 y1 y2 eh
    refine fc_aload_n C dX7_digest_163 rfl rfl ?_
    refine fh_callV (y := mX7_isStable) C dX7_digest_164 ml_X7_179 mi_X7_isStable im_X7_isStable se_X7_isStable (r_isStable e hv) rfl rfl (by decide) rfl (Nat.le_of_ble_eq_true rfl) (Nat.zero_le _) (Nat.zero_le _) rfl ?_
    refine fc_if_eq (tgt := 174) C dX7_digest_167 (by decide) (fc_ind_R _) (fun c167 => ?_) (fun c167 => ?_)
    · refine fc_iconst C dX7_digest_174 ?_
      refine fc_i2l C dX7_digest_175 (fc_Rm (by omega)) ?_
      refine fc_ladd C dX7_digest_176 ?_
      refine fc_lstore_n C dX7_digest_177 rfl (by decide) ?_
      exact tail3 _ y1 y2 (by rw [eh, c167])
    · have e1 : fc_ind (s_stable (v_L v) (v 0) (v_c v)) = 1 := fc_ind_t (fc_ind_ne c167)
      refine fc_iconst C dX7_digest_170 ?_
      refine fc_goto (tgt := 175) C dX7_digest_171 (by decide) ?_
      refine fc_i2l C dX7_digest_175 (fc_Rm (by omega)) ?_
      refine fc_ladd C dX7_digest_176 ?_
      refine fc_lstore_n C dX7_digest_177 rfl (by decide) ?_
      exact tail3 _ y1 y2 (by rw [eh, e1])
  have tail : ∀ (h : Int) (y1 y2 : Option fc_AV), h = dg_h v st rf tl → fc_W X 0 0 159 (fc_H A F) 140 [some (vR 143), some (vL h), none, y1, y2] [] := by
    intro h y1 y2 eh
    refine fc_ldc2_w C dX7_digest_140 kc_X7_358 ?_
    refine fc_ldc2_w C dX7_digest_143 kc_X7_358 ?_
    refine fc_lload_n C dX7_digest_146 rfl rfl ?_
    refine fc_lmul C dX7_digest_147 ?_
    refine fc_aload_n C dX7_digest_148 rfl rfl ?_
    refine fh_callV (y := mX7_isJoined) C dX7_digest_149 ml_X7_118 mi_X7_isJoined im_X7_isJoined se_X7_isJoined (r_isJoined e hn hv.g) rfl rfl (by decide) rfl (Nat.le_of_ble_eq_true rfl) (Nat.zero_le _) (Nat.zero_le _) rfl ?_
    refine fc_if_eq (tgt := 159) C dX7_digest_152 (by decide) (fc_ind_R _) (fun c152 => ?_) (fun c152 => ?_)
    · refine fc_iconst C dX7_digest_159 ?_
      refine fc_i2l C dX7_digest_160 (fc_Rm (by omega)) ?_
      refine fc_ladd C dX7_digest_161 ?_
      refine fc_lmul C dX7_digest_162 ?_
      exact stbl _ h y1 y2 (by rw [eh, c152])
    · have e1 : fc_ind (s_J (v_L v) (v 0)) = 1 := fc_ind_t (fc_ind_ne c152)
      refine fc_iconst C dX7_digest_155 ?_
      refine fc_goto (tgt := 160) C dX7_digest_156 (by decide) ?_
      refine fc_i2l C dX7_digest_160 (fc_Rm (by omega)) ?_
      refine fc_ladd C dX7_digest_161 ?_
      refine fc_lmul C dX7_digest_162 ?_
      exact stbl _ h y1 y2 (by rw [eh, e1])
  have loopP : ∀ (m : Nat) (p : Int) (h : Int) (y2 : Option fc_AV), 0 ≤ p → p ≤ v 0 → v 0 - p < m → h = dg_p v (dg_l v (dg_t v st rf tl 7) (v 0 - 1).toNat) p.toNat → fc_W X 0 0 159 (fc_H A F) 79 [some (vR 143), some (vL h), none, some (vI p), y2] [] := by
    intro m
    induction m with
    | zero => intro p h y2 z0 z1 z2; exfalso; omega
    | succ m ih =>
      intro p h y2 z0 z1 z2 eh
      refine fc_iload_n C dX7_digest_79 rfl rfl ?_
      refine fc_aload_n C dX7_digest_80 rfl rfl ?_
      refine fh_callV (y := mX7_many) C dX7_digest_81 ml_X7_60 mi_X7_many im_X7_many se_X7_many (r_many e) rfl rfl (by decide) rfl (Nat.le_of_ble_eq_true rfl) (Nat.zero_le _) (Nat.zero_le _) rfl ?_
      refine fc_icmp_ge (tgt := 140) C dX7_digest_84 (by decide) (fc_Rm (by omega)) (fc_Rm (by omega)) (fun c84 => ?_) (fun c84 => ?_)
      · exact tail h _ _ (by rw [eh, show p = v 0 by omega]; rfl)
      · have hpp : dg_p v (dg_l v (dg_t v st rf tl 7) (v 0 - 1).toNat) (p + 1).toNat = 31 * dg_o v p h 3 + v (31 + p) := by
          rw [show (p + 1).toNat = p.toNat + 1 by omega]
          show 31 * dg_o v ((p.toNat : Nat) : Int) _ 3 + v (31 + ((p.toNat : Nat) : Int)) = _
          rw [Int.toNat_of_nonneg z0, ← eh]
        have loopO : ∀ (m2 : Nat) (w : Int), 0 ≤ w → w ≤ 3 → 3 - w < m2 → fc_W X 0 0 159 (fc_H A F) 90 [some (vR 143), some (vL (dg_o v p h w.toNat)), none, some (vI p), some (vI w)] [] := by
          intro m2
          induction m2 with
          | zero => intro w y0 y1 y2; exfalso; omega
          | succ m2 ih2 =>
            intro w y0 y1 y2
            refine fc_iload C dX7_digest_90 rfl ?_
            refine fc_iconst C dX7_digest_92 ?_
            refine fc_icmp_ge (tgt := 117) C dX7_digest_93 (by decide) (fc_Rm (by omega)) (fc_Rm (by omega)) (fun c93 => ?_) (fun c93 => ?_)
            · have ew : w = 3 := by omega
              subst ew
              have h31 := hv.2.2.2.2.2.1 p z0 (by omega)
              refine fc_ldc2_w C dX7_digest_117 kc_X7_358 ?_
              refine fc_lload_n C dX7_digest_120 rfl rfl ?_
              refine fc_lmul C dX7_digest_121 ?_
              refine fc_aload_n C dX7_digest_122 rfl rfl ?_
              refine fh_getf C dX7_digest_123 fl_X7_7 rfl rfl ?_
              refine fc_bipush C dX7_digest_126 (by decide) ?_
              refine fc_iload_n C dX7_digest_128 rfl rfl ?_
              refine fc_iadd C dX7_digest_129 ?_
              refine fh_iaload C dX7_digest_130 (fun _ _ => rfl) (by omega) (by omega) (by decide) ?_
              rw [e]
              refine fc_i2l C dX7_digest_131 (fc_Rm (by omega)) ?_
              refine fc_ladd C dX7_digest_132 ?_
              refine fc_lstore_n C dX7_digest_133 rfl (by decide) ?_
              refine fc_iinc C dX7_digest_134 rfl (by decide) ?_
              refine fc_goto (tgt := 79) C dX7_digest_137 (by decide) ?_
              exact ih (p + 1) _ _ (by omega) (by omega) (by omega) (by rw [hpp]; rfl)
            · refine fc_ldc2_w C dX7_digest_96 kc_X7_358 ?_
              refine fc_lload_n C dX7_digest_99 rfl rfl ?_
              refine fc_lmul C dX7_digest_100 ?_
              refine fc_aload_n C dX7_digest_101 rfl rfl ?_
              refine fc_iload_n C dX7_digest_102 rfl rfl ?_
              refine fc_iload C dX7_digest_103 rfl ?_
              refine fh_callV (y := mX7_ofNow) C dX7_digest_105 ml_X7_176 mi_X7_ofNow im_X7_ofNow se_X7_ofNow (r_ofNow e hv (p := p) (w := w) (by omega) (by omega)) rfl rfl (by decide) rfl (Nat.le_of_ble_eq_true rfl) (Nat.zero_le _) (Nat.zero_le _) rfl ?_
              refine fc_i2l C dX7_digest_108 (a_of_R hv z0 (by omega)) ?_
              refine fc_ladd C dX7_digest_109 ?_
              refine fc_lstore_n C dX7_digest_110 rfl (by decide) ?_
              refine fc_iinc C dX7_digest_111 rfl (by decide) ?_
              refine fc_goto (tgt := 90) C dX7_digest_114 (by decide) ?_
              have := ih2 (w + 1) (by omega) (by omega) (by omega)
              rw [show (w + 1).toNat = w.toNat + 1 by omega] at this
              refine fc_eq (st' := []) ?_ rfl this
              show [some (vR 143), some (vL (31 * dg_o v p h w.toNat + a_of v p w)), none, some (vI p), some (vI (w + 1))] = [some (vR 143), some (vL (31 * dg_o v p h w.toNat + a_of v p ((w.toNat : Nat) : Int))), none, some (vI p), some (vI (w + 1))]
              rw [Int.toNat_of_nonneg y0]
        refine fc_iconst C dX7_digest_87 ?_
        refine fc_istore C dX7_digest_88 (by decide) ?_
        exact loopO 4 0 (by omega) (by omega) (by omega)
  have loopL : ∀ (m : Nat) (b : Int) (h : Int) (y2 : Option fc_AV), 1 ≤ b → b ≤ v 0 → v 0 - b < m → h = dg_l v (dg_t v st rf tl 7) (b - 1).toNat → fc_W X 0 0 159 (fc_H A F) 33 [some (vR 143), some (vL h), none, some (vI b), y2] [] := by
    intro m
    induction m with
    | zero => intro p h y2 z0 z1 z2; exfalso; omega
    | succ m ih =>
      intro b h y2 z0 z1 z2 eh
      refine fc_iload_n C dX7_digest_33 rfl rfl ?_
      refine fc_aload_n C dX7_digest_34 rfl rfl ?_
      refine fh_callV (y := mX7_many) C dX7_digest_35 ml_X7_60 mi_X7_many im_X7_many se_X7_many (r_many e) rfl rfl (by decide) rfl (Nat.le_of_ble_eq_true rfl) (Nat.zero_le _) (Nat.zero_le _) rfl ?_
      refine fc_icmp_ge (tgt := 77) C dX7_digest_38 (by decide) (fc_Rm (by omega)) (fc_Rm (by omega)) (fun c38 => ?_) (fun c38 => ?_)
      · refine fc_iconst C dX7_digest_77 ?_
        refine fc_istore_n C dX7_digest_78 rfl (by decide) ?_
        exact loopP 6 0 h y2 (by omega) (by omega) (by omega) (by rw [eh, show b = v 0 by omega]; rfl)
      · have hbb : dg_l v (dg_t v st rf tl 7) (b + 1 - 1).toNat = dg_i v b h b.toNat := by
          rw [show (b + 1 - 1).toNat = (b - 1).toNat + 1 by omega]
          show dg_i v (((b - 1).toNat + 1 : Nat) : Int) _ ((b - 1).toNat + 1) = _
          rw [show (((b - 1).toNat + 1 : Nat) : Int) = b by omega, ← eh, show (b - 1).toNat + 1 = b.toNat by omega]
        have loopI : ∀ (m2 : Nat) (a : Int), 0 ≤ a → a ≤ b → b - a < m2 → fc_W X 0 0 159 (fc_H A F) 44 [some (vR 143), some (vL (dg_i v b h a.toNat)), none, some (vI b), some (vI a)] [] := by
          intro m2
          induction m2 with
          | zero => intro a y0 y1 y2; exfalso; omega
          | succ m2 ih2 =>
            intro a y0 y1 y2
            refine fc_iload C dX7_digest_44 rfl ?_
            refine fc_iload_n C dX7_digest_46 rfl rfl ?_
            refine fc_icmp_ge (tgt := 71) C dX7_digest_47 (by decide) (fc_Rm (by omega)) (fc_Rm (by omega)) (fun c47 => ?_) (fun c47 => ?_)
            · have ea : a = b := by omega
              subst ea
              refine fc_iinc C dX7_digest_71 rfl (by decide) ?_
              refine fc_goto (tgt := 33) C dX7_digest_74 (by decide) ?_
              exact ih (a + 1) _ _ (by omega) (by omega) (by omega) hbb.symm
            · have hl := hv.g a b y0 (by omega) (by omega) (by omega)
              refine fc_ldc2_w C dX7_digest_50 kc_X7_358 ?_
              refine fc_lload_n C dX7_digest_53 rfl rfl ?_
              refine fc_lmul C dX7_digest_54 ?_
              refine fc_aload_n C dX7_digest_55 rfl rfl ?_
              refine fc_iload C dX7_digest_56 rfl ?_
              refine fc_iload_n C dX7_digest_58 rfl rfl ?_
              refine fh_callV (y := mX7_linesOf) C dX7_digest_59 ml_X7_68 mi_X7_linesOf im_X7_linesOf se_X7_linesOf (r_linesOf e (a := a) (b := b) (by omega) (by omega)) rfl rfl (by decide) rfl (Nat.le_of_ble_eq_true rfl) (Nat.zero_le _) (Nat.zero_le _) rfl ?_
              refine fc_i2l C dX7_digest_62 (fc_Rm (by omega)) ?_
              refine fc_ladd C dX7_digest_63 ?_
              refine fc_lstore_n C dX7_digest_64 rfl (by decide) ?_
              refine fc_iinc C dX7_digest_65 rfl (by decide) ?_
              refine fc_goto (tgt := 44) C dX7_digest_68 (by decide) ?_
              have := ih2 (a + 1) (by omega) (by omega) (by omega)
              rw [show (a + 1).toNat = a.toNat + 1 by omega] at this
              refine fc_eq (st' := []) ?_ rfl this
              show [some (vR 143), some (vL (31 * dg_i v b h a.toNat + v_L v a b)), none, some (vI b), some (vI (a + 1))] = [some (vR 143), some (vL (31 * dg_i v b h a.toNat + v_L v ((a.toNat : Nat) : Int) b)), none, some (vI b), some (vI (a + 1))]
              rw [Int.toNat_of_nonneg y0]
        refine fc_iconst C dX7_digest_41 ?_
        refine fc_istore C dX7_digest_42 (by decide) ?_
        exact loopI 6 0 (by omega) (by omega) (by omega)
  have loopT : ∀ (m : Nat) (w : Int) (y2 : Option fc_AV), 0 ≤ w → w ≤ 7 → 7 - w < m → fc_W X 0 0 159 (fc_H A F) 6 [some (vR 143), some (vL (dg_t v st rf tl w.toNat)), none, some (vI w), y2] [] := by
    intro m
    induction m with
    | zero => intro p y2 z0 z1 z2; exfalso; omega
    | succ m ih =>
      intro w y2 z0 z1 z2
      refine fc_iload_n C dX7_digest_6 rfl rfl ?_
      refine fc_bipush C dX7_digest_7 (by decide) ?_
      refine fc_icmp_ge (tgt := 31) C dX7_digest_9 (by decide) (fc_Rm (by omega)) (fc_Rm (by omega)) (fun c9 => ?_) (fun c9 => ?_)
      · refine fc_iconst C dX7_digest_31 ?_
        refine fc_istore_n C dX7_digest_32 rfl (by decide) ?_
        exact loopL 6 1 _ y2 (by omega) (by omega) (by omega) (by rw [show w = 7 by omega]; rfl)
      · refine fc_ldc2_w C dX7_digest_12 kc_X7_358 ?_
        refine fc_lload_n C dX7_digest_15 rfl rfl ?_
        refine fc_lmul C dX7_digest_16 ?_
        refine fc_aload_n C dX7_digest_17 rfl rfl ?_
        refine fc_iload_n C dX7_digest_18 rfl rfl ?_
        refine fh_callV (y := mX7_toldOf) C dX7_digest_19 ml_X7_353 mi_X7_toldOf im_X7_toldOf se_X7_toldOf (r_toldOf RC (w := w) (by omega)) rfl rfl (by decide) rfl (Nat.le_of_ble_eq_true rfl) (Nat.zero_le _) (Nat.zero_le _) rfl ?_
        refine fc_i2l C dX7_digest_22 (a_td_R2 RC hrf z0) ?_
        refine fc_ladd C dX7_digest_23 ?_
        refine fc_lstore_n C dX7_digest_24 rfl (by decide) ?_
        refine fc_iinc C dX7_digest_25 rfl (by decide) ?_
        refine fc_goto (tgt := 6) C dX7_digest_28 (by decide) ?_
        have := ih (w + 1) y2 (by omega) (by omega) (by omega)
        rw [show (w + 1).toNat = w.toNat + 1 by omega] at this
        refine fc_eq (st' := []) ?_ rfl this
        show [some (vR 143), some (vL (31 * dg_t v st rf tl w.toNat + a_td v st rf tl w)), none, some (vI (w + 1)), y2] = [some (vR 143), some (vL (31 * dg_t v st rf tl w.toNat + a_td v st rf tl ((w.toNat : Nat) : Int))), none, some (vI (w + 1)), y2]
        rw [Int.toNat_of_nonneg z0]
  refine fc_ldc2_w C dX7_digest_0 kc_X7_356 ?_
  refine fc_lstore_n C dX7_digest_3 rfl (by decide) ?_
  refine fc_iconst C dX7_digest_4 ?_
  refine fc_istore_n C dX7_digest_5 rfl (by decide) ?_
  exact loopT 8 0 none (by omega) (by omega) (by omega)
end DG2
