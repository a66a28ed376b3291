/-! the reference: draws, firing -/
section REF3
variable {A : Nat → Int → Int} {F : Nat → Nat → Int} {v : Int → Int} {ps : Int → Int → Int} {st : Int} {rf tx : Int → Int} {tl : Int}
theorem s_val_cg {L M : Int → Int → Int} {n p : Int} (hn : 0 ≤ n ∧ n ≤ 5) (hp : 0 ≤ p ∧ p < 5) (h : ∀ a b : Int, 0 ≤ a → a < 5 → 0 ≤ b → b < 5 → L a b = M a b) : s_val L n p = s_val M n p := fs_sum_congr fun k k0 k1 => h p k hp.1 hp.2 k0 (by omega)
theorem s_lc_cg {L M : Int → Int → Int} {n : Int} (hn : 0 ≤ n ∧ n ≤ 5) (h : ∀ a b : Int, 0 ≤ a → a < 5 → 0 ≤ b → b < 5 → L a b = M a b) : s_lc L n = s_lc M n := by
  unfold s_lc
  rw [fs_sum_congr (g := fun p => s_val M n p) (fun k k0 k1 => s_val_cg hn ⟨k0, by omega⟩ h)]
theorem s_M_cg {L M : Int → Int → Int} {n a p : Int} (hn : 0 ≤ n ∧ n ≤ 5) (ha : 0 ≤ a ∧ a < 5) (hp : 0 ≤ p ∧ p < 5) (h : ∀ a b : Int, 0 ≤ a → a < 5 → 0 ≤ b → b < 5 → L a b = M a b) : s_M L n a p = s_M M n a p := by
  unfold s_M
  rw [s_val_cg hn ha h, h a p ha.1 ha.2 hp.1 hp.2]
theorem s_mo_cg {u v : Int → Int} {S t p : Int} (hn : 2 ≤ v 0 ∧ v 0 ≤ 5) (e0 : u 0 = v 0) (hp : 0 ≤ p ∧ p < 5) (h : ∀ a b : Int, 0 ≤ a → a < 5 → 0 ≤ b → b < 5 → v_L u a b = v_L v a b) : s_mo u S t p = s_mo v S t p := by
  unfold s_mo
  rw [e0, fs_sum_congr (g := fun a => if fb_t S a = 1 then - s_M (v_L v) (v 0) a p else 0) (fun k k0 k1 => by rw [s_M_cg (by omega) ⟨k0, by omega⟩ hp h])]
theorem s_mo_bd {v : Int → Int} (hv : v_ok v) {S t p : Int} (ht : t = 1 ∨ t = -1) (hp : 0 ≤ p ∧ p < v 0) : -75 ≤ s_mo v S t p ∧ s_mo v S t p ≤ 75 := by
  have hn := hv.n
  have h := fs_sum5 (f := fun a => if fb_t S a = 1 then - s_M (v_L v) (v 0) a p else 0) (n := v 0) (B := 15) (by omega) (by omega) (fun k k0 k1 => by
    have := s_M_bd hv.g hn k p k0 k1 hp.1 hp.2
    split <;> omega)
  unfold s_mo
  rcases ht with e | e <;> rw [e] <;> omega
theorem q_draws (RC : m_RC A F v ps st rf tx tl) {seed : Int} (hs : fc_R seed) : fh_E mX7_draws 3 [vR 143, vI seed] A F (m_st A F (x_dr seed) (s_lc (v_L (p_dr v seed)) (v 0)) v ps st rf tx tl (p_dr v seed)) := by
  obtain ⟨e, hv, -⟩ := id RC
  have hn := hv.n
  refine fh_E.of mi_X7_draws (Nat.le_of_ble_eq_true rfl) ?_
  intro X C T
  refine fc_iload_n C dX7_draws_0 rfl rfl ?_
  refine fc_i2l C dX7_draws_1 hs ?_
  refine fc_lconst (z := 0) C dX7_draws_2 rfl ?_
  refine fc_ldc2_w C dX7_draws_3 kc_X7_103 ?_
  refine fh_callS (y := mX7_in) C dX7_draws_6 ml_X7_64 mi_X7_in st_X7_in (r_in hs.L (fc_RLm (by omega)) (fc_RLm (by omega))) (by decide) rfl (Nat.le_of_ble_eq_true rfl) (Nat.zero_le _) (Nat.zero_le _) rfl ?_
  refine fc_if_ne (tgt := 19) C dX7_draws_9 (by decide) (fc_ind_R _) (fun c9 => ?_) (fun c9 => ?_)
  · have c9 := fc_ind_ne c9
    have hx : x_dr seed = 0 := if_pos c9
    refine fc_aload_n C dX7_draws_19 rfl rfl ?_
    refine fh_callVE (y := mX7_keep) C dX7_draws_20 ml_X7_83 mi_X7_keep im_X7_keep se_X7_keep (r_keep RC) rfl rfl (by decide) rfl (Nat.le_of_ble_eq_true rfl) (Nat.zero_le _) (Nat.zero_le _) rfl ?_
    rintro r A0 F0 ⟨rfl, hm, aj, fj, fk⟩
    refine fc_eq (st' := []) rfl rfl ?_
    have e0 := (aj 144 (by omega)).trans e
    have fin : ∀ A1 : Nat → Int → Int, ∀ y : List (Option fc_AV), (∀ j : Nat, j ≠ 144 → A1 j = A0 j) → v_eq (A1 144) (p_dr v seed) → fc_W X 0 0 159 (fc_H A1 F0) 146 (some (vR 143) :: y) [] := by
      intro A1 y frA hq
      have hok := v_ok_dr hv (seed := seed) c9.1
      have hL : ∀ a b : Int, 0 ≤ a → a < 5 → 0 ≤ b → b < 5 → v_L (A1 144) a b = v_L (p_dr v seed) a b := fun a b a0 a1 b0 b1 => hq _ (by omega) (by omega)
      have h00 : A1 144 0 = v 0 := by rw [hq 0 (by omega) (by omega), p_dr_n (by omega)]
      have hg : g_ok (v_L (A1 144)) := fun a b a0 a1 b0 b1 => by
        rw [hL a b a0 a1 b0 b1, hL b a b0 b1 a0 a1, hL a a a0 a1 a0 a1]
        exact hok.g a b a0 a1 b0 b1
      refine fc_aload_n C dX7_draws_146 rfl rfl ?_
      refine fh_callV (y := mX7_allLines) C dX7_draws_147 ml_X7_115 mi_X7_allLines im_X7_allLines se_X7_allLines (r_allLines (v := A1 144) rfl (by omega) hg) rfl rfl (by decide) rfl (Nat.le_of_ble_eq_true rfl) (Nat.zero_le _) (Nat.zero_le _) rfl ?_
      refine fh_iretE C T dX7_draws_150 (Or.inl rfl) (m_st.yes hq (hm.fr (frA 145 (by omega)) (frA 147 (by omega)) (frA 157 (by omega)) rfl rfl) (fun i hi => ⟨by rw [frA i (by omega)]; exact aj i (by omega), fj i (by omega)⟩) hx ?_)
      rw [h00]
      exact (s_lc_cg (by omega) hL).symm
    -- chips
    have loop3 : ∀ (m : Nat) (k x : Int) (A1 : Nat → Int → Int) (y5 y6 : Option fc_AV), 0 ≤ k → k ≤ v 0 → v 0 - k < m → 0 ≤ x → x < 2147483648 → x = (s_dch (v_c v) (s_dout (v_L v) seed (v 0 - 1).toNat).2 k.toNat).2 → (∀ j : Nat, j ≠ 144 → A1 j = A0 j) → (∀ a b : Int, 0 ≤ a → a < 5 → 0 ≤ b → b < 5 → A1 144 (1 + 5 * a + b) = (s_dout (v_L v) seed (v 0 - 1).toNat).1 a b) → (∀ p : Int, 0 ≤ p → p < 5 → A1 144 (26 + p) = (s_dch (v_c v) (s_dout (v_L v) seed (v 0 - 1).toNat).2 k.toNat).1 p) → (∀ j : Int, j < 1 ∨ 31 ≤ j → A1 144 j = v j) → fc_W X 0 0 159 (fc_H A1 F0) 97 [some (vR 143), some (vI seed), some (vL x), none, some (vI k), y5, y6] [] := by
      intro m
      induction m with
      | zero => intro k x A1 y5 y6 z0 z1 z2; exfalso; omega
      | succ m ih =>
        intro k x A1 y5 y6 z0 z1 z2 x0 x1 ex frA hl hc ho
        have h00 : A1 144 0 = v 0 := ho 0 (by omega)
        refine fc_iload C dX7_draws_97 rfl ?_
        refine fc_aload_n C dX7_draws_99 rfl rfl ?_
        refine fh_callV (y := mX7_many) C dX7_draws_100 ml_X7_60 mi_X7_many im_X7_many se_X7_many (r_many (v := A1 144) rfl) rfl rfl (by decide) rfl (Nat.le_of_ble_eq_true rfl) (Nat.zero_le _) (Nat.zero_le _) rfl ?_
        rw [h00]
        refine fc_icmp_ge (tgt := 146) C dX7_draws_103 (by decide) (fc_Rm (by omega)) (fc_Rm (by omega)) (fun c103 => ?_) (fun c103 => ?_)
        · refine fin A1 _ frA (fun j j0 j1 => ?_)
          by_cases q1 : 1 ≤ j ∧ j < 26
          · have := hl ((j - 1) / 5) ((j - 1) % 5) (by omega) (by omega) (by omega) (by omega)
            rw [show 1 + 5 * ((j - 1) / 5) + (j - 1) % 5 = j by omega] at this
            rw [this]
            unfold p_dr
            rw [if_pos q1]
          · by_cases q2 : 26 ≤ j ∧ j < 31
            · have := hc (j - 26) (by omega) (by omega)
              rw [show 26 + (j - 26) = j by omega, show k = v 0 by omega] at this
              rw [this]
              unfold p_dr
              rw [if_neg q1, if_pos q2]
            · rw [ho j (by omega), p_dr_n (by omega)]
        · have hnx := s_nx_bd x0
          have hdk := s_dk hnx.1 hnx.2 (m := 7) (by omega) (by omega)
          refine fc_lload_n C dX7_draws_106 rfl rfl ?_
          refine fc_ldc2_w C dX7_draws_107 kc_X7_105 ?_
          refine fc_lmul C dX7_draws_110 ?_
          refine fc_ldc2_w C dX7_draws_111 kc_X7_107 ?_
          refine fc_ladd C dX7_draws_114 ?_
          refine fc_ldc2_w C dX7_draws_115 kc_X7_109 ?_
          refine fc_lrem C dX7_draws_118 (fc_RLm (by omega)) (fc_RLm (by omega)) (by omega) ?_
          refine fc_eq (st' := [vL (s_nx x)]) rfl rfl ?_
          refine fc_lstore_n C dX7_draws_119 rfl (by decide) ?_
          refine fc_aload_n C dX7_draws_120 rfl rfl ?_
          refine fh_getf C dX7_draws_121 fl_X7_7 rfl rfl ?_
          refine fc_bipush C dX7_draws_124 (by decide) ?_
          refine fc_iload C dX7_draws_126 rfl ?_
          refine fc_iadd C dX7_draws_128 ?_
          refine fc_lload_n C dX7_draws_129 rfl rfl ?_
          refine fc_ldc2_w C dX7_draws_130 kc_X7_111 ?_
          refine fc_ldiv C dX7_draws_133 (fc_RLm (by omega)) (fc_RLm (by omega)) (by omega) ?_
          refine fc_ldc2_w C dX7_draws_134 kc_X7_113 ?_
          refine fc_lrem C dX7_draws_137 (fc_RLm (by omega)) (fc_RLm (by omega)) (by omega) ?_
          refine fc_l2i C dX7_draws_138 ?_
          refine fh_iastore C dX7_draws_139 (fun _ _ => rfl) (by omega) (by omega) (by decide) ?_
          refine fc_iinc C dX7_draws_140 rfl (by decide) ?_
          refine fc_goto (tgt := 97) C dX7_draws_143 (by decide) ?_
          refine ih (k + 1) (s_nx x) _ _ _ (by omega) (by omega) (by omega) hnx.1 hnx.2 (by rw [s_dch_step z0, ← ex]) (fun j hj => by rw [fa_n _ _ hj]; exact frA j hj) (fun a b a0 a1 b0 b1 => ?_) (fun p p0 p1 => ?_) (fun j hj => ?_)
          · rw [fa_s]
            unfold fc_set
            rw [if_neg (by omega)]
            exact hl a b a0 a1 b0 b1
          · rw [fa_s, s_dch_step z0, ← ex]
            show (if 26 + p = 26 + k then ((s_nx x).tdiv 65536).tmod 7 else A1 144 (26 + p)) = (if p = k then ((s_nx x).tdiv 65536).tmod 7 else (s_dch (v_c v) (s_dout (v_L v) seed (v 0 - 1).toNat).2 k.toNat).1 p)
            by_cases q : p = k
            · rw [if_pos (by omega), if_pos q]
            · rw [if_neg (by omega), if_neg q]
              exact hc p p0 p1
          · rw [fa_s]
            unfold fc_set
            rw [if_neg (by omega)]
            exact ho j hj
    -- lines
    have loop1 : ∀ (m : Nat) (b x : Int) (A1 : Nat → Int → Int) (y5 y6 : Option fc_AV), 1 ≤ b → b ≤ v 0 → v 0 - b < m → 0 ≤ x → x < 2147483648 → x = (s_dout (v_L v) seed (b - 1).toNat).2 → (∀ j : Nat, j ≠ 144 → A1 j = A0 j) → (∀ a c : Int, 0 ≤ a → a < 5 → 0 ≤ c → c < 5 → v_L (A1 144) a c = (s_dout (v_L v) seed (b - 1).toNat).1 a c) → (∀ j : Int, j < 1 ∨ 26 ≤ j → A1 144 j = v j) → fc_W X 0 0 159 (fc_H A1 F0) 29 [some (vR 143), some (vI seed), some (vL x), none, some (vI b), y5, y6] [] := by
      intro m
      induction m with
      | zero => intro b x A1 y5 y6 z0 z1 z2; exfalso; omega
      | succ m ih =>
        intro b x A1 y5 y6 z0 z1 z2 x0 x1 ex frA hl ho
        have h00 : A1 144 0 = v 0 := ho 0 (by omega)
        refine fc_iload C dX7_draws_29 rfl ?_
        refine fc_aload_n C dX7_draws_31 rfl rfl ?_
        refine fh_callV (y := mX7_many) C dX7_draws_32 ml_X7_60 mi_X7_many im_X7_many se_X7_many (r_many (v := A1 144) rfl) rfl rfl (by decide) rfl (Nat.le_of_ble_eq_true rfl) (Nat.zero_le _) (Nat.zero_le _) rfl ?_
        rw [h00]
        refine fc_icmp_ge (tgt := 94) C dX7_draws_35 (by decide) (fc_Rm (by omega)) (fc_Rm (by omega)) (fun c35 => ?_) (fun c35 => ?_)
        · have eb : b = v 0 := by omega
          refine fc_iconst C dX7_draws_94 ?_
          refine fc_istore C dX7_draws_95 (by decide) ?_
          rw [eb] at ex hl
          exact loop3 6 0 x A1 _ _ (by omega) (by omega) (by omega) x0 x1 ex frA hl (fun p p0 p1 => ho _ (by omega)) (fun j hj => ho j (by omega))
        · have loop2 : ∀ (m2 : Nat) (a x2 : Int) (A2 : Nat → Int → Int) (y6 : Option fc_AV), 0 ≤ a → a ≤ b → b - a < m2 → 0 ≤ x2 → x2 < 2147483648 → x2 = (s_din (s_dout (v_L v) seed (b - 1).toNat).1 (s_dout (v_L v) seed (b - 1).toNat).2 b a.toNat).2 → (∀ j : Nat, j ≠ 144 → A2 j = A0 j) → (∀ i c : Int, 0 ≤ i → i < 5 → 0 ≤ c → c < 5 → v_L (A2 144) i c = (s_din (s_dout (v_L v) seed (b - 1).toNat).1 (s_dout (v_L v) seed (b - 1).toNat).2 b a.toNat).1 i c) → (∀ j : Int, j < 1 ∨ 26 ≤ j → A2 144 j = v j) → fc_W X 0 0 159 (fc_H A2 F0) 41 [some (vR 143), some (vI seed), some (vL x2), none, some (vI b), some (vI a), y6] [] := by
            intro m2
            induction m2 with
            | zero => intro a x2 A2 y6 h0 h1 h2; exfalso; omega
            | succ m2 ih2 =>
              intro a x2 A2 y6 q0 q1 q2 y0 y1 ey frB hb hob
              refine fc_iload C dX7_draws_41 rfl ?_
              refine fc_iload C dX7_draws_43 rfl ?_
              refine fc_icmp_ge (tgt := 88) C dX7_draws_45 (by decide) (fc_Rm (by omega)) (fc_Rm (by omega)) (fun c45 => ?_) (fun c45 => ?_)
              · have ea : a = b := by omega
                subst ea
                refine fc_iinc C dX7_draws_88 rfl (by decide) ?_
                refine fc_goto (tgt := 29) C dX7_draws_91 (by decide) ?_
                refine ih (a + 1) x2 A2 _ _ (by omega) (by omega) (by omega) y0 y1 ?_ frB (fun i c i0 i1 c0 c1 => ?_) hob
                · rw [show a + 1 - 1 = a by omega, s_dout_step z0]; exact ey
                · rw [show a + 1 - 1 = a by omega, s_dout_step z0]; exact hb i c i0 i1 c0 c1
              · have hnx := s_nx_bd y0
                have hdk := s_dk hnx.1 hnx.2 (m := 3) (by omega) (by omega)
                refine fc_lload_n C dX7_draws_48 rfl rfl ?_
                refine fc_ldc2_w C dX7_draws_49 kc_X7_105 ?_
                refine fc_lmul C dX7_draws_52 ?_
                refine fc_ldc2_w C dX7_draws_53 kc_X7_107 ?_
                refine fc_ladd C dX7_draws_56 ?_
                refine fc_ldc2_w C dX7_draws_57 kc_X7_109 ?_
                refine fc_lrem C dX7_draws_60 (fc_RLm (by omega)) (fc_RLm (by omega)) (by omega) ?_
                refine fc_eq (st' := [vL (s_nx x2)]) rfl rfl ?_
                refine fc_lstore_n C dX7_draws_61 rfl (by decide) ?_
                refine fc_aload_n C dX7_draws_62 rfl rfl ?_
                refine fc_iload C dX7_draws_63 rfl ?_
                refine fc_iload C dX7_draws_65 rfl ?_
                refine fc_lload_n C dX7_draws_67 rfl rfl ?_
                refine fc_ldc2_w C dX7_draws_68 kc_X7_111 ?_
                refine fc_ldiv C dX7_draws_71 (fc_RLm (by omega)) (fc_RLm (by omega)) (by omega) ?_
                refine fc_ldc2_w C dX7_draws_72 kc_X7_93 ?_
                refine fc_lrem C dX7_draws_75 (fc_RLm (by omega)) (fc_RLm (by omega)) (by omega) ?_
                refine fc_l2i C dX7_draws_76 ?_
                refine fh_callV (y := mX7_linesNow) C dX7_draws_77 ml_X7_99 mi_X7_linesNow im_X7_linesNow se_X7_linesNow (r_linesNow (v := A2 144) rfl ⟨q0, by omega⟩ ⟨by omega, by omega⟩) rfl rfl (by decide) rfl (Nat.le_of_ble_eq_true rfl) (Nat.zero_le _) (Nat.zero_le _) rfl ?_
                refine fc_istore C dX7_draws_80 (by decide) ?_
                refine fc_iinc C dX7_draws_82 rfl (by decide) ?_
                refine fc_goto (tgt := 41) C dX7_draws_85 (by decide) ?_
                refine ih2 (a + 1) (s_nx x2) _ _ (by omega) (by omega) (by omega) hnx.1 hnx.2 (by rw [s_din_step q0, ← ey]) (fun j hj => by rw [fa_n _ _ hj]; exact frB j hj) (fun i c i0 i1 c0 c1 => ?_) (fun j hj => ?_)
                · rw [fa_s, s_din_step q0, ← ey, v_L_ln ⟨q0, by omega⟩ ⟨by omega, by omega⟩ ⟨i0, i1⟩ ⟨c0, c1⟩]
                  show s_put _ a b _ i c = s_put _ a b _ i c
                  unfold s_put
                  rw [hb i c i0 i1 c0 c1]
                · rw [fa_s, p_ln_at, if_neg (by omega)]
                  exact hob j hj
          refine fc_iconst C dX7_draws_38 ?_
          refine fc_istore C dX7_draws_39 (by decide) ?_
          exact loop2 6 0 x A1 _ (by omega) (by omega) (by omega) x0 x1 ex frA hl ho
    refine fc_iload_n C dX7_draws_23 rfl rfl ?_
    refine fc_i2l C dX7_draws_24 hs ?_
    refine fc_lstore_n C dX7_draws_25 rfl (by decide) ?_
    refine fc_iconst C dX7_draws_26 ?_
    refine fc_istore C dX7_draws_27 (by decide) ?_
    exact loop1 6 1 seed A0 _ _ (by omega) (by omega) (by omega) c9.1 (by omega) rfl (fun _ _ => rfl) (fun a c _ _ _ _ => by rw [e0]; rfl) (fun j _ => by rw [e0])
  · have c9 := fc_ind_0 c9
    refine fc_aload_n C dX7_draws_12 rfl rfl ?_
    refine fc_bipush C dX7_draws_13 (by decide) ?_
    refine fh_callV (y := mX7_refuses) C dX7_draws_15 ml_X7_80 mi_X7_refuses im_X7_refuses se_X7_refuses (r_refuses (Or.inl rfl)) rfl rfl (by decide) rfl (Nat.le_of_ble_eq_true rfl) (Nat.zero_le _) (Nat.zero_le _) rfl ?_
    exact fh_iretE C T dX7_draws_18 (Or.inl rfl) (m_st.no RC (if_neg c9) (Or.inl rfl))
theorem r_more (e : A 144 = v) (hn : 2 ≤ v 0 ∧ v 0 ≤ 5) {p S t : Int} (hp : 0 ≤ p ∧ p < v 0) (hS0 : 0 ≤ S) (hS1 : S < 32) : fh_M mX7_more 2 [vR 143, vI p, vI S, vI t] A F (some (vI (s_mo v S t p))) A F := by
  refine fh_M.of mi_X7_more (Nat.le_of_ble_eq_true rfl) ?_
  intro X C T
  have loop : ∀ (m : Nat) (k : Int) (y6 : Option fc_AV), 0 ≤ k → k ≤ v 0 → v 0 - k < m → fc_W X 0 0 159 (fc_H A F) 6 [some (vR 143), some (vI p), some (vI S), some (vI t), some (vI (fs_sum (fun o => if fb_t S o = 1 then - s_M (v_L v) (v 0) o p else 0) k.toNat)), some (vI k), y6] [] := by
    intro m
    induction m with
    | zero => intro k y6 z0 z1 z2; exfalso; omega
    | succ m ih =>
      intro k y6 z0 z1 z2
      refine fc_iload C dX7_more_6 rfl ?_
      refine fc_aload_n C dX7_more_8 rfl rfl ?_
      refine fh_callV (y := mX7_many) C dX7_more_9 ml_X7_60 mi_X7_many im_X7_many se_X7_many (r_many e) rfl rfl (by decide) rfl (Nat.le_of_ble_eq_true rfl) (Nat.zero_le _) (Nat.zero_le _) rfl ?_
      refine fc_icmp_ge (tgt := 83) C dX7_more_12 (by decide) (fc_Rm (by omega)) (fc_Rm (by omega)) (fun c12 => ?_) (fun c12 => ?_)
      · refine fc_iload_n C dX7_more_83 rfl rfl ?_
        refine fc_iload C dX7_more_84 rfl ?_
        refine fc_imul C dX7_more_86 ?_
        exact fh_iret C T dX7_more_87 (by rw [show k = v 0 by omega]; rfl) rfl
      · have h01 := fb_01 S k
        have nxt : ∀ (x : Int) (y6 : Option fc_AV), x = (if fb_t S k = 1 then - s_M (v_L v) (v 0) k p else 0) → fc_W X 0 0 159 (fc_H A F) 74 [some (vR 143), some (vI p), some (vI S), some (vI t), some (vI (fs_sum (fun o => if fb_t S o = 1 then - s_M (v_L v) (v 0) o p else 0) k.toNat)), some (vI k), y6] [vI x, vI (fs_sum (fun o => if fb_t S o = 1 then - s_M (v_L v) (v 0) o p else 0) k.toNat)] := by
          intro x y6 ex
          refine fc_iadd C dX7_more_74 ?_
          refine fc_istore C dX7_more_75 (by decide) ?_
          refine fc_iinc C dX7_more_77 rfl (by decide) ?_
          refine fc_goto (tgt := 6) C dX7_more_80 (by decide) ?_
          exact fc_eq (by rw [fs_step z0, ex]; rfl) rfl (ih (k + 1) y6 (by omega) (by omega) (by omega))
        have mid : ∀ w : Int, w = fb_t S k → fc_W X 0 0 159 (fc_H A F) 30 [some (vR 143), some (vI p), some (vI S), some (vI t), some (vI (fs_sum (fun o => if fb_t S o = 1 then - s_M (v_L v) (v 0) o p else 0) k.toNat)), some (vI k), y6] [vI w] := by
          intro w ew
          refine fc_istore C dX7_more_30 (by decide) ?_
          refine fc_iload C dX7_more_32 rfl ?_
          refine fc_iload C dX7_more_34 rfl ?_
          refine fc_iload_n C dX7_more_36 rfl rfl ?_
          refine fc_icmp_ne (tgt := 58) C dX7_more_37 (by decide) (fc_Rm (by omega)) (fc_Rm (by omega)) (fun c37 => ?_) (fun c37 => ?_)
          · refine fc_iload C dX7_more_58 rfl ?_
            refine fc_if_eq (tgt := 73) C dX7_more_60 (by decide) (fc_Rm (by omega)) (fun c60 => ?_) (fun c60 => ?_)
            · refine fc_iconst C dX7_more_73 ?_
              exact nxt 0 _ (by rw [if_neg (by omega)])
            · refine fc_aload_n C dX7_more_63 rfl rfl ?_
              refine fc_iload C dX7_more_64 rfl ?_
              refine fc_iload_n C dX7_more_66 rfl rfl ?_
              refine fh_callV (y := mX7_linesOf) C dX7_more_67 ml_X7_68 mi_X7_linesOf im_X7_linesOf se_X7_linesOf (r_linesOf e ⟨z0, by omega⟩ ⟨hp.1, by omega⟩) rfl rfl (by decide) rfl (Nat.le_of_ble_eq_true rfl) (Nat.zero_le _) (Nat.zero_le _) rfl ?_
              refine fc_goto (tgt := 74) C dX7_more_70 (by decide) ?_
              exact nxt _ _ (by rw [if_pos (by omega)]; unfold s_M; rw [if_neg c37, Int.neg_neg])
          · have ek : k = p := by omega
            refine fc_iload C dX7_more_40 rfl ?_
            refine fc_if_eq (tgt := 54) C dX7_more_42 (by decide) (fc_Rm (by omega)) (fun c42 => ?_) (fun c42 => ?_)
            · refine fc_iconst C dX7_more_54 ?_
              refine fc_goto (tgt := 74) C dX7_more_55 (by decide) ?_
              exact nxt 0 _ (by rw [if_neg (by omega)])
            · refine fc_aload_n C dX7_more_45 rfl rfl ?_
              refine fc_iload_n C dX7_more_46 rfl rfl ?_
              refine fh_callV (y := mX7_valence) C dX7_more_47 ml_X7_72 mi_X7_valence im_X7_valence se_X7_valence (r_valence e hn ⟨hp.1, by omega⟩) rfl rfl (by decide) rfl (Nat.le_of_ble_eq_true rfl) (Nat.zero_le _) (Nat.zero_le _) rfl ?_
              refine fc_ineg C dX7_more_50 ?_
              refine fc_goto (tgt := 74) C dX7_more_51 (by decide) ?_
              exact nxt _ _ (by rw [if_pos (by omega)]; unfold s_M; rw [if_pos ek, ek])
        refine fc_iload_n C dX7_more_15 rfl rfl ?_
        refine fc_iload C dX7_more_16 rfl ?_
        refine fc_ishr C dX7_more_18 ?_
        refine fc_iconst C dX7_more_19 ?_
        refine fc_iand C dX7_more_20 ?_
        refine fc_eq (st' := [vI (fb_t S k)]) rfl (by rw [fb_and hS0 hS1 z0 (by omega)]) ?_
        refine fc_iconst C dX7_more_21 ?_
        refine fc_icmp_ne (tgt := 29) C dX7_more_22 (by decide) (fc_Rm (by omega)) (fc_Rm (by omega)) (fun c22 => ?_) (fun c22 => ?_)
        · refine fc_iconst C dX7_more_29 ?_
          exact mid 0 (by omega)
        · refine fc_iconst C dX7_more_25 ?_
          refine fc_goto (tgt := 30) C dX7_more_26 (by decide) ?_
          exact mid 1 (by omega)
  refine fc_iconst C dX7_more_0 ?_
  refine fc_istore C dX7_more_1 (by decide) ?_
  refine fc_iconst C dX7_more_3 ?_
  refine fc_istore C dX7_more_4 (by decide) ?_
  exact loop 6 0 none (by omega) (by omega) (by omega)
theorem r_canFire (e : A 144 = v) (hv : v_ok v) {S t : Int} (hS : fc_R S) (ht : t = 1 ∨ t = -1) : fh_M mX7_canFire 3 [vR 143, vI S, vI t] A F (some (vI (x_fire v S t))) A F := by
  have hn := hv.n
  have hb := fb_all_bd (n := v 0) (by omega) (by omega)
  refine fh_M.of mi_X7_canFire (Nat.le_of_ble_eq_true rfl) ?_
  intro X C T
  refine fc_iload_n C dX7_canFire_0 rfl rfl ?_
  refine fc_i2l C dX7_canFire_1 hS ?_
  refine fc_lconst (z := 1) C dX7_canFire_2 rfl ?_
  refine fc_iconst C dX7_canFire_3 ?_
  refine fc_aload_n C dX7_canFire_4 rfl rfl ?_
  refine fh_callV (y := mX7_many) C dX7_canFire_5 ml_X7_60 mi_X7_many im_X7_many se_X7_many (r_many e) rfl rfl (by decide) rfl (Nat.le_of_ble_eq_true rfl) (Nat.zero_le _) (Nat.zero_le _) rfl ?_
  refine fc_ishl C dX7_canFire_8 ?_
  refine fc_iconst C dX7_canFire_9 ?_
  refine fc_isub C dX7_canFire_10 ?_
  refine fc_eq (st' := [vI (fb_all (v 0)), vL 1, vL S]) rfl (by rw [fb_shl1 (by omega) (by omega)]; rfl) ?_
  refine fc_i2l C dX7_canFire_11 (fc_Rm (by omega)) ?_
  refine fh_callS (y := mX7_in) C dX7_canFire_12 ml_X7_64 mi_X7_in st_X7_in (r_in hS.L (fc_RLm (by omega)) (fc_RLm (by omega))) (by decide) rfl (Nat.le_of_ble_eq_true rfl) (Nat.zero_le _) (Nat.zero_le _) rfl ?_
  refine fc_if_ne (tgt := 21) C dX7_canFire_15 (by decide) (fc_ind_R _) (fun c15 => ?_) (fun c15 => ?_)
  · have c15 := fc_ind_ne c15
    have loop : ∀ (m : Nat) (k : Int), 0 ≤ k → k ≤ v 0 → v 0 - k < m → (∀ p : Int, 0 ≤ p → p < k → -999 ≤ v (26 + p) + s_mo v S t p ∧ v (26 + p) + s_mo v S t p ≤ 999) → fc_W X 0 0 159 (fc_H A F) 23 [some (vR 143), some (vI S), some (vI t), some (vI k)] [] := by
      intro m
      induction m with
      | zero => intro k z0 z1 z2; exfalso; omega
      | succ m ih =>
        intro k z0 z1 z2 hk
        refine fc_iload_n C dX7_canFire_23 rfl rfl ?_
        refine fc_aload_n C dX7_canFire_24 rfl rfl ?_
        refine fh_callV (y := mX7_many) C dX7_canFire_25 ml_X7_60 mi_X7_many im_X7_many se_X7_many (r_many e) rfl rfl (by decide) rfl (Nat.le_of_ble_eq_true rfl) (Nat.zero_le _) (Nat.zero_le _) rfl ?_
        refine fc_icmp_ge (tgt := 59) C dX7_canFire_28 (by decide) (fc_Rm (by omega)) (fc_Rm (by omega)) (fun c28 => ?_) (fun c28 => ?_)
        · refine fc_iconst C dX7_canFire_59 ?_
          refine fh_iret C T dX7_canFire_60 ?_ rfl
          unfold x_fire
          rw [if_pos c15, if_pos (fc_ind_t fun p p0 p1 => hk p p0 (by omega))]
        · have hc := hv.2.2.2.1 k z0 (by omega)
          have hmo := s_mo_bd hv (S := S) ht (p := k) ⟨z0, by omega⟩
          refine fc_aload_n C dX7_canFire_31 rfl rfl ?_
          refine fc_iload_n C dX7_canFire_32 rfl rfl ?_
          refine fh_callV (y := mX7_chips) C dX7_canFire_33 ml_X7_126 mi_X7_chips im_X7_chips se_X7_chips (r_chips e ⟨z0, by omega⟩) rfl rfl (by decide) rfl (Nat.le_of_ble_eq_true rfl) (Nat.zero_le _) (Nat.zero_le _) rfl ?_
          refine fc_aload_n C dX7_canFire_36 rfl rfl ?_
          refine fc_iload_n C dX7_canFire_37 rfl rfl ?_
          refine fc_iload_n C dX7_canFire_38 rfl rfl ?_
          refine fc_iload_n C dX7_canFire_39 rfl rfl ?_
          refine fh_callV (y := mX7_more) C dX7_canFire_40 ml_X7_142 mi_X7_more im_X7_more se_X7_more (r_more e hn ⟨z0, by omega⟩ (by omega) (by omega)) rfl rfl (by decide) rfl (Nat.le_of_ble_eq_true rfl) (Nat.zero_le _) (Nat.zero_le _) rfl ?_
          refine fc_iadd C dX7_canFire_43 ?_
          refine fh_callS (y := mX7_isRoom) C dX7_canFire_44 ml_X7_133 mi_X7_isRoom st_X7_isRoom (r_isRoom (fc_Rm (by omega))) (by decide) rfl (Nat.le_of_ble_eq_true rfl) (Nat.zero_le _) (Nat.zero_le _) rfl ?_
          refine fc_if_ne (tgt := 53) C dX7_canFire_47 (by decide) (fc_ind_R _) (fun c47 => ?_) (fun c47 => ?_)
          · have c47 := fc_ind_ne c47
            refine fc_iinc C dX7_canFire_53 rfl (by decide) ?_
            refine fc_goto (tgt := 23) C dX7_canFire_56 (by decide) ?_
            refine ih (k + 1) (by omega) (by omega) (by omega) (fun p p0 p1 => ?_)
            by_cases q : p = k
            · rw [q]; exact c47
            · exact hk p p0 (by omega)
          · have c47 := fc_ind_0 c47
            refine fc_bipush C dX7_canFire_50 (by decide) ?_
            refine fh_iret C T dX7_canFire_52 ?_ rfl
            unfold x_fire
            rw [if_pos c15, if_neg]
            rw [fc_ind_f (fun h => c47 (h k z0 (by omega)))]
            decide
    refine fc_iconst C dX7_canFire_21 ?_
    refine fc_istore_n C dX7_canFire_22 rfl (by decide) ?_
    exact loop 6 0 (by omega) (by omega) (by omega) (fun p p0 p1 => by omega)
  · have c15 := fc_ind_0 c15
    refine fc_bipush C dX7_canFire_18 (by decide) ?_
    exact fh_iret C T dX7_canFire_20 (by unfold x_fire; rw [if_neg c15]) rfl
theorem r_fireNow (e : A 144 = v) (hv : v_ok v) {S t : Int} (hS0 : 0 ≤ S) (hS1 : S < 32) (ht : t = 1 ∨ t = -1) : fh_M mX7_fireNow 3 [vR 143, vI S, vI t] A F (some (vI (s_unl (v_c (p_fire v S t)) (v_c v) (v 0).toNat))) (fa_up A 144 (p_fire v S t)) F := by
  have hn := hv.n
  refine fh_M.of mi_X7_fireNow (Nat.le_of_ble_eq_true rfl) ?_
  intro X C T
  have loop : ∀ (m : Nat) (k : Int) (y5 : Option fc_AV), 0 ≤ k → k ≤ v 0 → v 0 - k < m → fc_W X 0 0 159 (fc_H (fa_up A 144 (fun j => if 26 ≤ j ∧ j < 26 + k then v (26 + (j - 26)) + s_mo v S t (j - 26) else v j)) F) 5 [some (vR 143), some (vI S), some (vI t), some (vI (s_unl (v_c (p_fire v S t)) (v_c v) k.toNat)), some (vI k), y5] [] := by
    intro m
    induction m with
    | zero => intro k y5 z0 z1 z2; exfalso; omega
    | succ m ih =>
      intro k y5 z0 z1 z2
      have hu : ∃ u : Int → Int, u = (fun j => if 26 ≤ j ∧ j < 26 + k then v (26 + (j - 26)) + s_mo v S t (j - 26) else v j) := ⟨_, rfl⟩
      obtain ⟨u, eu⟩ := hu
      have ua : ∀ j : Int, u j = if 26 ≤ j ∧ j < 26 + k then v (26 + (j - 26)) + s_mo v S t (j - 26) else v j := fun j => by rw [eu]
      have u0 : u 0 = v 0 := by rw [ua, if_neg (by omega)]
      have uL : ∀ a b : Int, 0 ≤ a → a < 5 → 0 ≤ b → b < 5 → v_L u a b = v_L v a b := fun a b a0 a1 b0 b1 => by unfold v_L; rw [ua, if_neg (by omega)]
      rw [← eu]
      refine fc_iload C dX7_fireNow_5 rfl ?_
      refine fc_aload_n C dX7_fireNow_7 rfl rfl ?_
      refine fh_callV (y := mX7_many) C dX7_fireNow_8 ml_X7_60 mi_X7_many im_X7_many se_X7_many (r_many (v := u) (fa_s _ _ _)) rfl rfl (by decide) rfl (Nat.le_of_ble_eq_true rfl) (Nat.zero_le _) (Nat.zero_le _) rfl ?_
      rw [u0]
      refine fc_icmp_ge (tgt := 58) C dX7_fireNow_11 (by decide) (fc_Rm (by omega)) (fc_Rm (by omega)) (fun c11 => ?_) (fun c11 => ?_)
      · refine fc_iload_n C dX7_fireNow_58 rfl rfl ?_
        refine fh_iret C T dX7_fireNow_59 (by rw [show k = v 0 by omega]) ?_
        rw [eu, show k = v 0 by omega]
        rfl
      · have hmo := s_mo_bd hv (S := S) ht (p := k) ⟨z0, by omega⟩
        have emo : s_mo u S t k = s_mo v S t k := s_mo_cg hn u0 ⟨z0, by omega⟩ uL
        have hMO := r_more (A := fa_up A 144 u) (F := F) (v := u) (fa_s _ _ _) (by omega) (p := k) (S := S) (t := t) ⟨z0, by omega⟩ hS0 hS1
        rw [emo] at hMO
        refine fc_aload_n C dX7_fireNow_14 rfl rfl ?_
        refine fc_iload C dX7_fireNow_15 rfl ?_
        refine fc_iload_n C dX7_fireNow_17 rfl rfl ?_
        refine fc_iload_n C dX7_fireNow_18 rfl rfl ?_
        refine fh_callV (y := mX7_more) C dX7_fireNow_19 ml_X7_142 mi_X7_more im_X7_more se_X7_more (hMO) rfl rfl (by decide) rfl (Nat.le_of_ble_eq_true rfl) (Nat.zero_le _) (Nat.zero_le _) rfl ?_
        refine fc_istore C dX7_fireNow_22 (by decide) ?_
        refine fc_aload_n C dX7_fireNow_24 rfl rfl ?_
        refine fh_getf C dX7_fireNow_25 fl_X7_7 rfl rfl ?_
        refine fc_bipush C dX7_fireNow_28 (by decide) ?_
        refine fc_iload C dX7_fireNow_30 rfl ?_
        refine fc_iadd C dX7_fireNow_32 ?_
        refine fc_dup2 C dX7_fireNow_33 rfl rfl ?_
        refine fh_iaload C dX7_fireNow_34 (fun _ _ => rfl) (by omega) (by omega) (by decide) ?_
        refine fc_iload C dX7_fireNow_35 rfl ?_
        refine fc_iadd C dX7_fireNow_37 ?_
        refine fh_iastore C dX7_fireNow_38 (fun _ _ => rfl) (by omega) (by omega) (by decide) ?_
        have e26 : fa_up A 144 u 144 (26 + k) = v (26 + k) := by rw [fa_s, ua, if_neg (by omega)]
        refine fc_heq (h' := fc_H (fa_up A 144 (fun j => if 26 ≤ j ∧ j < 26 + (k + 1) then v (26 + (j - 26)) + s_mo v S t (j - 26) else v j)) F) ?_ ?_
        · rw [fa_up2, e26, fa_s]
          congr 2
          funext j
          unfold fc_set
          by_cases q : j = 26 + k
          · rw [if_pos q, if_pos (by omega), show j - 26 = k by omega]
          · rw [if_neg q, ua]
            by_cases q2 : 26 ≤ j ∧ j < 26 + k
            · rw [if_pos q2, if_pos (by omega)]
            · rw [if_neg q2, if_neg (by omega)]
        have hstep : s_unl (v_c (p_fire v S t)) (v_c v) (k + 1).toNat = s_unl (v_c (p_fire v S t)) (v_c v) k.toNat + (if s_mo v S t k = 0 then 0 else 1) := by
          unfold s_unl
          rw [fs_step z0]
          congr 1
          have : v_c (p_fire v S t) k = v_c v k + s_mo v S t k := by
            show p_ch v (fun p => v (26 + p) + s_mo v S t p) (26 + k) = v (26 + k) + s_mo v S t k
            rw [p_ch_at, if_pos (by omega), show 26 + k - 26 = k by omega]
          rw [this]
          by_cases q : s_mo v S t k = 0
          · rw [if_pos (by omega), if_pos q]
          · rw [if_neg (by omega), if_neg q]
        refine fc_iload_n C dX7_fireNow_39 rfl rfl ?_
        refine fc_iload C dX7_fireNow_40 rfl ?_
        refine fc_if_ne (tgt := 49) C dX7_fireNow_42 (by decide) (fc_Rm (by omega)) (fun c42 => ?_) (fun c42 => ?_)
        · refine fc_iconst C dX7_fireNow_49 ?_
          refine fc_iadd C dX7_fireNow_50 ?_
          refine fc_istore_n C dX7_fireNow_51 rfl (by decide) ?_
          refine fc_iinc C dX7_fireNow_52 rfl (by decide) ?_
          refine fc_goto (tgt := 5) C dX7_fireNow_55 (by decide) ?_
          exact fc_eq (by rw [hstep, if_neg c42]; rfl) rfl (ih (k + 1) _ (by omega) (by omega) (by omega))
        · refine fc_iconst C dX7_fireNow_45 ?_
          refine fc_goto (tgt := 50) C dX7_fireNow_46 (by decide) ?_
          refine fc_iadd C dX7_fireNow_50 ?_
          refine fc_istore_n C dX7_fireNow_51 rfl (by decide) ?_
          refine fc_iinc C dX7_fireNow_52 rfl (by decide) ?_
          refine fc_goto (tgt := 5) C dX7_fireNow_55 (by decide) ?_
          exact fc_eq (by rw [hstep, if_pos (by omega)]; rfl) rfl (ih (k + 1) _ (by omega) (by omega) (by omega))
  refine fc_iconst C dX7_fireNow_0 ?_
  refine fc_istore_n C dX7_fireNow_1 rfl (by decide) ?_
  refine fc_iconst C dX7_fireNow_2 ?_
  refine fc_istore C dX7_fireNow_3 (by decide) ?_
  refine fc_heq ?_ (loop 6 0 none (by omega) (by omega) (by omega))
  congr 1
  funext j
  by_cases q : j = 144
  · rw [q, fa_s, e]
    funext k
    rw [if_neg (by omega)]
  · rw [fa_n _ _ q]
theorem r_canFireOne (e : A 144 = v) (hv : v_ok v) {p t : Int} (hp : fc_R p) (ht : t = 1 ∨ t = -1) : fh_M mX7_canFireOne 4 [vR 143, vI p, vI t] A F (some (vI (x_one v p t))) A F := by
  have hn := hv.n
  refine fh_M.of mi_X7_canFireOne (Nat.le_of_ble_eq_true rfl) ?_
  intro X C T
  refine fc_aload_n C dX7_canFireOne_0 rfl rfl ?_
  refine fc_iload_n C dX7_canFireOne_1 rfl rfl ?_
  refine fh_callV (y := mX7_isPoint) C dX7_canFireOne_2 ml_X7_89 mi_X7_isPoint im_X7_isPoint se_X7_isPoint (r_isPoint e hn hp) rfl rfl (by decide) rfl (Nat.le_of_ble_eq_true rfl) (Nat.zero_le _) (Nat.zero_le _) rfl ?_
  refine fc_if_eq (tgt := 19) C dX7_canFireOne_5 (by decide) (fc_ind_R _) (fun c5 => ?_) (fun c5 => ?_)
  · have c5 := fc_ind_0 c5
    refine fc_bipush C dX7_canFireOne_19 (by decide) ?_
    exact fh_iret C T dX7_canFireOne_21 (by unfold x_one; rw [if_neg c5]) rfl
  · have c5 := fc_ind_ne c5
    have hpw := fb_pow5 (p := p) c5.1 (by omega)
    refine fc_aload_n C dX7_canFireOne_8 rfl rfl ?_
    refine fc_iconst C dX7_canFireOne_9 ?_
    refine fc_iload_n C dX7_canFireOne_10 rfl rfl ?_
    refine fc_ishl C dX7_canFireOne_11 ?_
    refine fc_eq (st' := [vI (2 ^ p.toNat), vR 143]) rfl (by rw [fb_shl1 c5.1 (by omega)]) ?_
    refine fc_iload_n C dX7_canFireOne_12 rfl rfl ?_
    refine fh_callV (y := mX7_canFire) C dX7_canFireOne_13 ml_X7_145 mi_X7_canFire im_X7_canFire se_X7_canFire (r_canFire e hv (fc_Rm (by omega)) ht) rfl rfl (by decide) rfl (Nat.le_of_ble_eq_true rfl) (Nat.zero_le _) (Nat.zero_le _) rfl ?_
    refine fc_goto (tgt := 21) C dX7_canFireOne_16 (by decide) ?_
    exact fh_iret C T dX7_canFireOne_21 (by unfold x_one; rw [if_pos c5]) rfl
theorem r_one (RC : m_RC A F v ps st rf tx tl) {p t : Int} (hp : fc_R p) (ht : t = 1 ∨ t = -1) : fh_E mX7_one 5 [vR 143, vI p, vI t] A F (m_st A F (x_one v p t) 1 v ps st rf tx tl (p_fire v (2 ^ p.toNat) t)) := by
  obtain ⟨e, hv, -⟩ := id RC
  have hn := hv.n
  have hxc := x_one_c v p t
  refine fh_E.of mi_X7_one (Nat.le_of_ble_eq_true rfl) ?_
  intro X C T
  refine fc_aload_n C dX7_one_0 rfl rfl ?_
  refine fc_iload_n C dX7_one_1 rfl rfl ?_
  refine fc_iload_n C dX7_one_2 rfl rfl ?_
  refine fh_callV (y := mX7_canFireOne) C dX7_one_3 ml_X7_148 mi_X7_canFireOne im_X7_canFireOne se_X7_canFireOne (r_canFireOne e hv hp ht) rfl rfl (by decide) rfl (Nat.le_of_ble_eq_true rfl) (Nat.zero_le _) (Nat.zero_le _) rfl ?_
  refine fc_istore_n C dX7_one_6 rfl (by decide) ?_
  refine fc_iload_n C dX7_one_7 rfl rfl ?_
  refine fc_if_ge (tgt := 17) C dX7_one_8 (by decide) (fc_Rm (by omega)) (fun c8 => ?_) (fun c8 => ?_)
  · have h0 : x_one v p t = 0 := by omega
    have h1 := x_one_0 h0
    have hpw := fb_pow5 (p := p) h1.1.1 (by omega)
    refine fc_aload_n C dX7_one_17 rfl rfl ?_
    refine fh_callVE (y := mX7_keep) C dX7_one_18 ml_X7_83 mi_X7_keep im_X7_keep se_X7_keep (r_keep RC) rfl rfl (by decide) rfl (Nat.le_of_ble_eq_true rfl) (Nat.zero_le _) (Nat.zero_le _) rfl ?_
    rintro r A1 F1 ⟨rfl, hm, aj, fj, fk⟩
    refine fc_eq (st' := []) rfl rfl ?_
    have e1 := (aj 144 (by omega)).trans e
    refine fc_aload_n C dX7_one_21 rfl rfl ?_
    refine fc_iconst C dX7_one_22 ?_
    refine fc_iload_n C dX7_one_23 rfl rfl ?_
    refine fc_ishl C dX7_one_24 ?_
    refine fc_eq (st' := [vI (2 ^ p.toNat), vR 143]) rfl (by rw [fb_shl1 h1.1.1 (by omega)]) ?_
    refine fc_iload_n C dX7_one_25 rfl rfl ?_
    refine fh_callV (y := mX7_fireNow) C dX7_one_26 ml_X7_151 mi_X7_fireNow im_X7_fireNow se_X7_fireNow (r_fireNow e1 hv (by omega) (by omega) ht) rfl rfl (by decide) rfl (Nat.le_of_ble_eq_true rfl) (Nat.zero_le _) (Nat.zero_le _) rfl ?_
    refine fc_istore C dX7_one_29 (by decide) ?_
    refine fc_iconst C dX7_one_31 ?_
    exact fh_iretE C T dX7_one_32 (Or.inl rfl) (m_st.yes (by rw [fa_s]; exact v_eq.rf _) (hm.fr (fa_n _ _ (by omega)) (fa_n _ _ (by omega)) (fa_n _ _ (by omega)) rfl rfl) (fun i hi => ⟨by rw [fa_n _ _ (by omega)]; exact aj i (by omega), fj i (by omega)⟩) h0 rfl)
  · have h1 : x_one v p t = -2 ∨ x_one v p t = -3 ∨ x_one v p t = -4 := by omega
    refine fc_aload_n C dX7_one_11 rfl rfl ?_
    refine fc_iload_n C dX7_one_12 rfl rfl ?_
    refine fh_callV (y := mX7_refuses) C dX7_one_13 ml_X7_80 mi_X7_refuses im_X7_refuses se_X7_refuses (r_refuses h1) rfl rfl (by decide) rfl (Nat.le_of_ble_eq_true rfl) (Nat.zero_le _) (Nat.zero_le _) rfl ?_
    exact fh_iretE C T dX7_one_16 (Or.inl rfl) (m_st.no RC rfl h1)
theorem q_fires (RC : m_RC A F v ps st rf tx tl) {p : Int} (hp : fc_R p) : fh_E mX7_fires 6 [vR 143, vI p] A F (m_st A F (x_one v p 1) 1 v ps st rf tx tl (p_fire v (2 ^ p.toNat) 1)) := by
  refine fh_E.of mi_X7_fires (Nat.le_of_ble_eq_true rfl) ?_
  intro X C T
  refine fc_aload_n C dX7_fires_0 rfl rfl ?_
  refine fc_iload_n C dX7_fires_1 rfl rfl ?_
  refine fc_iconst C dX7_fires_2 ?_
  refine fh_callVE (y := mX7_one) C dX7_fires_3 ml_X7_154 mi_X7_one im_X7_one se_X7_one (r_one RC hp (Or.inl rfl)) rfl rfl (by decide) rfl (Nat.le_of_ble_eq_true rfl) (Nat.zero_le _) (Nat.zero_le _) rfl ?_
  rintro r A1 F1 ⟨rfl, h⟩
  refine fc_eq (st' := [_]) rfl rfl ?_
  exact fh_iretE C T dX7_fires_6 (Or.inl rfl) ⟨rfl, h⟩
theorem q_borrows (RC : m_RC A F v ps st rf tx tl) {p : Int} (hp : fc_R p) : fh_E mX7_borrows 6 [vR 143, vI p] A F (m_st A F (x_one v p (-1)) 1 v ps st rf tx tl (p_fire v (2 ^ p.toNat) (-1))) := by
  refine fh_E.of mi_X7_borrows (Nat.le_of_ble_eq_true rfl) ?_
  intro X C T
  refine fc_aload_n C dX7_borrows_0 rfl rfl ?_
  refine fc_iload_n C dX7_borrows_1 rfl rfl ?_
  refine fc_iconst C dX7_borrows_2 ?_
  refine fh_callVE (y := mX7_one) C dX7_borrows_3 ml_X7_154 mi_X7_one im_X7_one se_X7_one (r_one RC hp (Or.inr rfl)) rfl rfl (by decide) rfl (Nat.le_of_ble_eq_true rfl) (Nat.zero_le _) (Nat.zero_le _) rfl ?_
  rintro r A1 F1 ⟨rfl, h⟩
  refine fc_eq (st' := [_]) rfl rfl ?_
  exact fh_iretE C T dX7_borrows_6 (Or.inl rfl) ⟨rfl, h⟩
theorem q_together (RC : m_RC A F v ps st rf tx tl) {S : Int} (hS : fc_R S) : fh_E mX7_together 5 [vR 143, vI S] A F (m_st A F (x_fire v S 1) (s_unl (v_c (p_fire v S 1)) (v_c v) (v 0).toNat) v ps st rf tx tl (p_fire v S 1)) := by
  obtain ⟨e, hv, -⟩ := id RC
  have hn := hv.n
  have hxc := x_fire_c v S 1
  refine fh_E.of mi_X7_together (Nat.le_of_ble_eq_true rfl) ?_
  intro X C T
  refine fc_aload_n C dX7_together_0 rfl rfl ?_
  refine fc_iload_n C dX7_together_1 rfl rfl ?_
  refine fc_iconst C dX7_together_2 ?_
  refine fh_callV (y := mX7_canFire) C dX7_together_3 ml_X7_145 mi_X7_canFire im_X7_canFire se_X7_canFire (r_canFire e hv hS (Or.inl rfl)) rfl rfl (by decide) rfl (Nat.le_of_ble_eq_true rfl) (Nat.zero_le _) (Nat.zero_le _) rfl ?_
  refine fc_istore_n C dX7_together_6 rfl (by decide) ?_
  refine fc_iload_n C dX7_together_7 rfl rfl ?_
  refine fc_if_ge (tgt := 17) C dX7_together_8 (by decide) (fc_Rm (by omega)) (fun c8 => ?_) (fun c8 => ?_)
  · have h0 : x_fire v S 1 = 0 := by omega
    have hb := fb_all_bd (n := v 0) (by omega) (by omega)
    have hS9 : 1 ≤ S ∧ S ≤ fb_all (v 0) := by
      apply Classical.byContradiction
      intro z
      unfold x_fire at h0
      rw [if_neg z] at h0
      omega
    refine fc_aload_n C dX7_together_17 rfl rfl ?_
    refine fh_callVE (y := mX7_keep) C dX7_together_18 ml_X7_83 mi_X7_keep im_X7_keep se_X7_keep (r_keep RC) rfl rfl (by decide) rfl (Nat.le_of_ble_eq_true rfl) (Nat.zero_le _) (Nat.zero_le _) rfl ?_
    rintro r A1 F1 ⟨rfl, hm, aj, fj, fk⟩
    refine fc_eq (st' := []) rfl rfl ?_
    have e1 := (aj 144 (by omega)).trans e
    refine fc_aload_n C dX7_together_21 rfl rfl ?_
    refine fc_iload_n C dX7_together_22 rfl rfl ?_
    refine fc_iconst C dX7_together_23 ?_
    refine fh_callV (y := mX7_fireNow) C dX7_together_24 ml_X7_151 mi_X7_fireNow im_X7_fireNow se_X7_fireNow (r_fireNow e1 hv (by omega) (by omega) (Or.inl rfl)) rfl rfl (by decide) rfl (Nat.le_of_ble_eq_true rfl) (Nat.zero_le _) (Nat.zero_le _) rfl ?_
    exact fh_iretE C T dX7_together_27 (Or.inl rfl) (m_st.yes (by rw [fa_s]; exact v_eq.rf _) (hm.fr (fa_n _ _ (by omega)) (fa_n _ _ (by omega)) (fa_n _ _ (by omega)) rfl rfl) (fun i hi => ⟨by rw [fa_n _ _ (by omega)]; exact aj i (by omega), fj i (by omega)⟩) h0 rfl)
  · have h1 : x_fire v S 1 = -2 ∨ x_fire v S 1 = -3 ∨ x_fire v S 1 = -4 := by omega
    refine fc_aload_n C dX7_together_11 rfl rfl ?_
    refine fc_iload_n C dX7_together_12 rfl rfl ?_
    refine fh_callV (y := mX7_refuses) C dX7_together_13 ml_X7_80 mi_X7_refuses im_X7_refuses se_X7_refuses (r_refuses h1) rfl rfl (by decide) rfl (Nat.le_of_ble_eq_true rfl) (Nat.zero_le _) (Nat.zero_le _) rfl ?_
    exact fh_iretE C T dX7_together_16 (Or.inl rfl) (m_st.no RC rfl h1)
end REF3
