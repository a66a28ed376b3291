/-! clears, uneven -/
section SM2
variable {A : Nat → Int → Int} {F : Nat → Nat → Int} {v : Int → Int} {ps : Int → Int → Int} {st : Int} {rf tx : Int → Int} {tl : Int}
set_option maxHeartbeats 2000000 in
theorem r_clears (e : A 144 = v) (hn : 2 ≤ v 0 ∧ v 0 ≤ 5) {U : Int → Int → Int} (hT : m_tb A U (v 0 - 1)) {k : Int} (hk : 0 ≤ k ∧ k < v 0 - 1) (hb : ∀ i j : Int, k ≤ i → i < v 0 - 1 → k ≤ j → j < v 0 - 1 → u_b (U i j)) (hz : U k k ≠ 0) : fh_E mX7_clears 2 [vR 143, vI k] A F (fun r A' F' => r = some (vI (fc_ind (u_all U (v 0 - 1) k))) ∧ F' = F ∧ (∀ j : Nat, j ≠ 150 → A' j = A j) ∧ m_tb A' (u_c U k) (v 0 - 1)) := by
  refine fh_E.of mi_X7_clears (Nat.le_of_ble_eq_true rfl) ?_
  intro X C T
  have hp : A 150 (5 * k) = U k k := by rw [show 5 * k = 4 * k + k by omega]; exact hT k k hk.1 hk.2 hk.1 hk.2
  have hpb := hb k k (by omega) hk.2 (by omega) hk.2
  -- the columns
  have cols : ∀ (m : Nat) (c0 fl : Int) (A1 : Nat → Int → Int) (y6 y7 y8 : Option fc_AV), k + 1 ≤ c0 → c0 ≤ v 0 - 1 → v 0 - c0 < m → fl = fc_ind ((∀ r : Int, k < r → r < v 0 - 1 → u_z U k r k = 0) ∧ ∀ c : Int, k < c → c < c0 → u_z U k k c = 0) → (∀ i j : Int, 0 ≤ i → i < v 0 - 1 → 0 ≤ j → j < v 0 - 1 → A1 150 (4 * i + j) = if k ≤ i ∧ k ≤ j then (if j < c0 then u_z U k i j else u_y U k i j) else U i j) → (∀ j : Nat, j ≠ 150 → A1 j = A j) → fc_W X 0 0 159 (fc_H A1 F) 124 [some (vR 143), some (vI k), some (vI fl), some (vL (U k k)), none, some (vI c0), y6, y7, y8] [] := by
    intro m
    induction m with
    | zero => intro c0 fl A1 y6 y7 y8 z0 z1 z2; exfalso; omega
    | succ m ih =>
      intro c0 fl A1 y6 y7 y8 z0 z1 z2 hf ht frA
      refine fc_iload C dX7_clears_124 rfl ?_
      refine fc_aload_n C dX7_clears_126 rfl rfl ?_
      refine fh_callV (y := mX7_side) C dX7_clears_127 ml_X7_188 mi_X7_side im_X7_side se_X7_side (r_side ((frA 144 (by omega)).trans e)) rfl rfl (by decide) rfl (Nat.le_of_ble_eq_true rfl) (Nat.zero_le _) (Nat.zero_le _) rfl ?_
      refine fc_icmp_ge (tgt := 227) C dX7_clears_130 (by decide) (fc_Rm (by omega)) (fc_Rm (by omega)) (fun c130 => ?_) (fun c130 => ?_)
      · have hc0 : c0 = v 0 - 1 := by omega
        subst hc0
        refine fc_iload_n C dX7_clears_227 rfl rfl ?_
        refine fh_iretE C T dX7_clears_228 (Or.inr ⟨rfl, by rw [hf]; exact fc_ind_01 _⟩) ⟨by rw [hf]; rfl, rfl, frA, fun i j i0 i1 j0 j1 => ?_⟩
        rw [ht i j i0 i1 j0 j1]
        show _ = (if k ≤ i ∧ k ≤ j then u_z U k i j else U i j)
        rw [if_pos j1]
      · have hq : A1 150 (4 * k + c0) = U k c0 := by
          rw [ht k c0 hk.1 hk.2 (by omega) (by omega), if_pos (by omega), if_neg (by omega), u_y_k]
        have hfc : u_f U k c0 = (U k c0).tdiv (U k k) := by unfold u_f; rw [if_neg (by omega)]
        have inner : ∀ (m2 : Nat) (r0 : Int) (A2 : Nat → Int → Int), k ≤ r0 → r0 ≤ v 0 - 1 → v 0 - r0 < m2 → (∀ i j : Int, 0 ≤ i → i < v 0 - 1 → 0 ≤ j → j < v 0 - 1 → A2 150 (4 * i + j) = if k ≤ i ∧ k ≤ j then (if j < c0 ∨ (j = c0 ∧ i < r0) then u_z U k i j else u_y U k i j) else U i j) → (∀ j : Nat, j ≠ 150 → A2 j = A j) → fc_W X 0 0 159 (fc_H A2 F) 151 [some (vR 143), some (vI k), some (vI fl), some (vL (U k k)), none, some (vI c0), some (vL ((U k c0).tdiv (U k k))), none, some (vI r0)] [] := by
          intro m2
          induction m2 with
          | zero => intro r0 A2 q0 q1 q2; exfalso; omega
          | succ m2 ih2 =>
            intro r0 A2 q0 q1 q2 ht2 frB
            refine fc_iload C dX7_clears_151 rfl ?_
            refine fc_aload_n C dX7_clears_153 rfl rfl ?_
            refine fh_callV (y := mX7_side) C dX7_clears_154 ml_X7_188 mi_X7_side im_X7_side se_X7_side (r_side ((frB 144 (by omega)).trans e)) rfl rfl (by decide) rfl (Nat.le_of_ble_eq_true rfl) (Nat.zero_le _) (Nat.zero_le _) rfl ?_
            refine fc_icmp_ge (tgt := 195) C dX7_clears_157 (by decide) (fc_Rm (by omega)) (fc_Rm (by omega)) (fun c157 => ?_) (fun c157 => ?_)
            · have htz : A2 150 (4 * k + c0) = u_z U k k c0 := by
                rw [ht2 k c0 hk.1 hk.2 (by omega) (by omega), if_pos (by omega), if_pos (by omega)]
              have hzb : u_b (u_z U k k c0) := by
                rw [u_z_c (by omega)]
                exact (hb k c0 (by omega) hk.2 (by omega) (by omega)).rem
              have nxt : ∀ fl2 : Int, fl2 = fc_ind ((∀ r : Int, k < r → r < v 0 - 1 → u_z U k r k = 0) ∧ ∀ c : Int, k < c → c < c0 + 1 → u_z U k k c = 0) → fc_W X 0 0 159 (fc_H A2 F) 220 [some (vR 143), some (vI k), some (vI fl), some (vL (U k k)), none, some (vI c0), some (vL ((U k c0).tdiv (U k k))), none, some (vI r0)] [vI fl2] := by
                intro fl2 hf2
                refine fc_istore_n C dX7_clears_220 rfl (by decide) ?_
                refine fc_iinc C dX7_clears_221 rfl (by decide) ?_
                refine fc_goto (tgt := 124) C dX7_clears_224 (by decide) ?_
                refine ih (c0 + 1) fl2 A2 _ _ _ (by omega) (by omega) (by omega) hf2 (fun i j i0 i1 j0 j1 => ?_) frB
                rw [ht2 i j i0 i1 j0 j1]
                by_cases cc : k ≤ i ∧ k ≤ j
                · rw [if_pos cc, if_pos cc]
                  by_cases c2 : j < c0 + 1
                  · rw [if_pos c2, if_pos (by omega)]
                  · rw [if_neg c2, if_neg (by omega)]
                · rw [if_neg cc, if_neg cc]
              refine fc_iload_n C dX7_clears_195 rfl rfl ?_
              refine fc_if_eq (tgt := 219) C dX7_clears_196 (by decide) (by rw [hf]; exact fc_ind_R _) (fun c196 => ?_) (fun c196 => ?_)
              · refine fc_iconst C dX7_clears_219 ?_
                refine nxt 0 (fc_ind_f (fun h => ?_)).symm
                rw [hf] at c196
                have := fc_ind_t (P := (∀ r : Int, k < r → r < v 0 - 1 → u_z U k r k = 0) ∧ ∀ c : Int, k < c → c < c0 → u_z U k k c = 0) ⟨h.1, fun c a b => h.2 c a (by omega)⟩
                omega
              · rw [hf] at c196
                have g := fc_ind_ne c196
                refine fc_aload_n C dX7_clears_199 rfl rfl ?_
                refine fh_getf C dX7_clears_200 fl_X7_29 rfl rfl ?_
                refine fc_iconst C dX7_clears_203 ?_
                refine fc_iload_n C dX7_clears_204 rfl rfl ?_
                refine fc_imul C dX7_clears_205 ?_
                refine fc_iload C dX7_clears_206 rfl ?_
                refine fc_iadd C dX7_clears_208 ?_
                refine fh_laload C dX7_clears_209 (fun _ _ => rfl) (by omega) (by omega) (by decide) ?_
                refine fc_lconst (z := 0) C dX7_clears_210 rfl ?_
                refine fc_lcmp C dX7_clears_211 (by rw [htz]; exact hzb.L) (fc_RLm (by omega)) ?_
                refine fc_if_ne (tgt := 219) C dX7_clears_212 (by decide) (fc_cmp_R _ _) (fun c212 => ?_) (fun c212 => ?_)
                · refine fc_iconst C dX7_clears_219 ?_
                  refine nxt 0 (fc_ind_f (fun h => c212 (fc_cmp_eq.2 ?_))).symm
                  rw [htz]
                  exact h.2 c0 (by omega) (by omega)
                · have h0 : u_z U k k c0 = 0 := by rw [← htz]; exact fc_cmp_eq.1 (by omega)
                  refine fc_iconst C dX7_clears_215 ?_
                  refine fc_goto (tgt := 220) C dX7_clears_216 (by decide) ?_
                  refine nxt 1 (fc_ind_t ⟨g.1, fun c a b => ?_⟩).symm
                  by_cases c3 : c = c0
                  · rw [c3]; exact h0
                  · exact g.2 c a (by omega)
            · have t1 := ht2 r0 c0 (by omega) (by omega) (by omega) (by omega)
              have t2 := ht2 r0 k (by omega) (by omega) (by omega) (by omega)
              rw [if_pos (by omega), if_neg (by omega)] at t1
              rw [if_pos (by omega), if_pos (by omega), u_z_k] at t2
              refine fc_aload_n C dX7_clears_160 rfl rfl ?_
              refine fh_getf C dX7_clears_161 fl_X7_29 rfl rfl ?_
              refine fc_iconst C dX7_clears_164 ?_
              refine fc_iload C dX7_clears_165 rfl ?_
              refine fc_imul C dX7_clears_167 ?_
              refine fc_iload C dX7_clears_168 rfl ?_
              refine fc_iadd C dX7_clears_170 ?_
              refine fc_dup2 C dX7_clears_171 rfl rfl ?_
              refine fh_laload C dX7_clears_172 (fun _ _ => rfl) (by omega) (by omega) (by decide) ?_
              refine fc_lload C dX7_clears_173 rfl ?_
              refine fc_aload_n C dX7_clears_175 rfl rfl ?_
              refine fh_getf C dX7_clears_176 fl_X7_29 rfl rfl ?_
              refine fc_iconst C dX7_clears_179 ?_
              refine fc_iload C dX7_clears_180 rfl ?_
              refine fc_imul C dX7_clears_182 ?_
              refine fc_iload_n C dX7_clears_183 rfl rfl ?_
              refine fc_iadd C dX7_clears_184 ?_
              refine fh_laload C dX7_clears_185 (fun _ _ => rfl) (by omega) (by omega) (by decide) ?_
              refine fc_lmul C dX7_clears_186 ?_
              refine fc_lsub C dX7_clears_187 ?_
              refine fh_lastore C dX7_clears_188 (fun _ _ => rfl) (by omega) (by omega) (by decide) ?_
              refine fc_iinc C dX7_clears_189 rfl (by decide) ?_
              refine fc_goto (tgt := 151) C dX7_clears_192 (by decide) ?_
              refine ih2 (r0 + 1) _ (by omega) (by omega) (by omega) (fun i j i0 i1 j0 j1 => ?_) (fun j hj => by rw [fa_n _ _ hj]; exact frB j hj)
              rw [fa_s, t1, t2]
              unfold fc_set
              by_cases c1 : 4 * i + j = 4 * r0 + c0
              · have ei : i = r0 := by omega
                have ej : j = c0 := by omega
                rw [if_pos c1, if_pos (by omega), if_pos (by omega), ei, ej]
                show _ = u_y U k r0 c0 - u_f U k c0 * u_y U k r0 k
                rw [hfc]
              · rw [if_neg c1, ht2 i j i0 i1 j0 j1]
                by_cases cc : k ≤ i ∧ k ≤ j
                · rw [if_pos cc, if_pos cc]
                  by_cases c2 : j < c0 ∨ (j = c0 ∧ i < r0)
                  · rw [if_pos c2, if_pos (by omega)]
                  · rw [if_neg c2, if_neg (by omega)]
                · rw [if_neg cc, if_neg cc]
        refine fc_aload_n C dX7_clears_133 rfl rfl ?_
        refine fh_getf C dX7_clears_134 fl_X7_29 rfl rfl ?_
        refine fc_iconst C dX7_clears_137 ?_
        refine fc_iload_n C dX7_clears_138 rfl rfl ?_
        refine fc_imul C dX7_clears_139 ?_
        refine fc_iload C dX7_clears_140 rfl ?_
        refine fc_iadd C dX7_clears_142 ?_
        refine fh_laload C dX7_clears_143 (fun _ _ => rfl) (by omega) (by omega) (by decide) ?_
        refine fc_lload_n C dX7_clears_144 rfl rfl ?_
        refine fc_ldiv C dX7_clears_145 (by rw [hq]; exact (hb k c0 (by omega) hk.2 (by omega) (by omega)).L) hpb.L hz ?_
        refine fc_lstore C dX7_clears_146 (by decide) ?_
        refine fc_iload_n C dX7_clears_148 rfl rfl ?_
        refine fc_istore C dX7_clears_149 (by decide) ?_
        rw [hq]
        refine inner 7 k A1 (by omega) (by omega) (by omega) (fun i j i0 i1 j0 j1 => ?_) frA
        rw [ht i j i0 i1 j0 j1]
        by_cases cc : k ≤ i ∧ k ≤ j
        · rw [if_pos cc, if_pos cc]
          by_cases c2 : j < c0
          · rw [if_pos c2, if_pos (by omega)]
          · rw [if_neg c2, if_neg (by omega)]
        · rw [if_neg cc, if_neg cc]
  -- the rows
  have rows : ∀ (m : Nat) (r0 fl : Int) (A1 : Nat → Int → Int) (y6 y7 y8 : Option fc_AV), k + 1 ≤ r0 → r0 ≤ v 0 - 1 → v 0 - r0 < m → fl = fc_ind (∀ r : Int, k < r → r < r0 → u_z U k r k = 0) → (∀ i j : Int, 0 ≤ i → i < v 0 - 1 → 0 ≤ j → j < v 0 - 1 → A1 150 (4 * i + j) = if (k ≤ i ∧ k ≤ j) ∧ i < r0 then u_y U k i j else U i j) → (∀ j : Nat, j ≠ 150 → A1 j = A j) → fc_W X 0 0 159 (fc_H A1 F) 16 [some (vR 143), some (vI k), some (vI fl), some (vL (U k k)), none, some (vI r0), y6, y7, y8] [] := by
    intro m
    induction m with
    | zero => intro r0 fl A1 y6 y7 y8 z0 z1 z2; exfalso; omega
    | succ m ih =>
      intro r0 fl A1 y6 y7 y8 z0 z1 z2 hf ht frA
      refine fc_iload C dX7_clears_16 rfl ?_
      refine fc_aload_n C dX7_clears_18 rfl rfl ?_
      refine fh_callV (y := mX7_side) C dX7_clears_19 ml_X7_188 mi_X7_side im_X7_side se_X7_side (r_side ((frA 144 (by omega)).trans e)) rfl rfl (by decide) rfl (Nat.le_of_ble_eq_true rfl) (Nat.zero_le _) (Nat.zero_le _) rfl ?_
      refine fc_icmp_ge (tgt := 119) C dX7_clears_22 (by decide) (fc_Rm (by omega)) (fc_Rm (by omega)) (fun c22 => ?_) (fun c22 => ?_)
      · have hr0 : r0 = v 0 - 1 := by omega
        subst hr0
        refine fc_iload_n C dX7_clears_119 rfl rfl ?_
        refine fc_iconst C dX7_clears_120 ?_
        refine fc_iadd C dX7_clears_121 ?_
        refine fc_istore C dX7_clears_122 (by decide) ?_
        refine cols 7 (k + 1) fl A1 _ _ _ (by omega) (by omega) (by omega) ?_ (fun i j i0 i1 j0 j1 => ?_) frA
        · rw [hf]
          exact fc_ind_congr ⟨fun h => ⟨h, fun c a b => by omega⟩, fun h => h.1⟩
        · rw [ht i j i0 i1 j0 j1]
          by_cases cc : k ≤ i ∧ k ≤ j
          · rw [if_pos ⟨cc, i1⟩, if_pos cc]
            by_cases c2 : j < k + 1
            · rw [if_pos c2, show j = k by omega, u_z_k]
            · rw [if_neg c2]
          · rw [if_neg (fun h => cc h.1), if_neg cc]
      · have hq : A1 150 (4 * r0 + k) = U r0 k := by
          rw [ht r0 k (by omega) (by omega) (by omega) (by omega), if_neg (by omega)]
        have hec : u_e U k r0 = (U r0 k).tdiv (U k k) := by unfold u_e; rw [if_neg (by omega)]
        have inner : ∀ (m2 : Nat) (c0 : Int) (A2 : Nat → Int → Int), k ≤ c0 → c0 ≤ v 0 - 1 → v 0 - c0 < m2 → (∀ i j : Int, 0 ≤ i → i < v 0 - 1 → 0 ≤ j → j < v 0 - 1 → A2 150 (4 * i + j) = if (k ≤ i ∧ k ≤ j) ∧ (i < r0 ∨ (i = r0 ∧ j < c0)) then u_y U k i j else U i j) → (∀ j : Nat, j ≠ 150 → A2 j = A j) → fc_W X 0 0 159 (fc_H A2 F) 43 [some (vR 143), some (vI k), some (vI fl), some (vL (U k k)), none, some (vI r0), some (vL ((U r0 k).tdiv (U k k))), none, some (vI c0)] [] := by
          intro m2
          induction m2 with
          | zero => intro c0 A2 q0 q1 q2; exfalso; omega
          | succ m2 ih2 =>
            intro c0 A2 q0 q1 q2 ht2 frB
            refine fc_iload C dX7_clears_43 rfl ?_
            refine fc_aload_n C dX7_clears_45 rfl rfl ?_
            refine fh_callV (y := mX7_side) C dX7_clears_46 ml_X7_188 mi_X7_side im_X7_side se_X7_side (r_side ((frB 144 (by omega)).trans e)) rfl rfl (by decide) rfl (Nat.le_of_ble_eq_true rfl) (Nat.zero_le _) (Nat.zero_le _) rfl ?_
            refine fc_icmp_ge (tgt := 87) C dX7_clears_49 (by decide) (fc_Rm (by omega)) (fc_Rm (by omega)) (fun c49 => ?_) (fun c49 => ?_)
            · have htz : A2 150 (4 * r0 + k) = u_z U k r0 k := by
                rw [ht2 r0 k (by omega) (by omega) (by omega) (by omega), if_pos (by omega), u_z_k]
              have hzb : u_b (u_z U k r0 k) := by
                rw [u_z_k, u_y_r (by omega)]
                exact (hb r0 k (by omega) (by omega) (by omega) hk.2).rem
              have nxt : ∀ fl2 : Int, fl2 = fc_ind (∀ r : Int, k < r → r < r0 + 1 → u_z U k r k = 0) → fc_W X 0 0 159 (fc_H A2 F) 112 [some (vR 143), some (vI k), some (vI fl), some (vL (U k k)), none, some (vI r0), some (vL ((U r0 k).tdiv (U k k))), none, some (vI c0)] [vI fl2] := by
                intro fl2 hf2
                refine fc_istore_n C dX7_clears_112 rfl (by decide) ?_
                refine fc_iinc C dX7_clears_113 rfl (by decide) ?_
                refine fc_goto (tgt := 16) C dX7_clears_116 (by decide) ?_
                refine ih (r0 + 1) fl2 A2 _ _ _ (by omega) (by omega) (by omega) hf2 (fun i j i0 i1 j0 j1 => ?_) frB
                rw [ht2 i j i0 i1 j0 j1]
                by_cases c2 : (k ≤ i ∧ k ≤ j) ∧ i < r0 + 1
                · rw [if_pos c2, if_pos (by omega)]
                · rw [if_neg c2, if_neg (by omega)]
              refine fc_iload_n C dX7_clears_87 rfl rfl ?_
              refine fc_if_eq (tgt := 111) C dX7_clears_88 (by decide) (by rw [hf]; exact fc_ind_R _) (fun c88 => ?_) (fun c88 => ?_)
              · refine fc_iconst C dX7_clears_111 ?_
                refine nxt 0 (fc_ind_f (fun h => ?_)).symm
                rw [hf] at c88
                have := fc_ind_t (P := ∀ r : Int, k < r → r < r0 → u_z U k r k = 0) (fun c a b => h c a (by omega))
                omega
              · rw [hf] at c88
                have g := fc_ind_ne c88
                refine fc_aload_n C dX7_clears_91 rfl rfl ?_
                refine fh_getf C dX7_clears_92 fl_X7_29 rfl rfl ?_
                refine fc_iconst C dX7_clears_95 ?_
                refine fc_iload C dX7_clears_96 rfl ?_
                refine fc_imul C dX7_clears_98 ?_
                refine fc_iload_n C dX7_clears_99 rfl rfl ?_
                refine fc_iadd C dX7_clears_100 ?_
                refine fh_laload C dX7_clears_101 (fun _ _ => rfl) (by omega) (by omega) (by decide) ?_
                refine fc_lconst (z := 0) C dX7_clears_102 rfl ?_
                refine fc_lcmp C dX7_clears_103 (by rw [htz]; exact hzb.L) (fc_RLm (by omega)) ?_
                refine fc_if_ne (tgt := 111) C dX7_clears_104 (by decide) (fc_cmp_R _ _) (fun c104 => ?_) (fun c104 => ?_)
                · refine fc_iconst C dX7_clears_111 ?_
                  refine nxt 0 (fc_ind_f (fun h => c104 (fc_cmp_eq.2 ?_))).symm
                  rw [htz]
                  exact h r0 (by omega) (by omega)
                · have h0 : u_z U k r0 k = 0 := by rw [← htz]; exact fc_cmp_eq.1 (by omega)
                  refine fc_iconst C dX7_clears_107 ?_
                  refine fc_goto (tgt := 112) C dX7_clears_108 (by decide) ?_
                  refine nxt 1 (fc_ind_t (fun c a b => ?_)).symm
                  by_cases c3 : c = r0
                  · rw [c3]; exact h0
                  · exact g c a (by omega)
            · have t1 := ht2 r0 c0 (by omega) (by omega) (by omega) (by omega)
              have t2 := ht2 k c0 (by omega) (by omega) (by omega) (by omega)
              rw [if_neg (by omega)] at t1
              rw [if_pos (by omega), u_y_k] at t2
              refine fc_aload_n C dX7_clears_52 rfl rfl ?_
              refine fh_getf C dX7_clears_53 fl_X7_29 rfl rfl ?_
              refine fc_iconst C dX7_clears_56 ?_
              refine fc_iload C dX7_clears_57 rfl ?_
              refine fc_imul C dX7_clears_59 ?_
              refine fc_iload C dX7_clears_60 rfl ?_
              refine fc_iadd C dX7_clears_62 ?_
              refine fc_dup2 C dX7_clears_63 rfl rfl ?_
              refine fh_laload C dX7_clears_64 (fun _ _ => rfl) (by omega) (by omega) (by decide) ?_
              refine fc_lload C dX7_clears_65 rfl ?_
              refine fc_aload_n C dX7_clears_67 rfl rfl ?_
              refine fh_getf C dX7_clears_68 fl_X7_29 rfl rfl ?_
              refine fc_iconst C dX7_clears_71 ?_
              refine fc_iload_n C dX7_clears_72 rfl rfl ?_
              refine fc_imul C dX7_clears_73 ?_
              refine fc_iload C dX7_clears_74 rfl ?_
              refine fc_iadd C dX7_clears_76 ?_
              refine fh_laload C dX7_clears_77 (fun _ _ => rfl) (by omega) (by omega) (by decide) ?_
              refine fc_lmul C dX7_clears_78 ?_
              refine fc_lsub C dX7_clears_79 ?_
              refine fh_lastore C dX7_clears_80 (fun _ _ => rfl) (by omega) (by omega) (by decide) ?_
              refine fc_iinc C dX7_clears_81 rfl (by decide) ?_
              refine fc_goto (tgt := 43) C dX7_clears_84 (by decide) ?_
              refine ih2 (c0 + 1) _ (by omega) (by omega) (by omega) (fun i j i0 i1 j0 j1 => ?_) (fun j hj => by rw [fa_n _ _ hj]; exact frB j hj)
              rw [fa_s, t1, t2]
              unfold fc_set
              by_cases c1 : 4 * i + j = 4 * r0 + c0
              · have ei : i = r0 := by omega
                have ej : j = c0 := by omega
                rw [if_pos c1, if_pos (by omega), ei, ej]
                show _ = U r0 c0 - u_e U k r0 * U k c0
                rw [hec]
              · rw [if_neg c1, ht2 i j i0 i1 j0 j1]
                by_cases c2 : (k ≤ i ∧ k ≤ j) ∧ (i < r0 ∨ (i = r0 ∧ j < c0))
                · rw [if_pos c2, if_pos (by omega)]
                · rw [if_neg c2, if_neg (by omega)]
        refine fc_aload_n C dX7_clears_25 rfl rfl ?_
        refine fh_getf C dX7_clears_26 fl_X7_29 rfl rfl ?_
        refine fc_iconst C dX7_clears_29 ?_
        refine fc_iload C dX7_clears_30 rfl ?_
        refine fc_imul C dX7_clears_32 ?_
        refine fc_iload_n C dX7_clears_33 rfl rfl ?_
        refine fc_iadd C dX7_clears_34 ?_
        refine fh_laload C dX7_clears_35 (fun _ _ => rfl) (by omega) (by omega) (by decide) ?_
        refine fc_lload_n C dX7_clears_36 rfl rfl ?_
        refine fc_ldiv C dX7_clears_37 (by rw [hq]; exact (hb r0 k (by omega) (by omega) (by omega) hk.2).L) hpb.L hz ?_
        refine fc_lstore C dX7_clears_38 (by decide) ?_
        refine fc_iload_n C dX7_clears_40 rfl rfl ?_
        refine fc_istore C dX7_clears_41 (by decide) ?_
        rw [hq]
        refine inner 7 k A1 (by omega) (by omega) (by omega) (fun i j i0 i1 j0 j1 => ?_) frA
        rw [ht i j i0 i1 j0 j1]
        by_cases c2 : (k ≤ i ∧ k ≤ j) ∧ i < r0
        · rw [if_pos c2, if_pos (by omega)]
        · rw [if_neg c2, if_neg (by omega)]
  refine fc_iconst C dX7_clears_0 ?_
  refine fc_istore_n C dX7_clears_1 rfl (by decide) ?_
  refine fc_aload_n C dX7_clears_2 rfl rfl ?_
  refine fh_getf C dX7_clears_3 fl_X7_29 rfl rfl ?_
  refine fc_iconst C dX7_clears_6 ?_
  refine fc_iload_n C dX7_clears_7 rfl rfl ?_
  refine fc_imul C dX7_clears_8 ?_
  refine fh_laload C dX7_clears_9 (fun _ _ => rfl) (by omega) (by omega) (by decide) ?_
  refine fc_lstore_n C dX7_clears_10 rfl (by decide) ?_
  refine fc_iload_n C dX7_clears_11 rfl rfl ?_
  refine fc_iconst C dX7_clears_12 ?_
  refine fc_iadd C dX7_clears_13 ?_
  refine fc_istore C dX7_clears_14 (by decide) ?_
  rw [hp]
  refine rows 7 (k + 1) 1 A none none none (by omega) (by omega) (by omega) (fc_ind_t (fun r a b => by omega)).symm (fun i j i0 i1 j0 j1 => ?_) (fun _ _ => rfl)
  rw [hT i j i0 i1 j0 j1]
  by_cases c2 : (k ≤ i ∧ k ≤ j) ∧ i < k + 1
  · rw [if_pos c2, show i = k by omega, u_y_k]
  · rw [if_neg c2]
theorem r_uneven (e : A 144 = v) (hn : 2 ≤ v 0 ∧ v 0 ≤ 5) {U : Int → Int → Int} (hT : m_tb A U (v 0 - 1)) {k : Int} (hk : 0 ≤ k ∧ k < v 0 - 1) (hb : ∀ i j : Int, k ≤ i → i < v 0 - 1 → k ≤ j → j < v 0 - 1 → u_b (U i j)) (hz : U k k ≠ 0) : fh_E mX7_uneven 2 [vR 143, vI k] A F (fun r A' F' => F' = F ∧ A' = A ∧ ∃ u : Int, r = some (vI u) ∧ ((u = -1 ∧ ∀ i j : Int, k < i → i < v 0 - 1 → k < j → j < v 0 - 1 → U k k ∣ U i j) ∨ (k < u ∧ u < v 0 - 1 ∧ ∃ j : Int, k < j ∧ j < v 0 - 1 ∧ ¬ U k k ∣ U u j))) := by
  refine fh_E.of mi_X7_uneven (Nat.le_of_ble_eq_true rfl) ?_
  intro X C T
  have hp : A 150 (5 * k) = U k k := by rw [show 5 * k = 4 * k + k by omega]; exact hT k k hk.1 hk.2 hk.1 hk.2
  have hpb := hb k k (by omega) hk.2 (by omega) hk.2
  have rows : ∀ (m : Nat) (r : Int) (y3 : Option fc_AV), k + 1 ≤ r → r ≤ v 0 - 1 → v 0 - r < m → (∀ i j : Int, k < i → i < r → k < j → j < v 0 - 1 → U k k ∣ U i j) → fc_W X 0 0 159 (fc_H A F) 4 [some (vR 143), some (vI k), some (vI r), y3] [] := by
    intro m
    induction m with
    | zero => intro r y3 z0 z1 z2; exfalso; omega
    | succ m ih =>
      intro r y3 z0 z1 z2 hd
      refine fc_iload_n C dX7_uneven_4 rfl rfl ?_
      refine fc_aload_n C dX7_uneven_5 rfl rfl ?_
      refine fh_callV (y := mX7_side) C dX7_uneven_6 ml_X7_188 mi_X7_side im_X7_side se_X7_side (r_side e) rfl rfl (by decide) rfl (Nat.le_of_ble_eq_true rfl) (Nat.zero_le _) (Nat.zero_le _) rfl ?_
      refine fc_icmp_ge (tgt := 62) C dX7_uneven_9 (by decide) (fc_Rm (by omega)) (fc_Rm (by omega)) (fun c9 => ?_) (fun c9 => ?_)
      · refine fc_iconst C dX7_uneven_62 ?_
        exact fh_iretE C T dX7_uneven_63 (Or.inl rfl) ⟨rfl, rfl, -1, rfl, Or.inl ⟨rfl, fun i j i0 i1 j0 j1 => hd i j i0 (by omega) j0 j1⟩⟩
      · have cols : ∀ (m2 : Nat) (c : Int), k + 1 ≤ c → c ≤ v 0 - 1 → v 0 - c < m2 → (∀ j : Int, k < j → j < c → U k k ∣ U r j) → fc_W X 0 0 159 (fc_H A F) 16 [some (vR 143), some (vI k), some (vI r), some (vI c)] [] := by
          intro m2
          induction m2 with
          | zero => intro c q0 q1 q2; exfalso; omega
          | succ m2 ih2 =>
            intro c q0 q1 q2 hd2
            refine fc_iload_n C dX7_uneven_16 rfl rfl ?_
            refine fc_aload_n C dX7_uneven_17 rfl rfl ?_
            refine fh_callV (y := mX7_side) C dX7_uneven_18 ml_X7_188 mi_X7_side im_X7_side se_X7_side (r_side e) rfl rfl (by decide) rfl (Nat.le_of_ble_eq_true rfl) (Nat.zero_le _) (Nat.zero_le _) rfl ?_
            refine fc_icmp_ge (tgt := 56) C dX7_uneven_21 (by decide) (fc_Rm (by omega)) (fc_Rm (by omega)) (fun c21 => ?_) (fun c21 => ?_)
            · refine fc_iinc C dX7_uneven_56 rfl (by decide) ?_
              refine fc_goto (tgt := 4) C dX7_uneven_59 (by decide) ?_
              refine ih (r + 1) _ (by omega) (by omega) (by omega) (fun i j i0 i1 j0 j1 => ?_)
              by_cases cc : i = r
              · rw [cc]; exact hd2 j j0 (by omega)
              · exact hd i j i0 (by omega) j0 j1
            · have t1 := hT r c (by omega) (by omega) (by omega) (by omega)
              have hub := hb r c (by omega) (by omega) (by omega) (by omega)
              have hmb : fc_RL ((U r c).tmod (U k k)) := by
                have := hub.rem (y := U k k)
                have e2 : U r c - (U r c).tdiv (U k k) * U k k = (U r c).tmod (U k k) := by
                  have := Int.tmod_add_mul_tdiv (U r c) (U k k)
                  rw [Int.mul_comm] at this
                  omega
                rw [e2] at this
                exact this.L
              refine fc_aload_n C dX7_uneven_24 rfl rfl ?_
              refine fh_getf C dX7_uneven_25 fl_X7_29 rfl rfl ?_
              refine fc_iconst C dX7_uneven_28 ?_
              refine fc_iload_n C dX7_uneven_29 rfl rfl ?_
              refine fc_imul C dX7_uneven_30 ?_
              refine fc_iload_n C dX7_uneven_31 rfl rfl ?_
              refine fc_iadd C dX7_uneven_32 ?_
              refine fh_laload C dX7_uneven_33 (fun _ _ => rfl) (by omega) (by omega) (by decide) ?_
              refine fc_aload_n C dX7_uneven_34 rfl rfl ?_
              refine fh_getf C dX7_uneven_35 fl_X7_29 rfl rfl ?_
              refine fc_iconst C dX7_uneven_38 ?_
              refine fc_iload_n C dX7_uneven_39 rfl rfl ?_
              refine fc_imul C dX7_uneven_40 ?_
              refine fh_laload C dX7_uneven_41 (fun _ _ => rfl) (by omega) (by omega) (by decide) ?_
              refine fc_lrem C dX7_uneven_42 (by rw [t1]; exact hub.L) (by rw [hp]; exact hpb.L) (by rw [hp]; exact hz) ?_
              refine fc_lconst (z := 0) C dX7_uneven_43 rfl ?_
              refine fc_lcmp C dX7_uneven_44 (by rw [t1, hp]; exact hmb) (fc_RLm (by omega)) ?_
              refine fc_if_eq (tgt := 50) C dX7_uneven_45 (by decide) (fc_cmp_R _ _) (fun c45 => ?_) (fun c45 => ?_)
              · have h0 := fc_cmp_eq.1 c45
                rw [t1, hp] at h0
                refine fc_iinc C dX7_uneven_50 rfl (by decide) ?_
                refine fc_goto (tgt := 16) C dX7_uneven_53 (by decide) ?_
                refine ih2 (c + 1) (by omega) (by omega) (by omega) (fun j j0 j1 => ?_)
                by_cases cc : j = c
                · rw [cc]; exact Int.dvd_of_tmod_eq_zero h0
                · exact hd2 j j0 (by omega)
              · refine fc_iload_n C dX7_uneven_48 rfl rfl ?_
                exact fh_iretE C T dX7_uneven_49 (Or.inl rfl) ⟨rfl, rfl, r, rfl, Or.inr ⟨by omega, by omega, c, by omega, by omega, fun h => c45 (fc_cmp_eq.2 (by rw [t1, hp]; exact Int.tmod_eq_zero_of_dvd h))⟩⟩
        refine fc_iload_n C dX7_uneven_12 rfl rfl ?_
        refine fc_iconst C dX7_uneven_13 ?_
        refine fc_iadd C dX7_uneven_14 ?_
        refine fc_istore_n C dX7_uneven_15 rfl (by decide) ?_
        exact cols 7 (k + 1) (by omega) (by omega) (by omega) (fun j j0 j1 => by omega)
  refine fc_iload_n C dX7_uneven_0 rfl rfl ?_
  refine fc_iconst C dX7_uneven_1 ?_
  refine fc_iadd C dX7_uneven_2 ?_
  refine fc_istore_n C dX7_uneven_3 rfl (by decide) ?_
  exact rows 7 (k + 1) none (by omega) (by omega) (by omega) (fun i j i0 i1 => by omega)
end SM2
