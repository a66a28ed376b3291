/-! the reference: its cells 143 .. 158; the row 'all' (144) is the STATE itself -/
theorem fc_R.L {x : Int} (h : fc_R x) : fc_RL x := ⟨by have := h.1; omega, by have := h.2; omega⟩
def m_RX (A : Nat → Int → Int) (F : Nat → Nat → Int) (ps : Int → Int → Int) (st : Int) (rf tx : Int → Int) (tl : Int) : Prop := F 143 3 = st ∧ (∀ j k : Int, 0 ≤ j → j < st → 0 ≤ k → k < 54 → A 145 (54 * j + k) = ps j k) ∧ (∀ i : Int, 0 ≤ i → i < 3 → A 147 i = rf i) ∧ F 143 15 = tl ∧ ∀ i : Int, 0 ≤ i → i < tl → A 157 i = tx i
def m_RC (A : Nat → Int → Int) (F : Nat → Nat → Int) (v : Int → Int) (ps : Int → Int → Int) (st : Int) (rf tx : Int → Int) (tl : Int) : Prop := A 144 = v ∧ v_ok v ∧ (0 ≤ st ∧ st ≤ 5) ∧ (0 ≤ tl ∧ tl ≤ 120) ∧ (∀ i : Int, 0 ≤ i → i < tl → 0 ≤ tx i ∧ tx i ≤ 127) ∧ m_RX A F ps st rf tx tl
/-- the reference's answer, the STATE w, the earlier ones .. behind it -/
def m_ans (A : Nat → Int → Int) (F : Nat → Nat → Int) (ans : Int) (w : Int → Int) (ps : Int → Int → Int) (st : Int) (rf tx : Int → Int) (tl : Int) : Option fc_AV → (Nat → Int → Int) → (Nat → Nat → Int) → Prop := fun r A' F' => r = some (vI ans) ∧ v_eq (A' 144) w ∧ m_RX A' F' ps st rf tx tl ∧ k_fr 143 158 A F A' F'
def m_an (A : Nat → Int → Int) (F : Nat → Nat → Int) (x ans : Int) (v : Int → Int) (ps : Int → Int → Int) (st : Int) (rf tx : Int → Int) (tl : Int) : Option fc_AV → (Nat → Int → Int) → (Nat → Nat → Int) → Prop := m_ans A F (if x = 0 then ans else x) v ps st (if x = 0 then rf else h_rf rf x) tx tl
def m_st (A : Nat → Int → Int) (F : Nat → Nat → Int) (x ans : Int) (v : Int → Int) (ps : Int → Int → Int) (st : Int) (rf tx : Int → Int) (tl : Int) (w : Int → Int) : Option fc_AV → (Nat → Int → Int) → (Nat → Nat → Int) → Prop := m_ans A F (if x = 0 then ans else x) (if x = 0 then w else v) (if x = 0 then h_ps ps st v else ps) (if x = 0 then h_st st else st) (if x = 0 then rf else h_rf rf x) tx tl
theorem fb_or0 {s : Int} (h0 : 0 ≤ s) (h1 : s < 32) : fc_or s 0 = s := by
  have key : ∀ s : Fin 32, fc_or ((s.val : Nat) : Int) 0 = ((s.val : Nat) : Int) := by decide +kernel
  exact fz_lt (P := fun s => fc_or s 0 = s) (N := 32) key h0 h1
theorem s_li_mem {L : Int → Int → Int} (hg : g_ok L) {n r p o : Int} (h1 : n ≤ 5) (h2 : 0 ≤ p) (h3 : p < 5) (q0 : 0 ≤ o) (q1 : o < n) (q2 : fb_t r o = 1) (h : 0 < L p o) : 0 < s_li L n r p := by
  apply Classical.byContradiction
  intro hc
  have := s_li_neg hg h1 h2 h3 (show s_li L n r p ≤ 0 by omega) q0 q1 q2
  omega
theorem s_pc_le5 (r : Int) : s_pc r ≤ 5 := by
  have := s_pc5 r
  have := fb_01 r 0
  have := fb_01 r 1
  have := fb_01 r 2
  have := fb_01 r 3
  have := fb_01 r 4
  omega
theorem v_eq.rf (v : Int → Int) : v_eq v v := fun _ _ _ => rfl
theorem v_eq.of {v w : Int → Int} (e : v = w) : v_eq v w := by rw [e]; exact v_eq.rf _
section REF1
variable {A : Nat → Int → Int} {F : Nat → Nat → Int} {v : Int → Int} {ps : Int → Int → Int} {st : Int} {rf tx : Int → Int} {tl : Int}
theorem m_RX.fr {A' : Nat → Int → Int} {F' : Nat → Nat → Int} (h : m_RX A F ps st rf tx tl) (h5 : A' 145 = A 145) (h7 : A' 147 = A 147) (h9 : A' 157 = A 157) (f3 : F' 143 3 = F 143 3) (f15 : F' 143 15 = F 143 15) : m_RX A' F' ps st rf tx tl :=
  ⟨f3.trans h.1, fun j k j0 j1 k0 k1 => by rw [h5]; exact h.2.1 j k j0 j1 k0 k1, fun i i0 i1 => by rw [h7]; exact h.2.2.1 i i0 i1, f15.trans h.2.2.2.1, fun i i0 i1 => by rw [h9]; exact h.2.2.2.2 i i0 i1⟩
theorem r_in {x lo hi : Int} (h1 : fc_RL x) (h2 : fc_RL lo) (h3 : fc_RL hi) : fh_M mX7_in 0 [vL x, vL lo, vL hi] A F (some (vI (fc_ind (lo ≤ x ∧ x ≤ hi)))) A F := by
  refine fh_M.of mi_X7_in (Nat.le_of_ble_eq_true rfl) ?_
  intro X C T
  refine fc_lload_n C dX7_in_0 rfl rfl ?_
  refine fc_lload_n C dX7_in_1 rfl rfl ?_
  refine fc_lcmp C dX7_in_2 h1 h2 ?_
  refine fc_if_lt (tgt := 17) C dX7_in_3 (by decide) (fc_cmp_R _ _) (fun c3 => ?_) (fun c3 => ?_)
  · have c3 := fc_cmp_lt.1 c3
    refine fc_iconst C dX7_in_17 ?_
    exact fh_zret C T dX7_in_18 (by omega) (by rw [fc_ind_f (by omega)]) rfl
  · have c3 : ¬ x < lo := fun z => by have := fc_cmp_lt.2 z; omega
    refine fc_lload_n C dX7_in_6 rfl rfl ?_
    refine fc_lload C dX7_in_7 rfl ?_
    refine fc_lcmp C dX7_in_9 h1 h3 ?_
    refine fc_if_gt (tgt := 17) C dX7_in_10 (by decide) (fc_cmp_R _ _) (fun c10 => ?_) (fun c10 => ?_)
    · have c10 := fc_cmp_gt.1 c10
      refine fc_iconst C dX7_in_17 ?_
      exact fh_zret C T dX7_in_18 (by omega) (by rw [fc_ind_f (by omega)]) rfl
    · have c10 : ¬ hi < x := fun z => by have := fc_cmp_gt.2 z; omega
      refine fc_iconst C dX7_in_13 ?_
      refine fc_goto (tgt := 18) C dX7_in_14 (by decide) ?_
      exact fh_zret C T dX7_in_18 (by omega) (by rw [fc_ind_t (by omega)]) rfl
theorem r_refuses {x : Int} (hx : x = -2 ∨ x = -3 ∨ x = -4) : fh_M mX7_refuses 0 [vR 143, vI x] A F (some (vI x)) (fa_up A 147 (fc_set (A 147) (-2 - x) (A 147 (-2 - x) + 1))) F := by
  refine fh_M.of mi_X7_refuses (Nat.le_of_ble_eq_true rfl) ?_
  intro X C T
  refine fc_aload_n C dX7_refuses_0 rfl rfl ?_
  refine fh_getf C dX7_refuses_1 fl_X7_19 rfl rfl ?_
  refine fc_bipush C dX7_refuses_4 (by decide) ?_
  refine fc_iload_n C dX7_refuses_6 rfl rfl ?_
  refine fc_isub C dX7_refuses_7 ?_
  refine fc_dup2 C dX7_refuses_8 rfl rfl ?_
  refine fh_iaload C dX7_refuses_9 (fun _ _ => rfl) (by omega) (by omega) (by decide) ?_
  refine fc_iconst C dX7_refuses_10 ?_
  refine fc_iadd C dX7_refuses_11 ?_
  refine fh_iastore C dX7_refuses_12 (fun _ _ => rfl) (by omega) (by omega) (by decide) ?_
  refine fc_iload_n C dX7_refuses_13 rfl rfl ?_
  exact fh_iret C T dX7_refuses_14 rfl rfl
theorem m_RX.ref (h : m_RX A F ps st rf tx tl) {x : Int} (hx : x = -2 ∨ x = -3 ∨ x = -4) : m_RX (fa_up A 147 (fc_set (A 147) (-2 - x) (A 147 (-2 - x) + 1))) F ps st (h_rf rf x) tx tl := by
  refine ⟨h.1, fun j k j0 j1 k0 k1 => by rw [fa_n _ _ (by omega)]; exact h.2.1 j k j0 j1 k0 k1, fun i i0 i1 => ?_, h.2.2.2.1, fun i i0 i1 => by rw [fa_n _ _ (by omega)]; exact h.2.2.2.2 i i0 i1⟩
  rw [fa_s]
  unfold fc_set h_rf
  by_cases e : i = -2 - x
  · rw [if_pos e, if_pos e, ← e, h.2.2.1 i i0 i1]
  · rw [if_neg e, if_neg e]; exact h.2.2.1 i i0 i1
theorem m_ans.ref {x : Int} (h : m_RC A F v ps st rf tx tl) (hx : x = -2 ∨ x = -3 ∨ x = -4) : m_ans A F x v ps st (h_rf rf x) tx tl (some (vI x)) (fa_up A 147 (fc_set (A 147) (-2 - x) (A 147 (-2 - x) + 1))) F :=
  ⟨rfl, v_eq.of (by rw [fa_n _ _ (by omega)]; exact h.1), h.2.2.2.2.2.ref hx, fun i hi => ⟨fa_n _ _ (by omega), rfl⟩⟩
theorem m_st.no {x y ans : Int} {w : Int → Int} (h : m_RC A F v ps st rf tx tl) (e : x = y) (hx : y = -2 ∨ y = -3 ∨ y = -4) : m_st A F x ans v ps st rf tx tl w (some (vI y)) (fa_up A 147 (fc_set (A 147) (-2 - y) (A 147 (-2 - y) + 1))) F := by
  subst e
  have e : x ≠ 0 := by omega
  unfold m_st
  rw [if_neg e, if_neg e, if_neg e, if_neg e, if_neg e]
  exact m_ans.ref h hx
theorem m_an.no {x y ans : Int} (h : m_RC A F v ps st rf tx tl) (e : x = y) (hx : y = -2 ∨ y = -3 ∨ y = -4) : m_an A F x ans v ps st rf tx tl (some (vI y)) (fa_up A 147 (fc_set (A 147) (-2 - y) (A 147 (-2 - y) + 1))) F := by
  subst e
  have e : x ≠ 0 := by omega
  unfold m_an
  rw [if_neg e, if_neg e]
  exact m_ans.ref h hx
theorem m_an.yes {A' : Nat → Int → Int} {F' : Nat → Nat → Int} {x y ans : Int} (h : m_RC A F v ps st rf tx tl) (f144 : A' 144 = A 144) (hm : m_RX A' F' ps st rf tx tl) (fr : k_fr 143 158 A F A' F') (hx : x = 0) (e : ans = y) : m_an A F x ans v ps st rf tx tl (some (vI y)) A' F' := by
  subst e
  unfold m_an
  rw [if_pos hx, if_pos hx]
  exact ⟨rfl, v_eq.of (f144.trans h.1), hm, fr⟩
theorem m_an.id {x y ans : Int} (h : m_RC A F v ps st rf tx tl) (hx : x = 0) (e : ans = y) : m_an A F x ans v ps st rf tx tl (some (vI y)) A F := m_an.yes h rfl h.2.2.2.2.2 k_fr.rf hx e
theorem m_st.yes {A' : Nat → Int → Int} {F' : Nat → Nat → Int} {x y ans : Int} {w : Int → Int} (f144 : v_eq (A' 144) w) (hm : m_RX A' F' (h_ps ps st v) (h_st st) rf tx tl) (fr : k_fr 143 158 A F A' F') (hx : x = 0) (e : ans = y) : m_st A F x ans v ps st rf tx tl w (some (vI y)) A' F' := by
  subst e
  unfold m_st
  rw [if_pos hx, if_pos hx, if_pos hx, if_pos hx, if_pos hx]
  exact ⟨rfl, f144, hm, fr⟩
theorem r_many (e : A 144 = v) : fh_M mX7_many 0 [vR 143] A F (some (vI (v 0))) A F := by
  subst e
  refine fh_M.of mi_X7_many (Nat.le_of_ble_eq_true rfl) ?_
  intro X C T
  refine fc_aload_n C dX7_many_0 rfl rfl ?_
  refine fh_getf C dX7_many_1 fl_X7_7 rfl rfl ?_
  refine fc_iconst C dX7_many_4 ?_
  refine fh_iaload C dX7_many_5 (fun _ _ => rfl) (by omega) (by omega) (by decide) ?_
  exact fh_iret C T dX7_many_6 rfl rfl
theorem r_isPoint (e : A 144 = v) (hn : 2 ≤ v 0 ∧ v 0 ≤ 5) {p : Int} (hp : fc_R p) : fh_M mX7_isPoint 1 [vR 143, vI p] A F (some (vI (fc_ind (0 ≤ p ∧ p < v 0)))) A F := by
  refine fh_M.of mi_X7_isPoint (Nat.le_of_ble_eq_true rfl) ?_
  intro X C T
  refine fc_iload_n C dX7_isPoint_0 rfl rfl ?_
  refine fc_i2l C dX7_isPoint_1 hp ?_
  refine fc_lconst (z := 0) C dX7_isPoint_2 rfl ?_
  refine fc_aload_n C dX7_isPoint_3 rfl rfl ?_
  refine fh_callV (y := mX7_many) C dX7_isPoint_4 ml_X7_60 mi_X7_many im_X7_many se_X7_many (r_many e) rfl rfl (by decide) rfl (Nat.le_of_ble_eq_true rfl) (Nat.zero_le _) (Nat.zero_le _) rfl ?_
  refine fc_iconst C dX7_isPoint_7 ?_
  refine fc_isub C dX7_isPoint_8 ?_
  refine fc_i2l C dX7_isPoint_9 (fc_Rm (by omega)) ?_
  refine fh_callS (y := mX7_in) C dX7_isPoint_10 ml_X7_64 mi_X7_in st_X7_in (r_in hp.L (fc_RLm (by omega)) (fc_RLm (by omega))) (by decide) rfl (Nat.le_of_ble_eq_true rfl) (Nat.zero_le _) (Nat.zero_le _) rfl ?_
  exact fh_zret C T dX7_isPoint_13 (fc_ind_01 _) (by rw [fc_ind_congr (Q := 0 ≤ p ∧ p < v 0) (by omega)]) rfl
theorem r_linesOf (e : A 144 = v) {a b : Int} (ha : 0 ≤ a ∧ a < 5) (hb : 0 ≤ b ∧ b < 5) : fh_M mX7_linesOf 0 [vR 143, vI a, vI b] A F (some (vI (v_L v a b))) A F := by
  subst e
  refine fh_M.of mi_X7_linesOf (Nat.le_of_ble_eq_true rfl) ?_
  intro X C T
  refine fc_aload_n C dX7_linesOf_0 rfl rfl ?_
  refine fh_getf C dX7_linesOf_1 fl_X7_7 rfl rfl ?_
  refine fc_iconst C dX7_linesOf_4 ?_
  refine fc_iconst C dX7_linesOf_5 ?_
  refine fc_iload_n C dX7_linesOf_6 rfl rfl ?_
  refine fc_imul C dX7_linesOf_7 ?_
  refine fc_iadd C dX7_linesOf_8 ?_
  refine fc_iload_n C dX7_linesOf_9 rfl rfl ?_
  refine fc_iadd C dX7_linesOf_10 ?_
  refine fh_iaload C dX7_linesOf_11 (fun _ _ => rfl) (by omega) (by omega) (by decide) ?_
  exact fh_iret C T dX7_linesOf_12 rfl rfl
theorem r_valence (e : A 144 = v) (hn : 2 ≤ v 0 ∧ v 0 ≤ 5) {p : Int} (hp : 0 ≤ p ∧ p < 5) : fh_M mX7_valence 1 [vR 143, vI p] A F (some (vI (s_val (v_L v) (v 0) p))) A F := by
  refine fh_M.of mi_X7_valence (Nat.le_of_ble_eq_true rfl) ?_
  intro X C T
  have loop : ∀ (m : Nat) (k : Int), 0 ≤ k → k ≤ v 0 → v 0 - k < m → fc_W X 0 0 159 (fc_H A F) 4 [some (vR 143), some (vI p), some (vI (fs_sum (v_L v p) k.toNat)), some (vI k)] [] := by
    intro m
    induction m with
    | zero => intro k h0 h1 h2; exfalso; omega
    | succ m ih =>
      intro k h0 h1 h2
      refine fc_iload_n C dX7_valence_4 rfl rfl ?_
      refine fc_aload_n C dX7_valence_5 rfl rfl ?_
      refine fh_callV (y := mX7_many) C dX7_valence_6 ml_X7_60 mi_X7_many im_X7_many se_X7_many (r_many e) rfl rfl (by decide) rfl (Nat.le_of_ble_eq_true rfl) (Nat.zero_le _) (Nat.zero_le _) rfl ?_
      refine fc_icmp_ge (tgt := 27) C dX7_valence_9 (by decide) (fc_Rm (by omega)) (fc_Rm (by omega)) (fun c9 => ?_) (fun c9 => ?_)
      · have ek : k = v 0 := by omega
        refine fc_iload_n C dX7_valence_27 rfl rfl ?_
        exact fh_iret C T dX7_valence_28 (by rw [ek]; rfl) rfl
      · refine fc_iload_n C dX7_valence_12 rfl rfl ?_
        refine fc_aload_n C dX7_valence_13 rfl rfl ?_
        refine fc_iload_n C dX7_valence_14 rfl rfl ?_
        refine fc_iload_n C dX7_valence_15 rfl rfl ?_
        refine fh_callV (y := mX7_linesOf) C dX7_valence_16 ml_X7_68 mi_X7_linesOf im_X7_linesOf se_X7_linesOf (r_linesOf e hp ⟨h0, by omega⟩) rfl rfl (by decide) rfl (Nat.le_of_ble_eq_true rfl) (Nat.zero_le _) (Nat.zero_le _) rfl ?_
        refine fc_iadd C dX7_valence_19 ?_
        refine fc_istore_n C dX7_valence_20 rfl (by decide) ?_
        refine fc_iinc C dX7_valence_21 rfl (by decide) ?_
        refine fc_goto (tgt := 4) C dX7_valence_24 (by decide) ?_
        exact fc_eq (by rw [fs_step h0]; rfl) rfl (ih (k + 1) (by omega) (by omega) (by omega))
  refine fc_iconst C dX7_valence_0 ?_
  refine fc_istore_n C dX7_valence_1 rfl (by decide) ?_
  refine fc_iconst C dX7_valence_2 ?_
  refine fc_istore_n C dX7_valence_3 rfl (by decide) ?_
  exact loop 6 0 (by omega) (by omega) (by omega)
theorem r_allLines (e : A 144 = v) (hn : 2 ≤ v 0 ∧ v 0 ≤ 5) (hg : g_ok (v_L v)) : fh_M mX7_allLines 2 [vR 143] A F (some (vI (s_lc (v_L v) (v 0)))) A F := by
  refine fh_M.of mi_X7_allLines (Nat.le_of_ble_eq_true rfl) ?_
  intro X C T
  have loop : ∀ (m : Nat) (k : Int), 0 ≤ k → k ≤ v 0 → v 0 - k < m → fc_W X 0 0 159 (fc_H A F) 4 [some (vR 143), some (vI (fs_sum (fun p => s_val (v_L v) (v 0) p) k.toNat)), some (vI k)] [] := by
    intro m
    induction m with
    | zero => intro k h0 h1 h2; exfalso; omega
    | succ m ih =>
      intro k h0 h1 h2
      refine fc_iload_n C dX7_allLines_4 rfl rfl ?_
      refine fc_aload_n C dX7_allLines_5 rfl rfl ?_
      refine fh_callV (y := mX7_many) C dX7_allLines_6 ml_X7_60 mi_X7_many im_X7_many se_X7_many (r_many e) rfl rfl (by decide) rfl (Nat.le_of_ble_eq_true rfl) (Nat.zero_le _) (Nat.zero_le _) rfl ?_
      refine fc_icmp_ge (tgt := 26) C dX7_allLines_9 (by decide) (fc_Rm (by omega)) (fc_Rm (by omega)) (fun c9 => ?_) (fun c9 => ?_)
      · have ek : k = v 0 := by omega
        have hb := s_lc_bd hg (n := v 0) (by omega) (by omega)
        rw [ek]
        refine fc_iload_n C dX7_allLines_26 rfl rfl ?_
        refine fc_iconst C dX7_allLines_27 ?_
        refine fc_idiv C dX7_allLines_28 (fc_Rm (by omega)) (fc_Rm (by omega)) (by omega) ?_
        exact fh_iret C T dX7_allLines_29 rfl rfl
      · refine fc_iload_n C dX7_allLines_12 rfl rfl ?_
        refine fc_aload_n C dX7_allLines_13 rfl rfl ?_
        refine fc_iload_n C dX7_allLines_14 rfl rfl ?_
        refine fh_callV (y := mX7_valence) C dX7_allLines_15 ml_X7_72 mi_X7_valence im_X7_valence se_X7_valence (r_valence e hn ⟨h0, by omega⟩) rfl rfl (by decide) rfl (Nat.le_of_ble_eq_true rfl) (Nat.zero_le _) (Nat.zero_le _) rfl ?_
        refine fc_iadd C dX7_allLines_18 ?_
        refine fc_istore_n C dX7_allLines_19 rfl (by decide) ?_
        refine fc_iinc C dX7_allLines_20 rfl (by decide) ?_
        refine fc_goto (tgt := 4) C dX7_allLines_23 (by decide) ?_
        exact fc_eq (by rw [fs_step h0]; rfl) rfl (ih (k + 1) (by omega) (by omega) (by omega))
  refine fc_iconst C dX7_allLines_0 ?_
  refine fc_istore_n C dX7_allLines_1 rfl (by decide) ?_
  refine fc_iconst C dX7_allLines_2 ?_
  refine fc_istore_n C dX7_allLines_3 rfl (by decide) ?_
  exact loop 6 0 (by omega) (by omega) (by omega)
theorem r_chips (e : A 144 = v) {p : Int} (hp : 0 ≤ p ∧ p < 5) : fh_M mX7_chips 0 [vR 143, vI p] A F (some (vI (v (26 + p)))) A F := by
  subst e
  refine fh_M.of mi_X7_chips (Nat.le_of_ble_eq_true rfl) ?_
  intro X C T
  refine fc_aload_n C dX7_chips_0 rfl rfl ?_
  refine fh_getf C dX7_chips_1 fl_X7_7 rfl rfl ?_
  refine fc_bipush C dX7_chips_4 (by decide) ?_
  refine fc_iload_n C dX7_chips_6 rfl rfl ?_
  refine fc_iadd C dX7_chips_7 ?_
  refine fh_iaload C dX7_chips_8 (fun _ _ => rfl) (by omega) (by omega) (by decide) ?_
  exact fh_iret C T dX7_chips_9 rfl rfl
theorem r_isJoined (e : A 144 = v) (hn : 2 ≤ v 0 ∧ v 0 ≤ 5) (hg : g_ok (v_L v)) : fh_M mX7_isJoined 1 [vR 143] A F (some (vI (fc_ind (s_J (v_L v) (v 0))))) A F := by
  refine fh_M.of mi_X7_isJoined (Nat.le_of_ble_eq_true rfl) ?_
  intro X C T
  have fin : ∀ (r : Int) (y3 y4 : Option fc_AV), s_R (v_L v) (v 0) r → s_cl (v_L v) (v 0) r → fc_W X 0 0 159 (fc_H A F) 4 [some (vR 143), some (vI r), some (vI r), y3, y4] [] := by
    intro r y3 y4 hR hcl
    obtain ⟨a1, a2, a3, a4, a5⟩ := id hR
    refine fc_iload_n C dX7_isJoined_4 rfl rfl ?_
    refine fc_iload_n C dX7_isJoined_5 rfl rfl ?_
    refine fc_icmp_eq (tgt := 78) C dX7_isJoined_6 (by decide) (fc_Rm (by omega)) (fc_Rm (by omega)) (fun c6 => ?_) (fun c6 => ?_)
    · have hb := fb_all_bd (n := v 0) (by omega) (by omega)
      have key := s_R.end hn.2 hn.1 hR (Or.inl hcl)
      refine fc_iload_n C dX7_isJoined_78 rfl rfl ?_
      refine fc_iconst C dX7_isJoined_79 ?_
      refine fc_aload_n C dX7_isJoined_80 rfl rfl ?_
      refine fh_callV (y := mX7_many) C dX7_isJoined_81 ml_X7_60 mi_X7_many im_X7_many se_X7_many (r_many e) rfl rfl (by decide) rfl (Nat.le_of_ble_eq_true rfl) (Nat.zero_le _) (Nat.zero_le _) rfl ?_
      refine fc_ishl C dX7_isJoined_84 ?_
      refine fc_iconst C dX7_isJoined_85 ?_
      refine fc_isub C dX7_isJoined_86 ?_
      refine fc_eq (st' := [vI (fb_all (v 0)), vI r]) rfl (by rw [fb_shl1 (by omega) (by omega)]; rfl) ?_
      refine fc_icmp_ne (tgt := 94) C dX7_isJoined_87 (by decide) (fc_Rm (by omega)) (fc_Rm (by omega)) (fun c87 => ?_) (fun c87 => ?_)
      · refine fc_iconst C dX7_isJoined_94 ?_
        exact fh_zret C T dX7_isJoined_95 (Or.inl rfl) (by rw [fc_ind_f (fun q => c87 (key.mpr q))]) rfl
      · refine fc_iconst C dX7_isJoined_90 ?_
        refine fc_goto (tgt := 95) C dX7_isJoined_91 (by decide) ?_
        exact fh_zret C T dX7_isJoined_95 (Or.inr rfl) (by rw [fc_ind_t (key.mp (by omega))]) rfl
    · exact absurd rfl c6
  have outer : ∀ (m : Nat) (r had : Int) (y3 y4 : Option fc_AV), 6 - s_pc r ≤ m → s_R (v_L v) (v 0) r → fc_R had → r ≠ had → fc_W X 0 0 159 (fc_H A F) 4 [some (vR 143), some (vI r), some (vI had), y3, y4] [] := by
    intro m
    induction m with
    | zero => intro r had y3 y4 h0; have := s_pc_le5 r; exfalso; omega
    | succ m ih =>
      intro r had y3 y4 h0 hR hhad hne
      obtain ⟨a1, a2, a3, a4, a5⟩ := id hR
      refine fc_iload_n C dX7_isJoined_4 rfl rfl ?_
      refine fc_iload_n C dX7_isJoined_5 rfl rfl ?_
      refine fc_icmp_eq (tgt := 78) C dX7_isJoined_6 (by decide) (fc_Rm (by omega)) (hhad) (fun c6 => ?_) (fun c6 => ?_)
      · exact absurd c6 hne
      · have la : ∀ (ma : Nat) (a r2 : Int) (y4 : Option fc_AV), 0 ≤ a → a ≤ v 0 → v 0 - a < ma → s_R (v_L v) (v 0) r2 → (∀ o : Int, 0 ≤ o → o < v 0 → fb_t r o = 1 → fb_t r2 o = 1) → ((r2 = r ∧ ∀ a' b' : Int, 0 ≤ a' → a' < a → 0 ≤ b' → b' < v 0 → fb_t r a' = 1 → 0 < v_L v a' b' → fb_t r b' = 1) ∨ s_pc r + 1 ≤ s_pc r2) → fc_W X 0 0 159 (fc_H A F) 13 [some (vR 143), some (vI r2), some (vI r), some (vI a), y4] [] := by
          intro ma
          induction ma with
          | zero => intro a r2 y4 q0 q1 q2; exfalso; omega
          | succ ma iha =>
            intro a r2 y4 q0 q1 q2 hR2 hsub hst
            refine fc_iload_n C dX7_isJoined_13 rfl rfl ?_
            refine fc_aload_n C dX7_isJoined_14 rfl rfl ?_
            refine fh_callV (y := mX7_many) C dX7_isJoined_15 ml_X7_60 mi_X7_many im_X7_many se_X7_many (r_many e) rfl rfl (by decide) rfl (Nat.le_of_ble_eq_true rfl) (Nat.zero_le _) (Nat.zero_le _) rfl ?_
            refine fc_icmp_ge (tgt := 75) C dX7_isJoined_18 (by decide) (fc_Rm (by omega)) (fc_Rm (by omega)) (fun c18 => ?_) (fun c18 => ?_)
            · refine fc_goto (tgt := 4) C dX7_isJoined_75 (by decide) ?_
              rcases hst with ⟨e2, h9⟩ | h9
              · rw [e2]
                exact fin r _ _ hR (fun x y x0 x1 y0 y1 hx hl => h9 x y x0 (by omega) y0 y1 hx hl)
              · exact ih r2 r _ _ (by omega) hR2 (fc_Rm (by omega)) (fun z => by rw [z] at h9; omega)
            · have lb : ∀ (mb : Nat) (b r3 : Int), 0 ≤ b → b ≤ v 0 → v 0 - b < mb → s_R (v_L v) (v 0) r3 → (∀ o : Int, 0 ≤ o → o < v 0 → fb_t r o = 1 → fb_t r3 o = 1) → ((r3 = r ∧ ∀ a' b' : Int, 0 ≤ a' → (a' < a ∨ (a' = a ∧ b' < b)) → 0 ≤ b' → b' < v 0 → fb_t r a' = 1 → 0 < v_L v a' b' → fb_t r b' = 1) ∨ s_pc r + 1 ≤ s_pc r3) → fc_W X 0 0 159 (fc_H A F) 24 [some (vR 143), some (vI r3), some (vI r), some (vI a), some (vI b)] [] := by
                intro mb
                induction mb with
                | zero => intro b r3 z0 z1 z2; exfalso; omega
                | succ mb ihb =>
                  intro b r3 z0 z1 z2 hR3 hsub3 hst3
                  obtain ⟨b1, b2, b3, b4, b5⟩ := id hR3
                  refine fc_iload C dX7_isJoined_24 rfl ?_
                  refine fc_aload_n C dX7_isJoined_26 rfl rfl ?_
                  refine fh_callV (y := mX7_many) C dX7_isJoined_27 ml_X7_60 mi_X7_many im_X7_many se_X7_many (r_many e) rfl rfl (by decide) rfl (Nat.le_of_ble_eq_true rfl) (Nat.zero_le _) (Nat.zero_le _) rfl ?_
                  refine fc_icmp_ge (tgt := 69) C dX7_isJoined_30 (by decide) (fc_Rm (by omega)) (fc_Rm (by omega)) (fun c30 => ?_) (fun c30 => ?_)
                  · refine fc_iinc C dX7_isJoined_69 rfl (by decide) ?_
                    refine fc_goto (tgt := 13) C dX7_isJoined_72 (by decide) ?_
                    exact iha (a + 1) r3 _ (by omega) (by omega) (by omega) hR3 hsub3 (hst3.imp (fun h => ⟨h.1, fun a' b' x0 x1 x2 x3 => h.2 a' b' x0 (by omega) x2 x3⟩) id)
                  · have nxt : ∀ (x : Int) (r4 : Int), fc_or r3 x = r4 → s_R (v_L v) (v 0) r4 → (∀ o : Int, 0 ≤ o → o < v 0 → fb_t r o = 1 → fb_t r4 o = 1) → ((r4 = r ∧ ∀ a' b' : Int, 0 ≤ a' → (a' < a ∨ (a' = a ∧ b' < b + 1)) → 0 ≤ b' → b' < v 0 → fb_t r a' = 1 → 0 < v_L v a' b' → fb_t r b' = 1) ∨ s_pc r + 1 ≤ s_pc r4) → fc_W X 0 0 159 (fc_H A F) 61 [some (vR 143), some (vI r3), some (vI r), some (vI a), some (vI b)] [vI x, vI r3] := by
                      intro x r4 ex hR4 hs4 ht4
                      refine fc_ior C dX7_isJoined_61 ?_
                      rw [ex]
                      refine fc_istore_n C dX7_isJoined_62 rfl (by decide) ?_
                      refine fc_iinc C dX7_isJoined_63 rfl (by decide) ?_
                      refine fc_goto (tgt := 24) C dX7_isJoined_66 (by decide) ?_
                      exact ihb (b + 1) r4 (by omega) (by omega) (by omega) hR4 hs4 ht4
                    have stay : ¬ (fb_t r a = 1 ∧ 0 < v_L v a b) → ((r3 = r ∧ ∀ a' b' : Int, 0 ≤ a' → (a' < a ∨ (a' = a ∧ b' < b + 1)) → 0 ≤ b' → b' < v 0 → fb_t r a' = 1 → 0 < v_L v a' b' → fb_t r b' = 1) ∨ s_pc r + 1 ≤ s_pc r3) := fun hno => hst3.imp (fun h => ⟨h.1, fun a' b' x0 x1 x2 x3 x4 x5 => by
                      by_cases g : a' = a ∧ b' = b
                      · obtain ⟨g1, g2⟩ := g
                        subst g1; subst g2
                        exact absurd ⟨x4, x5⟩ hno
                      · exact h.2 a' b' x0 (by omega) x2 x3 x4 x5⟩) id
                    have h01 := fb_01 r a
                    refine fc_iload_n C dX7_isJoined_33 rfl rfl ?_
                    refine fc_iload_n C dX7_isJoined_34 rfl rfl ?_
                    refine fc_iload_n C dX7_isJoined_35 rfl rfl ?_
                    refine fc_ishr C dX7_isJoined_36 ?_
                    refine fc_iconst C dX7_isJoined_37 ?_
                    refine fc_iand C dX7_isJoined_38 ?_
                    refine fc_eq (st' := [vI (fb_t r a), vI r3]) rfl (by rw [fb_and a1 a2 q0 (by omega)]) ?_
                    refine fc_iconst C dX7_isJoined_39 ?_
                    refine fc_icmp_ne (tgt := 60) C dX7_isJoined_40 (by decide) (fc_Rm (by omega)) (fc_Rm (by omega)) (fun c40 => ?_) (fun c40 => ?_)
                    · refine fc_iconst C dX7_isJoined_60 ?_
                      exact nxt 0 r3 (fb_or0 b1 b2) hR3 hsub3 (stay (fun h => c40 h.1))
                    · have hl := hg a b q0 (by omega) z0 (by omega)
                      refine fc_aload_n C dX7_isJoined_43 rfl rfl ?_
                      refine fc_iload_n C dX7_isJoined_44 rfl rfl ?_
                      refine fc_iload C dX7_isJoined_45 rfl ?_
                      refine fh_callV (y := mX7_linesOf) C dX7_isJoined_47 ml_X7_68 mi_X7_linesOf im_X7_linesOf se_X7_linesOf (r_linesOf e ⟨q0, by omega⟩ ⟨z0, by omega⟩) rfl rfl (by decide) rfl (Nat.le_of_ble_eq_true rfl) (Nat.zero_le _) (Nat.zero_le _) rfl ?_
                      refine fc_if_le (tgt := 60) C dX7_isJoined_50 (by decide) (fc_Rm (by omega)) (fun c50 => ?_) (fun c50 => ?_)
                      · refine fc_iconst C dX7_isJoined_60 ?_
                        exact nxt 0 r3 (fb_or0 b1 b2) hR3 hsub3 (stay (fun h => by omega))
                      · refine fc_iconst C dX7_isJoined_53 ?_
                        refine fc_iload C dX7_isJoined_54 rfl ?_
                        refine fc_ishl C dX7_isJoined_56 ?_
                        refine fc_goto (tgt := 61) C dX7_isJoined_57 (by decide) ?_
                        have hin := fb_or b1 b2 z0 (show b < 5 by omega)
                        have hpos : 0 < s_li (v_L v) (v 0) r3 b := s_li_mem hg hn.2 z0 (by omega) q0 (by omega) (hsub3 a q0 (by omega) (by omega)) (by rw [← hl.2.2.1]; omega)
                        refine nxt _ (fb_in r3 b) (by rw [fb_shl1 z0 (by omega)]; exact hin.1) (hR3.add hg (by omega) hn.2 z0 (by omega) hpos) (fun o o0 o1 o2 => ?_) ?_
                        · rw [fb_in_t b1 b2 z0 (by omega) o0 (by omega)]
                          split
                          · rfl
                          · exact hsub3 o o0 o1 o2
                        · rcases fb_01 r3 b with g | g
                          · have := s_pc_in b1 b2 z0 (by omega) g
                            right
                            rcases hst3 with ⟨h, -⟩ | h
                            · rw [h] at this ⊢; omega
                            · omega
                          · rw [fb_in_same g]
                            refine hst3.imp (fun h => ⟨h.1, fun a' b' x0 x1 x2 x3 x4 x5 => ?_⟩) id
                            by_cases k : a' = a ∧ b' = b
                            · rw [k.2, ← h.1]; exact g
                            · exact h.2 a' b' x0 (by omega) x2 x3 x4 x5
              refine fc_iconst C dX7_isJoined_21 ?_
              refine fc_istore C dX7_isJoined_22 (by decide) ?_
              exact lb 6 0 r2 (by omega) (by omega) (by omega) hR2 hsub (hst.imp (fun h => ⟨h.1, fun a' b' x0 x1 x2 x3 => h.2 a' b' x0 (by omega) x2 x3⟩) id)
        refine fc_iload_n C dX7_isJoined_9 rfl rfl ?_
        refine fc_istore_n C dX7_isJoined_10 rfl (by decide) ?_
        refine fc_iconst C dX7_isJoined_11 ?_
        refine fc_istore_n C dX7_isJoined_12 rfl (by decide) ?_
        exact la 6 0 r _ (by omega) (by omega) (by omega) hR (fun o _ _ h => h) (Or.inl ⟨rfl, fun a' b' x0 x1 => by omega⟩)
  refine fc_iconst C dX7_isJoined_0 ?_
  refine fc_istore_n C dX7_isJoined_1 rfl (by decide) ?_
  refine fc_iconst C dX7_isJoined_2 ?_
  refine fc_istore_n C dX7_isJoined_3 rfl (by decide) ?_
  exact outer 6 1 0 none none (by decide) (s_R.one hn.1) (fc_Rm (by omega)) (by decide)
end REF1
