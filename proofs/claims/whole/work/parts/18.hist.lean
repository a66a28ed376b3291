/-! Position's empty and draw; History -/
def s_din (L : Int → Int → Int) (x b : Int) : Nat → (Int → Int → Int) × Int
  | 0 => (L, x)
  | k + 1 => (s_put (s_din L x b k).1 k b (((s_nx (s_din L x b k).2).tdiv 65536).tmod 3), s_nx (s_din L x b k).2)
def s_dout (L : Int → Int → Int) (x : Int) : Nat → (Int → Int → Int) × Int
  | 0 => (L, x)
  | k + 1 => s_din (s_dout L x k).1 (s_dout L x k).2 (k + 1) (k + 1)
def s_dch (c : Int → Int) (x : Int) : Nat → (Int → Int) × Int
  | 0 => (c, x)
  | k + 1 => (fc_set (s_dch c x k).1 k (((s_nx (s_dch c x k).2).tdiv 65536).tmod 7), s_nx (s_dch c x k).2)
theorem s_din_step {L : Int → Int → Int} {x b a : Int} (h : 0 ≤ a) : s_din L x b (a + 1).toNat = (s_put (s_din L x b a.toNat).1 a b (((s_nx (s_din L x b a.toNat).2).tdiv 65536).tmod 3), s_nx (s_din L x b a.toNat).2) := by
  have e : (a + 1).toNat = a.toNat + 1 := by omega
  rw [e]
  show (s_put (s_din L x b a.toNat).1 ((a.toNat : Nat) : Int) b _, _) = _
  rw [Int.toNat_of_nonneg h]
theorem s_dout_step {L : Int → Int → Int} {x b : Int} (h : 1 ≤ b) : s_dout L x b.toNat = s_din (s_dout L x (b - 1).toNat).1 (s_dout L x (b - 1).toNat).2 b b.toNat := by
  have e : b.toNat = (b - 1).toNat + 1 := by omega
  have e2 : (((b - 1).toNat : Nat) : Int) + 1 = b := by omega
  rw [e]
  show s_din _ _ ((((b - 1).toNat : Nat) : Int) + 1) _ = _
  rw [e2]
theorem s_dch_step {c : Int → Int} {x a : Int} (h : 0 ≤ a) : s_dch c x (a + 1).toNat = (fc_set (s_dch c x a.toNat).1 a (((s_nx (s_dch c x a.toNat).2).tdiv 65536).tmod 7), s_nx (s_dch c x a.toNat).2) := by
  have e : (a + 1).toNat = a.toNat + 1 := by omega
  rw [e]
  show (fc_set (s_dch c x a.toNat).1 ((a.toNat : Nat) : Int) _, _) = _
  rw [Int.toNat_of_nonneg h]
section HIST
variable {A : Nat → Int → Int} {F : Nat → Nat → Int} {n : Int} {L : Int → Int → Int} {c : Int → Int}
theorem c_empty {k : Int} : fh_M mX3_empty 1 [vR 3, vI k] A F none (fa_sel (fun i => decide (5 ≤ i) && decide (i < 12)) (fun i => fc_cpy (fun _ => 0) (A i) 5) A) (ff_up F 3 0 k) := by
  refine fh_M.of mi_X3_empty (Nat.le_of_ble_eq_true rfl) ?_
  intro X C T
  have loop : ∀ (m : Nat) (j : Int), 0 ≤ j → j ≤ 5 → 5 - j < m → fc_W X 0 0 159 (fc_H (fa_sel (fun i => decide (5 ≤ i) && decide (i < 5 + j.toNat)) (fun i => fc_cpy (fun _ => 0) (A i) 5) A) (ff_up F 3 0 k)) 7 [some (vR 3), some (vI k), some (vI j)] [] := by
    intro m
    induction m with
    | zero => intro j h0 h1 h2; exfalso; omega
    | succ m ih =>
      intro j h0 h1 h2
      refine fc_iload_n C dX3_empty_7 rfl rfl ?_
      refine fc_iconst C dX3_empty_8 ?_
      refine fc_icmp_ge (tgt := 28) C dX3_empty_9 (by decide) (fc_Rm (by omega)) (fc_Rm (by omega)) (fun c9 => ?_) (fun c9 => ?_)
      · have e : j = 5 := by omega
        subst e
        refine fc_aload_n C dX3_empty_28 rfl rfl ?_
        refine fh_getf C dX3_empty_29 fl_X3_20 rfl rfl ?_
        refine fc_iconst C dX3_empty_32 ?_
        refine fh_callSv (y := mJ7_fill_53178) C dX3_empty_33 ml_X3_37 mi_J7_fill_53178 st_J7_fill_53178 (c_fill (N := 5) (fun _ _ => rfl) (by decide)) (by decide) rfl (Nat.le_of_ble_eq_true rfl) (Nat.zero_le _) (Nat.zero_le _) rfl ?_
        refine fc_aload_n C dX3_empty_36 rfl rfl ?_
        refine fh_getf C dX3_empty_37 fl_X3_24 rfl rfl ?_
        refine fc_iconst C dX3_empty_40 ?_
        refine fh_callSv (y := mJ7_fill_53178) C dX3_empty_41 ml_X3_37 mi_J7_fill_53178 st_J7_fill_53178 (c_fill (N := 5) (fun _ _ => rfl) (by decide)) (by decide) rfl (Nat.le_of_ble_eq_true rfl) (Nat.zero_le _) (Nat.zero_le _) rfl ?_
        refine fh_vret C T dX3_empty_44 (congrArg (fun z => fc_H z _) ?_)
        rw [fa_sel_no (i := 10) (by decide), fa_n (j := 11) _ _ (by decide), fa_sel_no (i := 11) (by decide)]
        rw [fa_sel_up (j := 10) (x := fc_cpy (fun _ => 0) (A 10) ((5 : Nat) : Int)) (Q := fun i => decide (5 ≤ i) && decide (i < 11)) (fun i => by
          rw [Bool.eq_iff_iff]
          simp only [Bool.or_eq_true, Bool.and_eq_true, decide_eq_true_eq, beq_iff_eq]
          have : (5 : Int).toNat = 5 := rfl
          omega) rfl]
        exact fa_sel_up (fun i => by
          rw [Bool.eq_iff_iff]
          simp only [Bool.or_eq_true, Bool.and_eq_true, decide_eq_true_eq, beq_iff_eq]
          omega) rfl
      · refine fc_aload_n C dX3_empty_12 rfl rfl ?_
        refine fh_getf C dX3_empty_13 fl_X3_17 rfl rfl ?_
        refine fc_iload_n C dX3_empty_16 rfl rfl ?_
        refine fh_aaload C dX3_empty_17 (Or.inl rfl) rfl (by omega) (by omega) (by decide) (fg_5 j) ?_
        refine fc_iconst C dX3_empty_18 ?_
        refine fh_callSv (y := mJ7_fill_53178) C dX3_empty_19 ml_X3_37 mi_J7_fill_53178 st_J7_fill_53178 (c_fill (fS_5 h0 (by omega)) (by decide)) (by decide) rfl (Nat.le_of_ble_eq_true rfl) (Nat.zero_le _) (Nat.zero_le _) rfl ?_
        refine fc_iinc C dX3_empty_22 rfl (by decide) ?_
        refine fc_goto (tgt := 7) C dX3_empty_25 (by decide) ?_
        refine fc_heq (congrArg (fun z => fc_H z _) ?_) (ih (j + 1) (by omega) (by omega) (by omega))
        rw [fa_sel_no (i := 5 + j.toNat) (by simp <;> omega)]
        exact fa_sel_up (fun i => by
          rw [Bool.eq_iff_iff]
          simp only [Bool.or_eq_true, Bool.and_eq_true, decide_eq_true_eq, beq_iff_eq]
          omega) rfl
  refine fc_aload_n C dX3_empty_0 rfl rfl ?_
  refine fc_iload_n C dX3_empty_1 rfl rfl ?_
  refine fh_putf _ C dX3_empty_2 fl_X3_9 rfl (Nat.le_of_ble_eq_true rfl) rfl rfl ?_
  refine fc_iconst C dX3_empty_5 ?_
  refine fc_istore_n C dX3_empty_6 rfl (by decide) ?_
  refine fc_heq (congrArg (fun z => fc_H z _) ?_) (loop 6 0 (by omega) (by omega) (by omega))
  funext i
  rw [fa_sel_no]
  simp <;> omega
theorem s_dk {x m : Int} (h0 : 0 ≤ x) (h1 : x < 2147483648) (hm : 0 < m) (hm2 : m < 100) : 0 ≤ (x.tdiv 65536).tmod m ∧ (x.tdiv 65536).tmod m < m ∧ 0 ≤ x.tdiv 65536 ∧ x.tdiv 65536 < 2147483648 := by
  have e : x.tdiv 65536 = x / 65536 := Int.tdiv_eq_ediv_of_nonneg h0
  have h2 : 0 ≤ x.tdiv 65536 := by rw [e]; omega
  exact ⟨Int.tmod_nonneg _ h2, Int.tmod_lt_of_pos _ hm, h2, by rw [e]; omega⟩
set_option maxHeartbeats 4000000 in
theorem c_draw (K : k_net A F n L) (H : ∀ p : Int, 0 ≤ p → p < 5 → A 10 p = c p) {seed : Int} (hs0 : 0 ≤ seed) (hs1 : seed ≤ 999999) : fh_E mX3_draw 1 [vR 3, vI seed] A F (fun r A' F' => r = none ∧ F' = F ∧ k_net A' F n (s_dout L seed (n - 1).toNat).1 ∧ (∀ p : Int, 0 ≤ p → p < 5 → A' 10 p = (s_dch c (s_dout L seed (n - 1).toNat).2 n.toNat).1 p) ∧ ∀ i : Nat, ¬ (5 ≤ i ∧ i < 11) → A' i = A i) := by
  obtain ⟨e0, hn1, hn2, eL⟩ := id K
  refine fh_E.of mi_X3_draw (Nat.le_of_ble_eq_true rfl) ?_
  intro X C T
  -- chips
  have loop3 : ∀ (m : Nat) (k x : Int) (A1 : Nat → Int → Int) (y : Option fc_AV), 0 ≤ k → k ≤ n → n - k < m → 0 ≤ x → x < 2147483648 → x = (s_dch c (s_dout L seed (n - 1).toNat).2 k.toNat).2 → k_net A1 F n (s_dout L seed (n - 1).toNat).1 → (∀ p : Int, 0 ≤ p → p < 5 → A1 10 p = (s_dch c (s_dout L seed (n - 1).toNat).2 k.toNat).1 p) → (∀ i : Nat, ¬ (5 ≤ i ∧ i < 11) → A1 i = A i) → fc_W X 0 0 159 (fc_H A1 F) 63 [some (vR 3), some (vI seed), some (vL x), none, some (vI k), y] [] := by
    intro m
    induction m with
    | zero => intro k x A1 y h0 h1 h2; exfalso; omega
    | succ m ih =>
      intro k x A1 y h0 h1 h2 x0 x1 ex K1 H1 fr
      refine fc_iload C dX3_draw_63 rfl ?_
      refine fc_aload_n C dX3_draw_65 rfl rfl ?_
      refine fh_getf C dX3_draw_66 fl_X3_9 rfl rfl ?_
      refine fc_icmp_ge (tgt := 100) C dX3_draw_69 (by decide) (fc_Rm (by omega)) (fc_Rm (by omega)) (fun c69 => ?_) (fun c69 => ?_)
      · have e : k = n := by omega
        subst e
        exact fh_vretE C T dX3_draw_100 ⟨rfl, rfl, K1, H1, fr⟩
      · have hnx := s_nx_bd x0
        have hdk := s_dk hnx.1 hnx.2 (m := 7) (by omega) (by omega)
        refine fc_lload_n C dX3_draw_72 rfl rfl ?_
        refine fh_callS (y := mX3_drawnAfter) C dX3_draw_73 ml_X3_43 mi_X3_drawnAfter st_X3_drawnAfter (c_drawnAfter x0 x1) (by decide) rfl (Nat.le_of_ble_eq_true rfl) (Nat.zero_le _) (Nat.zero_le _) rfl ?_
        refine fc_lstore_n C dX3_draw_76 rfl (by decide) ?_
        refine fc_aload_n C dX3_draw_77 rfl rfl ?_
        refine fh_getf C dX3_draw_78 fl_X3_20 rfl rfl ?_
        refine fc_iload C dX3_draw_81 rfl ?_
        refine fc_lload_n C dX3_draw_83 rfl rfl ?_
        refine fc_ldc2_w C dX3_draw_84 kc_X3_47 ?_
        refine fc_ldiv C dX3_draw_87 (fc_RLm (by omega)) (fc_RLm (by omega)) (by omega) ?_
        refine fc_ldc2_w C dX3_draw_88 kc_X3_55 ?_
        refine fc_lrem C dX3_draw_91 (fc_RLm (by omega)) (fc_RLm (by omega)) (by omega) ?_
        refine fc_l2i C dX3_draw_92 ?_
        refine fh_iastore C dX3_draw_93 (fun _ _ => rfl) (by omega) (by omega) (by decide) ?_
        refine fc_iinc C dX3_draw_94 rfl (by decide) ?_
        refine fc_goto (tgt := 63) C dX3_draw_97 (by decide) ?_
        refine ih (k + 1) _ _ _ (by omega) (by omega) (by omega) hnx.1 hnx.2 (by rw [s_dch_step h0, ← ex]) ⟨e0, hn1, hn2, fun a b q0 q1 q2 q3 => by rw [fa_n _ _ (by omega)]; exact K1.2.2.2 a b q0 q1 q2 q3⟩ (fun p q0 q1 => ?_) (fun i hi => by rw [fa_n _ _ (by omega)]; exact fr i hi)
        rw [fa_s, s_dch_step h0, ← ex]
        show fc_set (A1 10) k _ p = fc_set (s_dch c (s_dout L seed (n - 1).toNat).2 k.toNat).1 k _ p
        unfold fc_set
        by_cases e : p = k
        · rw [if_pos e, if_pos e]
        · rw [if_neg e, if_neg e]; exact H1 p q0 q1
  -- lines
  have loop1 : ∀ (m : Nat) (b x : Int) (A1 : Nat → Int → Int) (y : Option fc_AV), 1 ≤ b → b ≤ n → n - b < m → 0 ≤ x → x < 2147483648 → x = (s_dout L seed (b - 1).toNat).2 → k_net A1 F n (s_dout L seed (b - 1).toNat).1 → (∀ i : Nat, ¬ (5 ≤ i ∧ i < 10) → A1 i = A i) → fc_W X 0 0 159 (fc_H A1 F) 6 [some (vR 3), some (vI seed), some (vL x), none, some (vI b), y] [] := by
    intro m
    induction m with
    | zero => intro b x A1 y h0 h1 h2; exfalso; omega
    | succ m ih =>
      intro b x A1 y h0 h1 h2 x0 x1 ex K1 fr
      refine fc_iload C dX3_draw_6 rfl ?_
      refine fc_aload_n C dX3_draw_8 rfl rfl ?_
      refine fh_getf C dX3_draw_9 fl_X3_9 rfl rfl ?_
      refine fc_icmp_ge (tgt := 60) C dX3_draw_12 (by decide) (fc_Rm (by omega)) (fc_Rm (by omega)) (fun c12 => ?_) (fun c12 => ?_)
      · have e : b = n := by omega
        subst e
        refine fc_iconst C dX3_draw_60 ?_
        refine fc_istore C dX3_draw_61 (by decide) ?_
        exact loop3 6 0 x A1 _ (by omega) (by omega) (by omega) x0 x1 ex K1 (fun p q0 q1 => by rw [fr 10 (by omega)]; exact H p q0 q1) (fun i hi => fr i (by omega))
      · have loop2 : ∀ (m2 : Nat) (a x2 : Int) (A2 : Nat → Int → Int), 0 ≤ a → a ≤ b → b - a < m2 → 0 ≤ x2 → x2 < 2147483648 → x2 = (s_din (s_dout L seed (b - 1).toNat).1 (s_dout L seed (b - 1).toNat).2 b a.toNat).2 → k_net A2 F n (s_din (s_dout L seed (b - 1).toNat).1 (s_dout L seed (b - 1).toNat).2 b a.toNat).1 → (∀ i : Nat, ¬ (5 ≤ i ∧ i < 10) → A2 i = A i) → fc_W X 0 0 159 (fc_H A2 F) 18 [some (vR 3), some (vI seed), some (vL x2), none, some (vI b), some (vI a)] [] := by
          intro m2
          induction m2 with
          | zero => intro a x2 A2 h0 h1 h2; exfalso; omega
          | succ m2 ih2 =>
            intro a x2 A2 q0 q1 q2 y0 y1 ey K2 fr2
            refine fc_iload C dX3_draw_18 rfl ?_
            refine fc_iload C dX3_draw_20 rfl ?_
            refine fc_icmp_ge (tgt := 54) C dX3_draw_22 (by decide) (fc_Rm (by omega)) (fc_Rm (by omega)) (fun c22 => ?_) (fun c22 => ?_)
            · have e : a = b := by omega
              subst e
              refine fc_iinc C dX3_draw_54 rfl (by decide) ?_
              refine fc_goto (tgt := 6) C dX3_draw_57 (by decide) ?_
              refine ih (a + 1) x2 A2 _ (by omega) (by omega) (by omega) y0 y1 ?_ ?_ fr2
              · rw [show a + 1 - 1 = a by omega, s_dout_step h0]; exact ey
              · rw [show a + 1 - 1 = a by omega, s_dout_step h0]; exact K2
            · have hnx := s_nx_bd y0
              have hdk := s_dk hnx.1 hnx.2 (m := 3) (by omega) (by omega)
              obtain ⟨A3, hM, K3, fr3⟩ := c_putLines (k := ((s_nx x2).tdiv 65536).tmod 3) K2 q0 (show a < 5 by omega) (show 0 ≤ b by omega) (show b < 5 by omega) (by omega)
              refine fc_lload_n C dX3_draw_25 rfl rfl ?_
              refine fh_callS (y := mX3_drawnAfter) C dX3_draw_26 ml_X3_43 mi_X3_drawnAfter st_X3_drawnAfter (c_drawnAfter y0 y1) (by decide) rfl (Nat.le_of_ble_eq_true rfl) (Nat.zero_le _) (Nat.zero_le _) rfl ?_
              refine fc_lstore_n C dX3_draw_29 rfl (by decide) ?_
              refine fc_aload_n C dX3_draw_30 rfl rfl ?_
              refine fc_iload C dX3_draw_31 rfl ?_
              refine fc_iload C dX3_draw_33 rfl ?_
              refine fc_lload_n C dX3_draw_35 rfl rfl ?_
              refine fc_ldc2_w C dX3_draw_36 kc_X3_47 ?_
              refine fc_ldiv C dX3_draw_39 (fc_RLm (by omega)) (fc_RLm (by omega)) (by omega) ?_
              refine fc_ldc2_w C dX3_draw_40 kc_X3_49 ?_
              refine fc_lrem C dX3_draw_43 (fc_RLm (by omega)) (fc_RLm (by omega)) (by omega) ?_
              refine fc_l2i C dX3_draw_44 ?_
              refine fh_callVv (y := mX3_putLines) C dX3_draw_45 ml_X3_51 mi_X3_putLines im_X3_putLines se_X3_putLines (hM) rfl rfl (by decide) rfl (Nat.le_of_ble_eq_true rfl) (Nat.zero_le _) (Nat.zero_le _) rfl ?_
              refine fc_iinc C dX3_draw_48 rfl (by decide) ?_
              refine fc_goto (tgt := 18) C dX3_draw_51 (by decide) ?_
              refine ih2 (a + 1) _ A3 (by omega) (by omega) (by omega) hnx.1 hnx.2 (by rw [s_din_step q0, ← ey]) ?_ (fun i hi => by rw [fr3 i hi]; exact fr2 i hi)
              rw [s_din_step q0, ← ey]
              exact K3
        refine fc_iconst C dX3_draw_15 ?_
        refine fc_istore C dX3_draw_16 (by decide) ?_
        exact loop2 6 0 x A1 (by omega) (by omega) (by omega) x0 x1 ex K1 fr
  refine fc_iload_n C dX3_draw_0 rfl rfl ?_
  refine fc_i2l C dX3_draw_1 (fc_Rm (by omega)) ?_
  refine fc_lstore_n C dX3_draw_2 rfl (by decide) ?_
  refine fc_iconst C dX3_draw_3 ?_
  refine fc_istore C dX3_draw_4 (by decide) ?_
  exact loop1 6 1 seed A _ (by omega) (by omega) (by omega) hs0 (by omega) rfl K (fun i _ => rfl)
theorem c_held {w : Int} (hw : F 36 1 = w) (h0 : 0 ≤ w) (h1 : w < 6) : fh_M mX2_held 0 [vR 36] A F (some (vR (38 + 14 * ((w + 1) % 6).toNat))) A F := by
  refine fh_M.of mi_X2_held (Nat.le_of_ble_eq_true rfl) ?_
  intro X C T
  have e : (F 36 1 + 1).tmod 6 = (w + 1) % 6 := by rw [hw]; exact Int.tmod_eq_emod_of_nonneg (by omega)
  refine fc_aload_n C dX2_held_0 rfl rfl ?_
  refine fh_getf C dX2_held_1 fl_X2_11 rfl rfl ?_
  refine fc_aload_n C dX2_held_4 rfl rfl ?_
  refine fh_getf C dX2_held_5 fl_X2_17 rfl rfl ?_
  refine fc_iconst C dX2_held_8 ?_
  refine fc_iadd C dX2_held_9 ?_
  refine fc_bipush C dX2_held_10 (by decide) ?_
  refine fc_irem C dX2_held_12 (fc_Rm (by omega)) (fc_Rm (by omega)) (by omega) ?_
  refine fc_eq (st' := [vI ((w + 1) % 6), vR 37]) rfl (by rw [e]) ?_
  refine fh_aaload C dX2_held_13 (Or.inr (Or.inr rfl)) rfl (by omega) (by omega) (by decide) rfl ?_
  exact fh_aret C T dX2_held_14 rfl rfl
theorem c_hold {w : Int} (hw : F 36 1 = w) (h0 : 0 ≤ w) (h1 : w < 6) : fh_M mX2_hold 3 [vR 36, vR 3] A F none (k_cp A (38 + 14 * ((w + 1) % 6).toNat) 3) (ff_up F (38 + 14 * ((w + 1) % 6).toNat) 0 (F 3 0)) := by
  refine fh_M.of mi_X2_hold (Nat.le_of_ble_eq_true rfl) ?_
  intro X C T
  have hp := k_PB_t (t := ((w + 1) % 6).toNat) (by omega)
  refine fc_aload_n C dX2_hold_0 rfl rfl ?_
  refine fh_callV (y := mX2_held) C dX2_hold_1 ml_X2_25 mi_X2_held im_X2_held se_X2_held (c_held hw h0 h1) rfl rfl (by decide) rfl (Nat.le_of_ble_eq_true rfl) (Nat.zero_le _) (Nat.zero_le _) rfl ?_
  refine fc_aload_n C dX2_hold_4 rfl rfl ?_
  refine fh_callVv (y := mX3_copyFrom) C dX2_hold_5 ml_X2_29 mi_X3_copyFrom im_X3_copyFrom se_X3_copyFrom (c_copyFrom hp k_PB_3 (Or.inr (by omega))) (hp.1 _ _) rfl (by decide) rfl (Nat.le_of_ble_eq_true rfl) (Nat.zero_le _) (Nat.zero_le _) rfl ?_
  exact fh_vret C T dX2_hold_8 rfl
theorem c_keepHeld {w z : Int} (hw : F 36 1 = w) (hz : F 36 2 = z) (h0 : 0 ≤ w) (h1 : w < 6) (h2 : 0 ≤ z) (h3 : z ≤ 5) : fh_M mX2_keepHeld 1 [vR 36] A F none A (ff_up (ff_up F 36 1 ((w + 1) % 6)) 36 2 (if z < 5 then z + 1 else 5)) := by
  refine fh_M.of mi_X2_keepHeld (Nat.le_of_ble_eq_true rfl) ?_
  intro X C T
  have e : (F 36 1 + 1).tmod 6 = (w + 1) % 6 := by rw [hw]; exact Int.tmod_eq_emod_of_nonneg (by omega)
  have e2 : (if (5 : Int) < F 36 2 + 1 then 5 else F 36 2 + 1) = if z < 5 then z + 1 else 5 := by rw [hz]; split <;> split <;> omega
  refine fc_aload_n C dX2_keepHeld_0 rfl rfl ?_
  refine fc_aload_n C dX2_keepHeld_1 rfl rfl ?_
  refine fh_getf C dX2_keepHeld_2 fl_X2_17 rfl rfl ?_
  refine fc_iconst C dX2_keepHeld_5 ?_
  refine fc_iadd C dX2_keepHeld_6 ?_
  refine fc_bipush C dX2_keepHeld_7 (by decide) ?_
  refine fc_irem C dX2_keepHeld_9 (fc_Rm (by omega)) (fc_Rm (by omega)) (by omega) ?_
  refine fc_eq (st' := [vI ((w + 1) % 6), vR 36]) rfl (by rw [e]) ?_
  refine fh_putf _ C dX2_keepHeld_10 fl_X2_17 rfl (Nat.le_of_ble_eq_true rfl) rfl rfl ?_
  refine fc_aload_n C dX2_keepHeld_13 rfl rfl ?_
  refine fc_aload_n C dX2_keepHeld_14 rfl rfl ?_
  refine fh_getf C dX2_keepHeld_15 fl_X2_21 rfl rfl ?_
  refine fc_eq (st' := [vI (F 36 2), vR 36]) rfl rfl ?_
  refine fc_iconst C dX2_keepHeld_18 ?_
  refine fc_iadd C dX2_keepHeld_19 ?_
  refine fc_iconst C dX2_keepHeld_20 ?_
  refine fh_callS (y := mJ9_min_7cf53) C dX2_keepHeld_21 ml_X2_33 mi_J9_min_7cf53 st_J9_min_7cf53 (c_imin (fc_Rm (by omega)) (fc_Rm (by omega))) (by decide) rfl (Nat.le_of_ble_eq_true rfl) (Nat.zero_le _) (Nat.zero_le _) rfl ?_
  refine fc_eq (st' := [vI (if z < 5 then z + 1 else 5), vR 36]) rfl (by rw [e2]) ?_
  refine fh_putf _ C dX2_keepHeld_24 fl_X2_21 rfl (Nat.le_of_ble_eq_true rfl) rfl rfl ?_
  exact fh_vret C T dX2_keepHeld_27 rfl
theorem c_takeNewest {w z : Int} (hw : F 36 1 = w) (hz : F 36 2 = z) (h0 : 0 ≤ w) (h1 : w < 6) (h2 : 1 ≤ z) (h3 : z ≤ 5) : fh_M mX2_takeNewest 3 [vR 36, vR 3] A F none (k_cp A 3 (38 + 14 * w.toNat)) (ff_up (ff_up (ff_up F 3 0 (F (38 + 14 * w.toNat) 0)) 36 1 ((w + 5) % 6)) 36 2 (z - 1)) := by
  refine fh_M.of mi_X2_takeNewest (Nat.le_of_ble_eq_true rfl) ?_
  intro X C T
  have hp := k_PB_t (t := w.toNat) (by omega)
  refine fc_aload_n C dX2_takeNewest_0 rfl rfl ?_
  refine fc_aload_n C dX2_takeNewest_1 rfl rfl ?_
  refine fh_getf C dX2_takeNewest_2 fl_X2_11 rfl rfl ?_
  refine fc_aload_n C dX2_takeNewest_5 rfl rfl ?_
  refine fh_getf C dX2_takeNewest_6 fl_X2_17 rfl rfl ?_
  refine fc_eq (st' := [vI w, vR 37, vR 3]) rfl (by rw [hw]) ?_
  have e : (F 36 1 + 5).tmod 6 = (w + 5) % 6 := by rw [hw]; exact Int.tmod_eq_emod_of_nonneg (by omega)
  have e2 : (if F 36 2 - 1 < (0 : Int) then 0 else F 36 2 - 1) = z - 1 := by rw [hz, if_neg (by omega)]
  refine fh_aaload C dX2_takeNewest_9 (Or.inr (Or.inr rfl)) rfl (by omega) (by omega) (by decide) rfl ?_
  refine fh_callVv (y := mX3_copyFrom) C dX2_takeNewest_10 ml_X2_29 mi_X3_copyFrom im_X3_copyFrom se_X3_copyFrom (c_copyFrom k_PB_3 hp (Or.inl (by omega))) rfl rfl (by decide) rfl (Nat.le_of_ble_eq_true rfl) (Nat.zero_le _) (Nat.zero_le _) rfl ?_
  refine fc_aload_n C dX2_takeNewest_13 rfl rfl ?_
  refine fc_aload_n C dX2_takeNewest_14 rfl rfl ?_
  refine fh_getf C dX2_takeNewest_15 fl_X2_17 rfl rfl ?_
  refine fc_eq (st' := [vI (F 36 1), vR 36]) rfl rfl ?_
  refine fc_iconst C dX2_takeNewest_18 ?_
  refine fc_iadd C dX2_takeNewest_19 ?_
  refine fc_bipush C dX2_takeNewest_20 (by decide) ?_
  refine fc_irem C dX2_takeNewest_22 (fc_Rm (by omega)) (fc_Rm (by omega)) (by omega) ?_
  refine fc_eq (st' := [vI ((w + 5) % 6), vR 36]) rfl (by rw [e]) ?_
  refine fh_putf _ C dX2_takeNewest_23 fl_X2_17 rfl (Nat.le_of_ble_eq_true rfl) rfl rfl ?_
  refine fc_aload_n C dX2_takeNewest_26 rfl rfl ?_
  refine fc_aload_n C dX2_takeNewest_27 rfl rfl ?_
  refine fh_getf C dX2_takeNewest_28 fl_X2_21 rfl rfl ?_
  refine fc_eq (st' := [vI (F 36 2), vR 36]) rfl rfl ?_
  refine fc_iconst C dX2_takeNewest_31 ?_
  refine fc_isub C dX2_takeNewest_32 ?_
  refine fc_iconst C dX2_takeNewest_33 ?_
  refine fh_callS (y := mJ9_max_7cf53) C dX2_takeNewest_34 ml_X2_39 mi_J9_max_7cf53 st_J9_max_7cf53 (c_imax (fc_Rm (by omega)) (fc_Rm (by omega))) (by decide) rfl (Nat.le_of_ble_eq_true rfl) (Nat.zero_le _) (Nat.zero_le _) rfl ?_
  refine fc_eq (st' := [vI (z - 1), vR 36]) rfl (by rw [e2]) ?_
  refine fh_putf _ C dX2_takeNewest_37 fl_X2_21 rfl (Nat.le_of_ble_eq_true rfl) rfl rfl ?_
  exact fh_vret C T dX2_takeNewest_40 rfl
end HIST
