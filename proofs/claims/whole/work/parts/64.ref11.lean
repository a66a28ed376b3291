/-! the reference: reduced rows, won, equal -/
section RD
variable {L : Int → Int → Int} {n q : Int}
theorem s_fz.qb (hn : 0 ≤ n ∧ n ≤ 5) {z g x f : Int → Int} (h : s_fz L n q z g x f) : z q ≤ x q ∧ x q ≤ z q + s_tot n q z := by
  obtain ⟨K, -, -, -, ha, -⟩ := h
  have h1 := ha.2.1
  have h2 := ha.2.2.1
  have h3 := fs_sum_le (f := fun _ => 0) (g := fun o => if o = q then 0 else x o) (m := n.toNat) (fun k k0 k1 => by
    by_cases c : k = q
    · rw [if_pos c]; omega
    · rw [if_neg c]; exact ha.1 k k0 (by omega) c)
  rw [fs_sum_zero] at h3
  unfold s_tot at h1 h2 ⊢
  omega
theorem z_e0.ev (hg : g_ok L) (hn : 2 ≤ n ∧ n ≤ 5) (hq : 0 ≤ q ∧ q < n) {x y : Int → Int} (h : z_e0 L n q x y) (hd : fs_sum x n.toNat = fs_sum y n.toNat) : z_ev L n x y := by
  obtain ⟨s, hs⟩ := h
  refine ⟨s, fun p p0 p1 => ?_⟩
  by_cases e : p = q
  · have h1 : fs_sum (fun o => x o - (y o + z_lp L n s o)) n.toNat = 0 := by
      rw [fs_sum_sub, fs_sum_add, z_lp_deg hg hn, hd]; omega
    rw [fs_sum_congr (g := fun o => if o = q then x q - (y q + z_lp L n s q) else 0) (fun o o0 o1 => by
      by_cases c : o = q
      · rw [if_pos c, c]
      · rw [if_neg c, hs o o0 (by omega) c, Int.sub_self]), fs_sum_one hq.1 (by omega)] at h1
    rw [e]; omega
  · exact hs p p0 p1 e
theorem s_tot_q (hq : 0 ≤ q ∧ q < n) {x : Int → Int} : fs_sum x n.toNat = s_tot n q x + x q := by
  unfold s_tot
  rw [← fs_sum_one (k := q) (a := x q) (m := n.toNat) hq.1 (by omega), ← fs_sum_add]
  refine fs_sum_congr fun o _ _ => ?_
  by_cases c : o = q
  · rw [if_pos c, if_pos c, c, Int.zero_add]
  · rw [if_neg c, if_neg c, Int.add_zero]
end RD
theorem fb_cmpl {n B o : Int} (hn : 2 ≤ n ∧ n ≤ 5) (h0 : 0 ≤ B) (h1 : B < 32) (o0 : 0 ≤ o) (o1 : o < 5) : 0 ≤ fc_and (fb_all n) (fc_xor B (-1)) ∧ fc_and (fb_all n) (fc_xor B (-1)) < 32 ∧ (fb_t (fc_and (fb_all n) (fc_xor B (-1))) o = 1 ↔ o < n ∧ fb_t B o = 0) := by
  have key : ∀ n : Fin 6, ∀ B : Fin 32, ∀ o : Fin 5, 0 ≤ fc_and (fb_all ((n.val : Nat) : Int)) (fc_xor ((B.val : Nat) : Int) (-1)) ∧ fc_and (fb_all ((n.val : Nat) : Int)) (fc_xor ((B.val : Nat) : Int) (-1)) < 32 ∧ (fb_t (fc_and (fb_all ((n.val : Nat) : Int)) (fc_xor ((B.val : Nat) : Int) (-1))) ((o.val : Nat) : Int) = 1 ↔ ((o.val : Nat) : Int) < ((n.val : Nat) : Int) ∧ fb_t ((B.val : Nat) : Int) ((o.val : Nat) : Int) = 0) := by decide +kernel
  have := key ⟨n.toNat, by omega⟩ ⟨B.toNat, by omega⟩ ⟨o.toNat, by omega⟩
  simp only [Int.toNat_of_nonneg h0, Int.toNat_of_nonneg o0, Int.toNat_of_nonneg (show 0 ≤ n by omega)] at this
  exact this
/-- what a set that fires brings -/
theorem s_mo_li {v : Int → Int} (hv : v_ok v) {U p : Int} (hp : 0 ≤ p ∧ p < v 0) : s_mo v U 1 p = s_li (v_L v) (v 0) U p - (if fb_t U p = 1 then s_val (v_L v) (v 0) p else 0) := by
  have hn := hv.n
  unfold s_mo s_li
  rw [Int.one_mul, ← fs_sum_one (k := p) (a := if fb_t U p = 1 then s_val (v_L v) (v 0) p else 0) (m := (v 0).toNat) hp.1 (by omega), ← fs_sum_sub]
  refine fs_sum_congr fun o o0 o1 => ?_
  have hl := hv.g o p o0 (by omega) hp.1 (by omega)
  unfold s_M
  by_cases c : o = p
  · subst c
    rw [if_pos rfl, if_pos rfl, hl.2.2.2]
    split <;> omega
  · rw [if_neg c, if_neg c, Int.neg_neg, hl.2.2.1, Int.sub_zero]
theorem s_mo_lp {v : Int → Int} {U p : Int} : s_mo v U 1 p = z_lp (v_L v) (v 0) (fun o => if fb_t U o = 1 then -1 else 0) p := by
  unfold s_mo z_lp
  rw [Int.one_mul]
  refine fs_sum_congr fun o _ _ => ?_
  show _ = (if fb_t U o = 1 then (-1 : Int) else 0) * _
  split
  · omega
  · rw [Int.zero_mul]
section REF11
variable {A : Nat → Int → Int} {F : Nat → Nat → Int} {v : Int → Int} {ps : Int → Int → Int} {st : Int} {rf tx : Int → Int} {tl : Int}
theorem r_laysLift (e : A 144 = v) (hv : v_ok v) (hJ : s_J (v_L v) (v 0)) {q : Int} (hq : 0 ≤ q ∧ q < v 0) : fh_E mX7_laysLift 3 [vR 143, vI q] A F (fun r A' F' => r = none ∧ F' = F ∧ (∀ j : Nat, j ≠ 148 → j ≠ 149 → j ≠ 153 → A' j = A j) ∧ (∀ p : Int, 0 ≤ p → p < v 0 → A' 148 p = A 148 p) ∧ (∀ p : Int, 0 ≤ p → p < v 0 → p ≠ q → 0 < A' 153 p ∧ A' 153 p ≤ 30) ∧ (-1000 ≤ A' 153 q ∧ A' 153 q ≤ 1000) ∧ z_ev (v_L v) (v 0) (A' 153) (fun _ => 0)) := by
  have hn := hv.n
  have hg := hv.g
  have hvb : ∀ p : Int, 0 ≤ p → p < v 0 → 0 < s_val (v_L v) (v 0) p ∧ s_val (v_L v) (v 0) p ≤ 15 := fun p p0 p1 => ⟨s_J_val hg hn hJ p0 p1, (s_val_bd hg (n := v 0) (p := p) (by omega) hn.2 p0 (by omega)).2⟩
  refine fh_E.of mi_X7_laysLift (Nat.le_of_ble_eq_true rfl) ?_
  intro X C T
  have second : ∀ (m : Nat) (k : Int) (A1 : Nat → Int → Int) (x1 g1 f1 : Int → Int) (y3 y4 : Option fc_AV), 0 ≤ k → k ≤ v 0 → v 0 - k < m → s_fz (v_L v) (v 0) q (fun p => 2 * s_val (v_L v) (v 0) p) g1 x1 f1 → (∀ p : Int, 0 ≤ p → p < v 0 → A1 148 p = if p < k then A 148 p else x1 p) → (∀ p : Int, 0 ≤ p → p < v 0 → A1 153 p = if p < k then 2 * s_val (v_L v) (v 0) p - x1 p else A 148 p) → (∀ j : Nat, j ≠ 148 → j ≠ 149 → j ≠ 153 → A1 j = A j) → fc_W X 0 0 159 (fc_H A1 F) 49 [some (vR 143), some (vI q), some (vI k), y3, y4] [] := by
    intro m
    induction m with
    | zero => intro k A1 x1 g1 f1 y3 y4 z0 z1 z2; exfalso; omega
    | succ m ih =>
      intro k A1 x1 g1 f1 y3 y4 z0 z1 z2 hz h8 h3 frA
      have e1 := (frA 144 (by omega) (by omega) (by omega)).trans e
      refine fc_iload_n C dX7_laysLift_49 rfl rfl ?_
      refine fc_aload_n C dX7_laysLift_50 rfl rfl ?_
      refine fh_callV (y := mX7_many) C dX7_laysLift_51 ml_X7_60 mi_X7_many im_X7_many se_X7_many (r_many e1) rfl rfl (by decide) rfl (Nat.le_of_ble_eq_true rfl) (Nat.zero_le _) (Nat.zero_le _) rfl ?_
      refine fc_icmp_ge (tgt := 98) C dX7_laysLift_54 (by decide) (fc_Rm (by omega)) (fc_Rm (by omega)) (fun c54 => ?_) (fun c54 => ?_)
      · have h3' : ∀ p : Int, 0 ≤ p → p < v 0 → A1 153 p = 2 * s_val (v_L v) (v 0) p - x1 p := fun p p0 p1 => by rw [h3 p p0 p1, if_pos (by omega)]
        have hst := hz.st hg hn hJ
        have hqb := hz.qb ⟨by omega, hn.2⟩
        have htb := s_tot_bd (n := v 0) (q := q) (z := fun p => 2 * s_val (v_L v) (v 0) p) (B := 30) ⟨by omega, hn.2⟩ (by omega) (fun p p0 p1 _ => by have := hvb p p0 p1; show 0 ≤ 2 * s_val (v_L v) (v 0) p ∧ 2 * s_val (v_L v) (v 0) p ≤ 30; omega)
        refine fh_vretE C T dX7_laysLift_98 ⟨rfl, rfl, frA, fun p p0 p1 => by rw [h8 p p0 p1, if_pos (by omega)], fun p p0 p1 p2 => ?_, ?_, ?_⟩
        · rw [h3' p p0 p1]
          have := hst p p0 p1 p2
          have := hz.nn p p0 p1 p2
          have := hvb p p0 p1
          omega
        · rw [h3' q hq.1 hq.2]
          have hqb1 : 2 * s_val (v_L v) (v 0) q ≤ x1 q := hqb.1
          have hqb2 : x1 q ≤ 2 * s_val (v_L v) (v 0) q + s_tot (v 0) q (fun p => 2 * s_val (v_L v) (v 0) p) := hqb.2
          omega
        · exact (z_ev.of h3').tr (((z_ev.rf (x := fun p => 2 * s_val (v_L v) (v 0) p)).sub hz.ev).tr (z_ev.of fun p _ _ => by show 2 * s_val (v_L v) (v 0) p - 2 * s_val (v_L v) (v 0) p = 0; omega))
      · have hb := hvb k z0 (by omega)
        refine fc_aload_n C dX7_laysLift_57 rfl rfl ?_
        refine fh_getf C dX7_laysLift_58 fl_X7_38 rfl rfl ?_
        refine fc_iload_n C dX7_laysLift_61 rfl rfl ?_
        refine fh_laload C dX7_laysLift_62 (fun _ _ => rfl) (by omega) (by omega) (by decide) ?_
        refine fc_lstore_n C dX7_laysLift_63 rfl (by decide) ?_
        refine fc_aload_n C dX7_laysLift_64 rfl rfl ?_
        refine fh_getf C dX7_laysLift_65 fl_X7_38 rfl rfl ?_
        refine fc_iload_n C dX7_laysLift_68 rfl rfl ?_
        refine fc_iconst C dX7_laysLift_69 ?_
        refine fc_aload_n C dX7_laysLift_70 rfl rfl ?_
        refine fc_iload_n C dX7_laysLift_71 rfl rfl ?_
        refine fh_callV (y := mX7_valence) C dX7_laysLift_72 ml_X7_72 mi_X7_valence im_X7_valence se_X7_valence (r_valence (A := A1) e1 hn ⟨z0, by omega⟩) rfl rfl (by decide) rfl (Nat.le_of_ble_eq_true rfl) (Nat.zero_le _) (Nat.zero_le _) rfl ?_
        refine fc_imul C dX7_laysLift_75 ?_
        refine fc_i2l C dX7_laysLift_76 (fc_Rm (by omega)) ?_
        refine fc_aload_n C dX7_laysLift_77 rfl rfl ?_
        refine fh_getf C dX7_laysLift_78 fl_X7_22 rfl rfl ?_
        refine fc_iload_n C dX7_laysLift_81 rfl rfl ?_
        refine fh_laload C dX7_laysLift_82 (fun _ _ => rfl) (by omega) (by omega) (by decide) ?_
        refine fc_lsub C dX7_laysLift_83 ?_
        refine fh_lastore C dX7_laysLift_84 (fun _ _ => rfl) (by omega) (by omega) (by decide) ?_
        refine fc_aload_n C dX7_laysLift_85 rfl rfl ?_
        refine fh_getf C dX7_laysLift_86 fl_X7_22 rfl rfl ?_
        refine fc_iload_n C dX7_laysLift_89 rfl rfl ?_
        refine fc_lload_n C dX7_laysLift_90 rfl rfl ?_
        refine fh_lastore C dX7_laysLift_91 (fun _ _ => rfl) (by omega) (by omega) (by decide) ?_
        refine fc_iinc C dX7_laysLift_92 rfl (by decide) ?_
        refine fc_goto (tgt := 49) C dX7_laysLift_95 (by decide) ?_
        refine ih (k + 1) _ x1 g1 f1 _ _ (by omega) (by omega) (by omega) hz (fun p p0 p1 => ?_) (fun p p0 p1 => ?_) (fun j j1 j2 j3 => by rw [fa_n _ _ j1, fa_n _ _ j3]; exact frA j j1 j2 j3)
        · rw [fa_s, fa_n _ _ (by omega)]
          unfold fc_set
          by_cases c : p = k
          · rw [if_pos c, if_pos (by omega), h3 k z0 (by omega), if_neg (by omega), c]
          · rw [if_neg c, h8 p p0 p1]
            by_cases c2 : p < k
            · rw [if_pos c2, if_pos (show p < k + 1 by omega)]
            · rw [if_neg c2, if_neg (show ¬ p < k + 1 by omega)]
        · rw [fa_n _ _ (by omega), fa_s]
          unfold fc_set
          by_cases c : p = k
          · rw [if_pos c, if_pos (by omega), h8 k z0 (by omega), if_neg (by omega), c]
          · rw [if_neg c, h3 p p0 p1]
            by_cases c2 : p < k
            · rw [if_pos c2, if_pos (show p < k + 1 by omega)]
            · rw [if_neg c2, if_neg (show ¬ p < k + 1 by omega)]
  have first : ∀ (m : Nat) (k : Int) (A1 : Nat → Int → Int), 0 ≤ k → k ≤ v 0 → v 0 - k < m → (∀ p : Int, 0 ≤ p → p < v 0 → A1 148 p = if p < k then 2 * s_val (v_L v) (v 0) p else A 148 p) → (∀ p : Int, 0 ≤ p → p < k → A1 153 p = A 148 p) → (∀ j : Nat, j ≠ 148 → j ≠ 149 → j ≠ 153 → A1 j = A j) → fc_W X 0 0 159 (fc_H A1 F) 2 [some (vR 143), some (vI q), some (vI k), none, none] [] := by
    intro m
    induction m with
    | zero => intro k A1 z0 z1 z2; exfalso; omega
    | succ m ih =>
      intro k A1 z0 z1 z2 h8 h3 frA
      have e1 := (frA 144 (by omega) (by omega) (by omega)).trans e
      refine fc_iload_n C dX7_laysLift_2 rfl rfl ?_
      refine fc_aload_n C dX7_laysLift_3 rfl rfl ?_
      refine fh_callV (y := mX7_many) C dX7_laysLift_4 ml_X7_60 mi_X7_many im_X7_many se_X7_many (r_many e1) rfl rfl (by decide) rfl (Nat.le_of_ble_eq_true rfl) (Nat.zero_le _) (Nat.zero_le _) rfl ?_
      refine fc_icmp_ge (tgt := 42) C dX7_laysLift_7 (by decide) (fc_Rm (by omega)) (fc_Rm (by omega)) (fun c7 => ?_) (fun c7 => ?_)
      · have h8' : ∀ p : Int, 0 ≤ p → p < v 0 → A1 148 p = 2 * s_val (v_L v) (v 0) p := fun p p0 p1 => by rw [h8 p p0 p1, if_pos (by omega)]
        refine fc_aload_n C dX7_laysLift_42 rfl rfl ?_
        refine fc_iload_n C dX7_laysLift_43 rfl rfl ?_
        refine fh_callVE (y := mX7_settlesAt) C dX7_laysLift_44 ml_X7_163 mi_X7_settlesAt im_X7_settlesAt se_X7_settlesAt (r_settlesAt e1 hv hJ hq (fun p p0 p1 p2 => by have := hvb p p0 p1; rw [h8' p p0 p1]; omega)) rfl rfl (by decide) rfl (Nat.le_of_ble_eq_true rfl) (Nat.zero_le _) (Nat.zero_le _) rfl ?_
        rintro r A2 F2 ⟨rfl, rfl, frB, g2, hg2, hz2⟩
        refine fc_eq (st' := []) rfl rfl ?_
        obtain ⟨x3, f3, hz3⟩ := s_fz_ex hg hn hq hJ (z := fun p => 2 * s_val (v_L v) (v 0) p) (g := g2) (fun p p0 p1 _ => by have := hvb p p0 p1; show 0 ≤ 2 * s_val (v_L v) (v 0) p; omega)
        have hu := s_fz.uniq (by omega) hz2 hz3 h8' (fun _ _ _ => rfl)
        refine fc_iconst C dX7_laysLift_47 ?_
        refine fc_istore_n C dX7_laysLift_48 rfl (by decide) ?_
        exact second 6 0 A2 x3 g2 f3 _ _ (by omega) (by omega) (by omega) hz3 (fun p p0 p1 => by rw [if_neg (by omega)]; exact hu.1 p p0 p1) (fun p p0 p1 => by rw [if_neg (by omega), frB 153 (by omega) (by omega)]; exact h3 p p0 (by omega)) (fun j j1 j2 j3 => by rw [frB j j1 j2]; exact frA j j1 j2 j3)
      · have hb := hvb k z0 (by omega)
        have hV := r_valence (A := fa_up A1 153 (fc_set (A1 153) k (A1 148 k))) (F := F) ((fa_n _ _ (by omega)).trans e1) hn (p := k) ⟨z0, by omega⟩
        refine fc_aload_n C dX7_laysLift_10 rfl rfl ?_
        refine fh_getf C dX7_laysLift_11 fl_X7_38 rfl rfl ?_
        refine fc_iload_n C dX7_laysLift_14 rfl rfl ?_
        refine fc_aload_n C dX7_laysLift_15 rfl rfl ?_
        refine fh_getf C dX7_laysLift_16 fl_X7_22 rfl rfl ?_
        refine fc_iload_n C dX7_laysLift_19 rfl rfl ?_
        refine fh_laload C dX7_laysLift_20 (fun _ _ => rfl) (by omega) (by omega) (by decide) ?_
        refine fh_lastore C dX7_laysLift_21 (fun _ _ => rfl) (by omega) (by omega) (by decide) ?_
        refine fc_aload_n C dX7_laysLift_22 rfl rfl ?_
        refine fh_getf C dX7_laysLift_23 fl_X7_22 rfl rfl ?_
        refine fc_iload_n C dX7_laysLift_26 rfl rfl ?_
        refine fc_iconst C dX7_laysLift_27 ?_
        refine fc_aload_n C dX7_laysLift_28 rfl rfl ?_
        refine fc_iload_n C dX7_laysLift_29 rfl rfl ?_
        refine fh_callV (y := mX7_valence) C dX7_laysLift_30 ml_X7_72 mi_X7_valence im_X7_valence se_X7_valence (hV) rfl rfl (by decide) rfl (Nat.le_of_ble_eq_true rfl) (Nat.zero_le _) (Nat.zero_le _) rfl ?_
        refine fc_imul C dX7_laysLift_33 ?_
        refine fc_i2l C dX7_laysLift_34 (fc_Rm (by omega)) ?_
        refine fh_lastore C dX7_laysLift_35 (fun _ _ => rfl) (by omega) (by omega) (by decide) ?_
        refine fc_iinc C dX7_laysLift_36 rfl (by decide) ?_
        refine fc_goto (tgt := 2) C dX7_laysLift_39 (by decide) ?_
        refine ih (k + 1) _ (by omega) (by omega) (by omega) (fun p p0 p1 => ?_) (fun p p0 p1 => ?_) (fun j j1 j2 j3 => by rw [fa_n _ _ j1, fa_n _ _ j3]; exact frA j j1 j2 j3)
        · rw [fa_s, fa_n _ _ (by omega)]
          unfold fc_set
          by_cases c : p = k
          · rw [if_pos c, if_pos (by omega), c]
          · rw [if_neg c, h8 p p0 p1]
            by_cases c2 : p < k
            · rw [if_pos c2, if_pos (show p < k + 1 by omega)]
            · rw [if_neg c2, if_neg (show ¬ p < k + 1 by omega)]
        · rw [fa_n _ _ (by omega), fa_s]
          unfold fc_set
          by_cases c : p = k
          · rw [if_pos c, h8 k z0 (by omega), if_neg (by omega), c]
          · rw [if_neg c]; exact h3 p p0 (by omega)
  refine fc_iconst C dX7_laysLift_0 ?_
  refine fc_istore_n C dX7_laysLift_1 rfl (by decide) ?_
  exact first 6 0 A (by omega) (by omega) (by omega) (fun p p0 p1 => by rw [if_neg (by omega)]) (fun p p0 p1 => by omega) (fun _ _ _ _ => rfl)
def m_ub (A : Nat → Int → Int) (v : Int → Int) (q U : Int) : Prop := 0 ≤ U ∧ U < 32 ∧ (∀ o : Int, 0 ≤ o → o < 5 → fb_t U o = 1 → o < v 0 ∧ o ≠ q ∧ s_val (v_L v) (v 0) o - s_li (v_L v) (v 0) U o ≤ A 148 o) ∧ (U = 0 → ∀ S : Int → Bool, S q = false → z_ne (v 0) S → ∃ p : Int, 0 ≤ p ∧ p < v 0 ∧ S p = true ∧ A 148 p < s_val (v_L v) (v 0) p - z_in (v_L v) (v 0) S p)
theorem r_unburnt (e : A 144 = v) (hv : v_ok v) {q : Int} (hq : 0 ≤ q ∧ q < v 0) (hx : ∀ p : Int, 0 ≤ p → p < v 0 → -1000000000 ≤ A 148 p ∧ A 148 p ≤ 1000000000) : fh_E mX7_unburnt 2 [vR 143, vI q] A F (fun r A' F' => A' = A ∧ F' = F ∧ ∃ U : Int, r = some (vI U) ∧ m_ub A v q U) := by
  have hn := hv.n
  have hg := hv.g
  refine fh_E.of mi_X7_unburnt (Nat.le_of_ble_eq_true rfl) ?_
  intro X C T
  have fin : ∀ (B : Int) (y4 : Option fc_AV), 0 ≤ B → B < 32 → fb_t B q = 1 → (∀ o : Int, 0 ≤ o → o < 5 → fb_t B o = 1 → o < v 0) → (∀ S : Int → Bool, S q = false → (∃ p : Int, 0 ≤ p ∧ p < v 0 ∧ S p = true ∧ fb_t B p = 1) → ∃ p : Int, 0 ≤ p ∧ p < v 0 ∧ S p = true ∧ A 148 p < s_val (v_L v) (v 0) p - z_in (v_L v) (v 0) S p) → (∀ o : Int, 0 ≤ o → o < v 0 → fb_t B o = 0 → s_li (v_L v) (v 0) B o ≤ A 148 o) → fc_W X 0 0 159 (fc_H A F) 6 [some (vR 143), some (vI q), some (vI B), some (vI B), y4] [] := by
    intro B y4 b0 b1 b2 b3 bW bc
    refine fc_iload_n C dX7_unburnt_6 rfl rfl ?_
    refine fc_iload_n C dX7_unburnt_7 rfl rfl ?_
    refine fc_icmp_eq (tgt := 64) C dX7_unburnt_8 (by decide) (fc_Rm (by omega)) (fc_Rm (by omega)) (fun c8 => ?_) (fun c8 => ?_)
    · refine fc_iconst C dX7_unburnt_64 ?_
      refine fc_aload_n C dX7_unburnt_65 rfl rfl ?_
      refine fh_callV (y := mX7_many) C dX7_unburnt_66 ml_X7_60 mi_X7_many im_X7_many se_X7_many (r_many e) rfl rfl (by decide) rfl (Nat.le_of_ble_eq_true rfl) (Nat.zero_le _) (Nat.zero_le _) rfl ?_
      refine fc_ishl C dX7_unburnt_69 ?_
      refine fc_iconst C dX7_unburnt_70 ?_
      refine fc_isub C dX7_unburnt_71 ?_
      refine fc_eq (st' := [vI (fb_all (v 0))]) rfl (by rw [fb_shl1 (by omega) (by omega)]; rfl) ?_
      refine fc_iload_n C dX7_unburnt_72 rfl rfl ?_
      refine fc_iconst C dX7_unburnt_73 ?_
      refine fc_ixor C dX7_unburnt_74 ?_
      refine fc_iand C dX7_unburnt_75 ?_
      have hU := fun o o0 o1 => fb_cmpl (n := v 0) (B := B) (o := o) hn b0 b1 o0 o1
      have hU0 := hU 0 (by omega) (by omega)
      refine fh_iretE C T dX7_unburnt_76 (Or.inl rfl) ⟨rfl, rfl, _, rfl, hU0.1, hU0.2.1, fun o o0 o1 h => ?_, fun hz S hS hne => ?_⟩
      · have h1 := (hU o o0 o1).2.2.1 h
        refine ⟨h1.1, fun z => by rw [z, b2] at h1; omega, ?_⟩
        have h2 := bc o o0 h1.1 h1.2
        have h3 : s_val (v_L v) (v 0) o = s_li (v_L v) (v 0) B o + s_li (v_L v) (v 0) (fc_and (fb_all (v 0)) (fc_xor B (-1))) o := by
          unfold s_val s_li
          rw [← fs_sum_add]
          refine fs_sum_congr fun k k0 k1 => ?_
          have h4 := (hU k k0 (by omega)).2.2
          rcases fb_01 B k with c | c
          · rw [if_neg (by omega), if_pos (h4.2 ⟨by omega, c⟩), Int.zero_add]
          · rw [if_pos c, if_neg (fun z => by have := h4.1 z; omega), Int.add_zero]
        omega
      · obtain ⟨p, p0, p1, p2⟩ := hne
        refine bW S hS ⟨p, p0, p1, p2, ?_⟩
        rcases fb_01 B p with c | c
        · exfalso
          have h4 := (hU p p0 (by omega)).2.2.2 ⟨p1, c⟩
          rw [hz] at h4
          revert h4
          have : ∀ p : Fin 5, fb_t 0 ((p.val : Nat) : Int) ≠ 1 := by decide +kernel
          have := this ⟨p.toNat, by omega⟩
          simp only [Int.toNat_of_nonneg p0] at this
          exact this
        · exact c
    · exact absurd rfl c8
  have outer : ∀ (m : Nat) (B had : Int) (y4 : Option fc_AV), 6 - s_pc B ≤ m → 0 ≤ B → B < 32 → fb_t B q = 1 → (∀ o : Int, 0 ≤ o → o < 5 → fb_t B o = 1 → o < v 0) → (∀ S : Int → Bool, S q = false → (∃ p : Int, 0 ≤ p ∧ p < v 0 ∧ S p = true ∧ fb_t B p = 1) → ∃ p : Int, 0 ≤ p ∧ p < v 0 ∧ S p = true ∧ A 148 p < s_val (v_L v) (v 0) p - z_in (v_L v) (v 0) S p) → fc_R had → B ≠ had → fc_W X 0 0 159 (fc_H A F) 6 [some (vR 143), some (vI q), some (vI B), some (vI had), y4] [] := by
    intro m
    induction m with
    | zero => intro B had y4 h0; have := s_pc_le5 B; exfalso; omega
    | succ m ih =>
      intro B had y4 h0 b0 b1 b2 b3 bW hR hne
      have inner : ∀ (m2 : Nat) (p r2 : Int), 0 ≤ p → p ≤ v 0 → v 0 - p < m2 → 0 ≤ r2 → r2 < 32 → (∀ o : Int, 0 ≤ o → o < 5 → (fb_t r2 o = 1 ↔ fb_t B o = 1 ∨ (o < p ∧ A 148 o < s_li (v_L v) (v 0) B o))) → fc_W X 0 0 159 (fc_H A F) 16 [some (vR 143), some (vI q), some (vI r2), some (vI B), some (vI p)] [] := by
        intro m2
        induction m2 with
        | zero => intro p r2 q0 q1 q2; exfalso; omega
        | succ m2 ih2 =>
          intro p r2 q0 q1 q2 r0 r1 hr
          refine fc_iload C dX7_unburnt_16 rfl ?_
          refine fc_aload_n C dX7_unburnt_18 rfl rfl ?_
          refine fh_callV (y := mX7_many) C dX7_unburnt_19 ml_X7_60 mi_X7_many im_X7_many se_X7_many (r_many e) rfl rfl (by decide) rfl (Nat.le_of_ble_eq_true rfl) (Nat.zero_le _) (Nat.zero_le _) rfl ?_
          refine fc_icmp_ge (tgt := 61) C dX7_unburnt_22 (by decide) (fc_Rm (by omega)) (fc_Rm (by omega)) (fun c22 => ?_) (fun c22 => ?_)
          · have hsub : ∀ o : Int, 0 ≤ o → o < 5 → fb_t B o = 1 → fb_t r2 o = 1 := fun o o0 o1 h => (hr o o0 o1).2 (Or.inl h)
            refine fc_goto (tgt := 6) C dX7_unburnt_61 (by decide) ?_
            by_cases c : r2 = B
            · rw [c]
              refine fin B _ b0 b1 b2 b3 bW (fun o o0 o1 h => ?_)
              apply Classical.byContradiction
              intro z
              have := (hr o o0 (by omega)).2 (Or.inr ⟨by omega, by omega⟩)
              rw [c] at this
              omega
            · have hlt := s_pc_lt b0 b1 r0 r1 hsub c
              refine ih r2 B _ (by omega) r0 r1 (hsub q hq.1 (by omega) b2) (fun o o0 o1 h => ?_) (fun S hS hh => ?_) (fc_Rm (by omega)) c
              · rcases (hr o o0 o1).1 h with g | g
                · exact b3 o o0 o1 g
                · omega
              · obtain ⟨o, o0, o1, o2, o3⟩ := hh
                rcases Classical.em (∃ p : Int, 0 ≤ p ∧ p < v 0 ∧ S p = true ∧ fb_t B p = 1) with g | g
                · exact bW S hS g
                · have h1 : ¬ fb_t B o = 1 := fun z => g ⟨o, o0, o1, o2, z⟩
                  rcases (hr o o0 (by omega)).1 o3 with h2 | h2
                  · exact absurd h2 h1
                  · refine ⟨o, o0, o1, o2, ?_⟩
                    have h3 : s_li (v_L v) (v 0) B o ≤ s_val (v_L v) (v 0) o - z_in (v_L v) (v 0) S o := by
                      unfold s_li s_val z_in
                      rw [← fs_sum_sub]
                      refine fs_sum_le fun k k0 k1 => ?_
                      have hl := hg o k o0 (by omega) k0 (by omega)
                      by_cases c1 : fb_t B k = 1
                      · cases c2 : S k
                        · rw [if_pos c1, if_neg (by simp)]; omega
                        · exact absurd ⟨k, k0, by omega, c2, c1⟩ g
                      · rw [if_neg c1]
                        split <;> omega
                    omega
          · have hlb := s_li_bd hg (n := v 0) (set := B) (p := p) (by omega) hn.2 q0 (by omega)
            have hxp := hx p q0 (by omega)
            have nxt : ∀ (x r3 : Int), fc_or r2 x = r3 → 0 ≤ r3 → r3 < 32 → (∀ o : Int, 0 ≤ o → o < 5 → (fb_t r3 o = 1 ↔ fb_t B o = 1 ∨ (o < p + 1 ∧ A 148 o < s_li (v_L v) (v 0) B o))) → fc_W X 0 0 159 (fc_H A F) 53 [some (vR 143), some (vI q), some (vI r2), some (vI B), some (vI p)] [vI x, vI r2] := by
              intro x r3 ex g0 g1 g2
              refine fc_ior C dX7_unburnt_53 ?_
              rw [ex]
              refine fc_istore_n C dX7_unburnt_54 rfl (by decide) ?_
              refine fc_iinc C dX7_unburnt_55 rfl (by decide) ?_
              refine fc_goto (tgt := 16) C dX7_unburnt_58 (by decide) ?_
              exact ih2 (p + 1) r3 (by omega) (by omega) (by omega) g0 g1 g2
            refine fc_iload_n C dX7_unburnt_25 rfl rfl ?_
            refine fc_aload_n C dX7_unburnt_26 rfl rfl ?_
            refine fc_iload C dX7_unburnt_27 rfl ?_
            refine fc_iload_n C dX7_unburnt_29 rfl rfl ?_
            refine fh_callV (y := mX7_linesTo) C dX7_unburnt_30 ml_X7_182 mi_X7_linesTo im_X7_linesTo se_X7_linesTo (r_linesTo e hn ⟨q0, by omega⟩ b0 b1) rfl rfl (by decide) rfl (Nat.le_of_ble_eq_true rfl) (Nat.zero_le _) (Nat.zero_le _) rfl ?_
            refine fc_i2l C dX7_unburnt_33 (fc_Rm (by omega)) ?_
            refine fc_aload_n C dX7_unburnt_34 rfl rfl ?_
            refine fh_getf C dX7_unburnt_35 fl_X7_22 rfl rfl ?_
            refine fc_iload C dX7_unburnt_38 rfl ?_
            refine fh_laload C dX7_unburnt_40 (fun _ _ => rfl) (by omega) (by omega) (by decide) ?_
            refine fc_lcmp C dX7_unburnt_41 (fc_RLm (by omega)) (fc_RLm (by omega)) ?_
            refine fc_if_le (tgt := 52) C dX7_unburnt_42 (by decide) (fc_cmp_R _ _) (fun c42 => ?_) (fun c42 => ?_)
            · have c42 : ¬ A 148 p < s_li (v_L v) (v 0) B p := fun z => by have := fc_cmp_gt.2 z; omega
              refine fc_iconst C dX7_unburnt_52 ?_
              refine nxt 0 r2 (fb_or0 r0 r1) r0 r1 (fun o o0 o1 => ?_)
              rw [hr o o0 o1]
              constructor
              · rintro (h | ⟨h1, h2⟩)
                · exact Or.inl h
                · exact Or.inr ⟨by omega, h2⟩
              · rintro (h | ⟨h1, h2⟩)
                · exact Or.inl h
                · by_cases c : o = p
                  · rw [c] at h2; exact absurd h2 c42
                  · exact Or.inr ⟨by omega, h2⟩
            · have c42 := fc_cmp_gt.1 (show 0 < fc_cmp (s_li (v_L v) (v 0) B p) (A 148 p) by omega)
              have hin := fb_or r0 r1 q0 (show p < 5 by omega)
              refine fc_iconst C dX7_unburnt_45 ?_
              refine fc_iload C dX7_unburnt_46 rfl ?_
              refine fc_ishl C dX7_unburnt_48 ?_
              refine fc_goto (tgt := 53) C dX7_unburnt_49 (by decide) ?_
              refine nxt _ (fb_in r2 p) (by rw [fb_shl1 q0 (by omega)]; exact hin.1) hin.2.1 hin.2.2 (fun o o0 o1 => ?_)
              rw [fb_in_t r0 r1 q0 (by omega) o0 o1]
              by_cases c : o = p
              · rw [if_pos c]
                exact ⟨fun _ => Or.inr ⟨by omega, by rw [c]; exact c42⟩, fun _ => rfl⟩
              · rw [if_neg c, hr o o0 o1]
                constructor
                · rintro (h | ⟨h1, h2⟩)
                  · exact Or.inl h
                  · exact Or.inr ⟨by omega, h2⟩
                · rintro (h | ⟨h1, h2⟩)
                  · exact Or.inl h
                  · exact Or.inr ⟨by omega, h2⟩
      refine fc_iload_n C dX7_unburnt_6 rfl rfl ?_
      refine fc_iload_n C dX7_unburnt_7 rfl rfl ?_
      refine fc_icmp_eq (tgt := 64) C dX7_unburnt_8 (by decide) (fc_Rm (by omega)) (hR) (fun c8 => ?_) (fun c8 => ?_)
      · exact absurd c8 hne
      · refine fc_iload_n C dX7_unburnt_11 rfl rfl ?_
        refine fc_istore_n C dX7_unburnt_12 rfl (by decide) ?_
        refine fc_iconst C dX7_unburnt_13 ?_
        refine fc_istore C dX7_unburnt_14 (by decide) ?_
        exact inner 6 0 B (by omega) (by omega) (by omega) b0 b1 (fun o o0 o1 => ⟨fun h => Or.inl h, fun h => h.elim id (fun h => by omega)⟩)
  have hpw := fb_pow5 (p := q) hq.1 (by omega)
  have hbit : ∀ o : Int, 0 ≤ o → o < 5 → (fb_t (2 ^ q.toNat) o = 1 ↔ o = q) := fun o o0 o1 => by
    have key : ∀ q : Fin 5, ∀ o : Fin 5, (fb_t (2 ^ ((q.val : Nat) : Int).toNat) ((o.val : Nat) : Int) = 1 ↔ ((o.val : Nat) : Int) = ((q.val : Nat) : Int)) := by decide +kernel
    have := key ⟨q.toNat, by omega⟩ ⟨o.toNat, by omega⟩
    simp only [Int.toNat_of_nonneg o0, Int.toNat_of_nonneg hq.1] at this
    exact this
  refine fc_iconst C dX7_unburnt_0 ?_
  refine fc_iload_n C dX7_unburnt_1 rfl rfl ?_
  refine fc_ishl C dX7_unburnt_2 ?_
  refine fc_eq (st' := [vI (2 ^ q.toNat)]) rfl (by rw [fb_shl1 hq.1 (by omega)]) ?_
  refine fc_istore_n C dX7_unburnt_3 rfl (by decide) ?_
  refine fc_iconst C dX7_unburnt_4 ?_
  refine fc_istore_n C dX7_unburnt_5 rfl (by decide) ?_
  exact outer 6 (2 ^ q.toNat) 0 none (by have := s_pc5 (2 ^ q.toNat); have := fb_01 (2 ^ q.toNat) 0; have := fb_01 (2 ^ q.toNat) 1; have := fb_01 (2 ^ q.toNat) 2; have := fb_01 (2 ^ q.toNat) 3; have := fb_01 (2 ^ q.toNat) 4; omega) (by omega) (by omega) ((hbit q hq.1 (by omega)).2 rfl) (fun o o0 o1 h => by have := (hbit o o0 o1).1 h; omega) (fun S hS hh => by
    obtain ⟨p, p0, p1, p2, p3⟩ := hh
    rw [(hbit p p0 (by omega)).1 p3, hS] at p2
    cases p2) (fc_Rm (by omega)) (by omega)
set_option maxHeartbeats 4000000 in
theorem r_reduces (e : A 144 = v) (hv : v_ok v) (hJ : s_J (v_L v) (v 0)) {q : Int} (hq : 0 ≤ q ∧ q < v 0) (hx : ∀ p : Int, 0 ≤ p → p < v 0 → -2000 ≤ A 148 p ∧ A 148 p ≤ 2000) : fh_E mX7_reduces 4 [vR 143, vI q] A F (fun r A' F' => r = none ∧ F' = F ∧ (∀ j : Nat, j ≠ 148 → j ≠ 149 → j ≠ 153 → A' j = A j) ∧ z_ss (v_L v) (v 0) q (A' 148) ∧ z_ev (v_L v) (v 0) (A' 148) (A 148)) := by
  have hn := hv.n
  have hg := hv.g
  have hdx := fs_sum5 (f := A 148) (n := v 0) (B := 2000) (by omega) (by omega) hx
  obtain ⟨w, hw, -⟩ := s_wt_ex hg hn hq hJ
  refine fh_E.of mi_X7_reduces (Nat.le_of_ble_eq_true rfl) ?_
  intro X C T
  -- bounds of a row
  have bnd : ∀ x : Int → Int, (∀ p : Int, 0 ≤ p → p < v 0 → p ≠ q → 0 ≤ x p) → s_tot (v 0) q x ≤ 500000 → z_ev (v_L v) (v 0) x (A 148) → ∀ p : Int, 0 ≤ p → p < v 0 → -1000000000 ≤ x p ∧ x p ≤ 1000000000 := by
    intro x hnn htot hev p p0 p1
    by_cases c : p = q
    · have h1 := hev.deg hg hn
      rw [s_tot_q hq] at h1
      have h2 := fs_sum_le (f := fun _ => 0) (g := fun o => if o = q then 0 else x o) (m := (v 0).toNat) (fun k k0 k1 => by
        by_cases c : k = q
        · rw [if_pos c]; omega
        · rw [if_neg c]; exact hnn k k0 (by omega) c)
      rw [fs_sum_zero] at h2
      unfold s_tot at htot h1
      rw [c]
      omega
    · have h1 := fs_sum_mem (f := fun o => if o = q then 0 else x o) (m := (v 0).toNat) (k := p) (fun j j0 j1 => by
        by_cases c : j = q
        · rw [if_pos c]; omega
        · rw [if_neg c]; exact hnn j j0 (by omega) c) p0 (by omega)
      rw [if_neg c] at h1
      have := hnn p p0 p1 c
      unfold s_tot at htot
      omega
  -- sets fire until all burns
  have last : ∀ (m : Nat) (A1 : Nat → Int → Int) (U : Int) (y2 y3 y5 y6 : Option fc_AV), s_ph (v 0) w (A1 148) < m → (∀ p : Int, 0 ≤ p → p < v 0 → p ≠ q → 0 ≤ A1 148 p) → s_tot (v 0) q (A1 148) ≤ 500000 → z_ev (v_L v) (v 0) (A1 148) (A 148) → (∀ j : Nat, j ≠ 148 → j ≠ 149 → j ≠ 153 → A1 j = A j) → m_ub A1 v q U → fc_W X 0 0 159 (fc_H A1 F) 137 [some (vR 143), some (vI q), y2, y3, some (vI U), y5, y6] [] := by
    intro m
    induction m with
    | zero =>
      intro A1 U y2 y3 y5 y6 hph hnn
      exfalso
      have := fs_sum_le (f := fun _ => 0) (g := fun o => w o * A1 148 o) (m := (v 0).toNat) (fun k k0 k1 => by
        by_cases c : k = q
        · rw [c, hw.2.1]; omega
        · exact Int.mul_nonneg (hw.1 k k0 (by omega)).1 (hnn k k0 (by omega) c))
      rw [fs_sum_zero] at this
      unfold s_ph at hph
      omega
    | succ m ih =>
      intro A1 U y2 y3 y5 y6 hph hnn htot hev frA hub
      obtain ⟨u0, u1, u2, u3⟩ := id hub
      refine fc_iload C dX7_reduces_137 rfl ?_
      refine fc_if_eq (tgt := 190) C dX7_reduces_139 (by decide) (fc_Rm (by omega)) (fun c139 => ?_) (fun c139 => ?_)
      · refine fh_vretE C T dX7_reduces_190 ⟨rfl, rfl, frA, ⟨hnn, fun S hS hne => ?_⟩, hev⟩
        obtain ⟨p, p0, p1, p2, p3⟩ := u3 c139 S hS hne
        exact ⟨p, p0, p1, p2, by show z_in (v_L v) (v 0) S p ≤ s_val (v_L v) (v 0) p - 1 - A1 148 p; omega⟩
      · have fire : ∀ (m2 : Nat) (k : Int) (A2 : Nat → Int → Int) (y6 : Option fc_AV), 0 ≤ k → k ≤ v 0 → v 0 - k < m2 → (∀ p : Int, 0 ≤ p → p < v 0 → A2 148 p = if p < k then A1 148 p + s_mo v U 1 p else A1 148 p) → (∀ j : Nat, j ≠ 148 → j ≠ 149 → j ≠ 153 → A2 j = A j) → fc_W X 0 0 159 (fc_H A2 F) 145 [some (vR 143), some (vI q), y2, y3, some (vI U), some (vI k), y6] [] := by
          intro m2
          induction m2 with
          | zero => intro k A2 y6 z0 z1 z2; exfalso; omega
          | succ m2 ih2 =>
            intro k A2 y6 z0 z1 z2 h8 frB
            have e2 := (frB 144 (by omega) (by omega) (by omega)).trans e
            refine fc_iload C dX7_reduces_145 rfl ?_
            refine fc_aload_n C dX7_reduces_147 rfl rfl ?_
            refine fh_callV (y := mX7_many) C dX7_reduces_148 ml_X7_60 mi_X7_many im_X7_many se_X7_many (r_many e2) rfl rfl (by decide) rfl (Nat.le_of_ble_eq_true rfl) (Nat.zero_le _) (Nat.zero_le _) rfl ?_
            refine fc_icmp_ge (tgt := 180) C dX7_reduces_151 (by decide) (fc_Rm (by omega)) (fc_Rm (by omega)) (fun c151 => ?_) (fun c151 => ?_)
            · have h8' : ∀ p : Int, 0 ≤ p → p < v 0 → A2 148 p = A1 148 p + s_mo v U 1 p := fun p p0 p1 => by rw [h8 p p0 p1, if_pos (by omega)]
              have hnn2 : ∀ p : Int, 0 ≤ p → p < v 0 → p ≠ q → 0 ≤ A2 148 p := fun p p0 p1 p2 => by
                rw [h8' p p0 p1, s_mo_li hv ⟨p0, p1⟩]
                have h1 := hnn p p0 p1 p2
                have h2 := s_li_bd hg (n := v 0) (set := U) (p := p) (by omega) hn.2 p0 (by omega)
                by_cases c : fb_t U p = 1
                · have h3 := (u2 p p0 (by omega) c).2.2
                  rw [if_pos c]; omega
                · rw [if_neg c]; omega
              have hev2 : z_ev (v_L v) (v 0) (A2 148) (A1 148) := ⟨fun o => if fb_t U o = 1 then -1 else 0, fun p p0 p1 => by rw [h8' p p0 p1, s_mo_lp]⟩
              have hqU : ¬ fb_t U q = 1 := fun z => (u2 q hq.1 (by omega) z).2.1 rfl
              have htot2 : s_tot (v 0) q (A2 148) ≤ 500000 := by
                have h1 := hev2.deg hg hn
                rw [s_tot_q hq, s_tot_q hq] at h1
                have h2 := h8' q hq.1 hq.2
                rw [s_mo_li hv hq, if_neg hqU] at h2
                have h3 := s_li_bd hg (n := v 0) (set := U) (p := q) (by omega) hn.2 hq.1 (by omega)
                omega
              have hph2 : s_ph (v 0) w (A2 148) + 1 ≤ s_ph (v 0) w (A1 148) := by
                have h1 : s_ph (v 0) w (A2 148) = s_ph (v 0) w (A1 148) + fs_sum (fun p => w p * s_mo v U 1 p) (v 0).toNat := by
                  unfold s_ph
                  rw [← fs_sum_add]
                  exact fs_sum_congr fun p p0 p1 => by rw [h8' p p0 (by omega), Int.mul_add]
                have h2 : fs_sum (fun p => w p * s_mo v U 1 p) (v 0).toNat = fs_sum (fun o => if fb_t U o = 1 then - fs_sum (fun p => s_M (v_L v) (v 0) o p * w p) (v 0).toNat else 0) (v 0).toNat := by
                  have h3 : fs_sum (fun p => w p * s_mo v U 1 p) (v 0).toNat = fs_sum (fun p => fs_sum (fun o => if fb_t U o = 1 then - (s_M (v_L v) (v 0) o p * w p) else 0) (v 0).toNat) (v 0).toNat := fs_sum_congr fun p p0 p1 => by
                    unfold s_mo
                    rw [Int.one_mul, ← fs_sum_mul]
                    refine fs_sum_congr fun o _ _ => ?_
                    split
                    · rw [Int.mul_neg, Int.mul_comm]
                    · rw [Int.mul_zero]
                  rw [h3, fs_sum_comm]
                  refine fs_sum_congr fun o _ _ => ?_
                  by_cases c : fb_t U o = 1
                  · rw [if_pos c, fs_sum_congr (g := fun p => (-1) * (s_M (v_L v) (v 0) o p * w p)) (fun p _ _ => by rw [if_pos c]; omega), fs_sum_mul]
                    omega
                  · rw [if_neg c, fs_sum_congr (g := fun _ => 0) (fun p _ _ => if_neg c), fs_sum_zero]
                -- some point is in the set
                have hex : ∃ o : Int, 0 ≤ o ∧ o < v 0 ∧ fb_t U o = 1 := by
                  apply Classical.byContradiction
                  intro z
                  apply c139
                  refine fb_ext u0 u1 (by omega) (by omega) fun o o0 o1 => ?_
                  have k0 : ∀ p : Fin 5, fb_t 0 ((p.val : Nat) : Int) = 0 := by decide +kernel
                  have k1 := k0 ⟨o.toNat, by omega⟩
                  simp only [Int.toNat_of_nonneg o0] at k1
                  rw [k1]
                  rcases fb_01 U o with g | g
                  · exact g
                  · exact absurd ⟨o, o0, (u2 o o0 o1 g).1, g⟩ z
                obtain ⟨o, o0, o1, o2⟩ := hex
                have h4 := fs_sum_mem (f := fun o => if fb_t U o = 1 then fs_sum (fun p => s_M (v_L v) (v 0) o p * w p) (v 0).toNat else 0) (m := (v 0).toNat) (k := o) (fun j j0 j1 => by
                  by_cases c : fb_t U j = 1
                  · rw [if_pos c]
                    have := hw.2.2 j j0 (by omega) (u2 j j0 (by omega) c).2.1
                    omega
                  · rw [if_neg c]; omega) o0 (by omega)
                rw [if_pos o2] at h4
                have h5 := hw.2.2 o o0 o1 (u2 o o0 (by omega) o2).2.1
                have h6 : fs_sum (fun o => if fb_t U o = 1 then - fs_sum (fun p => s_M (v_L v) (v 0) o p * w p) (v 0).toNat else 0) (v 0).toNat = (-1) * fs_sum (fun o => if fb_t U o = 1 then fs_sum (fun p => s_M (v_L v) (v 0) o p * w p) (v 0).toNat else 0) (v 0).toNat := by
                  rw [← fs_sum_mul]
                  refine fs_sum_congr fun o _ _ => ?_
                  split
                  · omega
                  · rfl
                omega
              refine fc_aload_n C dX7_reduces_180 rfl rfl ?_
              refine fc_iload_n C dX7_reduces_181 rfl rfl ?_
              refine fh_callVE (y := mX7_unburnt) C dX7_reduces_182 ml_X7_248 mi_X7_unburnt im_X7_unburnt se_X7_unburnt (r_unburnt e2 hv hq (bnd (A2 148) hnn2 htot2 (hev2.tr hev))) rfl rfl (by decide) rfl (Nat.le_of_ble_eq_true rfl) (Nat.zero_le _) (Nat.zero_le _) rfl ?_
              rintro r A3 F3 ⟨rfl, rfl, U3, rfl, hub3⟩
              refine fc_eq (st' := [vI U3]) rfl rfl ?_
              refine fc_istore C dX7_reduces_185 (by decide) ?_
              refine fc_goto (tgt := 137) C dX7_reduces_187 (by decide) ?_
              exact ih A3 U3 _ _ _ _ (by omega) hnn2 htot2 (hev2.tr hev) frB hub3
            · have hmo := s_mo_bd hv (S := U) (t := 1) (Or.inl rfl) (p := k) ⟨z0, by omega⟩
              refine fc_aload_n C dX7_reduces_154 rfl rfl ?_
              refine fh_getf C dX7_reduces_155 fl_X7_22 rfl rfl ?_
              refine fc_iload C dX7_reduces_158 rfl ?_
              refine fc_dup2 C dX7_reduces_160 rfl rfl ?_
              refine fh_laload C dX7_reduces_161 (fun _ _ => rfl) (by omega) (by omega) (by decide) ?_
              refine fc_aload_n C dX7_reduces_162 rfl rfl ?_
              refine fc_iload C dX7_reduces_163 rfl ?_
              refine fc_iload C dX7_reduces_165 rfl ?_
              refine fc_iconst C dX7_reduces_167 ?_
              refine fh_callV (y := mX7_more) C dX7_reduces_168 ml_X7_142 mi_X7_more im_X7_more se_X7_more (r_more e2 hn ⟨z0, by omega⟩ u0 u1) rfl rfl (by decide) rfl (Nat.le_of_ble_eq_true rfl) (Nat.zero_le _) (Nat.zero_le _) rfl ?_
              refine fc_i2l C dX7_reduces_171 (fc_Rm (by omega)) ?_
              refine fc_ladd C dX7_reduces_172 ?_
              refine fh_lastore C dX7_reduces_173 (fun _ _ => rfl) (by omega) (by omega) (by decide) ?_
              refine fc_iinc C dX7_reduces_174 rfl (by decide) ?_
              refine fc_goto (tgt := 145) C dX7_reduces_177 (by decide) ?_
              refine ih2 (k + 1) _ _ (by omega) (by omega) (by omega) (fun p p0 p1 => ?_) (fun j j1 j2 j3 => by rw [fa_n _ _ j1]; exact frB j j1 j2 j3)
              rw [fa_s, h8 k z0 (by omega), if_neg (by omega)]
              unfold fc_set
              by_cases c : p = k
              · rw [if_pos c, if_pos (by omega), c]
              · rw [if_neg c, h8 p p0 p1]
                by_cases c2 : p < k
                · rw [if_pos c2, if_pos (show p < k + 1 by omega)]
                · rw [if_neg c2, if_neg (show ¬ p < k + 1 by omega)]
        refine fc_iconst C dX7_reduces_142 ?_
        refine fc_istore C dX7_reduces_143 (by decide) ?_
        exact fire 6 0 A1 _ (by omega) (by omega) (by omega) (fun p p0 p1 => by rw [if_neg (by omega)]) frA
  -- the lift
  refine fc_lconst (z := 0) C dX7_reduces_0 rfl ?_
  refine fc_lstore_n C dX7_reduces_1 rfl (by decide) ?_
  refine fc_aload_n C dX7_reduces_2 rfl rfl ?_
  refine fc_iload_n C dX7_reduces_3 rfl rfl ?_
  refine fh_callVE (y := mX7_laysLift) C dX7_reduces_4 ml_X7_245 mi_X7_laysLift im_X7_laysLift se_X7_laysLift (r_laysLift e hv hJ hq) rfl rfl (by decide) rfl (Nat.le_of_ble_eq_true rfl) (Nat.zero_le _) (Nat.zero_le _) rfl ?_
  rintro r A1 F1 ⟨rfl, rfl, frA1, h8, hl, hlq, hlev⟩
  refine fc_eq (st' := []) rfl rfl ?_
  have hx1 : ∀ p : Int, 0 ≤ p → p < v 0 → -2000 ≤ A1 148 p ∧ A1 148 p ≤ 2000 := fun p p0 p1 => by rw [h8 p p0 p1]; exact hx p p0 p1
  have lift : ∀ (m : Nat) (k tm : Int) (A2 : Nat → Int → Int) (y5 y6 : Option fc_AV), 0 ≤ k → k ≤ v 0 → v 0 - k < m → 0 ≤ tm → tm ≤ 3000 → (∀ p : Int, 0 ≤ p → p < v 0 → p ≠ q → 0 ≤ A1 148 p + tm * A1 153 p) → (∀ p : Int, 0 ≤ p → p < v 0 → A2 148 p = if p < k then A1 148 p + tm * A1 153 p else A1 148 p) → (∀ j : Nat, j ≠ 148 → A2 j = A1 j) → fc_W X 0 0 159 (fc_H A2 F1) 91 [some (vR 143), some (vI q), some (vL tm), none, some (vI k), y5, y6] [] := by
    intro m
    induction m with
    | zero => intro k tm A2 y5 y6 z0 z1 z2; exfalso; omega
    | succ m ih =>
      intro k tm A2 y5 y6 z0 z1 z2 t0 t1 hnn h82 frB
      have e2 := (frB 144 (by omega)).trans ((frA1 144 (by omega) (by omega) (by omega)).trans e)
      refine fc_iload C dX7_reduces_91 rfl ?_
      refine fc_aload_n C dX7_reduces_93 rfl rfl ?_
      refine fh_callV (y := mX7_many) C dX7_reduces_94 ml_X7_60 mi_X7_many im_X7_many se_X7_many (r_many e2) rfl rfl (by decide) rfl (Nat.le_of_ble_eq_true rfl) (Nat.zero_le _) (Nat.zero_le _) rfl ?_
      refine fc_icmp_ge (tgt := 125) C dX7_reduces_97 (by decide) (fc_Rm (by omega)) (fc_Rm (by omega)) (fun c97 => ?_) (fun c97 => ?_)
      · have h82' : ∀ p : Int, 0 ≤ p → p < v 0 → A2 148 p = A1 148 p + tm * A1 153 p := fun p p0 p1 => by rw [h82 p p0 p1, if_pos (by omega)]
        have hb2 : ∀ p : Int, 0 ≤ p → p < v 0 → p ≠ q → 0 ≤ A2 148 p ∧ A2 148 p ≤ 100000 := fun p p0 p1 p2 => by
          rw [h82' p p0 p1]
          have h1 := hnn p p0 p1 p2
          have h2 := hx1 p p0 p1
          have h3 := hl p p0 p1 p2
          have h4 := Int.mul_le_mul t1 h3.2 (by omega) (by omega)
          omega
        have hev2 : z_ev (v_L v) (v 0) (A2 148) (A 148) := by
          obtain ⟨s, hs⟩ := hlev
          refine ⟨fun a => tm * s a, fun p p0 p1 => ?_⟩
          rw [h82' p p0 p1, z_lp_mul, h8 p p0 p1]
          have h9 : A1 153 p = 0 + z_lp (v_L v) (v 0) s p := hs p p0 p1
          rw [h9, Int.zero_add]
        have htot := s_tot_bd (n := v 0) (q := q) (z := A2 148) (B := 100000) ⟨by omega, hn.2⟩ (by omega) hb2
        refine fc_aload_n C dX7_reduces_125 rfl rfl ?_
        refine fc_iload_n C dX7_reduces_126 rfl rfl ?_
        refine fh_callVE (y := mX7_settlesAt) C dX7_reduces_127 ml_X7_163 mi_X7_settlesAt im_X7_settlesAt se_X7_settlesAt (r_settlesAt e2 hv hJ hq (fun p p0 p1 p2 => by have := hb2 p p0 p1 p2; omega)) rfl rfl (by decide) rfl (Nat.le_of_ble_eq_true rfl) (Nat.zero_le _) (Nat.zero_le _) rfl ?_
        rintro r A3 F3 ⟨rfl, rfl, frC, g3, hg3, hz3⟩
        refine fc_eq (st' := []) rfl rfl ?_
        have e3 := (frC 144 (by omega) (by omega)).trans e2
        have htot3 : s_tot (v 0) q (A3 148) ≤ 500000 := by
          obtain ⟨K, -, -, -, ha, -⟩ := hz3
          have := ha.2.1
          omega
        have hev3 := hz3.ev.tr hev2
        refine fc_aload_n C dX7_reduces_130 rfl rfl ?_
        refine fc_iload_n C dX7_reduces_131 rfl rfl ?_
        refine fh_callVE (y := mX7_unburnt) C dX7_reduces_132 ml_X7_248 mi_X7_unburnt im_X7_unburnt se_X7_unburnt (r_unburnt e3 hv hq (bnd (A3 148) hz3.nn htot3 hev3)) rfl rfl (by decide) rfl (Nat.le_of_ble_eq_true rfl) (Nat.zero_le _) (Nat.zero_le _) rfl ?_
        rintro r A4 F4 ⟨rfl, rfl, U4, rfl, hub4⟩
        refine fc_eq (st' := [vI U4]) rfl rfl ?_
        refine fc_istore C dX7_reduces_135 (by decide) ?_
        exact last ((s_ph (v 0) w (A4 148)).toNat + 1) A4 U4 _ _ _ _ (by omega) hz3.nn htot3 hev3 (fun j j1 j2 j3 => by rw [frC j j1 j2, frB j j1]; exact frA1 j j1 j2 j3) hub4
      · refine fc_aload_n C dX7_reduces_100 rfl rfl ?_
        refine fh_getf C dX7_reduces_101 fl_X7_22 rfl rfl ?_
        refine fc_iload C dX7_reduces_104 rfl ?_
        refine fc_dup2 C dX7_reduces_106 rfl rfl ?_
        refine fh_laload C dX7_reduces_107 (fun _ _ => rfl) (by omega) (by omega) (by decide) ?_
        refine fc_lload_n C dX7_reduces_108 rfl rfl ?_
        refine fc_aload_n C dX7_reduces_109 rfl rfl ?_
        refine fh_getf C dX7_reduces_110 fl_X7_38 rfl rfl ?_
        refine fc_iload C dX7_reduces_113 rfl ?_
        refine fh_laload C dX7_reduces_115 (fun _ _ => rfl) (by omega) (by omega) (by decide) ?_
        refine fc_lmul C dX7_reduces_116 ?_
        refine fc_ladd C dX7_reduces_117 ?_
        refine fh_lastore C dX7_reduces_118 (fun _ _ => rfl) (by omega) (by omega) (by decide) ?_
        refine fc_iinc C dX7_reduces_119 rfl (by decide) ?_
        refine fc_goto (tgt := 91) C dX7_reduces_122 (by decide) ?_
        refine ih (k + 1) tm _ _ _ (by omega) (by omega) (by omega) t0 t1 hnn (fun p p0 p1 => ?_) (fun j hj => by rw [fa_n _ _ hj]; exact frB j hj)
        rw [fa_s, h82 k z0 (by omega), if_neg (by omega), frB 153 (by omega)]
        unfold fc_set
        by_cases c : p = k
        · rw [if_pos c, if_pos (by omega), c]
        · rw [if_neg c, h82 p p0 p1]
          by_cases c2 : p < k
          · rw [if_pos c2, if_pos (show p < k + 1 by omega)]
          · rw [if_neg c2, if_neg (show ¬ p < k + 1 by omega)]
  have times : ∀ (m : Nat) (k tm : Int) (y5 y6 : Option fc_AV), 0 ≤ k → k ≤ v 0 → v 0 - k < m → 0 ≤ tm → tm ≤ 3000 → (∀ p : Int, 0 ≤ p → p < k → p ≠ q → 0 ≤ A1 148 p + tm * A1 153 p) → fc_W X 0 0 159 (fc_H A1 F1) 10 [some (vR 143), some (vI q), some (vL tm), none, some (vI k), y5, y6] [] := by
    intro m
    induction m with
    | zero => intro k tm y5 y6 z0 z1 z2; exfalso; omega
    | succ m ih =>
      intro k tm y5 y6 z0 z1 z2 t0 t1 hnn
      have e1 := (frA1 144 (by omega) (by omega) (by omega)).trans e
      refine fc_iload C dX7_reduces_10 rfl ?_
      refine fc_aload_n C dX7_reduces_12 rfl rfl ?_
      refine fh_callV (y := mX7_many) C dX7_reduces_13 ml_X7_60 mi_X7_many im_X7_many se_X7_many (r_many e1) rfl rfl (by decide) rfl (Nat.le_of_ble_eq_true rfl) (Nat.zero_le _) (Nat.zero_le _) rfl ?_
      refine fc_icmp_ge (tgt := 88) C dX7_reduces_16 (by decide) (fc_Rm (by omega)) (fc_Rm (by omega)) (fun c16 => ?_) (fun c16 => ?_)
      · refine fc_iconst C dX7_reduces_88 ?_
        refine fc_istore C dX7_reduces_89 (by decide) ?_
        exact lift 6 0 tm A1 _ _ (by omega) (by omega) (by omega) t0 t1 (fun p p0 p1 p2 => hnn p p0 (by omega) p2) (fun p p0 p1 => by rw [if_neg (by omega)]) (fun _ _ => rfl)
      · have nxt : ∀ du : Int, 0 ≤ du → du ≤ 3000 → (k ≠ q → 0 ≤ A1 148 k + du * A1 153 k) → fc_W X 0 0 159 (fc_H A1 F1) 66 [some (vR 143), some (vI q), some (vL tm), none, some (vI k), y5, y6] [vL du] := by
          intro du d0 d1 hdu
          have up : ∀ t2 : Int, tm ≤ t2 → du ≤ t2 → ∀ p : Int, 0 ≤ p → p < k + 1 → p ≠ q → 0 ≤ A1 148 p + t2 * A1 153 p := fun t2 h1 h2 p p0 p1 p2 => by
            have h3 := hl p p0 (by omega) p2
            by_cases c : p = k
            · subst c
              have h4 := hdu p2
              have h5 := Int.mul_le_mul_of_nonneg_right h2 (show 0 ≤ A1 153 p by omega)
              omega
            · have h4 := hnn p p0 (by omega) p2
              have h5 := Int.mul_le_mul_of_nonneg_right h1 (show 0 ≤ A1 153 p by omega)
              omega
          refine fc_lstore C dX7_reduces_66 (by decide) ?_
          refine fc_lload C dX7_reduces_68 rfl ?_
          refine fc_lload_n C dX7_reduces_70 rfl rfl ?_
          refine fc_lcmp C dX7_reduces_71 (fc_RLm (by omega)) (fc_RLm (by omega)) ?_
          refine fc_if_le (tgt := 80) C dX7_reduces_72 (by decide) (fc_cmp_R _ _) (fun c72 => ?_) (fun c72 => ?_)
          · have c72 : ¬ tm < du := fun z => by have := fc_cmp_gt.2 z; omega
            refine fc_lload_n C dX7_reduces_80 rfl rfl ?_
            refine fc_lstore_n C dX7_reduces_81 rfl (by decide) ?_
            refine fc_iinc C dX7_reduces_82 rfl (by decide) ?_
            refine fc_goto (tgt := 10) C dX7_reduces_85 (by decide) ?_
            exact ih (k + 1) tm _ _ (by omega) (by omega) (by omega) t0 t1 (up tm (by omega) (by omega))
          · have c72 := fc_cmp_gt.1 (show 0 < fc_cmp du tm by omega)
            refine fc_lload C dX7_reduces_75 rfl ?_
            refine fc_goto (tgt := 81) C dX7_reduces_77 (by decide) ?_
            refine fc_lstore_n C dX7_reduces_81 rfl (by decide) ?_
            refine fc_iinc C dX7_reduces_82 rfl (by decide) ?_
            refine fc_goto (tgt := 10) C dX7_reduces_85 (by decide) ?_
            exact ih (k + 1) du _ _ (by omega) (by omega) (by omega) d0 d1 (up du (by omega) (by omega))
        have hxk := hx1 k z0 (by omega)
        refine fc_iload C dX7_reduces_19 rfl ?_
        refine fc_iload_n C dX7_reduces_21 rfl rfl ?_
        refine fc_icmp_eq (tgt := 37) C dX7_reduces_22 (by decide) (fc_Rm (by omega)) (fc_Rm (by omega)) (fun c22 => ?_) (fun c22 => ?_)
        · refine fc_lconst (z := 0) C dX7_reduces_37 rfl ?_
          refine fc_goto (tgt := 66) C dX7_reduces_38 (by decide) ?_
          exact nxt 0 (by omega) (by omega) (fun z => absurd c22 z)
        · have hlk := hl k z0 (by omega) c22
          refine fc_aload_n C dX7_reduces_25 rfl rfl ?_
          refine fh_getf C dX7_reduces_26 fl_X7_22 rfl rfl ?_
          refine fc_iload C dX7_reduces_29 rfl ?_
          refine fh_laload C dX7_reduces_31 (fun _ _ => rfl) (by omega) (by omega) (by decide) ?_
          refine fc_lconst (z := 0) C dX7_reduces_32 rfl ?_
          refine fc_lcmp C dX7_reduces_33 (fc_RLm (by omega)) (fc_RLm (by omega)) ?_
          refine fc_if_lt (tgt := 41) C dX7_reduces_34 (by decide) (fc_cmp_R _ _) (fun c34 => ?_) (fun c34 => ?_)
          · have c34 := fc_cmp_lt.1 c34
            refine fc_aload_n C dX7_reduces_41 rfl rfl ?_
            refine fh_getf C dX7_reduces_42 fl_X7_38 rfl rfl ?_
            refine fc_iload C dX7_reduces_45 rfl ?_
            refine fh_laload C dX7_reduces_47 (fun _ _ => rfl) (by omega) (by omega) (by decide) ?_
            refine fc_lconst (z := 1) C dX7_reduces_48 rfl ?_
            refine fc_lsub C dX7_reduces_49 ?_
            refine fc_aload_n C dX7_reduces_50 rfl rfl ?_
            refine fh_getf C dX7_reduces_51 fl_X7_22 rfl rfl ?_
            refine fc_iload C dX7_reduces_54 rfl ?_
            refine fh_laload C dX7_reduces_56 (fun _ _ => rfl) (by omega) (by omega) (by decide) ?_
            refine fc_lsub C dX7_reduces_57 ?_
            refine fc_aload_n C dX7_reduces_58 rfl rfl ?_
            refine fh_getf C dX7_reduces_59 fl_X7_38 rfl rfl ?_
            refine fc_iload C dX7_reduces_62 rfl ?_
            refine fh_laload C dX7_reduces_64 (fun _ _ => rfl) (by omega) (by omega) (by decide) ?_
            refine fc_ldiv C dX7_reduces_65 (fc_RLm (by omega)) (fc_RLm (by omega)) (by omega) ?_
            have hN : 0 ≤ A1 153 k - 1 - A1 148 k := by omega
            refine fc_eq (st' := [vL ((A1 153 k - 1 - A1 148 k) / A1 153 k)]) rfl (by rw [Int.tdiv_eq_ediv_of_nonneg hN]) ?_
            have hd := Int.mul_ediv_add_emod (A1 153 k - 1 - A1 148 k) (A1 153 k)
            have hm9 := Int.emod_lt_of_pos (A1 153 k - 1 - A1 148 k) hlk.1
            have hd0 := Int.ediv_nonneg hN (show 0 ≤ A1 153 k by omega)
            have hd1 := Int.ediv_le_self (A1 153 k) hN
            refine nxt _ hd0 (by omega) (fun _ => ?_)
            rw [Int.mul_comm ((A1 153 k - 1 - A1 148 k) / A1 153 k)]
            omega
          · have c34 : ¬ A1 148 k < 0 := fun z => by have := fc_cmp_lt.2 z; omega
            refine fc_lconst (z := 0) C dX7_reduces_37 rfl ?_
            refine fc_goto (tgt := 66) C dX7_reduces_38 (by decide) ?_
            exact nxt 0 (by omega) (by omega) (fun _ => by rw [Int.zero_mul]; omega)
  refine fc_iconst C dX7_reduces_7 ?_
  refine fc_istore C dX7_reduces_8 (by decide) ?_
  exact times 6 0 0 none none (by omega) (by omega) (by omega) (by omega) (by omega) (fun p p0 p1 => by omega)
end REF11
