/-! the reference: identity, recurrent, order -/
section FQ
variable {L : Int → Int → Int} {n q : Int}
theorem s_tot_bd (hn : 0 ≤ n ∧ n ≤ 5) {z : Int → Int} {B : Int} (hB : 0 ≤ B) (hz : ∀ p : Int, 0 ≤ p → p < n → p ≠ q → 0 ≤ z p ∧ z p ≤ B) : 0 ≤ s_tot n q z ∧ s_tot n q z ≤ 5 * B := by
  have h1 := fs_sum5 (f := fun o => if o = q then 0 else z o) (n := n) (B := B) hn hB (fun k k0 k1 => by
    by_cases c : k = q
    · rw [if_pos c]; omega
    · rw [if_neg c]; have := hz k k0 k1 c; omega)
  have h2 := fs_sum_le (f := fun _ => 0) (g := fun o => if o = q then 0 else z o) (m := n.toNat) (fun k k0 k1 => by
    by_cases c : k = q
    · rw [if_pos c]; omega
    · rw [if_neg c]; exact (hz k k0 (by omega) c).1)
  rw [fs_sum_zero] at h2
  unfold s_tot
  omega
theorem z_st.b15 (hg : g_ok L) (hn : 2 ≤ n ∧ n ≤ 5) {x : Int → Int} (h : z_st L n q x) : ∀ p : Int, 0 ≤ p → p < n → p ≠ q → x p ≤ 15 := fun p p0 p1 p2 => by
  have := h p p0 p1 p2
  have := s_val_bd hg (n := n) (p := p) (by omega) hn.2 p0 (by omega)
  omega
/-- a row is equal to none but at the sink just if the determinant divides what solves it -/
theorem z_e0_dvd (hg : g_ok L) (hn : 2 ≤ n ∧ n ≤ 5) (hq : 0 ≤ q ∧ q < n) (hJ : s_J L n) {x : Int → Int} : z_e0 L n q x (fun _ => 0) ↔ ∀ p : Int, 0 ≤ p → p < n → d_T L n q ∣ d_sv L n q x p := by
  have hT := d_T_pos hg hn hq hJ
  have key : ∀ o : Int, 0 ≤ o → o < n → o ≠ q → z_lp L n (d_sv L n q x) o = d_T L n q * x o := fun o o0 o1 o2 => d_sv_M hn hq ⟨o0, o1⟩ o2
  constructor
  · rintro ⟨s, hs⟩
    have h0 : d_sv L n q x q = 0 := if_pos rfl
    have h1 := z_flat hg hn hq hJ (s := fun a => d_sv L n q x a + (- (d_T L n q)) * (s a - s q)) (by
      show d_sv L n q x q + (- (d_T L n q)) * (s q - s q) = 0
      rw [h0, Int.sub_self, Int.mul_zero]; rfl) (fun p p0 p1 p2 => by
      rw [z_lp_add, z_lp_mul, z_lp_shift hg hn ⟨p0, p1⟩, key p p0 p1 p2]
      have h9 : x p = 0 + z_lp L n s p := hs p p0 p1 p2
      have e : x p = z_lp L n s p := by omega
      rw [← e, Int.neg_mul]
      omega)
    intro p p0 p1
    have h2 : d_sv L n q x p + (- (d_T L n q)) * (s p - s q) = 0 := h1 p p0 p1
    refine ⟨s p - s q, ?_⟩
    rw [Int.neg_mul] at h2
    omega
  · intro h
    refine ⟨fun a => d_sv L n q x a / d_T L n q, fun p p0 p1 p2 => ?_⟩
    have h1 := key p p0 p1 p2
    have h2 : z_lp L n (d_sv L n q x) p = d_T L n q * z_lp L n (fun a => d_sv L n q x a / d_T L n q) p := by
      rw [← z_lp_mul]
      unfold z_lp
      refine fs_sum_congr fun a a0 a1 => ?_
      show _ = d_T L n q * (d_sv L n q x a / d_T L n q) * _
      rw [Int.mul_ediv_cancel' (h a a0 (by omega))]
    rw [h1] at h2
    have := Int.eq_of_mul_eq_mul_left (by omega) h2
    show x p = 0 + _
    omega
theorem d_sv_mul {x : Int → Int} {k p : Int} : d_sv L n q (fun o => k * x o) p = k * d_sv L n q x p := by
  unfold d_sv
  split
  · rw [Int.mul_zero]
  · rw [← fs_sum_mul]
    refine fs_sum_congr fun b _ _ => ?_
    split
    · rw [Int.mul_zero]
    · grind
/-- divisors of all of some numbers -/
def g_fold (D : Int) (f : Int → Int) : Nat → Nat
  | 0 => D.natAbs
  | k + 1 => Int.gcd (g_fold D f k) (f k)
theorem g_fold_dvd {D : Int} {f : Int → Int} {d : Nat} : ∀ {m : Nat}, d ∣ g_fold D f m ↔ (d : Int) ∣ D ∧ ∀ p : Int, 0 ≤ p → p < m → (d : Int) ∣ f p
  | 0 => by
    show d ∣ D.natAbs ↔ _
    rw [← Int.ofNat_dvd_left]
    exact ⟨fun h => ⟨h, fun p p0 p1 => by omega⟩, fun h => h.1⟩
  | m + 1 => by
    show d ∣ Int.gcd (g_fold D f m) (f m) ↔ _
    rw [ig_dvd, Int.natCast_dvd_natCast, g_fold_dvd (m := m)]
    constructor
    · rintro ⟨⟨h1, h2⟩, h3⟩
      refine ⟨h1, fun p p0 p1 => ?_⟩
      by_cases e : p = m
      · rw [e]; exact h3
      · exact h2 p p0 (by omega)
    · rintro ⟨h1, h2⟩
      exact ⟨⟨h1, fun p p0 p1 => h2 p p0 (by omega)⟩, h2 m (by omega) (by omega)⟩
theorem g_fold_mul {D : Int} {f : Int → Int} {k : Nat} : ∀ {m : Nat}, (∀ p : Int, 0 ≤ p → p < m → D ∣ k * f p) → D ∣ (k * g_fold D f m : Nat)
  | 0, _ => by
    show D ∣ ((k * D.natAbs : Nat) : Int)
    rw [Int.natCast_mul]
    exact Int.dvd_mul_of_dvd_right (Int.dvd_natAbs.2 (Int.dvd_refl D))
  | m + 1, h => by
    have ih := g_fold_mul (m := m) (fun p p0 p1 => h p p0 (by omega))
    have h9 := h m (by omega) (by omega)
    show D ∣ ((k * Int.gcd (g_fold D f m) (f m) : Nat) : Int)
    have e : k * Int.gcd (g_fold D f m) (f m) = Int.gcd ((k * g_fold D f m : Nat) : Int) (k * f m) := by
      have := Int.gcd_mul_left (k : Int) (g_fold D f m : Int) (f m)
      rw [Int.natAbs_natCast] at this
      rw [← this, Int.natCast_mul]
    rw [e, ← Int.natAbs_dvd, Int.natCast_dvd_natCast, ig_dvd]
    exact ⟨Int.natAbs_dvd.2 ih, Int.natAbs_dvd.2 h9⟩
def z_least (L : Int → Int → Int) (n : Int) (c : Int → Int) (k : Int) : Prop := 1 ≤ k ∧ z_e0 L n 0 (fun p => k * c p) (fun _ => 0) ∧ ∀ j : Int, 1 ≤ j → j < k → ¬ z_e0 L n 0 (fun p => j * c p) (fun _ => 0)
/-- the least multiple that is neutral, by the divisors -/
theorem z_least_eq (hg : g_ok L) (hn : 2 ≤ n ∧ n ≤ 5) (hJ : s_J L n) {c : Int → Int} {k : Int} (h : z_least L n c k) {g : Nat} (hg0 : 0 < g) (hd : ∀ d : Nat, d ∣ g ↔ (d : Int) ∣ d_T L n 0 ∧ ∀ p : Int, 0 ≤ p → p < n → (d : Int) ∣ d_sv L n 0 c p) : k = (d_T L n 0).tdiv g := by
  have hq : (0 : Int) ≤ 0 ∧ (0 : Int) < n := ⟨by omega, by omega⟩
  have hT := d_T_pos hg hn hq hJ
  have crit : ∀ j : Int, z_e0 L n 0 (fun p => j * c p) (fun _ => 0) ↔ ∀ p : Int, 0 ≤ p → p < n → d_T L n 0 ∣ j * d_sv L n 0 c p := fun j => by
    rw [z_e0_dvd hg hn hq hJ]
    constructor
    · intro h p p0 p1
      have := h p p0 p1
      rw [d_sv_mul] at this
      exact this
    · intro h p p0 p1
      rw [d_sv_mul]
      exact h p p0 p1
  have hgg := (hd g).1 (Nat.dvd_refl g)
  obtain ⟨D', eD⟩ := hgg.1
  have hgp : (0 : Int) < (g : Int) := by omega
  have hD' : 0 < D' := by
    apply Classical.byContradiction
    intro z
    have := Int.mul_le_mul_of_nonneg_left (show D' ≤ 0 by omega) (show 0 ≤ (g : Int) by omega)
    omega
  have eq1 : (d_T L n 0).tdiv g = D' := by rw [eD, Int.mul_tdiv_cancel_left _ (by omega)]
  rw [eq1]
  have w1 : z_e0 L n 0 (fun p => D' * c p) (fun _ => 0) := (crit D').2 fun p p0 p1 => by
    obtain ⟨s, es⟩ := hgg.2 p p0 p1
    refine ⟨s, ?_⟩
    rw [es, eD]
    grind
  have le1 : k ≤ D' := by
    apply Classical.byContradiction
    intro z
    exact h.2.2 D' (by omega) (by omega) w1
  have h2 := (crit k).1 h.2.1
  have h3 := g_fold_mul (D := d_T L n 0) (f := d_sv L n 0 c) (k := k.toNat) (m := n.toNat) (fun p p0 p1 => by
    have h9 := h.1
    rw [Int.toNat_of_nonneg (by omega)]
    exact h2 p p0 (by omega))
  have eg : g_fold (d_T L n 0) (d_sv L n 0 c) n.toNat = g := by
    refine Nat.dvd_antisymm ?_ ?_
    · rw [hd]
      have := (g_fold_dvd (D := d_T L n 0) (f := d_sv L n 0 c) (m := n.toNat) (d := g_fold (d_T L n 0) (d_sv L n 0 c) n.toNat)).1 (Nat.dvd_refl _)
      exact ⟨this.1, fun p p0 p1 => this.2 p p0 (by omega)⟩
    · rw [g_fold_dvd]
      exact ⟨hgg.1, fun p p0 p1 => hgg.2 p p0 (by omega)⟩
  rw [eg, Int.natCast_mul, eD] at h3
  have h9 := h.1
  rw [Int.toNat_of_nonneg (by omega), Int.mul_comm k] at h3
  have h4 := Int.dvd_of_mul_dvd_mul_left (by omega) h3
  have := Int.le_of_dvd (by omega) h4
  omega
end FQ
section REF10
variable {A : Nat → Int → Int} {F : Nat → Nat → Int} {v : Int → Int} {ps : Int → Int → Int} {st : Int} {rf tx : Int → Int} {tl : Int}
theorem r_laysIdentity (e : A 144 = v) (hv : v_ok v) (hJ : s_J (v_L v) (v 0)) : fh_E mX7_laysIdentity 3 [vR 143] A F (fun r A' F' => r = none ∧ F' = F ∧ (∀ j : Nat, j ≠ 148 → j ≠ 149 → j ≠ 151 → A' j = A j) ∧ ∀ p : Int, 0 ≤ p → p < v 0 → A' 151 p = if p = 0 then 0 else r_w (v_L v) (v 0) 0 (fun _ => 0) p) := by
  have hn := hv.n
  have hg := hv.g
  have hq : (0 : Int) ≤ 0 ∧ (0 : Int) < v 0 := ⟨by omega, by omega⟩
  have hvb : ∀ p : Int, 0 ≤ p → p < v 0 → 0 < s_val (v_L v) (v 0) p ∧ s_val (v_L v) (v 0) p ≤ 15 := fun p p0 p1 => ⟨s_J_val hg hn hJ p0 p1, (s_val_bd hg (n := v 0) (p := p) (by omega) hn.2 p0 (by omega)).2⟩
  refine fh_E.of mi_X7_laysIdentity (Nat.le_of_ble_eq_true rfl) ?_
  intro X C T
  have third : ∀ (m : Nat) (k : Int) (A1 : Nat → Int → Int) (w : Int → Int), 0 ≤ k → k ≤ v 0 → v 0 - k < m → (∀ p : Int, 0 ≤ p → p < v 0 → p ≠ 0 → A1 148 p = w p) → (∀ p : Int, 0 ≤ p → p < k → A1 151 p = if p = 0 then 0 else w p) → (∀ j : Nat, j ≠ 148 → j ≠ 149 → j ≠ 151 → A1 j = A j) → (∀ p : Int, 0 ≤ p → p < v 0 → p ≠ 0 → w p = r_w (v_L v) (v 0) 0 (fun _ => 0) p) → fc_W X 0 0 159 (fc_H A1 F) 83 [some (vR 143), some (vI k)] [] := by
    intro m
    induction m with
    | zero => intro k A1 w z0 z1 z2; exfalso; omega
    | succ m ih =>
      intro k A1 w z0 z1 z2 h8 h1 frA hw
      refine fc_iload_n C dX7_laysIdentity_83 rfl rfl ?_
      refine fc_aload_n C dX7_laysIdentity_84 rfl rfl ?_
      refine fh_callV (y := mX7_many) C dX7_laysIdentity_85 ml_X7_60 mi_X7_many im_X7_many se_X7_many (r_many ((frA 144 (by omega) (by omega) (by omega)).trans e)) rfl rfl (by decide) rfl (Nat.le_of_ble_eq_true rfl) (Nat.zero_le _) (Nat.zero_le _) rfl ?_
      refine fc_icmp_ge (tgt := 117) C dX7_laysIdentity_88 (by decide) (fc_Rm (by omega)) (fc_Rm (by omega)) (fun c88 => ?_) (fun c88 => ?_)
      · refine fh_vretE C T dX7_laysIdentity_117 ⟨rfl, rfl, frA, fun p p0 p1 => ?_⟩
        rw [h1 p p0 (by omega)]
        by_cases c : p = 0
        · rw [if_pos c, if_pos c]
        · rw [if_neg c, if_neg c]; exact hw p p0 p1 c
      · have nxt : ∀ x : Int, x = (if k = 0 then 0 else w k) → fc_W X 0 0 159 (fc_H A1 F) 110 [some (vR 143), some (vI k)] [vL x, vI k, vR 151] := by
          intro x ex
          refine fh_lastore C dX7_laysIdentity_110 (fun _ _ => rfl) (by omega) (by omega) (by decide) ?_
          refine fc_iinc C dX7_laysIdentity_111 rfl (by decide) ?_
          refine fc_goto (tgt := 83) C dX7_laysIdentity_114 (by decide) ?_
          refine ih (k + 1) _ w (by omega) (by omega) (by omega) (fun p p0 p1 p2 => by rw [fa_n _ _ (by omega)]; exact h8 p p0 p1 p2) (fun p p0 p1 => ?_) (fun j j1 j2 j3 => by rw [fa_n _ _ j3]; exact frA j j1 j2 j3) hw
          rw [fa_s]
          unfold fc_set
          by_cases c : p = k
          · rw [if_pos c, ex, c]
          · rw [if_neg c]; exact h1 p p0 (by omega)
        refine fc_aload_n C dX7_laysIdentity_91 rfl rfl ?_
        refine fh_getf C dX7_laysIdentity_92 fl_X7_32 rfl rfl ?_
        refine fc_iload_n C dX7_laysIdentity_95 rfl rfl ?_
        refine fc_iload_n C dX7_laysIdentity_96 rfl rfl ?_
        refine fc_if_ne (tgt := 104) C dX7_laysIdentity_97 (by decide) (fc_Rm (by omega)) (fun c97 => ?_) (fun c97 => ?_)
        · refine fc_aload_n C dX7_laysIdentity_104 rfl rfl ?_
          refine fh_getf C dX7_laysIdentity_105 fl_X7_22 rfl rfl ?_
          refine fc_iload_n C dX7_laysIdentity_108 rfl rfl ?_
          refine fh_laload C dX7_laysIdentity_109 (fun _ _ => rfl) (by omega) (by omega) (by decide) ?_
          exact nxt _ (by rw [if_neg c97]; exact h8 k z0 (by omega) c97)
        · refine fc_lconst (z := 0) C dX7_laysIdentity_100 rfl ?_
          refine fc_goto (tgt := 110) C dX7_laysIdentity_101 (by decide) ?_
          exact nxt 0 (by rw [if_pos (by omega)])
  have second : ∀ (m : Nat) (k : Int) (A1 : Nat → Int → Int) (x1 g1 f1 : Int → Int), 0 ≤ k → k ≤ v 0 → v 0 - k < m → s_fz (v_L v) (v 0) 0 (fun p => 2 * (s_val (v_L v) (v 0) p - 1)) g1 x1 f1 → (∀ p : Int, 0 ≤ p → p < v 0 → A1 148 p = if p < k then 2 * (s_val (v_L v) (v 0) p - 1) - x1 p else x1 p) → (∀ j : Nat, j ≠ 148 → j ≠ 149 → j ≠ 151 → A1 j = A j) → fc_W X 0 0 159 (fc_H A1 F) 39 [some (vR 143), some (vI k)] [] := by
    intro m
    induction m with
    | zero => intro k A1 x1 g1 f1 z0 z1 z2; exfalso; omega
    | succ m ih =>
      intro k A1 x1 g1 f1 z0 z1 z2 hz h8 frA
      have e1 := (frA 144 (by omega) (by omega) (by omega)).trans e
      refine fc_iload_n C dX7_laysIdentity_39 rfl rfl ?_
      refine fc_aload_n C dX7_laysIdentity_40 rfl rfl ?_
      refine fh_callV (y := mX7_many) C dX7_laysIdentity_41 ml_X7_60 mi_X7_many im_X7_many se_X7_many (r_many e1) rfl rfl (by decide) rfl (Nat.le_of_ble_eq_true rfl) (Nat.zero_le _) (Nat.zero_le _) rfl ?_
      refine fc_icmp_ge (tgt := 76) C dX7_laysIdentity_44 (by decide) (fc_Rm (by omega)) (fc_Rm (by omega)) (fun c44 => ?_) (fun c44 => ?_)
      · have h8' : ∀ p : Int, 0 ≤ p → p < v 0 → A1 148 p = 2 * (s_val (v_L v) (v 0) p - 1) - x1 p := fun p p0 p1 => by rw [h8 p p0 p1, if_pos (by omega)]
        have hst := hz.st hg hn hJ
        have hnn := hz.nn
        refine fc_aload_n C dX7_laysIdentity_76 rfl rfl ?_
        refine fc_iconst C dX7_laysIdentity_77 ?_
        refine fh_callVE (y := mX7_settlesAt) C dX7_laysIdentity_78 ml_X7_163 mi_X7_settlesAt im_X7_settlesAt se_X7_settlesAt (r_settlesAt e1 hv hJ (q := 0) hq (fun p p0 p1 p2 => by have := hst p p0 p1 p2; have := hnn p p0 p1 p2; have := hvb p p0 p1; rw [h8' p p0 p1]; omega)) rfl rfl (by decide) rfl (Nat.le_of_ble_eq_true rfl) (Nat.zero_le _) (Nat.zero_le _) rfl ?_
        rintro r A2 F2 ⟨rfl, rfl, frB, g2, hg2, hz2⟩
        refine fc_eq (st' := []) rfl rfl ?_
        refine fc_iconst C dX7_laysIdentity_81 ?_
        refine fc_istore_n C dX7_laysIdentity_82 rfl (by decide) ?_
        refine third 6 0 A2 (A2 148) (by omega) (by omega) (by omega) (fun p _ _ _ => rfl) (fun p p0 p1 => by omega) (fun j j1 j2 j3 => by rw [frB j j1 j2]; exact frA j j1 j2 j3) ?_
        have hev : z_ev (v_L v) (v 0) (A1 148) (fun _ => 0) := (z_ev.of h8').tr (((z_ev.rf (x := fun p => 2 * (s_val (v_L v) (v 0) p - 1))).sub hz.ev).tr (z_ev.of fun p _ _ => by show 2 * (s_val (v_L v) (v 0) p - 1) - 2 * (s_val (v_L v) (v 0) p - 1) = 0; omega))
        refine r_w_is hg hn hq hJ (z_ev.e0 (hz2.ev.tr hev)) (hz2.st hg hn hJ) (z_NF.fz hg hn (z_NF_max hg hn hq hJ fun p p0 p1 p2 => ?_) hz2)
        rw [h8' p p0 p1]
        have := hst p p0 p1 p2
        omega
      · have hb := hvb k z0 (by omega)
        refine fc_aload_n C dX7_laysIdentity_47 rfl rfl ?_
        refine fh_getf C dX7_laysIdentity_48 fl_X7_22 rfl rfl ?_
        refine fc_iload_n C dX7_laysIdentity_51 rfl rfl ?_
        refine fc_iconst C dX7_laysIdentity_52 ?_
        refine fc_aload_n C dX7_laysIdentity_53 rfl rfl ?_
        refine fc_iload_n C dX7_laysIdentity_54 rfl rfl ?_
        refine fh_callV (y := mX7_valence) C dX7_laysIdentity_55 ml_X7_72 mi_X7_valence im_X7_valence se_X7_valence (r_valence e1 hn ⟨z0, by omega⟩) rfl rfl (by decide) rfl (Nat.le_of_ble_eq_true rfl) (Nat.zero_le _) (Nat.zero_le _) rfl ?_
        refine fc_iconst C dX7_laysIdentity_58 ?_
        refine fc_isub C dX7_laysIdentity_59 ?_
        refine fc_imul C dX7_laysIdentity_60 ?_
        refine fc_i2l C dX7_laysIdentity_61 (fc_Rm (by omega)) ?_
        refine fc_aload_n C dX7_laysIdentity_62 rfl rfl ?_
        refine fh_getf C dX7_laysIdentity_63 fl_X7_22 rfl rfl ?_
        refine fc_iload_n C dX7_laysIdentity_66 rfl rfl ?_
        refine fh_laload C dX7_laysIdentity_67 (fun _ _ => rfl) (by omega) (by omega) (by decide) ?_
        refine fc_lsub C dX7_laysIdentity_68 ?_
        refine fh_lastore C dX7_laysIdentity_69 (fun _ _ => rfl) (by omega) (by omega) (by decide) ?_
        refine fc_iinc C dX7_laysIdentity_70 rfl (by decide) ?_
        refine fc_goto (tgt := 39) C dX7_laysIdentity_73 (by decide) ?_
        refine ih (k + 1) _ x1 g1 f1 (by omega) (by omega) (by omega) hz (fun p p0 p1 => ?_) (fun j j1 j2 j3 => by rw [fa_n _ _ j1]; exact frA j j1 j2 j3)
        rw [fa_s, h8 k z0 (by omega), if_neg (by omega)]
        unfold fc_set
        by_cases c : p = k
        · rw [if_pos c, if_pos (by omega), c]
        · rw [if_neg c, h8 p p0 p1]
          by_cases c2 : p < k
          · rw [if_pos c2, if_pos (show p < k + 1 by omega)]
          · rw [if_neg c2, if_neg (show ¬ p < k + 1 by omega)]
  have first : ∀ (m : Nat) (k : Int) (A1 : Nat → Int → Int), 0 ≤ k → k ≤ v 0 → v 0 - k < m → (∀ p : Int, 0 ≤ p → p < k → A1 148 p = 2 * (s_val (v_L v) (v 0) p - 1)) → (∀ j : Nat, j ≠ 148 → j ≠ 149 → j ≠ 151 → A1 j = A j) → fc_W X 0 0 159 (fc_H A1 F) 2 [some (vR 143), some (vI k)] [] := by
    intro m
    induction m with
    | zero => intro k A1 z0 z1 z2; exfalso; omega
    | succ m ih =>
      intro k A1 z0 z1 z2 h8 frA
      have e1 := (frA 144 (by omega) (by omega) (by omega)).trans e
      refine fc_iload_n C dX7_laysIdentity_2 rfl rfl ?_
      refine fc_aload_n C dX7_laysIdentity_3 rfl rfl ?_
      refine fh_callV (y := mX7_many) C dX7_laysIdentity_4 ml_X7_60 mi_X7_many im_X7_many se_X7_many (r_many e1) rfl rfl (by decide) rfl (Nat.le_of_ble_eq_true rfl) (Nat.zero_le _) (Nat.zero_le _) rfl ?_
      refine fc_icmp_ge (tgt := 32) C dX7_laysIdentity_7 (by decide) (fc_Rm (by omega)) (fc_Rm (by omega)) (fun c7 => ?_) (fun c7 => ?_)
      · refine fc_aload_n C dX7_laysIdentity_32 rfl rfl ?_
        refine fc_iconst C dX7_laysIdentity_33 ?_
        refine fh_callVE (y := mX7_settlesAt) C dX7_laysIdentity_34 ml_X7_163 mi_X7_settlesAt im_X7_settlesAt se_X7_settlesAt (r_settlesAt e1 hv hJ (q := 0) hq (fun p p0 p1 p2 => by have := hvb p p0 p1; rw [h8 p p0 (by omega)]; omega)) rfl rfl (by decide) rfl (Nat.le_of_ble_eq_true rfl) (Nat.zero_le _) (Nat.zero_le _) rfl ?_
        rintro r A2 F2 ⟨rfl, rfl, frB, g2, hg2, hz2⟩
        refine fc_eq (st' := []) rfl rfl ?_
        obtain ⟨x3, f3, hz3⟩ := s_fz_ex hg hn hq hJ (z := fun p => 2 * (s_val (v_L v) (v 0) p - 1)) (g := g2) (fun p p0 p1 _ => by have := hvb p p0 p1; show 0 ≤ 2 * (s_val (v_L v) (v 0) p - 1); omega)
        have hu := s_fz.uniq (by omega) hz2 hz3 (fun p p0 p1 => h8 p p0 (by omega)) (fun _ _ _ => rfl)
        have hz4 : s_fz (v_L v) (v 0) 0 (fun p => 2 * (s_val (v_L v) (v 0) p - 1)) g2 x3 f3 := hz3
        refine fc_iconst C dX7_laysIdentity_37 ?_
        refine fc_istore_n C dX7_laysIdentity_38 rfl (by decide) ?_
        exact second 6 0 A2 x3 g2 f3 (by omega) (by omega) (by omega) hz4 (fun p p0 p1 => by rw [if_neg (by omega)]; exact hu.1 p p0 p1) (fun j j1 j2 j3 => by rw [frB j j1 j2]; exact frA j j1 j2 j3)
      · have hb := hvb k z0 (by omega)
        refine fc_aload_n C dX7_laysIdentity_10 rfl rfl ?_
        refine fh_getf C dX7_laysIdentity_11 fl_X7_22 rfl rfl ?_
        refine fc_iload_n C dX7_laysIdentity_14 rfl rfl ?_
        refine fc_iconst C dX7_laysIdentity_15 ?_
        refine fc_aload_n C dX7_laysIdentity_16 rfl rfl ?_
        refine fc_iload_n C dX7_laysIdentity_17 rfl rfl ?_
        refine fh_callV (y := mX7_valence) C dX7_laysIdentity_18 ml_X7_72 mi_X7_valence im_X7_valence se_X7_valence (r_valence e1 hn ⟨z0, by omega⟩) rfl rfl (by decide) rfl (Nat.le_of_ble_eq_true rfl) (Nat.zero_le _) (Nat.zero_le _) rfl ?_
        refine fc_iconst C dX7_laysIdentity_21 ?_
        refine fc_isub C dX7_laysIdentity_22 ?_
        refine fc_imul C dX7_laysIdentity_23 ?_
        refine fc_i2l C dX7_laysIdentity_24 (fc_Rm (by omega)) ?_
        refine fh_lastore C dX7_laysIdentity_25 (fun _ _ => rfl) (by omega) (by omega) (by decide) ?_
        refine fc_iinc C dX7_laysIdentity_26 rfl (by decide) ?_
        refine fc_goto (tgt := 2) C dX7_laysIdentity_29 (by decide) ?_
        refine ih (k + 1) _ (by omega) (by omega) (by omega) (fun p p0 p1 => ?_) (fun j j1 j2 j3 => by rw [fa_n _ _ j1]; exact frA j j1 j2 j3)
        rw [fa_s]
        unfold fc_set
        by_cases c : p = k
        · rw [if_pos c, c]
        · rw [if_neg c]; exact h8 p p0 (by omega)
  refine fc_iconst C dX7_laysIdentity_0 ?_
  refine fc_istore_n C dX7_laysIdentity_1 rfl (by decide) ?_
  exact first 6 0 A (by omega) (by omega) (by omega) (fun p p0 p1 => by omega) (fun _ _ _ _ => rfl)
theorem q_identity (RC : m_RC A F v ps st rf tx tl) {p : Int} (hp : fc_R p) : fh_E mX7_identity 4 [vR 143, vI p] A F (m_an A F (x_id v p) (a_rc v (fun _ => 0) p) v ps st rf tx tl) := by
  obtain ⟨e, hv, -, -, -, hm⟩ := id RC
  have hn := hv.n
  refine fh_E.of mi_X7_identity (Nat.le_of_ble_eq_true rfl) ?_
  intro X C T
  refine fc_aload_n C dX7_identity_0 rfl rfl ?_
  refine fc_iload_n C dX7_identity_1 rfl rfl ?_
  refine fh_callV (y := mX7_isPoint) C dX7_identity_2 ml_X7_89 mi_X7_isPoint im_X7_isPoint se_X7_isPoint (r_isPoint e hn hp) rfl rfl (by decide) rfl (Nat.le_of_ble_eq_true rfl) (Nat.zero_le _) (Nat.zero_le _) rfl ?_
  refine fc_if_ne (tgt := 15) C dX7_identity_5 (by decide) (fc_ind_R _) (fun c5 => ?_) (fun c5 => ?_)
  · have c5 := fc_ind_ne c5
    refine fc_aload_n C dX7_identity_15 rfl rfl ?_
    refine fh_callV (y := mX7_isJoined) C dX7_identity_16 ml_X7_118 mi_X7_isJoined im_X7_isJoined se_X7_isJoined (r_isJoined e hn hv.g) rfl rfl (by decide) rfl (Nat.le_of_ble_eq_true rfl) (Nat.zero_le _) (Nat.zero_le _) rfl ?_
    refine fc_if_ne (tgt := 29) C dX7_identity_19 (by decide) (fc_ind_R _) (fun c19 => ?_) (fun c19 => ?_)
    · have hJ := fc_ind_ne c19
      have hx : x_id v p = 0 := by unfold x_id; rw [if_pos c5, if_pos (fc_ind_t hJ)]
      refine fc_aload_n C dX7_identity_29 rfl rfl ?_
      refine fh_callVE (y := mX7_laysIdentity) C dX7_identity_30 ml_X7_230 mi_X7_laysIdentity im_X7_laysIdentity se_X7_laysIdentity (r_laysIdentity e hv hJ) rfl rfl (by decide) rfl (Nat.le_of_ble_eq_true rfl) (Nat.zero_le _) (Nat.zero_le _) rfl ?_
      rintro r A1 F1 ⟨rfl, rfl, frA, h1⟩
      refine fc_eq (st' := []) rfl rfl ?_
      refine fc_aload_n C dX7_identity_33 rfl rfl ?_
      refine fh_getf C dX7_identity_34 fl_X7_32 rfl rfl ?_
      refine fc_iload_n C dX7_identity_37 rfl rfl ?_
      refine fh_laload C dX7_identity_38 (fun _ _ => rfl) (by omega) (by omega) (by decide) ?_
      refine fc_l2i C dX7_identity_39 ?_
      refine fh_iretE C T dX7_identity_40 (Or.inl rfl) (m_an.yes RC (frA 144 (by omega) (by omega) (by omega)) (hm.fr (frA 145 (by omega) (by omega) (by omega)) (frA 147 (by omega) (by omega) (by omega)) (frA 157 (by omega) (by omega) (by omega)) rfl rfl) (fun i hi => ⟨frA i (by omega) (by omega) (by omega), rfl⟩) hx ?_)
      rw [h1 p c5.1 c5.2]
      rfl
    · have c19 := fc_ind_0 c19
      refine fc_aload_n C dX7_identity_22 rfl rfl ?_
      refine fc_bipush C dX7_identity_23 (by decide) ?_
      refine fh_callV (y := mX7_refuses) C dX7_identity_25 ml_X7_80 mi_X7_refuses im_X7_refuses se_X7_refuses (r_refuses (Or.inr (Or.inl rfl))) rfl rfl (by decide) rfl (Nat.le_of_ble_eq_true rfl) (Nat.zero_le _) (Nat.zero_le _) rfl ?_
      exact fh_iretE C T dX7_identity_28 (Or.inl rfl) (m_an.no RC (by unfold x_id; rw [if_pos c5, if_neg (by rw [fc_ind_f c19]; decide)]) (Or.inr (Or.inl rfl)))
  · have c5 := fc_ind_0 c5
    refine fc_aload_n C dX7_identity_8 rfl rfl ?_
    refine fc_bipush C dX7_identity_9 (by decide) ?_
    refine fh_callV (y := mX7_refuses) C dX7_identity_11 ml_X7_80 mi_X7_refuses im_X7_refuses se_X7_refuses (r_refuses (Or.inl rfl)) rfl rfl (by decide) rfl (Nat.le_of_ble_eq_true rfl) (Nat.zero_le _) (Nat.zero_le _) rfl ?_
    exact fh_iretE C T dX7_identity_14 (Or.inl rfl) (m_an.no RC (if_neg c5) (Or.inl rfl))
theorem r_laysRecurrent (e : A 144 = v) (hv : v_ok v) (hJ : s_J (v_L v) (v 0)) (hh : s_hp v) : fh_E mX7_laysRecurrent 4 [vR 143] A F (fun r A' F' => r = none ∧ F' = F ∧ (∀ j : Nat, j ≠ 148 → j ≠ 149 → j ≠ 151 → j ≠ 152 → A' j = A j) ∧ (∀ p : Int, 0 ≤ p → p < v 0 → A' 151 p = if p = 0 then 0 else r_w (v_L v) (v 0) 0 (fun _ => 0) p) ∧ ∀ p : Int, 0 ≤ p → p < v 0 → A' 152 p = if p = 0 then 0 else r_w (v_L v) (v 0) 0 (v_c v) p) := by
  have hn := hv.n
  have hg := hv.g
  have hq : (0 : Int) ≤ 0 ∧ (0 : Int) < v 0 := ⟨by omega, by omega⟩
  have hr := r_w_rec hg hn hq hJ (fun _ => 0)
  refine fh_E.of mi_X7_laysRecurrent (Nat.le_of_ble_eq_true rfl) ?_
  intro X C T
  have third : ∀ (m : Nat) (k : Int) (A1 : Nat → Int → Int), 0 ≤ k → k ≤ v 0 → v 0 - k < m → (∀ p : Int, 0 ≤ p → p < v 0 → p ≠ 0 → A1 148 p = r_w (v_L v) (v 0) 0 (v_c v) p) → (∀ p : Int, 0 ≤ p → p < v 0 → A1 151 p = if p = 0 then 0 else r_w (v_L v) (v 0) 0 (fun _ => 0) p) → (∀ p : Int, 0 ≤ p → p < k → A1 152 p = if p = 0 then 0 else r_w (v_L v) (v 0) 0 (v_c v) p) → (∀ j : Nat, j ≠ 148 → j ≠ 149 → j ≠ 151 → j ≠ 152 → A1 j = A j) → fc_W X 0 0 159 (fc_H A1 F) 54 [some (vR 143), some (vI k)] [] := by
    intro m
    induction m with
    | zero => intro k A1 z0 z1 z2; exfalso; omega
    | succ m ih =>
      intro k A1 z0 z1 z2 h8 h1 h2 frA
      refine fc_iload_n C dX7_laysRecurrent_54 rfl rfl ?_
      refine fc_aload_n C dX7_laysRecurrent_55 rfl rfl ?_
      refine fh_callV (y := mX7_many) C dX7_laysRecurrent_56 ml_X7_60 mi_X7_many im_X7_many se_X7_many (r_many ((frA 144 (by omega) (by omega) (by omega) (by omega)).trans e)) rfl rfl (by decide) rfl (Nat.le_of_ble_eq_true rfl) (Nat.zero_le _) (Nat.zero_le _) rfl ?_
      refine fc_icmp_ge (tgt := 88) C dX7_laysRecurrent_59 (by decide) (fc_Rm (by omega)) (fc_Rm (by omega)) (fun c59 => ?_) (fun c59 => ?_)
      · exact fh_vretE C T dX7_laysRecurrent_88 ⟨rfl, rfl, frA, h1, fun p p0 p1 => h2 p p0 (by omega)⟩
      · have nxt : ∀ x : Int, x = (if k = 0 then 0 else r_w (v_L v) (v 0) 0 (v_c v) k) → fc_W X 0 0 159 (fc_H A1 F) 81 [some (vR 143), some (vI k)] [vL x, vI k, vR 152] := by
          intro x ex
          refine fh_lastore C dX7_laysRecurrent_81 (fun _ _ => rfl) (by omega) (by omega) (by decide) ?_
          refine fc_iinc C dX7_laysRecurrent_82 rfl (by decide) ?_
          refine fc_goto (tgt := 54) C dX7_laysRecurrent_85 (by decide) ?_
          refine ih (k + 1) _ (by omega) (by omega) (by omega) (fun p p0 p1 p2 => by rw [fa_n _ _ (by omega)]; exact h8 p p0 p1 p2) (fun p p0 p1 => by rw [fa_n _ _ (by omega)]; exact h1 p p0 p1) (fun p p0 p1 => ?_) (fun j j1 j2 j3 j4 => by rw [fa_n _ _ j4]; exact frA j j1 j2 j3 j4)
          rw [fa_s]
          unfold fc_set
          by_cases c : p = k
          · rw [if_pos c, ex, c]
          · rw [if_neg c]; exact h2 p p0 (by omega)
        refine fc_aload_n C dX7_laysRecurrent_62 rfl rfl ?_
        refine fh_getf C dX7_laysRecurrent_63 fl_X7_35 rfl rfl ?_
        refine fc_iload_n C dX7_laysRecurrent_66 rfl rfl ?_
        refine fc_iload_n C dX7_laysRecurrent_67 rfl rfl ?_
        refine fc_if_ne (tgt := 75) C dX7_laysRecurrent_68 (by decide) (fc_Rm (by omega)) (fun c68 => ?_) (fun c68 => ?_)
        · refine fc_aload_n C dX7_laysRecurrent_75 rfl rfl ?_
          refine fh_getf C dX7_laysRecurrent_76 fl_X7_22 rfl rfl ?_
          refine fc_iload_n C dX7_laysRecurrent_79 rfl rfl ?_
          refine fh_laload C dX7_laysRecurrent_80 (fun _ _ => rfl) (by omega) (by omega) (by decide) ?_
          exact nxt _ (by rw [if_neg c68]; exact h8 k z0 (by omega) c68)
        · refine fc_lconst (z := 0) C dX7_laysRecurrent_71 rfl ?_
          refine fc_goto (tgt := 81) C dX7_laysRecurrent_72 (by decide) ?_
          exact nxt 0 (by rw [if_pos (by omega)])
  have second : ∀ (m : Nat) (k : Int) (A1 : Nat → Int → Int), 0 ≤ k → k ≤ v 0 → v 0 - k < m → (∀ p : Int, 0 ≤ p → p < v 0 → A1 151 p = if p = 0 then 0 else r_w (v_L v) (v 0) 0 (fun _ => 0) p) → (∀ p : Int, 0 ≤ p → p < k → A1 148 p = if p = 0 then 0 else v_c v p + r_w (v_L v) (v 0) 0 (fun _ => 0) p) → (∀ j : Nat, j ≠ 148 → j ≠ 149 → j ≠ 151 → j ≠ 152 → A1 j = A j) → fc_W X 0 0 159 (fc_H A1 F) 6 [some (vR 143), some (vI k)] [] := by
    intro m
    induction m with
    | zero => intro k A1 z0 z1 z2; exfalso; omega
    | succ m ih =>
      intro k A1 z0 z1 z2 h1 h8 frA
      have e1 := (frA 144 (by omega) (by omega) (by omega) (by omega)).trans e
      refine fc_iload_n C dX7_laysRecurrent_6 rfl rfl ?_
      refine fc_aload_n C dX7_laysRecurrent_7 rfl rfl ?_
      refine fh_callV (y := mX7_many) C dX7_laysRecurrent_8 ml_X7_60 mi_X7_many im_X7_many se_X7_many (r_many e1) rfl rfl (by decide) rfl (Nat.le_of_ble_eq_true rfl) (Nat.zero_le _) (Nat.zero_le _) rfl ?_
      refine fc_icmp_ge (tgt := 47) C dX7_laysRecurrent_11 (by decide) (fc_Rm (by omega)) (fc_Rm (by omega)) (fun c11 => ?_) (fun c11 => ?_)
      · have h8' : ∀ p : Int, 0 ≤ p → p < v 0 → p ≠ 0 → A1 148 p = v_c v p + r_w (v_L v) (v 0) 0 (fun _ => 0) p := fun p p0 p1 p2 => by rw [h8 p p0 (by omega), if_neg p2]
        have hnn : ∀ p : Int, 0 ≤ p → p < v 0 → p ≠ 0 → 0 ≤ A1 148 p ∧ A1 148 p ≤ 1000000 := fun p p0 p1 p2 => by
          rw [h8' p p0 p1 p2]
          have h9 := hh p (by omega) p1
          have h10 := hv.2.2.2.1 p p0 (by omega)
          have h11 := hr.1 p p0 p1 p2
          have h12 := hr.2.1.b15 hg hn p p0 p1 p2
          have ec : v_c v p = v (26 + p) := rfl
          omega
        refine fc_aload_n C dX7_laysRecurrent_47 rfl rfl ?_
        refine fc_iconst C dX7_laysRecurrent_48 ?_
        refine fh_callVE (y := mX7_settlesAt) C dX7_laysRecurrent_49 ml_X7_163 mi_X7_settlesAt im_X7_settlesAt se_X7_settlesAt (r_settlesAt e1 hv hJ (q := 0) hq hnn) rfl rfl (by decide) rfl (Nat.le_of_ble_eq_true rfl) (Nat.zero_le _) (Nat.zero_le _) rfl ?_
        rintro r A2 F2 ⟨rfl, rfl, frB, g2, hg2, hz2⟩
        refine fc_eq (st' := []) rfl rfl ?_
        refine fc_iconst C dX7_laysRecurrent_52 ?_
        refine fc_istore_n C dX7_laysRecurrent_53 rfl (by decide) ?_
        refine third 6 0 A2 (by omega) (by omega) (by omega) ?_ (fun p p0 p1 => by rw [frB 151 (by omega) (by omega)]; exact h1 p p0 p1) (fun p p0 p1 => by omega) (fun j j1 j2 j3 j4 => by rw [frB j j1 j2]; exact frA j j1 j2 j3 j4)
        have hev : z_e0 (v_L v) (v 0) 0 (A1 148) (v_c v) := (z_e0.of h8').tr (((z_ev.e0 (z_ev.rf (L := v_L v) (n := v 0) (x := v_c v))).add (z_ev.e0 hr.2.2.2)).tr (z_e0.of fun p _ _ _ => by show v_c v p + 0 = v_c v p; omega))
        refine r_w_is hg hn hq hJ ((z_ev.e0 hz2.ev).tr hev) (hz2.st hg hn hJ) (z_NF.fz hg hn (hr.2.2.1.mono fun p p0 p1 p2 => ?_) hz2)
        rw [h8' p p0 p1 p2]
        have h9 : 0 ≤ v_c v p := hh p (by omega) p1
        omega
      · have nxt : ∀ x : Int, x = (if k = 0 then 0 else v_c v k + r_w (v_L v) (v 0) 0 (fun _ => 0) k) → fc_W X 0 0 159 (fc_H A1 F) 40 [some (vR 143), some (vI k)] [vL x, vI k, vR 148] := by
          intro x ex
          refine fh_lastore C dX7_laysRecurrent_40 (fun _ _ => rfl) (by omega) (by omega) (by decide) ?_
          refine fc_iinc C dX7_laysRecurrent_41 rfl (by decide) ?_
          refine fc_goto (tgt := 6) C dX7_laysRecurrent_44 (by decide) ?_
          refine ih (k + 1) _ (by omega) (by omega) (by omega) (fun p p0 p1 => by rw [fa_n _ _ (by omega)]; exact h1 p p0 p1) (fun p p0 p1 => ?_) (fun j j1 j2 j3 j4 => by rw [fa_n _ _ j1]; exact frA j j1 j2 j3 j4)
          rw [fa_s]
          unfold fc_set
          by_cases c : p = k
          · rw [if_pos c, ex, c]
          · rw [if_neg c]; exact h8 p p0 (by omega)
        refine fc_aload_n C dX7_laysRecurrent_14 rfl rfl ?_
        refine fh_getf C dX7_laysRecurrent_15 fl_X7_22 rfl rfl ?_
        refine fc_iload_n C dX7_laysRecurrent_18 rfl rfl ?_
        refine fc_iload_n C dX7_laysRecurrent_19 rfl rfl ?_
        refine fc_if_ne (tgt := 27) C dX7_laysRecurrent_20 (by decide) (fc_Rm (by omega)) (fun c20 => ?_) (fun c20 => ?_)
        · have hcb := hv.2.2.2.1 k z0 (by omega)
          refine fc_aload_n C dX7_laysRecurrent_27 rfl rfl ?_
          refine fc_iload_n C dX7_laysRecurrent_28 rfl rfl ?_
          refine fh_callV (y := mX7_chips) C dX7_laysRecurrent_29 ml_X7_126 mi_X7_chips im_X7_chips se_X7_chips (r_chips e1 ⟨z0, by omega⟩) rfl rfl (by decide) rfl (Nat.le_of_ble_eq_true rfl) (Nat.zero_le _) (Nat.zero_le _) rfl ?_
          refine fc_i2l C dX7_laysRecurrent_32 (fc_Rm (by omega)) ?_
          refine fc_aload_n C dX7_laysRecurrent_33 rfl rfl ?_
          refine fh_getf C dX7_laysRecurrent_34 fl_X7_32 rfl rfl ?_
          refine fc_iload_n C dX7_laysRecurrent_37 rfl rfl ?_
          refine fh_laload C dX7_laysRecurrent_38 (fun _ _ => rfl) (by omega) (by omega) (by decide) ?_
          refine fc_ladd C dX7_laysRecurrent_39 ?_
          exact nxt _ (by rw [if_neg c20, h1 k z0 (by omega), if_neg c20]; rfl)
        · refine fc_lconst (z := 0) C dX7_laysRecurrent_23 rfl ?_
          refine fc_goto (tgt := 40) C dX7_laysRecurrent_24 (by decide) ?_
          exact nxt 0 (by rw [if_pos (by omega)])
  refine fc_aload_n C dX7_laysRecurrent_0 rfl rfl ?_
  refine fh_callVE (y := mX7_laysIdentity) C dX7_laysRecurrent_1 ml_X7_230 mi_X7_laysIdentity im_X7_laysIdentity se_X7_laysIdentity (r_laysIdentity e hv hJ) rfl rfl (by decide) rfl (Nat.le_of_ble_eq_true rfl) (Nat.zero_le _) (Nat.zero_le _) rfl ?_
  rintro r A1 F1 ⟨rfl, rfl, frA, h1⟩
  refine fc_eq (st' := []) rfl rfl ?_
  refine fc_iconst C dX7_laysRecurrent_4 ?_
  refine fc_istore_n C dX7_laysRecurrent_5 rfl (by decide) ?_
  exact second 6 0 A1 (by omega) (by omega) (by omega) h1 (fun p p0 p1 => by omega) (fun j j1 j2 j3 _ => frA j j1 j2 j3)
theorem q_recurrent (RC : m_RC A F v ps st rf tx tl) {p : Int} (hp : fc_R p) : fh_E mX7_recurrent 5 [vR 143, vI p] A F (m_an A F (x_rc v p) (a_rc v (v_c v) p) v ps st rf tx tl) := by
  obtain ⟨e, hv, -, -, -, hm⟩ := id RC
  have hn := hv.n
  refine fh_E.of mi_X7_recurrent (Nat.le_of_ble_eq_true rfl) ?_
  intro X C T
  refine fc_aload_n C dX7_recurrent_0 rfl rfl ?_
  refine fc_iload_n C dX7_recurrent_1 rfl rfl ?_
  refine fh_callV (y := mX7_isPoint) C dX7_recurrent_2 ml_X7_89 mi_X7_isPoint im_X7_isPoint se_X7_isPoint (r_isPoint e hn hp) rfl rfl (by decide) rfl (Nat.le_of_ble_eq_true rfl) (Nat.zero_le _) (Nat.zero_le _) rfl ?_
  refine fc_if_ne (tgt := 15) C dX7_recurrent_5 (by decide) (fc_ind_R _) (fun c5 => ?_) (fun c5 => ?_)
  · have c5 := fc_ind_ne c5
    have no : ¬ (s_J (v_L v) (v 0) ∧ s_hp v) → fc_W X 0 0 159 (fc_H A F) 29 [some (vR 143), some (vI p)] [] := by
      intro h
      refine fc_aload_n C dX7_recurrent_29 rfl rfl ?_
      refine fc_bipush C dX7_recurrent_30 (by decide) ?_
      refine fh_callV (y := mX7_refuses) C dX7_recurrent_32 ml_X7_80 mi_X7_refuses im_X7_refuses se_X7_refuses (r_refuses (Or.inr (Or.inl rfl))) rfl rfl (by decide) rfl (Nat.le_of_ble_eq_true rfl) (Nat.zero_le _) (Nat.zero_le _) rfl ?_
      exact fh_iretE C T dX7_recurrent_35 (Or.inl rfl) (m_an.no RC (by unfold x_rc; rw [if_pos c5, if_neg (by rw [fc_ind_f h]; decide)]) (Or.inr (Or.inl rfl)))
    refine fc_aload_n C dX7_recurrent_15 rfl rfl ?_
    refine fh_callV (y := mX7_isJoined) C dX7_recurrent_16 ml_X7_118 mi_X7_isJoined im_X7_isJoined se_X7_isJoined (r_isJoined e hn hv.g) rfl rfl (by decide) rfl (Nat.le_of_ble_eq_true rfl) (Nat.zero_le _) (Nat.zero_le _) rfl ?_
    refine fc_if_eq (tgt := 29) C dX7_recurrent_19 (by decide) (fc_ind_R _) (fun c19 => ?_) (fun c19 => ?_)
    · have c19 := fc_ind_0 c19
      exact no (fun h => c19 h.1)
    · have hJ := fc_ind_ne c19
      refine fc_aload_n C dX7_recurrent_22 rfl rfl ?_
      refine fh_callV (y := mX7_isHeap) C dX7_recurrent_23 ml_X7_157 mi_X7_isHeap im_X7_isHeap se_X7_isHeap (r_isHeap e hv) rfl rfl (by decide) rfl (Nat.le_of_ble_eq_true rfl) (Nat.zero_le _) (Nat.zero_le _) rfl ?_
      refine fc_if_ne (tgt := 36) C dX7_recurrent_26 (by decide) (fc_ind_R _) (fun c26 => ?_) (fun c26 => ?_)
      · have hh := fc_ind_ne c26
        have hx : x_rc v p = 0 := by unfold x_rc; rw [if_pos c5, if_pos (fc_ind_t ⟨hJ, hh⟩)]
        refine fc_aload_n C dX7_recurrent_36 rfl rfl ?_
        refine fh_callVE (y := mX7_laysRecurrent) C dX7_recurrent_37 ml_X7_233 mi_X7_laysRecurrent im_X7_laysRecurrent se_X7_laysRecurrent (r_laysRecurrent e hv hJ hh) rfl rfl (by decide) rfl (Nat.le_of_ble_eq_true rfl) (Nat.zero_le _) (Nat.zero_le _) rfl ?_
        rintro r A1 F1 ⟨rfl, rfl, frA, h1, h2⟩
        refine fc_eq (st' := []) rfl rfl ?_
        refine fc_aload_n C dX7_recurrent_40 rfl rfl ?_
        refine fh_getf C dX7_recurrent_41 fl_X7_35 rfl rfl ?_
        refine fc_iload_n C dX7_recurrent_44 rfl rfl ?_
        refine fh_laload C dX7_recurrent_45 (fun _ _ => rfl) (by omega) (by omega) (by decide) ?_
        refine fc_l2i C dX7_recurrent_46 ?_
        refine fh_iretE C T dX7_recurrent_47 (Or.inl rfl) (m_an.yes RC (frA 144 (by omega) (by omega) (by omega) (by omega)) (hm.fr (frA 145 (by omega) (by omega) (by omega) (by omega)) (frA 147 (by omega) (by omega) (by omega) (by omega)) (frA 157 (by omega) (by omega) (by omega) (by omega)) rfl rfl) (fun i hi => ⟨frA i (by omega) (by omega) (by omega) (by omega), rfl⟩) hx ?_)
        rw [h2 p c5.1 c5.2]
        rfl
      · have c26 := fc_ind_0 c26
        exact no (fun h => c26 h.2)
  · have c5 := fc_ind_0 c5
    refine fc_aload_n C dX7_recurrent_8 rfl rfl ?_
    refine fc_bipush C dX7_recurrent_9 (by decide) ?_
    refine fh_callV (y := mX7_refuses) C dX7_recurrent_11 ml_X7_80 mi_X7_refuses im_X7_refuses se_X7_refuses (r_refuses (Or.inl rfl)) rfl rfl (by decide) rfl (Nat.le_of_ble_eq_true rfl) (Nat.zero_le _) (Nat.zero_le _) rfl ?_
    exact fh_iretE C T dX7_recurrent_14 (Or.inl rfl) (m_an.no RC (if_neg c5) (Or.inl rfl))
theorem r_isIdentity (e : A 144 = v) (hn : 2 ≤ v 0 ∧ v 0 ≤ 5) (h8 : ∀ p : Int, 0 ≤ p → p < v 0 → p ≠ 0 → -1000 ≤ A 148 p ∧ A 148 p ≤ 1000) (h1 : ∀ p : Int, 0 ≤ p → p < v 0 → p ≠ 0 → -1000 ≤ A 151 p ∧ A 151 p ≤ 1000) : fh_M mX7_isIdentity 1 [vR 143] A F (some (vI (fc_ind (∀ p : Int, 1 ≤ p → p < v 0 → A 148 p = A 151 p)))) A F := by
  refine fh_M.of mi_X7_isIdentity (Nat.le_of_ble_eq_true rfl) ?_
  intro X C T
  have loop : ∀ (m : Nat) (k b : Int), 1 ≤ k → k ≤ v 0 → v 0 - k < m → b = fc_ind (∀ p : Int, 1 ≤ p → p < k → A 148 p = A 151 p) → fc_W X 0 0 159 (fc_H A F) 4 [some (vR 143), some (vI b), some (vI k)] [] := by
    intro m
    induction m with
    | zero => intro k b z0 z1 z2; exfalso; omega
    | succ m ih =>
      intro k b z0 z1 z2 hb
      have hbR : fc_R b := by rw [hb]; exact fc_ind_R _
      refine fc_iload_n C dX7_isIdentity_4 rfl rfl ?_
      refine fc_aload_n C dX7_isIdentity_5 rfl rfl ?_
      refine fh_callV (y := mX7_many) C dX7_isIdentity_6 ml_X7_60 mi_X7_many im_X7_many se_X7_many (r_many e) rfl rfl (by decide) rfl (Nat.le_of_ble_eq_true rfl) (Nat.zero_le _) (Nat.zero_le _) rfl ?_
      refine fc_icmp_ge (tgt := 44) C dX7_isIdentity_9 (by decide) (fc_Rm (by omega)) (fc_Rm (by omega)) (fun c9 => ?_) (fun c9 => ?_)
      · refine fc_iload_n C dX7_isIdentity_44 rfl rfl ?_
        exact fh_zret C T dX7_isIdentity_45 (by rw [hb]; exact fc_ind_01 _) (by rw [hb, show k = v 0 by omega]) rfl
      · have nxt : ∀ x : Int, x = fc_ind (∀ p : Int, 1 ≤ p → p < k + 1 → A 148 p = A 151 p) → fc_W X 0 0 159 (fc_H A F) 37 [some (vR 143), some (vI b), some (vI k)] [vI x] := by
          intro x hx
          refine fc_istore_n C dX7_isIdentity_37 rfl (by decide) ?_
          refine fc_iinc C dX7_isIdentity_38 rfl (by decide) ?_
          refine fc_goto (tgt := 4) C dX7_isIdentity_41 (by decide) ?_
          exact ih (k + 1) x (by omega) (by omega) (by omega) hx
        have b8 := h8 k (by omega) (by omega) (by omega)
        have b1 := h1 k (by omega) (by omega) (by omega)
        refine fc_iload_n C dX7_isIdentity_12 rfl rfl ?_
        refine fc_if_eq (tgt := 36) C dX7_isIdentity_13 (by decide) (hbR) (fun c13 => ?_) (fun c13 => ?_)
        · refine fc_iconst C dX7_isIdentity_36 ?_
          have := fc_ind_0 (hb.symm.trans c13)
          exact nxt 0 (fc_ind_f (fun h => this (fun p p0 p1 => h p p0 (by omega)))).symm
        · have h9 := fc_ind_ne (P := ∀ p : Int, 1 ≤ p → p < k → A 148 p = A 151 p) (by rw [← hb]; exact c13)
          refine fc_aload_n C dX7_isIdentity_16 rfl rfl ?_
          refine fh_getf C dX7_isIdentity_17 fl_X7_22 rfl rfl ?_
          refine fc_iload_n C dX7_isIdentity_20 rfl rfl ?_
          refine fh_laload C dX7_isIdentity_21 (fun _ _ => rfl) (by omega) (by omega) (by decide) ?_
          refine fc_aload_n C dX7_isIdentity_22 rfl rfl ?_
          refine fh_getf C dX7_isIdentity_23 fl_X7_32 rfl rfl ?_
          refine fc_iload_n C dX7_isIdentity_26 rfl rfl ?_
          refine fh_laload C dX7_isIdentity_27 (fun _ _ => rfl) (by omega) (by omega) (by decide) ?_
          refine fc_lcmp C dX7_isIdentity_28 (fc_RLm (by omega)) (fc_RLm (by omega)) ?_
          refine fc_if_ne (tgt := 36) C dX7_isIdentity_29 (by decide) (fc_cmp_R _ _) (fun c29 => ?_) (fun c29 => ?_)
          · refine fc_iconst C dX7_isIdentity_36 ?_
            exact nxt 0 (fc_ind_f (fun h => c29 (fc_cmp_eq.2 (h k z0 (by omega))))).symm
          · have c29 := fc_cmp_eq.1 c29
            refine fc_iconst C dX7_isIdentity_32 ?_
            refine fc_goto (tgt := 37) C dX7_isIdentity_33 (by decide) ?_
            refine nxt 1 (fc_ind_t (fun p p0 p1 => ?_)).symm
            by_cases c : p = k
            · rw [c]; exact c29
            · exact h9 p p0 (by omega)
  refine fc_iconst C dX7_isIdentity_0 ?_
  refine fc_istore_n C dX7_isIdentity_1 rfl (by decide) ?_
  refine fc_iconst C dX7_isIdentity_2 ?_
  refine fc_istore_n C dX7_isIdentity_3 rfl (by decide) ?_
  exact loop 6 1 1 (by omega) (by omega) (by omega) (fc_ind_t (fun p p0 p1 => by omega)).symm
theorem r_orderNow (e : A 144 = v) (hv : v_ok v) (hJ : s_J (v_L v) (v 0)) (hh : s_hp v) : fh_E mX7_orderNow 5 [vR 143] A F (fun r A' F' => F' = F ∧ (∀ j : Nat, j ≠ 148 → j ≠ 149 → j ≠ 151 → j ≠ 152 → A' j = A j) ∧ ∃ k : Int, r = some (vI k) ∧ z_least (v_L v) (v 0) (v_c v) k) := by
  have hn := hv.n
  have hg := hv.g
  have hq : (0 : Int) ≤ 0 ∧ (0 : Int) < v 0 := ⟨by omega, by omega⟩
  have hr := r_w_rec hg hn hq hJ (fun _ => 0)
  have hrc := r_w_rec hg hn hq hJ (v_c v)
  have hT := d_T_pos hg hn hq hJ
  refine fh_E.of mi_X7_orderNow (Nat.le_of_ble_eq_true rfl) ?_
  intro X C T
  have main : ∀ (m : Nat) (k : Int) (A1 : Nat → Int → Int) (y : Option fc_AV), 1 ≤ k → k ≤ d_T (v_L v) (v 0) 0 → d_T (v_L v) (v 0) 0 - k < m → (∀ p : Int, 0 ≤ p → p < v 0 → A1 151 p = if p = 0 then 0 else r_w (v_L v) (v 0) 0 (fun _ => 0) p) → (∀ p : Int, 0 ≤ p → p < v 0 → A1 152 p = if p = 0 then 0 else r_w (v_L v) (v 0) 0 (v_c v) p) → (∀ p : Int, 0 ≤ p → p < v 0 → p ≠ 0 → A1 148 p = r_w (v_L v) (v 0) 0 (fun p => k * v_c v p) p) → (∀ j : Nat, j ≠ 148 → j ≠ 149 → j ≠ 151 → j ≠ 152 → A1 j = A j) → (∀ j : Int, 1 ≤ j → j < k → ¬ z_e0 (v_L v) (v 0) 0 (fun p => j * v_c v p) (fun _ => 0)) → fc_W X 0 0 159 (fc_H A1 F) 34 [some (vR 143), some (vI k), y] [] := by
    intro m
    induction m with
    | zero => intro k A1 y z0 z1 z2; exfalso; omega
    | succ m ih =>
      intro k A1 y z0 z1 z2 h1 h2 h8 frA hno
      have e1 := (frA 144 (by omega) (by omega) (by omega) (by omega)).trans e
      have hk := r_w_rec hg hn hq hJ (fun p => k * v_c v p)
      have eqv : (∀ p : Int, 1 ≤ p → p < v 0 → A1 148 p = A1 151 p) ↔ z_e0 (v_L v) (v 0) 0 (fun p => k * v_c v p) (fun _ => 0) := by
        constructor
        · intro h
          have := z_e0.of (L := v_L v) (n := v 0) (q := 0) (x := r_w (v_L v) (v 0) 0 (fun p => k * v_c v p)) (y := r_w (v_L v) (v 0) 0 (fun _ => 0)) (fun p p0 p1 p2 => by
            have := h p (by omega) p1
            rw [h8 p p0 p1 p2, h1 p p0 p1, if_neg p2] at this
            exact this)
          exact ((z_ev.e0 hk.2.2.2.sy).tr this).tr (z_ev.e0 hr.2.2.2)
        · intro h p p0 p1
          rw [h8 p (by omega) p1 (by omega), h1 p (by omega) p1, if_neg (by omega)]
          exact r_w_is hg hn hq hJ ((z_ev.e0 hk.2.2.2).tr h) hk.2.1 hk.2.2.1 p (by omega) p1 (by omega)
      refine fc_aload_n C dX7_orderNow_34 rfl rfl ?_
      refine fh_callV (y := mX7_isIdentity) C dX7_orderNow_35 ml_X7_236 mi_X7_isIdentity im_X7_isIdentity se_X7_isIdentity (r_isIdentity e1 hn (fun p p0 p1 p2 => by rw [h8 p p0 p1 p2]; have := hk.1 p p0 p1 p2; have := hk.2.1.b15 hg hn p p0 p1 p2; omega) (fun p p0 p1 p2 => by rw [h1 p p0 p1, if_neg p2]; have := hr.1 p p0 p1 p2; have := hr.2.1.b15 hg hn p p0 p1 p2; omega)) rfl rfl (by decide) rfl (Nat.le_of_ble_eq_true rfl) (Nat.zero_le _) (Nat.zero_le _) rfl ?_
      refine fc_if_ne (tgt := 83) C dX7_orderNow_38 (by decide) (fc_ind_R _) (fun c38 => ?_) (fun c38 => ?_)
      · have c38 := fc_ind_ne c38
        refine fc_iload_n C dX7_orderNow_83 rfl rfl ?_
        exact fh_iretE C T dX7_orderNow_84 (Or.inl rfl) ⟨rfl, frA, k, rfl, z0, eqv.1 c38, hno⟩
      · have c38 := fc_ind_0 c38
        have hne : ¬ z_e0 (v_L v) (v 0) 0 (fun p => k * v_c v p) (fun _ => 0) := fun z => c38 (eqv.2 z)
        have hkd : k < d_T (v_L v) (v 0) 0 := by
          apply Classical.byContradiction
          intro z
          apply hne
          rw [show k = d_T (v_L v) (v 0) 0 by omega, z_e0_dvd hg hn hq hJ]
          intro p p0 p1
          rw [d_sv_mul]
          exact Int.dvd_mul_right _ _
        have add : ∀ (m2 : Nat) (o : Int) (A2 : Nat → Int → Int), 0 ≤ o → o ≤ v 0 → v 0 - o < m2 → (∀ p : Int, 0 ≤ p → p < v 0 → A2 148 p = if p < o then A1 148 p + A1 152 p else A1 148 p) → (∀ j : Nat, j ≠ 148 → A2 j = A1 j) → fc_W X 0 0 159 (fc_H A2 F) 43 [some (vR 143), some (vI k), some (vI o)] [] := by
          intro m2
          induction m2 with
          | zero => intro o A2 q0 q1 q2; exfalso; omega
          | succ m2 ih2 =>
            intro o A2 q0 q1 q2 h82 frB
            have e2 := (frB 144 (by omega)).trans e1
            refine fc_iload_n C dX7_orderNow_43 rfl rfl ?_
            refine fc_aload_n C dX7_orderNow_44 rfl rfl ?_
            refine fh_callV (y := mX7_many) C dX7_orderNow_45 ml_X7_60 mi_X7_many im_X7_many se_X7_many (r_many e2) rfl rfl (by decide) rfl (Nat.le_of_ble_eq_true rfl) (Nat.zero_le _) (Nat.zero_le _) rfl ?_
            refine fc_icmp_ge (tgt := 72) C dX7_orderNow_48 (by decide) (fc_Rm (by omega)) (fc_Rm (by omega)) (fun c48 => ?_) (fun c48 => ?_)
            · have h8' : ∀ p : Int, 0 ≤ p → p < v 0 → p ≠ 0 → A2 148 p = r_w (v_L v) (v 0) 0 (fun p => k * v_c v p) p + r_w (v_L v) (v 0) 0 (v_c v) p := fun p p0 p1 p2 => by rw [h82 p p0 p1, if_pos (by omega), h8 p p0 p1 p2, h2 p p0 p1, if_neg p2]
              refine fc_aload_n C dX7_orderNow_72 rfl rfl ?_
              refine fc_iconst C dX7_orderNow_73 ?_
              refine fh_callVE (y := mX7_settlesAt) C dX7_orderNow_74 ml_X7_163 mi_X7_settlesAt im_X7_settlesAt se_X7_settlesAt (r_settlesAt e2 hv hJ (q := 0) hq (fun p p0 p1 p2 => by rw [h8' p p0 p1 p2]; have := hk.1 p p0 p1 p2; have := hk.2.1.b15 hg hn p p0 p1 p2; have := hrc.1 p p0 p1 p2; have := hrc.2.1.b15 hg hn p p0 p1 p2; omega)) rfl rfl (by decide) rfl (Nat.le_of_ble_eq_true rfl) (Nat.zero_le _) (Nat.zero_le _) rfl ?_
              rintro r A3 F3 ⟨rfl, rfl, frC, g3, hg3, hz3⟩
              refine fc_eq (st' := []) rfl rfl ?_
              refine fc_iinc C dX7_orderNow_77 rfl (by decide) ?_
              refine fc_goto (tgt := 34) C dX7_orderNow_80 (by decide) ?_
              refine ih (k + 1) A3 _ (by omega) (by omega) (by omega) (fun p p0 p1 => by rw [frC 151 (by omega) (by omega), frB 151 (by omega)]; exact h1 p p0 p1) (fun p p0 p1 => by rw [frC 152 (by omega) (by omega), frB 152 (by omega)]; exact h2 p p0 p1) ?_ (fun j j1 j2 j3 j4 => by rw [frC j j1 j2, frB j j1]; exact frA j j1 j2 j3 j4) (fun j j0 j1 => ?_)
              · have hev : z_e0 (v_L v) (v 0) 0 (A2 148) (fun p => (k + 1) * v_c v p) := (z_e0.of h8').tr (((z_ev.e0 hk.2.2.2).add (z_ev.e0 hrc.2.2.2)).tr (z_e0.of fun p _ _ _ => by show k * v_c v p + v_c v p = (k + 1) * v_c v p; rw [Int.add_mul, Int.one_mul]))
                refine r_w_is hg hn hq hJ ((z_ev.e0 hz3.ev).tr hev) (hz3.st hg hn hJ) (z_NF.fz hg hn (hk.2.2.1.mono fun p p0 p1 p2 => ?_) hz3)
                rw [h8' p p0 p1 p2]
                have := hrc.1 p p0 p1 p2
                omega
              · by_cases c : j = k
                · rw [c]; exact hne
                · exact hno j j0 (by omega)
            · refine fc_aload_n C dX7_orderNow_51 rfl rfl ?_
              refine fh_getf C dX7_orderNow_52 fl_X7_22 rfl rfl ?_
              refine fc_iload_n C dX7_orderNow_55 rfl rfl ?_
              refine fc_dup2 C dX7_orderNow_56 rfl rfl ?_
              refine fh_laload C dX7_orderNow_57 (fun _ _ => rfl) (by omega) (by omega) (by decide) ?_
              refine fc_aload_n C dX7_orderNow_58 rfl rfl ?_
              refine fh_getf C dX7_orderNow_59 fl_X7_35 rfl rfl ?_
              refine fc_iload_n C dX7_orderNow_62 rfl rfl ?_
              refine fh_laload C dX7_orderNow_63 (fun _ _ => rfl) (by omega) (by omega) (by decide) ?_
              refine fc_ladd C dX7_orderNow_64 ?_
              refine fh_lastore C dX7_orderNow_65 (fun _ _ => rfl) (by omega) (by omega) (by decide) ?_
              refine fc_iinc C dX7_orderNow_66 rfl (by decide) ?_
              refine fc_goto (tgt := 43) C dX7_orderNow_69 (by decide) ?_
              refine ih2 (o + 1) _ (by omega) (by omega) (by omega) (fun p p0 p1 => ?_) (fun j hj => by rw [fa_n _ _ hj]; exact frB j hj)
              rw [fa_s, h82 o q0 (by omega), if_neg (by omega), frB 152 (by omega)]
              unfold fc_set
              by_cases c : p = o
              · rw [if_pos c, if_pos (by omega), c]
              · rw [if_neg c, h82 p p0 p1]
                by_cases c2 : p < o
                · rw [if_pos c2, if_pos (show p < o + 1 by omega)]
                · rw [if_neg c2, if_neg (show ¬ p < o + 1 by omega)]
        refine fc_iconst C dX7_orderNow_41 ?_
        refine fc_istore_n C dX7_orderNow_42 rfl (by decide) ?_
        exact add 6 0 A1 (by omega) (by omega) (by omega) (fun p p0 p1 => by rw [if_neg (by omega)]) (fun _ _ => rfl)
  refine fc_aload_n C dX7_orderNow_0 rfl rfl ?_
  refine fh_callVE (y := mX7_laysRecurrent) C dX7_orderNow_1 ml_X7_233 mi_X7_laysRecurrent im_X7_laysRecurrent se_X7_laysRecurrent (r_laysRecurrent e hv hJ hh) rfl rfl (by decide) rfl (Nat.le_of_ble_eq_true rfl) (Nat.zero_le _) (Nat.zero_le _) rfl ?_
  rintro r A1 F1 ⟨rfl, rfl, frA, h1, h2⟩
  refine fc_eq (st' := []) rfl rfl ?_
  have cp : ∀ (m : Nat) (k : Int) (A2 : Nat → Int → Int), 0 ≤ k → k ≤ v 0 → v 0 - k < m → (∀ p : Int, 0 ≤ p → p < k → A2 148 p = A1 152 p) → (∀ j : Nat, j ≠ 148 → A2 j = A1 j) → fc_W X 0 0 159 (fc_H A2 F1) 6 [some (vR 143), some (vI k), none] [] := by
    intro m
    induction m with
    | zero => intro k A2 z0 z1 z2; exfalso; omega
    | succ m ih =>
      intro k A2 z0 z1 z2 h8 frB
      refine fc_iload_n C dX7_orderNow_6 rfl rfl ?_
      refine fc_aload_n C dX7_orderNow_7 rfl rfl ?_
      refine fh_callV (y := mX7_many) C dX7_orderNow_8 ml_X7_60 mi_X7_many im_X7_many se_X7_many (r_many (((frB 144 (by omega)).trans (frA 144 (by omega) (by omega) (by omega) (by omega))).trans e)) rfl rfl (by decide) rfl (Nat.le_of_ble_eq_true rfl) (Nat.zero_le _) (Nat.zero_le _) rfl ?_
      refine fc_icmp_ge (tgt := 32) C dX7_orderNow_11 (by decide) (fc_Rm (by omega)) (fc_Rm (by omega)) (fun c11 => ?_) (fun c11 => ?_)
      · refine fc_iconst C dX7_orderNow_32 ?_
        refine fc_istore_n C dX7_orderNow_33 rfl (by decide) ?_
        refine main (d_T (v_L v) (v 0) 0).toNat 1 A2 none (by omega) (by omega) (by omega) (fun p p0 p1 => by rw [frB 151 (by omega)]; exact h1 p p0 p1) (fun p p0 p1 => by rw [frB 152 (by omega)]; exact h2 p p0 p1) (fun p p0 p1 p2 => ?_) (fun j j1 j2 j3 j4 => by rw [frB j j1]; exact frA j j1 j2 j3 j4) (fun j j0 j1 => by omega)
        rw [h8 p p0 (by omega), h2 p p0 p1, if_neg p2, r_w_cg (x := fun p => 1 * v_c v p) (y := v_c v) (fun p _ _ => by show 1 * v_c v p = v_c v p; omega)]
      · refine fc_aload_n C dX7_orderNow_14 rfl rfl ?_
        refine fh_getf C dX7_orderNow_15 fl_X7_22 rfl rfl ?_
        refine fc_iload_n C dX7_orderNow_18 rfl rfl ?_
        refine fc_aload_n C dX7_orderNow_19 rfl rfl ?_
        refine fh_getf C dX7_orderNow_20 fl_X7_35 rfl rfl ?_
        refine fc_iload_n C dX7_orderNow_23 rfl rfl ?_
        refine fh_laload C dX7_orderNow_24 (fun _ _ => rfl) (by omega) (by omega) (by decide) ?_
        refine fh_lastore C dX7_orderNow_25 (fun _ _ => rfl) (by omega) (by omega) (by decide) ?_
        refine fc_iinc C dX7_orderNow_26 rfl (by decide) ?_
        refine fc_goto (tgt := 6) C dX7_orderNow_29 (by decide) ?_
        refine ih (k + 1) _ (by omega) (by omega) (by omega) (fun p p0 p1 => ?_) (fun j hj => by rw [fa_n _ _ hj]; exact frB j hj)
        rw [fa_s, frB 152 (by omega)]
        unfold fc_set
        by_cases c : p = k
        · rw [if_pos c, c]
        · rw [if_neg c]; exact h8 p p0 (by omega)
  refine fc_iconst C dX7_orderNow_4 ?_
  refine fc_istore_n C dX7_orderNow_5 rfl (by decide) ?_
  exact cp 6 0 A1 (by omega) (by omega) (by omega) (fun p p0 p1 => by omega) (fun _ _ => rfl)
theorem q_order (RC : m_RC A F v ps st rf tx tl) : fh_E mX7_order 6 [vR 143] A F (fun r A' F' => ∃ k : Int, (x_ord v = 0 → z_least (v_L v) (v 0) (v_c v) k) ∧ m_an A F (x_ord v) k v ps st rf tx tl r A' F') := by
  obtain ⟨e, hv, -, -, -, hm⟩ := id RC
  have hn := hv.n
  refine fh_E.of mi_X7_order (Nat.le_of_ble_eq_true rfl) ?_
  intro X C T
  have no : ¬ (s_J (v_L v) (v 0) ∧ s_hp v) → fc_W X 0 0 159 (fc_H A F) 21 [some (vR 143)] [] := by
    intro h
    have e3 : x_ord v = -3 := by unfold x_ord; rw [if_neg (by rw [fc_ind_f h]; decide)]
    refine fc_aload_n C dX7_order_21 rfl rfl ?_
    refine fc_bipush C dX7_order_22 (by decide) ?_
    refine fh_callV (y := mX7_refuses) C dX7_order_24 ml_X7_80 mi_X7_refuses im_X7_refuses se_X7_refuses (r_refuses (Or.inr (Or.inl rfl))) rfl rfl (by decide) rfl (Nat.le_of_ble_eq_true rfl) (Nat.zero_le _) (Nat.zero_le _) rfl ?_
    exact fh_iretE C T dX7_order_27 (Or.inl rfl) ⟨0, fun z => by rw [e3] at z; omega, m_an.no RC e3 (Or.inr (Or.inl rfl))⟩
  refine fc_aload_n C dX7_order_0 rfl rfl ?_
  refine fh_callV (y := mX7_isJoined) C dX7_order_1 ml_X7_118 mi_X7_isJoined im_X7_isJoined se_X7_isJoined (r_isJoined e hn hv.g) rfl rfl (by decide) rfl (Nat.le_of_ble_eq_true rfl) (Nat.zero_le _) (Nat.zero_le _) rfl ?_
  refine fc_if_eq (tgt := 21) C dX7_order_4 (by decide) (fc_ind_R _) (fun c4 => ?_) (fun c4 => ?_)
  · have c4 := fc_ind_0 c4
    exact no (fun h => c4 h.1)
  · have hJ := fc_ind_ne c4
    refine fc_aload_n C dX7_order_7 rfl rfl ?_
    refine fh_callV (y := mX7_isHeap) C dX7_order_8 ml_X7_157 mi_X7_isHeap im_X7_isHeap se_X7_isHeap (r_isHeap e hv) rfl rfl (by decide) rfl (Nat.le_of_ble_eq_true rfl) (Nat.zero_le _) (Nat.zero_le _) rfl ?_
    refine fc_if_eq (tgt := 21) C dX7_order_11 (by decide) (fc_ind_R _) (fun c11 => ?_) (fun c11 => ?_)
    · have c11 := fc_ind_0 c11
      exact no (fun h => c11 h.2)
    · have hh := fc_ind_ne c11
      have hx : x_ord v = 0 := by unfold x_ord; rw [if_pos (fc_ind_t ⟨hJ, hh⟩)]
      refine fc_aload_n C dX7_order_14 rfl rfl ?_
      refine fh_callVE (y := mX7_orderNow) C dX7_order_15 ml_X7_239 mi_X7_orderNow im_X7_orderNow se_X7_orderNow (r_orderNow e hv hJ hh) rfl rfl (by decide) rfl (Nat.le_of_ble_eq_true rfl) (Nat.zero_le _) (Nat.zero_le _) rfl ?_
      rintro r A1 F1 ⟨rfl, frA, k, rfl, hk⟩
      refine fc_eq (st' := [vI k]) rfl rfl ?_
      refine fc_goto (tgt := 27) C dX7_order_18 (by decide) ?_
      exact fh_iretE C T dX7_order_27 (Or.inl rfl) ⟨k, fun _ => hk, m_an.yes RC (frA 144 (by omega) (by omega) (by omega) (by omega)) (hm.fr (frA 145 (by omega) (by omega) (by omega) (by omega)) (frA 147 (by omega) (by omega) (by omega) (by omega)) (frA 157 (by omega) (by omega) (by omega) (by omega)) rfl rfl) (fun i hi => ⟨frA i (by omega) (by omega) (by omega) (by omega), rfl⟩) hx rfl⟩
theorem r_stableHeaps (e : A 144 = v) (hn : 2 ≤ v 0 ∧ v 0 ≤ 5) : fh_M mX7_stableHeaps 2 [vR 143] A F (some (vI (s_prod (s_val (v_L v) (v 0)) (v 0 - 1).toNat))) A F := by
  refine fh_M.of mi_X7_stableHeaps (Nat.le_of_ble_eq_true rfl) ?_
  intro X C T
  have loop : ∀ (m : Nat) (k : Int), 1 ≤ k → k ≤ v 0 → v 0 - k < m → fc_W X 0 0 159 (fc_H A F) 4 [some (vR 143), some (vI (s_prod (s_val (v_L v) (v 0)) (k - 1).toNat)), some (vI k)] [] := by
    intro m
    induction m with
    | zero => intro k z0 z1 z2; exfalso; omega
    | succ m ih =>
      intro k z0 z1 z2
      refine fc_iload_n C dX7_stableHeaps_4 rfl rfl ?_
      refine fc_aload_n C dX7_stableHeaps_5 rfl rfl ?_
      refine fh_callV (y := mX7_many) C dX7_stableHeaps_6 ml_X7_60 mi_X7_many im_X7_many se_X7_many (r_many e) rfl rfl (by decide) rfl (Nat.le_of_ble_eq_true rfl) (Nat.zero_le _) (Nat.zero_le _) rfl ?_
      refine fc_icmp_ge (tgt := 26) C dX7_stableHeaps_9 (by decide) (fc_Rm (by omega)) (fc_Rm (by omega)) (fun c9 => ?_) (fun c9 => ?_)
      · refine fc_iload_n C dX7_stableHeaps_26 rfl rfl ?_
        exact fh_iret C T dX7_stableHeaps_27 (by rw [show k = v 0 by omega]) rfl
      · refine fc_iload_n C dX7_stableHeaps_12 rfl rfl ?_
        refine fc_aload_n C dX7_stableHeaps_13 rfl rfl ?_
        refine fc_iload_n C dX7_stableHeaps_14 rfl rfl ?_
        refine fh_callV (y := mX7_valence) C dX7_stableHeaps_15 ml_X7_72 mi_X7_valence im_X7_valence se_X7_valence (r_valence e hn ⟨by omega, by omega⟩) rfl rfl (by decide) rfl (Nat.le_of_ble_eq_true rfl) (Nat.zero_le _) (Nat.zero_le _) rfl ?_
        refine fc_imul C dX7_stableHeaps_18 ?_
        refine fc_istore_n C dX7_stableHeaps_19 rfl (by decide) ?_
        refine fc_iinc C dX7_stableHeaps_20 rfl (by decide) ?_
        refine fc_goto (tgt := 4) C dX7_stableHeaps_23 (by decide) ?_
        have := ih (k + 1) (by omega) (by omega) (by omega)
        rw [show k + 1 - 1 = k by omega, s_prod_step z0] at this
        exact this
  refine fc_iconst C dX7_stableHeaps_0 ?_
  refine fc_istore_n C dX7_stableHeaps_1 rfl (by decide) ?_
  refine fc_iconst C dX7_stableHeaps_2 ?_
  refine fc_istore_n C dX7_stableHeaps_3 rfl (by decide) ?_
  exact loop 6 1 (by omega) (by omega) (by omega)
end REF10
