/-! RankSearch -/
def z_cx (L : Int → Int → Int) (n : Int) (x c : Int → Int) : Prop := (∀ p : Int, 0 ≤ p → p < n → p ≠ 0 → 0 ≤ c p) ∧ z_st L n 0 c ∧ z_NF L n 0 c ∧ z_ev L n c (fun p => s_val L n p - 1 - x p)
def z_e0n (n : Int) (e : Int → Int) : Prop := ∀ p : Int, 0 ≤ p → p < n → 0 ≤ e p
def z_at (L : Int → Int → Int) (n : Int) (x : Int → Int) (k l l' : Int) : Prop := l' = l ∨ ∃ e y : Int → Int, z_e0n n e ∧ e 0 = 0 ∧ z_ss L n 0 y ∧ z_ev L n y (fun p => x p - e p) ∧ l' = k + fs_sum e n.toNat + z_mx (y 0)
def z_hd (L : Int → Int → Int) (n : Int) (x : Int → Int) (k fr p l' : Int) : Prop := ∀ e y : Int → Int, z_e0n n e → (∀ o : Int, 0 ≤ o → o < fr → e o = 0) → (∃ o : Int, 0 ≤ o ∧ o < p ∧ 1 ≤ e o) → z_ss L n 0 y → z_ev L n y (fun p => x p - e p) → l' ≤ k + fs_sum e n.toNat + z_mx (y 0)
def z_to (L : Int → Int → Int) (n : Int) (x : Int → Int) (k l fr p l' : Int) : Prop := l' ≤ l ∧ -1 ≤ l' ∧ z_at L n x k l l' ∧ z_hd L n x k fr p l'
def z_d1 (x : Int → Int) (p : Int) : Int → Int := fun o => x o - (if o = p then 1 else 0)
section RANK
variable {L : Int → Int → Int} {n : Int}
theorem z_cx.ss {x c : Int → Int} (h : z_cx L n x c) : z_ss L n 0 (fun p => s_val L n p - 1 - c p) ∧ z_ev L n (fun p => s_val L n p - 1 - c p) x := by
  refine ⟨z_ss.of_c h.2.1 h.2.2.1, ?_⟩
  exact ((z_ev.rf (L := L) (n := n) (x := fun p => s_val L n p - 1)).sub h.2.2.2).tr (z_ev.of fun p _ _ => by show s_val L n p - 1 - (s_val L n p - 1 - x p) = x p; omega)
theorem z_cx.congr {x c c' : Int → Int} (h : z_cx L n x c) (e : ∀ p : Int, 0 ≤ p → p < n → c' p = c p) : z_cx L n x c' :=
  ⟨fun p p0 p1 p2 => by rw [e p p0 p1]; exact h.1 p p0 p1 p2, fun p p0 p1 p2 => by rw [e p p0 p1]; exact h.2.1 p p0 p1 p2, h.2.2.1.mono (fun p p0 p1 _ => by rw [e p p0 p1]; exact Int.le_refl _), (z_ev.of e).tr h.2.2.2⟩
theorem z_cx.step (hg : g_ok L) (hn : 2 ≤ n ∧ n ≤ 5) (hJ : s_J L n) {x c z g w f : Int → Int} {p : Int} (h : z_cx L n x c) (hz : ∀ o : Int, 0 ≤ o → o < n → z o = c o + (if o = p then 1 else 0)) (hf : s_fin L n 0 z g w f) : z_cx L n (z_d1 x p) w := by
  refine ⟨hf.nn, hf.st hg hn hJ, z_NF.fin hg hn (h.2.2.1.mono fun o o0 o1 _ => ?_) hf, ?_⟩
  · rw [hz o o0 o1]; split <;> omega
  · have e := h.2.2.2.add (z_ev.rf (L := L) (n := n) (x := fun o => if o = p then 1 else 0))
    refine (hf.ev.tr (z_ev.of hz)).tr (e.tr (z_ev.of fun o _ _ => ?_))
    show s_val L n o - 1 - x o + (if o = p then 1 else 0) = s_val L n o - 1 - (x o - (if o = p then 1 else 0))
    omega
theorem z_cx.bd (hg : g_ok L) (hn : 2 ≤ n ∧ n ≤ 5) {x c : Int → Int} (h : z_cx L n x c) (hx : -20 ≤ fs_sum x n.toNat ∧ fs_sum x n.toNat ≤ 20) : (∀ p : Int, 0 ≤ p → p < n → p ≠ 0 → 0 ≤ c p ∧ c p ≤ 15) ∧ -1000 ≤ c 0 ∧ c 0 ≤ 1000 := by
  have hv : ∀ p : Int, 0 ≤ p → p < n → 0 ≤ s_val L n p ∧ s_val L n p ≤ 15 := fun p p0 p1 => s_val_bd hg (by omega) hn.2 p0 (by omega)
  have h1 : ∀ p : Int, 0 ≤ p → p < n → p ≠ 0 → 0 ≤ c p ∧ c p ≤ 15 := fun p p0 p1 p2 => by
    have := h.1 p p0 p1 p2
    have := h.2.1 p p0 p1 p2
    have := hv p p0 p1
    omega
  have h2 := h.2.2.2.deg hg hn
  have h3 : fs_sum (fun p => s_val L n p - 1 - x p) n.toNat = fs_sum (fun p => s_val L n p - 1) n.toNat - fs_sum x n.toNat := fs_sum_sub
  have h4 := fs_sum5 (f := fun p => s_val L n p - 1) (n := n) (B := 15) (by omega) (by omega) (fun p p0 p1 => by have := hv p p0 p1; omega)
  have h5 : fs_sum (fun p => c p - (if p = 0 then c 0 else 0)) n.toNat = fs_sum c n.toNat - c 0 := by rw [fs_sum_sub, fs_sum_one (by omega) (by omega)]
  have h6 := fs_sum5 (f := fun p => c p - (if p = 0 then c 0 else 0)) (n := n) (B := 15) (by omega) (by omega) (fun p p0 p1 => by
    by_cases e : p = 0
    · rw [if_pos e, e]; omega
    · rw [if_neg e]; have := h1 p p0 p1 e; omega)
  exact ⟨h1, by omega, by omega⟩
theorem z_hd.big {x : Int → Int} {k fr p l' : Int} (hp : p ≤ n) (h : l' ≤ k) : z_hd L n x k fr p l' := by
  intro e y h1 h2 h3 h4 h5
  obtain ⟨o, o0, o1, o2⟩ := h3
  have := fs_sum_mem (f := e) (m := n.toNat) (k := o) (fun j j0 j1 => h1 j j0 (by omega)) o0 (by omega)
  have := z_mx_ge (y 0)
  omega
theorem z_to_step (hg : g_ok L) (hn : 2 ≤ n ∧ n ≤ 5) {x y' : Int → Int} {k l lc l2 l3 fr p : Int} (hp : 1 ≤ p ∧ p < n) (hfr : fr ≤ p) (T0 : z_to L n x k l fr p lc) (ss : z_ss L n 0 y') (ev : z_ev L n y' (z_d1 x p)) (e2 : l2 = if k + 1 + z_mx (y' 0) < lc then k + 1 + z_mx (y' 0) else lc) (T : z_to L n (z_d1 x p) (k + 1) l2 p n l3) : z_to L n x k l fr (p + 1) l3 := by
  obtain ⟨a1, a2, a3, a4⟩ := T0
  obtain ⟨b1, b2, b3, b4⟩ := T
  have hl2 : l2 ≤ lc ∧ l2 ≤ k + 1 + z_mx (y' 0) ∧ (l2 = lc ∨ l2 = k + 1 + z_mx (y' 0)) := by rw [e2]; split <;> omega
  have s1 : fs_sum (fun o => if o = p then 1 else 0) n.toNat = 1 := fs_sum_one (by omega) (by omega)
  refine ⟨by omega, b2, ?_, ?_⟩
  · rcases b3 with c | ⟨e, y, c1, c2, c3, c4, c5⟩
    · rcases hl2.2.2 with d | d
      · rw [c, d]; exact a3
      · refine Or.inr ⟨fun o => if o = p then 1 else 0, y', fun o _ _ => by show 0 ≤ (if o = p then (1 : Int) else 0); split <;> omega, if_neg (by omega), ss, ev, ?_⟩
        rw [s1, c, d]
    · refine Or.inr ⟨fun o => e o + (if o = p then 1 else 0), y, fun o o0 o1 => ?_, ?_, c3, c4.tr (z_ev.of fun o _ _ => ?_), ?_⟩
      · have := c1 o o0 o1
        show 0 ≤ e o + (if o = p then (1 : Int) else 0)
        split <;> omega
      · show e 0 + (if (0 : Int) = p then (1 : Int) else 0) = 0
        rw [if_neg (by omega), c2]; rfl
      · show x o - (if o = p then 1 else 0) - e o = x o - (e o + (if o = p then 1 else 0))
        omega
      · rw [fs_sum_add, s1]; omega
  · intro e y h1 h2 h3 h4 h5
    rcases Classical.em (∃ o : Int, 0 ≤ o ∧ o < p ∧ 1 ≤ e o) with c | c
    · have := a4 e y h1 h2 c h4 h5
      omega
    · have h0 : ∀ o : Int, 0 ≤ o → o < p → e o = 0 := fun o o0 o1 => by
        have := h1 o o0 (by omega)
        rcases Classical.em (1 ≤ e o) with d | d
        · exact absurd ⟨o, o0, o1, d⟩ c
        · omega
      have hep : 1 ≤ e p := by
        obtain ⟨o, o0, o1, o2⟩ := h3
        by_cases d : o = p
        · rw [← d]; exact o2
        · exact absurd ⟨o, o0, by omega, o2⟩ c
      have he' : z_e0n n (fun o => e o - (if o = p then 1 else 0)) := fun o o0 o1 => by
        have := h1 o o0 o1
        show 0 ≤ e o - (if o = p then (1 : Int) else 0)
        by_cases d : o = p
        · rw [if_pos d, d]; omega
        · rw [if_neg d]; omega
      have hev : z_ev L n y (fun o => z_d1 x p o - (fun o => e o - (if o = p then 1 else 0)) o) := h5.tr (z_ev.of fun o _ _ => by
        show x o - e o = x o - (if o = p then 1 else 0) - (e o - (if o = p then 1 else 0))
        omega)
      have hs : fs_sum (fun o => e o - (if o = p then 1 else 0)) n.toNat = fs_sum e n.toNat - 1 := by rw [fs_sum_sub, s1]
      rcases Classical.em (∃ o : Int, 0 ≤ o ∧ o < n ∧ 1 ≤ e o - (if o = p then 1 else 0)) with d | d
      · have := b4 _ y he' (fun o o0 o1 => by
          show e o - (if o = p then (1 : Int) else 0) = 0
          rw [if_neg (by omega), h0 o o0 o1]; rfl) d h4 hev
        rw [hs] at this
        omega
      · have hz : ∀ o : Int, 0 ≤ o → o < n → e o - (if o = p then 1 else 0) = 0 := fun o o0 o1 => by
          have h9 : 0 ≤ e o - (if o = p then 1 else 0) := he' o o0 o1
          rcases Classical.em (1 ≤ e o - (if o = p then 1 else 0)) with g | g
          · exact absurd ⟨o, o0, o1, g⟩ d
          · omega
        have e0 : fs_sum (fun o => e o - (if o = p then 1 else 0)) n.toNat = 0 := by
          rw [fs_sum_congr (g := fun _ => 0) (fun o o0 o1 => hz o o0 (by omega)), fs_sum_zero]
        have hy : z_ev L n y y' := (hev.tr (z_ev.of fun o o0 o1 => by
          show z_d1 x p o - (e o - (if o = p then 1 else 0)) = z_d1 x p o
          rw [hz o o0 o1, Int.sub_zero])).tr ev.sy
        have := h4.uniq hg hn ⟨by omega, by omega⟩ ss hy 0 (by omega) (by omega)
        rw [this]
        omega
theorem fS_124 {k : Nat} (h : k < 14) : ∀ (a : Int → Int) (f : Nat → Int), fc_S (124 + k) a f = cI 5 a := by
  have hk : k = 0 ∨ k = 1 ∨ k = 2 ∨ k = 3 ∨ k = 4 ∨ k = 5 ∨ k = 6 ∨ k = 7 ∨ k = 8 ∨ k = 9 ∨ k = 10 ∨ k = 11 ∨ k = 12 ∨ k = 13 := by omega
  rcases hk with rfl | rfl | rfl | rfl | rfl | rfl | rfl | rfl | rfl | rfl | rfl | rfl | rfl | rfl <;> exact fun _ _ => rfl
theorem fg_124 {k : Nat} {kk : Int} (h : kk = k) : (some (124 + 1 * kk.toNat) : Option Nat) = some (124 + k) := by rw [h, Nat.one_mul, show ((k : Nat) : Int).toNat = k by omega]
theorem c_takeOff (hg : g_ok L) (hn : 2 ≤ n ∧ n ≤ 5) (hJ : s_J L n) {D : Int} (hD : 0 ≤ D ∧ D ≤ 12) : ∀ (m k : Nat) (kk : Int), kk = k → k + m = 13 → ∀ (A : Nat → Int → Int) (F : Nat → Nat → Int) (x : Int → Int) (fr : Int), k_mx A F n 0 L → -1 ≤ F 122 2 → F 122 2 ≤ 12 → 1 ≤ fr → fr ≤ n → fs_sum x n.toNat = D - kk → z_cx L n x (A (124 + k)) → fh_E mX4_takeOff (m + 2) [vR 122, vR 17, vI kk, vI fr] A F (fun r A' F' => r = none ∧ (∀ j : Nat, ¬ (124 + k < j ∧ j ≤ 138) → A' j = A j) ∧ (∀ j : Nat, j ≠ 122 → F' j = F j) ∧ z_to L n x kk (F 122 2) fr n (F' 122 2)) := by
  intro m
  induction m with
  | zero =>
    intro k kk hk hm A F x fr M hl0 hl1 hf0 hf1 hdx hcx
    obtain ⟨e6, e7, -⟩ := id M
    refine fh_E.of mi_X4_takeOff (Nat.le_of_ble_eq_true rfl) ?_
    intro X C T
    have post : z_to L n x kk (F 122 2) fr n (F 122 2) := ⟨Int.le_refl _, hl0, Or.inl rfl, z_hd.big (Int.le_refl _) (by omega)⟩
    refine fc_iload_n C dX4_takeOff_0 rfl rfl ?_
    refine fc_istore C dX4_takeOff_1 (by decide) ?_
    refine fc_iload C dX4_takeOff_3 rfl ?_
    refine fc_aload_n C dX4_takeOff_5 rfl rfl ?_
    refine fh_getf C dX4_takeOff_6 fl_X4_24 rfl rfl ?_
    refine fc_icmp_ge (tgt := 117) C dX4_takeOff_9 (by decide) (fc_Rm (by omega)) (fc_Rm (by omega)) (fun c9 => ?_) (fun c9 => ?_)
    · exact fh_vretE C T dX4_takeOff_117 ⟨rfl, fun _ _ => rfl, fun _ _ => rfl, post⟩
    · refine fc_iload_n C dX4_takeOff_12 rfl rfl ?_
      refine fc_aload_n C dX4_takeOff_13 rfl rfl ?_
      refine fh_getf C dX4_takeOff_14 fl_X4_20 rfl rfl ?_
      refine fc_icmp_ge (tgt := 31) C dX4_takeOff_17 (by decide) (fc_Rm (by omega)) (fc_Rm (by omega)) (fun c17 => ?_) (fun c17 => ?_)
      · exact fh_vretE C T dX4_takeOff_31 ⟨rfl, fun _ _ => rfl, fun _ _ => rfl, post⟩
      · exfalso; omega
  | succ m ih =>
    intro k kk hk hm A F x fr M hl0 hl1 hf0 hf1 hdx hcx
    refine fh_E.of mi_X4_takeOff (Nat.le_of_ble_eq_true rfl) ?_
    intro X C T
    have loop : ∀ (m2 : Nat) (p : Int) (A1 : Nat → Int → Int) (F1 : Nat → Nat → Int) (y5 y6 : Option fc_AV), fr ≤ p → p ≤ n → n - p < m2 → (∀ j : Nat, ¬ (124 + k < j ∧ j ≤ 138) → A1 j = A j) → (∀ j : Nat, j ≠ 122 → F1 j = F j) → z_to L n x kk (F 122 2) fr p (F1 122 2) → fc_W X 0 0 159 (fc_H A1 F1) 3 [some (vR 122), some (vR 17), some (vI kk), some (vI fr), some (vI p), y5, y6] [] := by
      intro m2
      induction m2 with
      | zero => intro p A1 F1 y5 y6 z0 z1 z2; exfalso; omega
      | succ m2 ih2 =>
        intro p A1 F1 y5 y6 z0 z1 z2 frA frF T0
        have M1 : k_mx A1 F1 n 0 L := M.fr hn (fun i i0 i1 => frA i (by omega)) (by rw [frF 17 (by omega)]) (by rw [frF 17 (by omega)])
        obtain ⟨e6, e7, -⟩ := id M1
        have hlc : -1 ≤ F1 122 2 ∧ F1 122 2 ≤ 12 := ⟨T0.2.1, Int.le_trans T0.1 hl1⟩
        refine fc_iload C dX4_takeOff_3 rfl ?_
        refine fc_aload_n C dX4_takeOff_5 rfl rfl ?_
        refine fh_getf C dX4_takeOff_6 fl_X4_24 rfl rfl ?_
        refine fc_icmp_ge (tgt := 117) C dX4_takeOff_9 (by decide) (fc_Rm (by omega)) (fc_Rm (by omega)) (fun c9 => ?_) (fun c9 => ?_)
        · have ep : p = n := by omega
          subst ep
          exact fh_vretE C T dX4_takeOff_117 ⟨rfl, frA, frF, T0⟩
        · refine fc_iload_n C dX4_takeOff_12 rfl rfl ?_
          refine fc_aload_n C dX4_takeOff_13 rfl rfl ?_
          refine fh_getf C dX4_takeOff_14 fl_X4_20 rfl rfl ?_
          refine fc_icmp_ge (tgt := 31) C dX4_takeOff_17 (by decide) (fc_Rm (by omega)) (fc_Rm (by omega)) (fun c17 => ?_) (fun c17 => ?_)
          · exact fh_vretE C T dX4_takeOff_31 ⟨rfl, frA, frF, T0.1, T0.2.1, T0.2.2.1, z_hd.big (Int.le_refl _) (by omega)⟩
          · refine fc_iload_n C dX4_takeOff_20 rfl rfl ?_
            refine fc_iconst C dX4_takeOff_21 ?_
            refine fc_iadd C dX4_takeOff_22 ?_
            refine fc_aload_n C dX4_takeOff_23 rfl rfl ?_
            refine fh_getf C dX4_takeOff_24 fl_X4_11 rfl rfl ?_
            refine fh_alenP C dX4_takeOff_27 (Or.inl rfl) rfl ?_
            refine fc_icmp_lt (tgt := 32) C dX4_takeOff_28 (by decide) (fc_Rm (by omega)) (fc_Rm (by omega)) (fun c28 => ?_) (fun c28 => ?_)
            · have hk12 : k < 13 := by omega
              refine fc_aload_n C dX4_takeOff_32 rfl rfl ?_
              refine fh_getf C dX4_takeOff_33 fl_X4_11 rfl rfl ?_
              refine fc_iload_n C dX4_takeOff_36 rfl rfl ?_
              refine fc_iconst C dX4_takeOff_37 ?_
              refine fc_iadd C dX4_takeOff_38 ?_
              refine fh_aaload C dX4_takeOff_39 (Or.inl rfl) rfl (by omega) (by omega) (by decide) (fg_124 (k := k + 1) (by omega)) ?_
              refine fc_astore C dX4_takeOff_40 (by decide) ?_
              refine fc_aload_n C dX4_takeOff_42 rfl rfl ?_
              refine fh_getf C dX4_takeOff_43 fl_X4_11 rfl rfl ?_
              refine fc_iload_n C dX4_takeOff_46 rfl rfl ?_
              refine fh_aaload C dX4_takeOff_47 (Or.inl rfl) rfl (by omega) (by omega) (by decide) (fg_124 (k := k) hk) ?_
              refine fc_aload C dX4_takeOff_48 rfl ?_
              refine fh_callSv (y := mX6_copyRow) C dX4_takeOff_50 ml_X4_51 mi_X6_copyRow st_X6_copyRow (c_copyRow (fS_124 (k := k) (by omega)) (fS_124 (k := k + 1) (by omega))) (by omega) rfl (Nat.le_of_ble_eq_true rfl) (Nat.zero_le _) (Nat.zero_le _) rfl ?_
              refine fc_aload C dX4_takeOff_53 rfl ?_
              refine fc_iload C dX4_takeOff_55 rfl ?_
              refine fc_dup2 C dX4_takeOff_57 rfl rfl ?_
              refine fh_iaload C dX4_takeOff_58 (fS_124 (k := k + 1) (by omega)) (by omega) (by omega) (by decide) ?_
              refine fc_iconst C dX4_takeOff_59 ?_
              refine fc_iadd C dX4_takeOff_60 ?_
              refine fh_iastore C dX4_takeOff_61 (fS_124 (k := k + 1) (by omega)) (by omega) (by omega) (by decide) ?_
              have hA2 : ∃ A2 : Nat → Int → Int, A2 = fa_up (fa_up A1 (124 + (k + 1)) (fc_cpy (A1 (124 + k)) (A1 (124 + (k + 1))) 5)) (124 + (k + 1)) (fc_set (fa_up A1 (124 + (k + 1)) (fc_cpy (A1 (124 + k)) (A1 (124 + (k + 1))) 5) (124 + (k + 1))) p (fa_up A1 (124 + (k + 1)) (fc_cpy (A1 (124 + k)) (A1 (124 + (k + 1))) 5) (124 + (k + 1)) p + 1)) := ⟨_, rfl⟩
              obtain ⟨A2, eA2⟩ := hA2
              have hA2n : ∀ j : Nat, j ≠ 124 + (k + 1) → A2 j = A1 j := fun j hj => by rw [eA2, fa_n _ _ hj, fa_n _ _ hj]
              have hA2s : ∀ o : Int, 0 ≤ o → o < n → A2 (124 + (k + 1)) o = A1 (124 + k) o + (if o = p then 1 else 0) := fun o o0 o1 => by
                rw [eA2, fa_s, fa_s]
                unfold fc_set
                by_cases e : o = p
                · rw [if_pos e, if_pos e, fc_cpy_in (by omega) (by omega), e]
                · rw [if_neg e, if_neg e, fc_cpy_in o0 (by omega), Int.add_zero]
              rw [← eA2]
              have M2 : k_mx A2 F1 n 0 L := M1.fr hn (fun i i0 i1 => hA2n i (by omega)) rfl rfl
              have ec : A1 (124 + k) = A (124 + k) := frA _ (by omega)
              have hbd := hcx.bd hg hn (by omega)
              obtain ⟨w, f, hf, hM⟩ := c_settleE M2 hg hn ⟨by omega, by omega⟩ hJ (i := 124 + (k + 1)) (j := 138) (fS_124 (k := k + 1) (by omega)) (by omega) (fun _ _ => rfl) (by omega) (by omega) (fun o o0 o1 o2 => by
                rw [hA2s o o0 o1, ec]
                have := hbd.1 o o0 o1 o2
                split <;> omega) (by
                rw [hA2s 0 (by omega) (by omega), ec, if_neg (by omega)]
                omega)
              refine fc_aload_n C dX4_takeOff_62 rfl rfl ?_
              refine fc_aload C dX4_takeOff_63 rfl ?_
              refine fc_aload_n C dX4_takeOff_65 rfl rfl ?_
              refine fh_getf C dX4_takeOff_66 fl_X4_16 rfl rfl ?_
              refine fh_callVv (y := mX1_settle) C dX4_takeOff_69 ml_X4_54 mi_X1_settle im_X1_settle se_X1_settle (hM) rfl rfl (by omega) rfl (Nat.le_of_ble_eq_true rfl) (Nat.zero_le _) (Nat.zero_le _) rfl ?_
              have hcx2 : z_cx L n (z_d1 x p) w := hcx.step hg hn hJ (p := p) (fun o o0 o1 => by rw [hA2s o o0 o1, ec]) hf
              have hdx2 : fs_sum (z_d1 x p) n.toNat = D - (kk + 1) := by
                unfold z_d1
                rw [fs_sum_sub, fs_sum_one (by omega) (by omega)]
                omega
              have hbd2 := hcx2.bd hg hn (by omega)
              have hA3n : ∀ j : Nat, ¬ (124 + k < j ∧ j ≤ 138) → fa_up (fa_up A2 (124 + (k + 1)) w) 138 f j = A1 j := fun j hj => by rw [fa_n _ _ (by omega), fa_n _ _ (by omega), hA2n j (by omega)]
              have hA3s : fa_up (fa_up A2 (124 + (k + 1)) w) 138 f (124 + (k + 1)) = w := by rw [fa_n _ _ (by omega), fa_s]
              generalize fa_up (fa_up A2 (124 + (k + 1)) w) 138 f = A3 at hA3n hA3s ⊢
              have M3 : k_mx A3 F1 n 0 L := M1.fr hn (fun i i0 i1 => hA3n i (by omega)) rfl rfl
              have hv0 := s_val_bd hg (n := n) (p := 0) (by omega) hn.2 (by omega) (by omega)
              have hSC := c_sinkChips M3 hn ⟨by omega, by omega⟩ (i := 124 + (k + 1)) (fS_124 (k := k + 1) (by omega))
              rw [hA3s] at hSC
              refine fc_aload_n C dX4_takeOff_72 rfl rfl ?_
              refine fc_aload C dX4_takeOff_73 rfl ?_
              refine fh_callV (y := mX1_sinkChipsOfComplement) C dX4_takeOff_75 ml_X4_37 mi_X1_sinkChipsOfComplement im_X1_sinkChipsOfComplement se_X1_sinkChipsOfComplement (hSC) rfl rfl (by omega) rfl (Nat.le_of_ble_eq_true rfl) (Nat.zero_le _) (Nat.zero_le _) rfl ?_
              refine fc_istore C dX4_takeOff_78 (by decide) ?_
              refine fc_aload_n C dX4_takeOff_80 rfl rfl ?_
              refine fc_aload_n C dX4_takeOff_81 rfl rfl ?_
              refine fh_getf C dX4_takeOff_82 fl_X4_20 rfl rfl ?_
              refine fc_iload_n C dX4_takeOff_85 rfl rfl ?_
              refine fc_iconst C dX4_takeOff_86 ?_
              refine fc_iadd C dX4_takeOff_87 ?_
              refine fc_iload C dX4_takeOff_88 rfl ?_
              refine fc_iconst C dX4_takeOff_90 ?_
              refine fh_callS (y := mJ9_max_7cf53) C dX4_takeOff_91 ml_X4_41 mi_J9_max_7cf53 st_J9_max_7cf53 (c_imax (fc_Rm (by omega)) (fc_Rm (by omega))) (by omega) rfl (Nat.le_of_ble_eq_true rfl) (Nat.zero_le _) (Nat.zero_le _) rfl ?_
              refine fc_iadd C dX4_takeOff_94 ?_
              refine fh_callS (y := mJ9_min_7cf53) C dX4_takeOff_95 ml_X4_57 mi_J9_min_7cf53 st_J9_min_7cf53 (c_imin (fc_Rm (by omega)) (fc_Rm (by have := z_mx_ge (s_val L n 0 - 1 - w 0); unfold z_mx at this; omega))) (by omega) rfl (Nat.le_of_ble_eq_true rfl) (Nat.zero_le _) (Nat.zero_le _) rfl ?_
              refine fh_putf _ C dX4_takeOff_98 fl_X4_20 rfl (Nat.le_of_ble_eq_true rfl) rfl rfl ?_
              have hm9 := z_mx_ge (s_val L n 0 - 1 - w 0)
              have hF2 : ∃ l2 : Int, l2 = (if kk + 1 + z_mx (s_val L n 0 - 1 - w 0) < F1 122 2 then kk + 1 + z_mx (s_val L n 0 - 1 - w 0) else F1 122 2) := ⟨_, rfl⟩
              obtain ⟨l2, el2⟩ := hF2
              have hl2 : -1 ≤ l2 ∧ l2 ≤ 12 := by rw [el2]; split <;> omega
              refine fc_heq (h' := fc_H A3 (ff_up F1 122 2 l2)) (by rw [el2]; rfl) ?_
              have eF2 : ff_up F1 122 2 l2 122 2 = l2 := by simp [ff_up]
              have M4 : k_mx A3 (ff_up F1 122 2 l2) n 0 L := M3.fr hn (fun _ _ _ => rfl) (by rw [ff_n (by omega)]) (by rw [ff_n (by omega)])
              have IH := ih (k + 1) (kk + 1) (by omega) (by omega) A3 (ff_up F1 122 2 l2) (z_d1 x p) p M4 (by rw [eF2]; exact hl2.1) (by rw [eF2]; exact hl2.2) (by omega) (by omega) hdx2 (by rw [hA3s]; exact hcx2)
              refine fc_aload_n C dX4_takeOff_101 rfl rfl ?_
              refine fc_aload_n C dX4_takeOff_102 rfl rfl ?_
              refine fc_iload_n C dX4_takeOff_103 rfl rfl ?_
              refine fc_iconst C dX4_takeOff_104 ?_
              refine fc_iadd C dX4_takeOff_105 ?_
              refine fc_iload C dX4_takeOff_106 rfl ?_
              refine fh_callVE (y := mX4_takeOff) C dX4_takeOff_108 ml_X4_47 mi_X4_takeOff im_X4_takeOff se_X4_takeOff (IH) rfl rfl (by omega) rfl (Nat.le_of_ble_eq_true rfl) (Nat.zero_le _) (Nat.zero_le _) rfl ?_
              rintro r A4 F4 ⟨rfl, frA4, frF4, T4⟩
              refine fc_eq (st' := []) rfl rfl ?_
              rw [eF2] at T4
              refine fc_iinc C dX4_takeOff_111 rfl (by decide) ?_
              refine fc_goto (tgt := 3) C dX4_takeOff_114 (by decide) ?_
              refine ih2 (p + 1) A4 F4 _ _ (by omega) (by omega) (by omega) (fun j hj => by rw [frA4 j (by omega), hA3n j hj, frA j hj]) (fun j hj => by rw [frF4 j hj, ff_n hj, frF j hj]) ?_
              exact z_to_step hg hn ⟨by omega, by omega⟩ z0 T0 hcx2.ss.1 hcx2.ss.2 el2 T4
            · exfalso; omega
    refine fc_iload_n C dX4_takeOff_0 rfl rfl ?_
    refine fc_istore C dX4_takeOff_1 (by decide) ?_
    have := loop 6 fr A F none none (Int.le_refl _) hf1 (by omega) (fun _ _ => rfl) (fun _ _ => rfl) ⟨Int.le_refl _, hl0, Or.inl rfl, fun e y h1 h2 h3 => by
      obtain ⟨o, o0, o1, o2⟩ := h3
      rw [h2 o o0 o1] at o2
      exfalso
      omega⟩
    exact this
theorem c_rankOf {A : Nat → Int → Int} {F : Nat → Nat → Int} (M : k_gw A F n 0 L) (hg : g_ok L) (hn : 2 ≤ n ∧ n ≤ 5) (hJ : s_J L n) (hx : ∀ p : Int, 0 ≤ p → p < n → -1500 ≤ A 142 p ∧ A 142 p ≤ 1500) (hd : fs_sum (A 142) n.toNat ≤ 12) {g : Int} (eg : g = s_lc L n - n + 1) : fh_E mX4_rankOf 16 [vR 122, vR 17, vR 142, vI g] A F (fun r A' F' => (∃ k : Int, r = some (vI k) ∧ z_rk L n (A 142) k) ∧ (∀ j : Nat, j ≠ 30 → j ≠ 33 → ¬ (124 ≤ j ∧ j ≤ 138) → A' j = A j) ∧ ∀ j : Nat, j ≠ 122 → F' j = F j) := by
  obtain ⟨e6, e7, -⟩ := id M.1
  have hdb := fs_sum5 (f := A 142) (n := n) (B := 1500) (by omega) (by omega) hx
  have hlc := s_lc_bd hg (n := n) (by omega) hn.2
  have hlc2 : 0 ≤ s_lc L n ∧ s_lc L n ≤ 75 := by
    unfold s_lc
    rw [Int.tdiv_eq_ediv_of_nonneg hlc.1]
    omega
  have hv0 := s_val_bd hg (n := n) (p := 0) (by omega) hn.2 (by omega) (by omega)
  refine fh_E.of mi_X4_rankOf (Nat.le_of_ble_eq_true rfl) ?_
  intro X C T
  refine fc_aload_n C dX4_rankOf_0 rfl rfl ?_
  refine fc_aload_n C dX4_rankOf_1 rfl rfl ?_
  refine fh_getf C dX4_rankOf_2 fl_X4_24 rfl rfl ?_
  refine fh_callS (y := mX6_degreeOf) C dX4_rankOf_5 ml_X4_29 mi_X6_degreeOf st_X6_degreeOf (c_degreeOf (i := 142) (n := F 17 6) (fun _ _ => rfl) (by omega) (by omega)) (by decide) rfl (Nat.le_of_ble_eq_true rfl) (Nat.zero_le _) (Nat.zero_le _) rfl ?_
  refine fc_istore C dX4_rankOf_8 (by decide) ?_
  refine fc_iload C dX4_rankOf_10 rfl ?_
  rw [e6]
  refine fc_if_ge (tgt := 17) C dX4_rankOf_12 (by decide) (fc_Rm (by omega)) (fun c12 => ?_) (fun c12 => ?_)
  · refine fc_iload C dX4_rankOf_17 rfl ?_
    refine fc_iconst C dX4_rankOf_19 ?_
    refine fc_iload_n C dX4_rankOf_20 rfl rfl ?_
    refine fc_imul C dX4_rankOf_21 ?_
    refine fc_iconst C dX4_rankOf_22 ?_
    refine fc_isub C dX4_rankOf_23 ?_
    refine fc_icmp_le (tgt := 32) C dX4_rankOf_24 (by decide) (fc_Rm (by omega)) (fc_Rm (by omega)) (fun c24 => ?_) (fun c24 => ?_)
    · refine fc_aload_n C dX4_rankOf_32 rfl rfl ?_
      refine fc_aload_n C dX4_rankOf_33 rfl rfl ?_
      refine fc_aload_n C dX4_rankOf_34 rfl rfl ?_
      refine fh_getf C dX4_rankOf_35 fl_X4_11 rfl rfl ?_
      refine fc_iconst C dX4_rankOf_38 ?_
      refine fh_aaload C dX4_rankOf_39 (Or.inl rfl) rfl (by omega) (by omega) (by decide) rfl ?_
      refine fh_callVE (y := mX1_makeRecurrentComplement) C dX4_rankOf_40 ml_X4_33 mi_X1_makeRecurrentComplement im_X1_makeRecurrentComplement se_X1_makeRecurrentComplement (c_makeRecurrentComplement M hg hn ⟨by omega, by omega⟩ hJ (i := 142) (j := 124) (fun _ _ => rfl) (fun _ _ => rfl) (by omega) (by omega) (by omega) (by omega) hx) rfl rfl (by decide) rfl (Nat.le_of_ble_eq_true rfl) (Nat.zero_le _) (Nat.zero_le _) rfl ?_
      rintro r A1 F1 ⟨rfl, rfl, ⟨w, hw, hw2⟩, fr1⟩
      refine fc_eq (st' := []) rfl rfl ?_
      have hr := r_mk_rec hg hn ⟨by omega, by omega⟩ hJ hw
      have hcx : z_cx L n (A 142) (A1 124) := z_cx.congr ⟨hr.1, hr.2.1, hr.2.2.1, hr.2.2.2⟩ hw2
      have hbd := hcx.bd hg hn (by omega)
      have M1 : k_mx A1 F1 n 0 L := M.1.fr hn (fun k k0 k1 => fr1 k (by omega) (by omega) (by omega)) rfl rfl
      refine fc_aload_n C dX4_rankOf_43 rfl rfl ?_
      refine fc_aload_n C dX4_rankOf_44 rfl rfl ?_
      refine fc_aload_n C dX4_rankOf_45 rfl rfl ?_
      refine fh_getf C dX4_rankOf_46 fl_X4_11 rfl rfl ?_
      refine fc_iconst C dX4_rankOf_49 ?_
      refine fh_aaload C dX4_rankOf_50 (Or.inl rfl) rfl (by omega) (by omega) (by decide) rfl ?_
      refine fh_callV (y := mX1_sinkChipsOfComplement) C dX4_rankOf_51 ml_X4_37 mi_X1_sinkChipsOfComplement im_X1_sinkChipsOfComplement se_X1_sinkChipsOfComplement (c_sinkChips M1 hn ⟨by omega, by omega⟩ (i := 124) (fun _ _ => rfl)) rfl rfl (by decide) rfl (Nat.le_of_ble_eq_true rfl) (Nat.zero_le _) (Nat.zero_le _) rfl ?_
      refine fc_iconst C dX4_rankOf_54 ?_
      refine fh_callS (y := mJ9_max_7cf53) C dX4_rankOf_55 ml_X4_41 mi_J9_max_7cf53 st_J9_max_7cf53 (c_imax (fc_Rm (by omega)) (fc_Rm (by omega))) (by decide) rfl (Nat.le_of_ble_eq_true rfl) (Nat.zero_le _) (Nat.zero_le _) rfl ?_
      refine fh_putf _ C dX4_rankOf_58 fl_X4_20 rfl (Nat.le_of_ble_eq_true rfl) rfl rfl ?_
      have hss := hcx.ss
      have hdeg := hss.2.deg hg hn
      have hle : s_val L n 0 - 1 - A1 124 0 ≤ fs_sum (A 142) n.toNat := by
        rw [← hdeg]
        have h1 := fs_sum_le (f := fun p => if p = 0 then s_val L n 0 - 1 - A1 124 0 else 0) (g := fun p => s_val L n p - 1 - A1 124 p) (m := n.toNat) (fun p p0 p1 => by
          by_cases e : p = 0
          · rw [if_pos e, e]; exact Int.le_refl _
          · rw [if_neg e]; exact hss.1.1 p p0 (by omega) e)
        rw [fs_sum_one (by omega) (by omega)] at h1
        exact h1
      have hm9 := z_mx_ge (s_val L n 0 - 1 - A1 124 0)
      refine fc_heq (h' := fc_H A1 (ff_up F1 122 2 (z_mx (s_val L n 0 - 1 - A1 124 0)))) rfl ?_
      have eF2 : ff_up F1 122 2 (z_mx (s_val L n 0 - 1 - A1 124 0)) 122 2 = z_mx (s_val L n 0 - 1 - A1 124 0) := by simp [ff_up]
      have M2 : k_mx A1 (ff_up F1 122 2 (z_mx (s_val L n 0 - 1 - A1 124 0))) n 0 L := M1.fr hn (fun _ _ _ => rfl) (by rw [ff_n (by omega)]) (by rw [ff_n (by omega)])
      refine fc_aload_n C dX4_rankOf_61 rfl rfl ?_
      refine fc_aload_n C dX4_rankOf_62 rfl rfl ?_
      refine fc_iconst C dX4_rankOf_63 ?_
      refine fc_iconst C dX4_rankOf_64 ?_
      refine fh_callVE (y := mX4_takeOff) C dX4_rankOf_65 ml_X4_47 mi_X4_takeOff im_X4_takeOff se_X4_takeOff (c_takeOff hg hn hJ (D := fs_sum (A 142) n.toNat) ⟨by omega, hd⟩ 13 0 0 rfl rfl A1 (ff_up F1 122 2 (z_mx (s_val L n 0 - 1 - A1 124 0))) (A 142) 1 M2 (by rw [eF2]; omega) (by rw [eF2]; omega) (by omega) (by omega) (by omega) hcx) rfl rfl (by decide) rfl (Nat.le_of_ble_eq_true rfl) (Nat.zero_le _) (Nat.zero_le _) rfl ?_
      rintro r A3 F3 ⟨rfl, frA3, frF3, T3⟩
      refine fc_eq (st' := []) rfl rfl ?_
      rw [eF2] at T3
      refine fc_aload_n C dX4_rankOf_68 rfl rfl ?_
      refine fh_getf C dX4_rankOf_69 fl_X4_20 rfl rfl ?_
      refine fh_iretE C T dX4_rankOf_72 (Or.inl rfl) ⟨⟨_, rfl, ?_⟩, fun j j0 j1 j2 => by rw [frA3 j (by omega), fr1 j (by omega) j0 j1], fun j hj => by rw [frF3 j hj, ff_n hj]⟩
      obtain ⟨t1, t2, t3, t4⟩ := T3
      refine z_rk_search hg hn hJ (fun e y h1 h2 h3 h4 => ?_) ?_
      · rcases Classical.em (∃ o : Int, 0 ≤ o ∧ o < n ∧ 1 ≤ e o) with c | c
        · have := t4 e y h1 (fun o o0 o1 => by rw [show o = 0 by omega]; exact h2) c h3 h4
          omega
        · have hz : ∀ o : Int, 0 ≤ o → o < n → e o = 0 := fun o o0 o1 => by
            have := h1 o o0 o1
            rcases Classical.em (1 ≤ e o) with d | d
            · exact absurd ⟨o, o0, o1, d⟩ c
            · omega
          have e0 : fs_sum e n.toNat = 0 := by rw [fs_sum_congr (g := fun _ => 0) (fun o o0 o1 => hz o o0 (by omega)), fs_sum_zero]
          have hy := h3.uniq hg hn ⟨by omega, by omega⟩ hss.1 ((h4.tr (z_ev.of fun o o0 o1 => by show A 142 o - e o = A 142 o; rw [hz o o0 o1, Int.sub_zero])).tr hss.2.sy) 0 (by omega) (by omega)
          rw [hy, e0]
          show F3 122 2 ≤ 0 + z_mx (s_val L n 0 - 1 - A1 124 0)
          omega
      · rcases t3 with c | ⟨e, y, c1, c2, c3, c4, c5⟩
        · refine ⟨fun _ => 0, _, fun _ _ _ => Int.le_refl _, rfl, hss.1, hss.2.tr (z_ev.of fun o _ _ => by show A 142 o = A 142 o - 0; omega), ?_⟩
          rw [fs_sum_zero, c]
          show z_mx _ = 0 + z_mx (s_val L n 0 - 1 - A1 124 0)
          omega
        · exact ⟨e, y, c1, c2, c3, c4, by omega⟩
    · refine fc_iload C dX4_rankOf_27 rfl ?_
      refine fc_iload_n C dX4_rankOf_29 rfl rfl ?_
      refine fc_isub C dX4_rankOf_30 ?_
      refine fh_iretE C T dX4_rankOf_31 (Or.inl rfl) ⟨⟨_, rfl, ?_⟩, fun _ _ _ _ => rfl, fun _ _ => rfl⟩
      rw [eg]
      exact z_rk_big hg hn hJ (by omega) (by omega)
  · refine fc_iconst C dX4_rankOf_15 ?_
    exact fh_iretE C T dX4_rankOf_16 (Or.inl rfl) ⟨⟨_, rfl, z_rk_neg hg hn (by omega)⟩, fun _ _ _ _ => rfl, fun _ _ => rfl⟩
end RANK
