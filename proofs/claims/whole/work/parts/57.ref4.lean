/-! the reference: settling -/
def s_fz (L : Int → Int → Int) (n q : Int) (z g x f : Int → Int) : Prop := ∃ K : Nat, (∀ k : Nat, k < K → (s_sw L n q (s_it L n q z g k).1 (s_it L n q z g k).2 n.toNat).2.2 = 1) ∧ (s_sw L n q (s_it L n q z g K).1 (s_it L n q z g K).2 n.toNat).2.2 = 0 ∧ (x, f) = s_it L n q z g (K + 1) ∧ s_al L n q z g x f ∧ ∀ p : Int, 0 ≤ p → p < n → ¬ s_can L n q x p
section FZ
variable {L : Int → Int → Int} {n q : Int}
theorem s_fin.fz {z g x f : Int → Int} (h : s_fin L n q z g x f) : s_fz L n q z g x f := by
  obtain ⟨K, -, h1⟩ := h
  exact ⟨K, h1⟩
theorem s_fz_ex (hg : g_ok L) (hn : 2 ≤ n ∧ n ≤ 5) (hq : 0 ≤ q ∧ q < n) (hJ : s_J L n) {z g : Int → Int} (hz : ∀ p : Int, 0 ≤ p → p < n → p ≠ q → 0 ≤ z p) : ∃ x f : Int → Int, s_fz L n q z g x f := by
  obtain ⟨h, hw, -⟩ := s_wt_ex hg hn hq hJ
  obtain ⟨K, hK, hmv, hst, he, hcan⟩ := s_end hg ⟨by omega, hn.2⟩ hq hw (z := z) (g := g) hz (N := (s_ph n h z).toNat) (by omega)
  refine ⟨(s_it L n q z g (K + 1)).1, (s_it L n q z g (K + 1)).2, K, hmv, hst, rfl, s_al.it hg ⟨by omega, hn.2⟩ hq hz (K + 1), ?_⟩
  rw [he]
  exact hcan
theorem s_fz.uniq (hn : 0 ≤ n) {z g x f z' g' x' f' : Int → Int} (h : s_fz L n q z g x f) (h' : s_fz L n q z' g' x' f') (hz : s_eqn n z z') (hg : s_eqn n g g') : s_eqn n x x' ∧ s_eqn n f f' := by
  obtain ⟨K, m1, s1, e1, -⟩ := h
  obtain ⟨K', m2, s2, e2, -⟩ := h'
  have cg : ∀ k : Nat, (s_sw L n q (s_it L n q z g k).1 (s_it L n q z g k).2 n.toNat).2.2 = (s_sw L n q (s_it L n q z' g' k).1 (s_it L n q z' g' k).2 n.toNat).2.2 := fun k => (s_sw_congr (L := L) (q := q) (s_it_congr hn hz hg k).1 (s_it_congr hn hz hg k).2 n.toNat (by omega)).2.2
  have eK : K = K' := by
    rcases Nat.lt_trichotomy K K' with h | h | h
    · have := m2 K h
      rw [← cg, s1] at this
      cases this
    · exact h
    · have := m1 K' h
      rw [cg, s2] at this
      cases this
  subst eK
  have := s_it_congr (L := L) (q := q) hn hz hg (K + 1)
  rw [← e1, ← e2] at this
  exact this
theorem s_al.b2 {z g x f : Int → Int} (h : s_al L n q z g x f) {T : Int} (hT : s_tot n q z ≤ T) : ∀ p : Int, 0 ≤ p → p < n → p ≠ q → 0 ≤ x p ∧ x p ≤ T := by
  intro p p0 p1 p2
  have h1 := fs_sum_mem (f := fun o => if o = q then 0 else x o) (m := n.toNat) (k := p) (fun j j0 j1 => by
    by_cases c : j = q
    · rw [if_pos c]; omega
    · rw [if_neg c]; exact h.1 j j0 (by omega) c) p0 (by omega)
  rw [if_neg p2] at h1
  have h2 := h.2.1
  unfold s_tot at h2 hT
  exact ⟨h.1 p p0 p1 p2, by omega⟩
theorem s_fz.b2 {z g x f : Int → Int} (h : s_fz L n q z g x f) {T : Int} (hT : s_tot n q z ≤ T) : ∀ p : Int, 0 ≤ p → p < n → p ≠ q → 0 ≤ x p ∧ x p ≤ T := by
  obtain ⟨K, -, -, -, ha, -⟩ := h
  exact ha.b2 hT
theorem s_fz.nn {z g x f : Int → Int} (h : s_fz L n q z g x f) : ∀ p : Int, 0 ≤ p → p < n → p ≠ q → 0 ≤ x p := by
  obtain ⟨K, -, -, -, ha, -⟩ := h
  exact ha.1
theorem s_fz.ev {z g x f : Int → Int} (h : s_fz L n q z g x f) : z_ev L n x z := by
  obtain ⟨K, -, -, -, ha, -⟩ := h
  exact ha.ev
theorem s_fz.st {z g x f : Int → Int} (hg : g_ok L) (hn : 2 ≤ n ∧ n ≤ 5) (hJ : s_J L n) (h : s_fz L n q z g x f) : z_st L n q x := by
  obtain ⟨K, -, -, -, -, hc⟩ := h
  intro p p0 p1 p2
  have h1 := s_J_val hg hn hJ p0 p1
  have h2 := hc p p0 p1
  apply Classical.byContradiction
  intro z
  exact h2 ⟨p2, h1, by omega⟩
theorem z_NF.fz (hg : g_ok L) (hn : 2 ≤ n ∧ n ≤ 5) {z g x f : Int → Int} (h : z_NF L n q z) (hf : s_fz L n q z g x f) : z_NF L n q x := by
  obtain ⟨K, -, -, he, -, -⟩ := hf
  have := h.it hg hn (g := g) (K + 1)
  rw [← he] at this
  exact this
end FZ
section REF4
variable {A : Nat → Int → Int} {F : Nat → Nat → Int} {v : Int → Int} {ps : Int → Int → Int} {st : Int} {rf tx : Int → Int} {tl : Int}
set_option maxHeartbeats 4000000 in
theorem r_settlesAt (e : A 144 = v) (hv : v_ok v) (hJ : s_J (v_L v) (v 0)) {q : Int} (hq : 0 ≤ q ∧ q < v 0) (hz : ∀ p : Int, 0 ≤ p → p < v 0 → p ≠ q → 0 ≤ A 148 p ∧ A 148 p ≤ 1000000) : fh_E mX7_settlesAt 2 [vR 143, vI q] A F (fun r A' F' => r = none ∧ F' = F ∧ (∀ j : Nat, j ≠ 148 → j ≠ 149 → A' j = A j) ∧ ∃ g : Int → Int, (∀ p : Int, 0 ≤ p → p < v 0 → g p = 0) ∧ s_fz (v_L v) (v 0) q (A 148) g (A' 148) (A' 149)) := by
  have hn := hv.n
  have hg := hv.g
  refine fh_E.of mi_X7_settlesAt (Nat.le_of_ble_eq_true rfl) ?_
  intro X C T
  have hz0 : ∀ p : Int, 0 ≤ p → p < v 0 → p ≠ q → 0 ≤ A 148 p := fun p p0 p1 p2 => (hz p p0 p1 p2).1
  have hT : s_tot (v 0) q (A 148) ≤ 5000000 := by
    have := fs_sum5 (f := fun o => if o = q then 0 else A 148 o) (n := v 0) (B := 1000000) (by omega) (by omega) (fun k k0 k1 => by
      by_cases c : k = q
      · rw [if_pos c]; omega
      · rw [if_neg c]; have := hz k k0 k1 c; omega)
    unfold s_tot
    omega
  have main : ∀ (A1 : Nat → Int → Int) (y3 y4 y5 y6 y7 : Option fc_AV), A1 148 = A 148 → (∀ p : Int, 0 ≤ p → p < v 0 → A1 149 p = 0) → (∀ j : Nat, j ≠ 148 → j ≠ 149 → A1 j = A j) → fc_W X 0 0 159 (fc_H A1 F) 25 [some (vR 143), some (vI q), some (vI 1), y3, y4, y5, y6, y7] [] := by
    intro A1 y3 y4 y5 y6 y7 e148 hg0 frA
    obtain ⟨xx, ff, hfz⟩ := s_fz_ex hg hn hq hJ (z := A 148) (g := A1 149) hz0
    obtain ⟨K, hmv, hst, hend, hal, hcan⟩ := id hfz
    have hb : ∀ (k m : Nat), (m : Int) ≤ v 0 → ∀ p : Int, 0 ≤ p → p < v 0 → p ≠ q → 0 ≤ (s_sw (v_L v) (v 0) q (s_it (v_L v) (v 0) q (A 148) (A1 149) k).1 (s_it (v_L v) (v 0) q (A 148) (A1 149) k).2 m).1 p ∧ (s_sw (v_L v) (v 0) q (s_it (v_L v) (v 0) q (A 148) (A1 149) k).1 (s_it (v_L v) (v 0) q (A 148) (A1 149) k).2 m).1 p ≤ 5000000 := fun k m hm => ((s_al.it hg ⟨by omega, hn.2⟩ hq hz0 k).step hg ⟨by omega, hn.2⟩ hq m hm).b2 hT
    have outer : ∀ (m t : Nat) (A2 : Nat → Int → Int) (y3 y4 y5 y6 y7 : Option fc_AV), t ≤ K → K - t < m → A2 148 = (s_it (v_L v) (v 0) q (A 148) (A1 149) t).1 → A2 149 = (s_it (v_L v) (v 0) q (A 148) (A1 149) t).2 → (∀ j : Nat, j ≠ 148 → j ≠ 149 → A2 j = A j) → fc_W X 0 0 159 (fc_H A2 F) 25 [some (vR 143), some (vI q), some (vI 1), y3, y4, y5, y6, y7] [] := by
      intro m
      induction m with
      | zero => intro t A2 y3 y4 y5 y6 y7 h0 h1; exfalso; omega
      | succ m ih =>
        intro t A2 y3 y4 y5 y6 y7 ht htm ex ef frB
        have hb2 := hb t
        have hmv2 : t < K → (s_sw (v_L v) (v 0) q (s_it (v_L v) (v 0) q (A 148) (A1 149) t).1 (s_it (v_L v) (v 0) q (A 148) (A1 149) t).2 (v 0).toNat).2.2 = 1 := hmv t
        have hst2 : t = K → (s_sw (v_L v) (v 0) q (s_it (v_L v) (v 0) q (A 148) (A1 149) t).1 (s_it (v_L v) (v 0) q (A 148) (A1 149) t).2 (v 0).toNat).2.2 = 0 := fun e => by rw [e]; exact hst
        have ens : s_it (v_L v) (v 0) q (A 148) (A1 149) (t + 1) = ((s_sw (v_L v) (v 0) q (s_it (v_L v) (v 0) q (A 148) (A1 149) t).1 (s_it (v_L v) (v 0) q (A 148) (A1 149) t).2 (v 0).toNat).1, (s_sw (v_L v) (v 0) q (s_it (v_L v) (v 0) q (A 148) (A1 149) t).1 (s_it (v_L v) (v 0) q (A 148) (A1 149) t).2 (v 0).toNat).2.1) := rfl
        generalize (s_it (v_L v) (v 0) q (A 148) (A1 149) t).1 = x1 at hb2 hmv2 hst2 ens ex
        generalize (s_it (v_L v) (v 0) q (A 148) (A1 149) t).2 = f1 at hb2 hmv2 hst2 ens ef
        have inner : ∀ (m2 : Nat) (k : Int) (A3 : Nat → Int → Int) (y4 y5 y6 y7 : Option fc_AV), 0 ≤ k → k ≤ v 0 → v 0 - k < m2 → A3 148 = (s_sw (v_L v) (v 0) q x1 f1 k.toNat).1 → A3 149 = (s_sw (v_L v) (v 0) q x1 f1 k.toNat).2.1 → (∀ j : Nat, j ≠ 148 → j ≠ 149 → A3 j = A j) → fc_W X 0 0 159 (fc_H A3 F) 33 [some (vR 143), some (vI q), some (vI (s_sw (v_L v) (v 0) q x1 f1 k.toNat).2.2), some (vI k), y4, y5, y6, y7] [] := by
          intro m2
          induction m2 with
          | zero => intro k A3 y4 y5 y6 y7 h0 h1 h2; exfalso; omega
          | succ m2 ih2 =>
            intro k A3 y4 y5 y6 y7 h0 h1 h2 ex3 ef3 frC
            have hbk := hb2 k.toNat (by omega)
            have e3 : A3 144 = v := (frC 144 (by omega) (by omega)).trans e
            refine fc_iload_n C dX7_settlesAt_33 rfl rfl ?_
            refine fc_aload_n C dX7_settlesAt_34 rfl rfl ?_
            refine fh_callV (y := mX7_many) C dX7_settlesAt_35 ml_X7_60 mi_X7_many im_X7_many se_X7_many (r_many e3) rfl rfl (by decide) rfl (Nat.le_of_ble_eq_true rfl) (Nat.zero_le _) (Nat.zero_le _) rfl ?_
            refine fc_icmp_ge (tgt := 166) C dX7_settlesAt_38 (by decide) (fc_Rm (by omega)) (fc_Rm (by omega)) (fun c38 => ?_) (fun c38 => ?_)
            · have ek : k = v 0 := by omega
              subst ek
              refine fc_goto (tgt := 25) C dX7_settlesAt_166 (by decide) ?_
              by_cases htK : t = K
              · rw [hst2 htK]
                refine fc_iload_n C dX7_settlesAt_25 rfl rfl ?_
                refine fc_if_eq (tgt := 169) C dX7_settlesAt_26 (by decide) (fc_Rm (by omega)) (fun c26 => ?_) (fun c26 => ?_)
                · refine fh_vretE C T dX7_settlesAt_169 ⟨rfl, rfl, frC, A1 149, hg0, ?_⟩
                  have : (A3 148, A3 149) = s_it (v_L v) (v 0) q (A 148) (A1 149) (K + 1) := by rw [ex3, ef3, ← htK, ens]
                  rw [← hend] at this
                  injection this with i1 i2
                  rw [i1, i2]
                  exact hfz
                · exact absurd rfl c26
              · rw [hmv2 (by omega)]
                exact ih (t + 1) A3 _ _ _ _ _ (by omega) (by omega) (by rw [ex3, ens]) (by rw [ef3, ens]) frC
            · have hvb := s_val_bd hg (n := v 0) (p := k) (by omega) hn.2 h0 (by omega)
              refine fc_aload_n C dX7_settlesAt_41 rfl rfl ?_
              refine fc_iload_n C dX7_settlesAt_42 rfl rfl ?_
              refine fh_callV (y := mX7_valence) C dX7_settlesAt_43 ml_X7_72 mi_X7_valence im_X7_valence se_X7_valence (r_valence e3 hn ⟨h0, by omega⟩) rfl rfl (by decide) rfl (Nat.le_of_ble_eq_true rfl) (Nat.zero_le _) (Nat.zero_le _) rfl ?_
              refine fc_istore C dX7_settlesAt_46 (by decide) ?_
              refine fc_iload_n C dX7_settlesAt_48 rfl rfl ?_
              refine fc_iload_n C dX7_settlesAt_49 rfl rfl ?_
              have skip : ¬ s_can (v_L v) (v 0) q (A3 148) k → ∀ (y4 y5 y6 y7 : Option fc_AV), fc_W X 0 0 159 (fc_H A3 F) 160 [some (vR 143), some (vI q), some (vI (s_sw (v_L v) (v 0) q x1 f1 k.toNat).2.2), some (vI k), y4, y5, y6, y7] [] := by
                intro hcn y4 y5 y6 y7
                rw [ex3] at hcn
                refine fc_iinc C dX7_settlesAt_160 rfl (by decide) ?_
                refine fc_goto (tgt := 33) C dX7_settlesAt_163 (by decide) ?_
                have := ih2 (k + 1) A3 y4 y5 y6 y7 (by omega) (by omega) (by omega) (by rw [s_sw_f h0 hcn]; exact ex3) (by rw [s_sw_f h0 hcn]; exact ef3) frC
                rw [s_sw_f h0 hcn] at this
                exact this
              refine fc_icmp_eq (tgt := 160) C dX7_settlesAt_50 (by decide) (fc_Rm (by omega)) (fc_Rm (by omega)) (fun c50 => ?_) (fun c50 => ?_)
              · exact skip (fun z => z.1 c50) _ _ _ _
              · have hxk := hbk k h0 (by omega) c50
                rw [← ex3] at hxk
                refine fc_iload C dX7_settlesAt_53 rfl ?_
                refine fc_if_le (tgt := 160) C dX7_settlesAt_55 (by decide) (fc_Rm (by omega)) (fun c55 => ?_) (fun c55 => ?_)
                · exact skip (fun z => by have := z.2.1; omega) _ _ _ _
                · refine fc_aload_n C dX7_settlesAt_58 rfl rfl ?_
                  refine fh_getf C dX7_settlesAt_59 fl_X7_22 rfl rfl ?_
                  refine fc_iload_n C dX7_settlesAt_62 rfl rfl ?_
                  refine fh_laload C dX7_settlesAt_63 (fun _ _ => rfl) (by omega) (by omega) (by decide) ?_
                  refine fc_iload C dX7_settlesAt_64 rfl ?_
                  refine fc_i2l C dX7_settlesAt_66 (fc_Rm (by omega)) ?_
                  refine fc_lcmp C dX7_settlesAt_67 (fc_RLm (by omega)) (fc_RLm (by omega)) ?_
                  refine fc_if_lt (tgt := 160) C dX7_settlesAt_68 (by decide) (fc_cmp_R _ _) (fun c68 => ?_) (fun c68 => ?_)
                  · have c68 := fc_cmp_lt.1 c68
                    exact skip (fun z => by have := z.2.2; omega) _ _ _ _
                  · have c68 : ¬ A3 148 k < s_val (v_L v) (v 0) k := fun z => by have := fc_cmp_lt.2 z; omega
                    have hcan : s_can (v_L v) (v 0) q (A3 148) k := ⟨by omega, c55, by omega⟩
                    refine fc_aload_n C dX7_settlesAt_71 rfl rfl ?_
                    refine fh_getf C dX7_settlesAt_72 fl_X7_22 rfl rfl ?_
                    refine fc_iload_n C dX7_settlesAt_75 rfl rfl ?_
                    refine fh_laload C dX7_settlesAt_76 (fun _ _ => rfl) (by omega) (by omega) (by decide) ?_
                    refine fc_iload C dX7_settlesAt_77 rfl ?_
                    refine fc_i2l C dX7_settlesAt_79 (fc_Rm (by omega)) ?_
                    refine fc_ldiv C dX7_settlesAt_80 (fc_RLm (by omega)) (fc_RLm (by omega)) (by omega) ?_
                    refine fc_eq (st' := [vL (A3 148 k / s_val (v_L v) (v 0) k)]) rfl (by rw [Int.tdiv_eq_ediv_of_nonneg (by omega)]) ?_
                    generalize ht9 : A3 148 k / s_val (v_L v) (v 0) k = tm
                    refine fc_lstore C dX7_settlesAt_81 (by decide) ?_
                    refine fc_aload_n C dX7_settlesAt_83 rfl rfl ?_
                    refine fh_getf C dX7_settlesAt_84 fl_X7_26 rfl rfl ?_
                    refine fc_iload_n C dX7_settlesAt_87 rfl rfl ?_
                    refine fc_dup2 C dX7_settlesAt_88 rfl rfl ?_
                    refine fh_laload C dX7_settlesAt_89 (fun _ _ => rfl) (by omega) (by omega) (by decide) ?_
                    refine fc_lload C dX7_settlesAt_90 rfl ?_
                    refine fc_ladd C dX7_settlesAt_92 ?_
                    refine fh_lastore C dX7_settlesAt_93 (fun _ _ => rfl) (by omega) (by omega) (by decide) ?_
                    refine fc_aload_n C dX7_settlesAt_94 rfl rfl ?_
                    refine fh_getf C dX7_settlesAt_95 fl_X7_22 rfl rfl ?_
                    refine fc_iload_n C dX7_settlesAt_98 rfl rfl ?_
                    refine fc_dup2 C dX7_settlesAt_99 rfl rfl ?_
                    refine fh_laload C dX7_settlesAt_100 (fun _ _ => rfl) (by omega) (by omega) (by decide) ?_
                    refine fc_lload C dX7_settlesAt_101 rfl ?_
                    refine fc_iload C dX7_settlesAt_103 rfl ?_
                    refine fc_i2l C dX7_settlesAt_105 (fc_Rm (by omega)) ?_
                    refine fc_lmul C dX7_settlesAt_106 ?_
                    refine fc_lsub C dX7_settlesAt_107 ?_
                    refine fh_lastore C dX7_settlesAt_108 (fun _ _ => rfl) (by omega) (by omega) (by decide) ?_
                    refine fc_iconst C dX7_settlesAt_109 ?_
                    refine fc_istore C dX7_settlesAt_110 (by decide) ?_
                    have lo : ∀ (m3 : Nat) (o : Int) (A4 : Nat → Int → Int), 0 ≤ o → o ≤ v 0 → v 0 - o < m3 → (∀ j : Int, A4 148 j = if j = k then A3 148 k - tm * s_val (v_L v) (v 0) k else if 0 ≤ j ∧ j < o then A3 148 j + tm * v_L v k j else A3 148 j) → A4 149 = fc_set (A3 149) k (A3 149 k + tm) → (∀ j : Nat, j ≠ 148 → j ≠ 149 → A4 j = A j) → fc_W X 0 0 159 (fc_H A4 F) 112 [some (vR 143), some (vI q), some (vI (s_sw (v_L v) (v 0) q x1 f1 k.toNat).2.2), some (vI k), some (vI (s_val (v_L v) (v 0) k)), some (vL tm), none, some (vI o)] [] := by
                      intro m3
                      induction m3 with
                      | zero => intro o A4 z0 z1 z2; exfalso; omega
                      | succ m3 ih3 =>
                        intro o A4 z0 z1 z2 h148 h149 frD
                        have e4 : A4 144 = v := (frD 144 (by omega) (by omega)).trans e
                        refine fc_iload C dX7_settlesAt_112 rfl ?_
                        refine fc_aload_n C dX7_settlesAt_114 rfl rfl ?_
                        refine fh_callV (y := mX7_many) C dX7_settlesAt_115 ml_X7_60 mi_X7_many im_X7_many se_X7_many (r_many e4) rfl rfl (by decide) rfl (Nat.le_of_ble_eq_true rfl) (Nat.zero_le _) (Nat.zero_le _) rfl ?_
                        refine fc_icmp_ge (tgt := 158) C dX7_settlesAt_118 (by decide) (fc_Rm (by omega)) (fc_Rm (by omega)) (fun c118 => ?_) (fun c118 => ?_)
                        · refine fc_iconst C dX7_settlesAt_158 ?_
                          refine fc_istore_n C dX7_settlesAt_159 rfl (by decide) ?_
                          refine fc_iinc C dX7_settlesAt_160 rfl (by decide) ?_
                          refine fc_goto (tgt := 33) C dX7_settlesAt_163 (by decide) ?_
                          have hcan' := hcan
                          rw [ex3] at hcan'
                          have e5 : A4 148 = s_fire (v_L v) (v 0) k tm (A3 148) := by
                            funext j
                            rw [h148 j]
                            unfold s_fire s_M
                            by_cases c1 : j = k
                            · rw [if_pos c1, if_pos (by omega), if_pos c1.symm, c1]
                            · rw [if_neg c1]
                              by_cases c2 : 0 ≤ j ∧ j < v 0
                              · rw [if_pos (by omega), if_pos c2, if_neg (fun z => c1 z.symm), Int.mul_neg]
                                omega
                              · rw [if_neg (by omega), if_neg c2]
                          have := ih2 (k + 1) A4 (some (vI (s_val (v_L v) (v 0) k))) (some (vL tm)) none (some (vI o)) (by omega) (by omega) (by omega) (by rw [s_sw_t h0 hcan', e5, ← ht9, ex3]) (by rw [s_sw_t h0 hcan', h149, ← ht9, ef3, ex3]) frD
                          rw [s_sw_t h0 hcan'] at this
                          exact this
                        · have hlb := hg k o h0 (by omega) z0 (by omega)
                          refine fc_aload_n C dX7_settlesAt_121 rfl rfl ?_
                          refine fh_getf C dX7_settlesAt_122 fl_X7_22 rfl rfl ?_
                          refine fc_iload C dX7_settlesAt_125 rfl ?_
                          refine fc_dup2 C dX7_settlesAt_127 rfl rfl ?_
                          refine fh_laload C dX7_settlesAt_128 (fun _ _ => rfl) (by omega) (by omega) (by decide) ?_
                          refine fc_iload C dX7_settlesAt_129 rfl ?_
                          refine fc_iload_n C dX7_settlesAt_131 rfl rfl ?_
                          refine fc_icmp_ne (tgt := 139) C dX7_settlesAt_132 (by decide) (fc_Rm (by omega)) (fc_Rm (by omega)) (fun c132 => ?_) (fun c132 => ?_)
                          · refine fc_lload C dX7_settlesAt_139 rfl ?_
                            refine fc_aload_n C dX7_settlesAt_141 rfl rfl ?_
                            refine fc_iload_n C dX7_settlesAt_142 rfl rfl ?_
                            refine fc_iload C dX7_settlesAt_143 rfl ?_
                            refine fh_callV (y := mX7_linesOf) C dX7_settlesAt_145 ml_X7_68 mi_X7_linesOf im_X7_linesOf se_X7_linesOf (r_linesOf e4 ⟨h0, by omega⟩ ⟨z0, by omega⟩) rfl rfl (by decide) rfl (Nat.le_of_ble_eq_true rfl) (Nat.zero_le _) (Nat.zero_le _) rfl ?_
                            refine fc_i2l C dX7_settlesAt_148 (fc_Rm (by omega)) ?_
                            refine fc_lmul C dX7_settlesAt_149 ?_
                            refine fc_ladd C dX7_settlesAt_150 ?_
                            refine fh_lastore C dX7_settlesAt_151 (fun _ _ => rfl) (by omega) (by omega) (by decide) ?_
                            refine fc_iinc C dX7_settlesAt_152 rfl (by decide) ?_
                            refine fc_goto (tgt := 112) C dX7_settlesAt_155 (by decide) ?_
                            refine ih3 (o + 1) _ (by omega) (by omega) (by omega) (fun j => ?_) (by rw [fa_n _ _ (by omega)]; exact h149) (fun j j1 j2 => by rw [fa_n _ _ j1]; exact frD j j1 j2)
                            rw [fa_s]
                            unfold fc_set
                            by_cases c1 : j = o
                            · rw [if_pos c1, h148 o, if_neg c132, if_neg (by omega), if_neg (by omega), if_pos (by omega), c1]
                            · rw [if_neg c1, h148 j]
                              by_cases c2 : j = k
                              · rw [if_pos c2, if_pos c2]
                              · rw [if_neg c2, if_neg c2]
                                by_cases c3 : 0 ≤ j ∧ j < o
                                · rw [if_pos c3, if_pos (by omega)]
                                · rw [if_neg c3, if_neg (by omega)]
                          · have ek : o = k := by omega
                            refine fc_lconst (z := 0) C dX7_settlesAt_135 rfl ?_
                            refine fc_goto (tgt := 150) C dX7_settlesAt_136 (by decide) ?_
                            refine fc_ladd C dX7_settlesAt_150 ?_
                            refine fh_lastore C dX7_settlesAt_151 (fun _ _ => rfl) (by omega) (by omega) (by decide) ?_
                            refine fc_iinc C dX7_settlesAt_152 rfl (by decide) ?_
                            refine fc_goto (tgt := 112) C dX7_settlesAt_155 (by decide) ?_
                            refine ih3 (o + 1) _ (by omega) (by omega) (by omega) (fun j => ?_) (by rw [fa_n _ _ (by omega)]; exact h149) (fun j j1 j2 => by rw [fa_n _ _ j1]; exact frD j j1 j2)
                            rw [fa_s]
                            unfold fc_set
                            by_cases c1 : j = o
                            · rw [if_pos c1, Int.add_zero, h148 o, if_pos ek, if_pos (by omega)]
                            · have c9 : ¬ j = k := by omega
                              rw [if_neg c1, h148 j, if_neg c9, if_neg c9]
                              by_cases c3 : 0 ≤ j ∧ j < o
                              · rw [if_pos c3, if_pos (by omega)]
                              · rw [if_neg c3, if_neg (by omega)]
                    refine lo 6 0 _ (by omega) (by omega) (by omega) (fun j => ?_) ?_ (fun j j1 j2 => by rw [fa_n _ _ j1, fa_n _ _ j2]; exact frC j j1 j2)
                    · rw [fa_s, fa_n _ _ (by omega)]
                      unfold fc_set
                      by_cases c1 : j = k
                      · rw [if_pos c1, if_pos c1]
                      · rw [if_neg c1, if_neg c1, if_neg (by omega)]
                    · rw [fa_n _ _ (by omega), fa_s]
        refine fc_iload_n C dX7_settlesAt_25 rfl rfl ?_
        refine fc_if_eq (tgt := 169) C dX7_settlesAt_26 (by decide) (fc_Rm (by omega)) (fun c26 => ?_) (fun c26 => ?_)
        · exact absurd c26 (by decide)
        · refine fc_iconst C dX7_settlesAt_29 ?_
          refine fc_istore_n C dX7_settlesAt_30 rfl (by decide) ?_
          refine fc_iconst C dX7_settlesAt_31 ?_
          refine fc_istore_n C dX7_settlesAt_32 rfl (by decide) ?_
          exact inner 6 0 A2 _ _ _ _ (by omega) (by omega) (by omega) ex ef frB
    exact outer (K + 1) 0 A1 _ _ _ _ _ (by omega) (by omega) e148 rfl frA
  have zero : ∀ (m : Nat) (k : Int) (A1 : Nat → Int → Int), 0 ≤ k → k ≤ v 0 → v 0 - k < m → (∀ p : Int, 0 ≤ p → p < k → A1 149 p = 0) → (∀ j : Nat, j ≠ 149 → A1 j = A j) → fc_W X 0 0 159 (fc_H A1 F) 4 [some (vR 143), some (vI q), some (vI 1), some (vI k), none, none, none, none] [] := by
    intro m
    induction m with
    | zero => intro k A1 z0 z1 z2; exfalso; omega
    | succ m ih =>
      intro k A1 z0 z1 z2 h9 frA
      refine fc_iload_n C dX7_settlesAt_4 rfl rfl ?_
      refine fc_aload_n C dX7_settlesAt_5 rfl rfl ?_
      refine fh_callV (y := mX7_many) C dX7_settlesAt_6 ml_X7_60 mi_X7_many im_X7_many se_X7_many (r_many ((frA 144 (by omega)).trans e)) rfl rfl (by decide) rfl (Nat.le_of_ble_eq_true rfl) (Nat.zero_le _) (Nat.zero_le _) rfl ?_
      refine fc_icmp_ge (tgt := 25) C dX7_settlesAt_9 (by decide) (fc_Rm (by omega)) (fc_Rm (by omega)) (fun c9 => ?_) (fun c9 => ?_)
      · exact main A1 _ _ _ _ _ (frA 148 (by omega)) (fun p p0 p1 => h9 p p0 (by omega)) (fun j _ j2 => frA j j2)
      · refine fc_aload_n C dX7_settlesAt_12 rfl rfl ?_
        refine fh_getf C dX7_settlesAt_13 fl_X7_26 rfl rfl ?_
        refine fc_iload_n C dX7_settlesAt_16 rfl rfl ?_
        refine fc_lconst (z := 0) C dX7_settlesAt_17 rfl ?_
        refine fh_lastore C dX7_settlesAt_18 (fun _ _ => rfl) (by omega) (by omega) (by decide) ?_
        refine fc_iinc C dX7_settlesAt_19 rfl (by decide) ?_
        refine fc_goto (tgt := 4) C dX7_settlesAt_22 (by decide) ?_
        refine ih (k + 1) _ (by omega) (by omega) (by omega) (fun p p0 p1 => ?_) (fun j hj => by rw [fa_n _ _ hj]; exact frA j hj)
        rw [fa_s]
        unfold fc_set
        by_cases c : p = k
        · rw [if_pos c]
        · rw [if_neg c]; exact h9 p p0 (by omega)
  refine fc_iconst C dX7_settlesAt_0 ?_
  refine fc_istore_n C dX7_settlesAt_1 rfl (by decide) ?_
  refine fc_iconst C dX7_settlesAt_2 ?_
  refine fc_istore_n C dX7_settlesAt_3 rfl (by decide) ?_
  exact zero 6 0 A (by omega) (by omega) (by omega) (fun p p0 p1 => by omega) (fun _ _ => rfl)
end REF4
