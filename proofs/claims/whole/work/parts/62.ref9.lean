/-! the reference: reads -/
section REF9
variable {A : Nat → Int → Int} {F : Nat → Nat → Int} {tx : Int → Int} {tl i vl pt nt : Int} {v : Int → Int} {ps : Int → Int → Int} {st : Int} {rf : Int → Int}
def m_ro (A : Nat → Int → Int) (F : Nat → Nat → Int) (tx : Int → Int) (tl dn p pt nt : Int) (v : Int → Int) : Option fc_AV → (Nat → Int → Int) → (Nat → Nat → Int) → Prop := fun r A' F' => r = some (vI (t_ord tx tl pt p).1) ∧ (∀ j : Nat, j ≠ 158 → (dn = 0 ∨ (j ≠ 144 ∧ j ≠ 148 ∧ j ≠ 149)) → A' j = A j) ∧ m_tf F F' ∧ ∃ vl' pt' nt' : Int, m_T A' F' tx tl (t_ord tx tl pt p).2.1 vl' pt' nt' ∧ ((t_ord tx tl pt p).1 = 1 → pt' = (t_ord tx tl pt p).2.2) ∧ (dn = 0 → nt' = nt) ∧ (dn = 1 → (t_ord tx tl pt p).1 = 1 → nt' = e_x (t_b tx tl p) (t_oN tx tl pt p).2.2 v ∧ A' 144 = if e_x (t_b tx tl p) (t_oN tx tl pt p).2.2 v = 0 then e_p (t_b tx tl p) (t_oN tx tl pt p).2.2 v else v)
theorem r_readsOrder (e : A 144 = v) (hv : v_ok v) (T0 : m_T A F tx tl i vl pt nt) (h0 : 0 ≤ i) (h1 : i ≤ tl) (hm : 2 ≤ pt ∧ pt ≤ 5) {dn : Int} (hd : dn = 0 ∨ (dn = 1 ∧ v 0 = pt)) : fh_E mX7_readsOrder 6 [vR 143, vI dn] A F (m_ro A F tx tl dn (t_sk tx tl i) pt nt v) := by
  have hn := hv.n
  have hs := t_sk_bd (tx := tx) h1
  have htl := T0.2.1
  refine fh_E.of mi_X7_readsOrder (Nat.le_of_ble_eq_true rfl) ?_
  intro X C T
  generalize ej : t_sk tx tl i = p at hs T
  refine fc_aload_n C dX7_readsOrder_0 rfl rfl ?_
  refine fh_callVE (y := mX7_here) C dX7_readsOrder_1 ml_X7_307 mi_X7_here im_X7_here se_X7_here (r_here T0 h0 h1) rfl rfl (by decide) rfl (Nat.le_of_ble_eq_true rfl) (Nat.zero_le _) (Nat.zero_le _) rfl ?_
  rintro r A1 F1 ⟨rfl, rfl, T1, fr1⟩
  rw [ej] at T1
  refine fc_eq (st' := [vI (t_b tx tl p)]) rfl (by rw [ej]; rfl) ?_
  have hb := T1.b (j := p) (by omega)
  -- behind the letter
  have body : (t_b tx tl p = 110 ∨ t_b tx tl p = 108 ∨ t_b tx tl p = 99 ∨ t_b tx tl p = 102 ∨ t_b tx tl p = 98 ∨ t_b tx tl p = 122 ∨ t_b tx tl p = 97) → fc_W X 0 0 159 (fc_H A1 F1) 49 [some (vR 143), some (vI dn), some (vI (t_b tx tl p)), none] [] := by
    intro hc
    have hcnt : 0 ≤ t_cnt (t_b tx tl p) pt := by
      unfold t_cnt
      rcases hc with q | q | q | q | q | q | q <;> rw [q] <;> simp <;> omega
    have hlt := t_cnt_lt (tx := tx) hcnt
    have hN := t_oN_bd (tx := tx) (m := pt) (i := p) hcnt
    have e16 := T1.2.2.2.1
    refine fc_aload_n C dX7_readsOrder_49 rfl rfl ?_
    refine fc_dup C dX7_readsOrder_50 rfl ?_
    refine fh_getf C dX7_readsOrder_51 fl_X7_300 rfl rfl ?_
    refine fc_iconst C dX7_readsOrder_54 ?_
    refine fc_iadd C dX7_readsOrder_55 ?_
    refine fh_putf _ C dX7_readsOrder_56 fl_X7_300 rfl (Nat.le_of_ble_eq_true rfl) rfl rfl ?_
    rw [e16]
    have T2 := T1.at_ (p + 1)
    refine fc_aload_n C dX7_readsOrder_59 rfl rfl ?_
    refine fc_iload_n C dX7_readsOrder_60 rfl rfl ?_
    refine fh_callVE (y := mX7_takesNumbers) C dX7_readsOrder_61 ml_X7_330 mi_X7_takesNumbers im_X7_takesNumbers se_X7_takesNumbers (r_takesNumbers T2 (by omega) (by omega) hm rfl hc) rfl rfl (by decide) rfl (Nat.le_of_ble_eq_true rfl) (Nat.zero_le _) (Nat.zero_le _) rfl ?_
    rintro r A3 F3 ⟨rfl, frA3, fr3, vl3, pt3, T3, hpt3⟩
    refine fc_eq (st' := [vI (fc_ind (t_nk tx tl pt p))]) rfl rfl ?_
    have fr13 := (fr1.up (k := 16) (z := p + 1) (by omega) (by omega)).tr fr3
    have eo : ∀ (h : ¬ (t_nk tx tl pt p ∧ t_b tx tl (t_sk tx tl (t_oN tx tl pt p).2.1) = 59)), (t_ord tx tl pt p).1 = 0 ∧ (t_ord tx tl pt p).2.1 = (if t_nk tx tl pt p then t_sk tx tl (t_oN tx tl pt p).2.1 else if (t_oN tx tl pt p).1 = 1 then t_sk tx tl (p + 1) else (t_oN tx tl pt p).2.1) := by
      intro h
      unfold t_ord
      rw [if_neg (by omega)]
      by_cases q1 : (t_oN tx tl pt p).1 = 1
      · rw [if_neg (by omega)]
        by_cases q2 : t_b tx tl p = 110 ∧ ¬ (2 ≤ (t_oN tx tl pt p).2.2 0 ∧ (t_oN tx tl pt p).2.2 0 ≤ 5)
        · rw [if_pos q2, if_neg (fun z => z.2 q2), if_pos q1]
          exact ⟨rfl, rfl⟩
        · rw [if_neg q2, if_pos (show t_nk tx tl pt p from ⟨q1, q2⟩), if_pos (fun z => h ⟨⟨q1, q2⟩, z⟩)]
          exact ⟨rfl, rfl⟩
      · rw [if_pos q1, if_neg (fun z => q1 z.1), if_neg q1]
        exact ⟨rfl, rfl⟩
    have bad : ∀ (A4 : Nat → Int → Int) (F4 : Nat → Nat → Int) (vl4 pt4 : Int), ¬ (t_nk tx tl pt p ∧ t_b tx tl (t_sk tx tl (t_oN tx tl pt p).2.1) = 59) → (∀ j : Nat, j ≠ 158 → A4 j = A1 j) → m_tf F F4 → m_T A4 F4 tx tl (t_ord tx tl pt p).2.1 vl4 pt4 nt → fc_W X 0 0 159 (fc_H A4 F4) 76 [some (vR 143), some (vI dn), some (vI (t_b tx tl p)), none] [] := by
      intro A4 F4 vl4 pt4 h frA fr4 T4
      have h9 := (eo h).1
      refine fc_iconst C dX7_readsOrder_76 ?_
      exact fh_iretE C T dX7_readsOrder_77 (Or.inr ⟨rfl, by omega⟩) ⟨by rw [h9], fun j j1 _ => frA j j1, fr4, vl4, pt4, nt, T4, fun z => by omega, fun _ => rfl, fun _ z => by omega⟩
    refine fc_if_eq (tgt := 76) C dX7_readsOrder_64 (by decide) (fc_ind_R _) (fun c64 => ?_) (fun c64 => ?_)
    · have c64 := fc_ind_0 c64
      refine bad A3 F3 vl3 pt3 (fun h => c64 h.1) frA3 fr13 ?_
      rw [(eo (fun h => c64 h.1)).2, if_neg c64]
      by_cases q : (t_oN tx tl pt p).1 = 1
      · rw [if_pos ⟨q, c64⟩] at T3
        rw [if_pos q]
        exact T3
      · rw [if_neg (fun z => q z.1)] at T3
        rw [if_neg q]
        exact T3
    · have c64 := fc_ind_ne c64
      rw [if_neg (fun z => z.2 c64)] at T3
      obtain ⟨ept, hnum⟩ := hpt3 c64
      have hs2 := t_sk_bd (tx := tx) hN.2
      refine fc_aload_n C dX7_readsOrder_67 rfl rfl ?_
      refine fh_callVE (y := mX7_here) C dX7_readsOrder_68 ml_X7_307 mi_X7_here im_X7_here se_X7_here (r_here T3 (by omega) hN.2) rfl rfl (by decide) rfl (Nat.le_of_ble_eq_true rfl) (Nat.zero_le _) (Nat.zero_le _) rfl ?_
      rintro r A4 F4 ⟨rfl, rfl, T4, fr4⟩
      refine fc_eq (st' := [vI (t_b tx tl (t_sk tx tl (t_oN tx tl pt p).2.1))]) rfl rfl ?_
      have hb2 := T4.b (j := t_sk tx tl (t_oN tx tl pt p).2.1) (by omega)
      refine fc_bipush C dX7_readsOrder_71 (by decide) ?_
      refine fc_icmp_eq (tgt := 78) C dX7_readsOrder_73 (by decide) (fc_Rm (by omega)) (fc_Rm (by omega)) (fun c73 => ?_) (fun c73 => ?_)
      · have h59 : t_b tx tl (t_sk tx tl (t_oN tx tl pt p).2.1) = 59 := c73
        have eo1 : t_ord tx tl pt p = (1, t_sk tx tl (t_oN tx tl pt p).2.1 + 1, if t_b tx tl p = 110 then (t_oN tx tl pt p).2.2 0 else pt) := by
          unfold t_ord
          rw [if_neg (by omega), if_neg (fun z => z c64.1), if_neg c64.2, if_neg (fun z => z h59)]
        have eo11 : (t_ord tx tl pt p).1 = 1 := by rw [eo1]
        have eo12 : (t_ord tx tl pt p).2.1 = t_sk tx tl (t_oN tx tl pt p).2.1 + 1 := by rw [eo1]
        have eo13 : (t_ord tx tl pt p).2.2 = if t_b tx tl p = 110 then (t_oN tx tl pt p).2.2 0 else pt := by rw [eo1]
        have e16' := T4.2.2.2.1
        refine fc_aload_n C dX7_readsOrder_78 rfl rfl ?_
        refine fc_dup C dX7_readsOrder_79 rfl ?_
        refine fh_getf C dX7_readsOrder_80 fl_X7_300 rfl rfl ?_
        refine fc_iconst C dX7_readsOrder_83 ?_
        refine fc_iadd C dX7_readsOrder_84 ?_
        refine fh_putf _ C dX7_readsOrder_85 fl_X7_300 rfl (Nat.le_of_ble_eq_true rfl) rfl rfl ?_
        rw [e16']
        have T5 := T4.at_ (t_sk tx tl (t_oN tx tl pt p).2.1 + 1)
        have fr5 := (fr13.tr fr4).up (k := 16) (z := t_sk tx tl (t_oN tx tl pt p).2.1 + 1) (by omega) (by omega)
        refine fc_iload_n C dX7_readsOrder_88 rfl rfl ?_
        refine fc_if_eq (tgt := 118) C dX7_readsOrder_89 (by decide) (fc_Rm (by omega)) (fun c89 => ?_) (fun c89 => ?_)
        · have hd0 : dn = 0 := c89
          refine fc_iconst C dX7_readsOrder_118 ?_
          exact fh_iretE C T dX7_readsOrder_119 (Or.inr ⟨rfl, by omega⟩) ⟨by rw [eo11], fun j j1 _ => frA3 j j1, fr5, vl3, pt3, nt, by rw [eo12]; exact T5, fun _ => by rw [eo13]; exact ept, fun _ => rfl, fun z => by omega⟩
        · have hd1 : dn = 1 ∧ v 0 = pt := by omega
          have e4 : A4 144 = v := (frA3 144 (by omega)).trans e
          have hR := fun k => t_oN_R (tx := tx) (tl := tl) (m := pt) (i := p) hcnt k
          have h110 : t_b tx tl p = 110 → 2 ≤ (t_oN tx tl pt p).2.2 0 ∧ (t_oN tx tl pt p).2.2 0 ≤ 5 := fun z => by
            apply Classical.byContradiction
            intro z2
            exact c64.2 ⟨z, z2⟩
          refine fc_aload_n C dX7_readsOrder_92 rfl rfl ?_
          refine fc_aload_n C dX7_readsOrder_93 rfl rfl ?_
          refine fc_iload_n C dX7_readsOrder_94 rfl rfl ?_
          refine fh_callVE (y := mX7_can) C dX7_readsOrder_95 ml_X7_333 mi_X7_can im_X7_can se_X7_can (r_can e4 hv hc (a := (t_oN tx tl pt p).2.2) (fun k k0 k1 => hnum k k0 (by rw [hd1.2] at k1; exact k1)) (fun k => ⟨(hR k).1, (hR k).2.1⟩) h110) rfl rfl (by decide) rfl (Nat.le_of_ble_eq_true rfl) (Nat.zero_le _) (Nat.zero_le _) rfl ?_
          rintro r A6 F6 ⟨rfl, rfl, frA6, hh6⟩
          obtain ⟨ze, eze⟩ : ∃ ze : Int, ze = e_x (t_b tx tl p) (t_oN tx tl pt p).2.2 v := ⟨_, rfl⟩
          refine fc_eq (st' := [vI ze, vR 143]) rfl (by rw [eze]; rfl) ?_
          have hxc := e_x_c (t_b tx tl p) (t_oN tx tl pt p).2.2 v
          rw [← eze] at hxc
          refine fh_putf _ C dX7_readsOrder_98 fl_X7_336 rfl (Nat.le_of_ble_eq_true rfl) rfl rfl ?_
          have T6 := (T5.ar (A' := A6) (frA6 157 (by omega) (by omega))).nt_ ze
          have fr6 := fr5.up (k := 20) (z := ze) (by omega) (by omega)
          have e20 := T6.2.2.2.2.2.2
          have e6 : A6 144 = v := (frA6 144 (by omega) (by omega)).trans e4
          refine fc_aload_n C dX7_readsOrder_101 rfl rfl ?_
          refine fh_getf C dX7_readsOrder_102 fl_X7_336 rfl rfl ?_
          rw [e20]
          refine fc_if_ne (tgt := 116) C dX7_readsOrder_105 (by decide) (fc_Rm (by omega)) (fun c105 => ?_) (fun c105 => ?_)
          · refine fc_iconst C dX7_readsOrder_116 ?_
            refine fc_istore_n C dX7_readsOrder_117 rfl (by decide) ?_
            refine fc_iconst C dX7_readsOrder_118 ?_
            refine fh_iretE C T dX7_readsOrder_119 (Or.inr ⟨rfl, by omega⟩) ⟨by rw [eo11], fun j j1 j2 => ?_, fr6, vl3, pt3, _, by rw [eo12]; exact T6, fun _ => by rw [eo13]; exact ept, fun z => by omega, fun _ _ => ⟨eze, by rw [if_neg (by rw [← eze]; exact c105)]; exact e6⟩⟩
            rcases j2 with z | z
            · omega
            · rw [frA6 j z.2.1 z.2.2]; exact frA3 j j1
          · have hx0 : e_x (t_b tx tl p) (t_oN tx tl pt p).2.2 v = 0 := by rw [← eze]; omega
            refine fc_aload_n C dX7_readsOrder_108 rfl rfl ?_
            refine fc_iload_n C dX7_readsOrder_109 rfl rfl ?_
            refine fh_callVE (y := mX7_does) C dX7_readsOrder_110 ml_X7_339 mi_X7_does im_X7_does se_X7_does (r_does e6 hv hc (a := (t_oN tx tl pt p).2.2) (fun k k0 k1 => by rw [frA6 158 (by omega) (by omega)]; exact hnum k k0 (by rw [hd1.2] at k1; exact k1)) hx0 (fun z => hh6 z hx0)) rfl rfl (by decide) rfl (Nat.le_of_ble_eq_true rfl) (Nat.zero_le _) (Nat.zero_le _) rfl ?_
            rintro r A7 F7 ⟨⟨z7, rfl⟩, rfl, e7⟩
            refine fc_eq (st' := [vI z7]) rfl rfl ?_
            refine fc_goto (tgt := 117) C dX7_readsOrder_113 (by decide) ?_
            refine fc_istore_n C dX7_readsOrder_117 rfl (by decide) ?_
            refine fc_iconst C dX7_readsOrder_118 ?_
            refine fh_iretE C T dX7_readsOrder_119 (Or.inr ⟨rfl, by omega⟩) ⟨by rw [eo11], fun j j1 j2 => ?_, fr6, vl3, pt3, _, by rw [eo12]; exact T6.ar (by rw [e7]; exact fa_n _ _ (by omega)), fun _ => by rw [eo13]; exact ept, fun z => by omega, fun _ _ => ⟨eze, by rw [if_pos hx0, e7, fa_s]⟩⟩
            rcases j2 with z | z
            · omega
            · rw [e7, fa_n _ _ z.1, frA6 j z.2.1 z.2.2]; exact frA3 j j1
      · refine bad A4 F4 vl3 pt3 (fun h => c73 h.2) frA3 (fr13.tr fr4) ?_
        rw [(eo (fun h => c73 h.2)).2, if_pos c64]
        exact T4
  refine fc_istore_n C dX7_readsOrder_4 rfl (by decide) ?_
  refine fc_iload_n C dX7_readsOrder_5 rfl rfl ?_
  refine fc_bipush C dX7_readsOrder_6 (by decide) ?_
  refine fc_icmp_eq (tgt := 49) C dX7_readsOrder_8 (by decide) (fc_Rm (by omega)) (fc_Rm (by omega)) (fun c8 => ?_) (fun c8 => ?_)
  · exact body (by omega)
  · refine fc_iload_n C dX7_readsOrder_11 rfl rfl ?_
    refine fc_bipush C dX7_readsOrder_12 (by decide) ?_
    refine fc_icmp_eq (tgt := 49) C dX7_readsOrder_14 (by decide) (fc_Rm (by omega)) (fc_Rm (by omega)) (fun c14 => ?_) (fun c14 => ?_)
    · exact body (by omega)
    · refine fc_iload_n C dX7_readsOrder_17 rfl rfl ?_
      refine fc_bipush C dX7_readsOrder_18 (by decide) ?_
      refine fc_icmp_eq (tgt := 49) C dX7_readsOrder_20 (by decide) (fc_Rm (by omega)) (fc_Rm (by omega)) (fun c20 => ?_) (fun c20 => ?_)
      · exact body (by omega)
      · refine fc_iload_n C dX7_readsOrder_23 rfl rfl ?_
        refine fc_bipush C dX7_readsOrder_24 (by decide) ?_
        refine fc_icmp_eq (tgt := 49) C dX7_readsOrder_26 (by decide) (fc_Rm (by omega)) (fc_Rm (by omega)) (fun c26 => ?_) (fun c26 => ?_)
        · exact body (by omega)
        · refine fc_iload_n C dX7_readsOrder_29 rfl rfl ?_
          refine fc_bipush C dX7_readsOrder_30 (by decide) ?_
          refine fc_icmp_eq (tgt := 49) C dX7_readsOrder_32 (by decide) (fc_Rm (by omega)) (fc_Rm (by omega)) (fun c32 => ?_) (fun c32 => ?_)
          · exact body (by omega)
          · refine fc_iload_n C dX7_readsOrder_35 rfl rfl ?_
            refine fc_bipush C dX7_readsOrder_36 (by decide) ?_
            refine fc_icmp_eq (tgt := 49) C dX7_readsOrder_38 (by decide) (fc_Rm (by omega)) (fc_Rm (by omega)) (fun c38 => ?_) (fun c38 => ?_)
            · exact body (by omega)
            · refine fc_iload_n C dX7_readsOrder_41 rfl rfl ?_
              refine fc_bipush C dX7_readsOrder_42 (by decide) ?_
              refine fc_icmp_eq (tgt := 49) C dX7_readsOrder_44 (by decide) (fc_Rm (by omega)) (fc_Rm (by omega)) (fun c44 => ?_) (fun c44 => ?_)
              · exact body (by omega)
              · have hcnt : t_cnt (t_b tx tl p) pt < 0 := by
                  unfold t_cnt
                  rw [if_neg (by omega), if_neg (by omega), if_neg (by omega), if_neg (by omega), if_neg (by omega)]
                  omega
                have eo : t_ord tx tl pt p = (0, p, pt) := by unfold t_ord; rw [if_pos hcnt]
                refine fc_iconst C dX7_readsOrder_47 ?_
                refine fh_iretE C T dX7_readsOrder_48 (Or.inr ⟨rfl, by omega⟩) ⟨by rw [eo], fun _ _ _ => rfl, fr1, vl, pt, nt, by rw [eo]; exact T1, fun z => ?_, fun _ => rfl, fun _ z => ?_⟩
                · rw [eo] at z; cases z
                · rw [eo] at z; cases z
theorem m_RX.cg {ps' : Int → Int → Int} {st : Int} (h : m_RX A F ps st rf tx tl) (hp : ∀ j k : Int, 0 ≤ j → j < st → 0 ≤ k → k < 54 → ps j k = ps' j k) : m_RX A F ps' st rf tx tl :=
  ⟨h.1, fun j k j0 j1 k0 k1 => by rw [← hp j k j0 j1 k0 k1]; exact h.2.1 j k j0 j1 k0 k1, h.2.2⟩
theorem r_keepsAside {u : Int → Int} (hu : ∀ k : Int, 0 ≤ k → k < 54 → A 146 k = u k) (hok : v_ok u) (hst : 0 ≤ st ∧ st ≤ 5) (htl : 0 ≤ tl ∧ tl ≤ 120) (htx : ∀ i : Int, 0 ≤ i → i < tl → 0 ≤ tx i ∧ tx i ≤ 127) (hm : m_RX A F ps st rf tx tl) : fh_E mX7_keepsAside 1 [vR 143] A F (fun r A' F' => r = none ∧ v_eq (A' 144) (A 144) ∧ m_RX A' F' (h_ps ps st u) (h_st st) rf tx tl ∧ k_fr 143 158 A F A' F') := by
  refine fh_E.of mi_X7_keepsAside (Nat.le_of_ble_eq_true rfl) ?_
  intro X C T
  have third : ∀ (m : Nat) (k : Int) (A1 : Nat → Int → Int) (F1 : Nat → Nat → Int) (y : Option fc_AV), 0 ≤ k → k ≤ 54 → 54 - k < m → (∀ j : Int, 0 ≤ j → j < k → A1 144 j = A 144 j) → (∀ j : Int, 0 ≤ j → j < 54 → A1 146 j = A 144 j) → m_RX A1 F1 (h_ps ps st u) (h_st st) rf tx tl → k_fr 143 158 A F A1 F1 → fc_W X 0 0 159 (fc_H A1 F1) 46 [some (vR 143), some (vI k), y] [] := by
    intro m
    induction m with
    | zero => intro k A1 F1 y z0 z1 z2; exfalso; omega
    | succ m ih =>
      intro k A1 F1 y z0 z1 z2 h4 h6 hm1 fr
      refine fc_iload_n C dX7_keepsAside_46 rfl rfl ?_
      refine fc_bipush C dX7_keepsAside_47 (by decide) ?_
      refine fc_icmp_ge (tgt := 70) C dX7_keepsAside_49 (by decide) (fc_Rm (by omega)) (fc_Rm (by omega)) (fun c49 => ?_) (fun c49 => ?_)
      · exact fh_vretE C T dX7_keepsAside_70 ⟨rfl, fun j j0 j1 => h4 j j0 (by omega), hm1, fr⟩
      · refine fc_aload_n C dX7_keepsAside_52 rfl rfl ?_
        refine fh_getf C dX7_keepsAside_53 fl_X7_7 rfl rfl ?_
        refine fc_iload_n C dX7_keepsAside_56 rfl rfl ?_
        refine fc_aload_n C dX7_keepsAside_57 rfl rfl ?_
        refine fh_getf C dX7_keepsAside_58 fl_X7_16 rfl rfl ?_
        refine fc_iload_n C dX7_keepsAside_61 rfl rfl ?_
        refine fh_iaload C dX7_keepsAside_62 (fun _ _ => rfl) (by omega) (by omega) (by decide) ?_
        refine fh_iastore C dX7_keepsAside_63 (fun _ _ => rfl) (by omega) (by omega) (by decide) ?_
        refine fc_iinc C dX7_keepsAside_64 rfl (by decide) ?_
        refine fc_goto (tgt := 46) C dX7_keepsAside_67 (by decide) ?_
        refine ih (k + 1) _ F1 y (by omega) (by omega) (by omega) (fun j j0 j1 => ?_) (fun j j0 j1 => by rw [fa_n _ _ (by omega)]; exact h6 j j0 j1) (hm1.fr (fa_n _ _ (by omega)) (fa_n _ _ (by omega)) (fa_n _ _ (by omega)) rfl rfl) (fun i hi => ⟨by rw [fa_n _ _ (by omega)]; exact (fr i hi).1, (fr i hi).2⟩)
        rw [fa_s]
        unfold fc_set
        by_cases q : j = k
        · rw [if_pos q, h6 k z0 (by omega), q]
        · rw [if_neg q]; exact h4 j j0 (by omega)
  have first : ∀ (m : Nat) (k : Int) (A1 : Nat → Int → Int) (y : Option fc_AV), 0 ≤ k → k ≤ 54 → 54 - k < m → (∀ j : Int, A1 144 j = if 0 ≤ j ∧ j < k then A 146 j else A 144 j) → (∀ j : Int, A1 146 j = if 0 ≤ j ∧ j < k then A 144 j else A 146 j) → (∀ j : Nat, j ≠ 144 → j ≠ 146 → A1 j = A j) → fc_W X 0 0 159 (fc_H A1 F) 2 [some (vR 143), some (vI k), y] [] := by
    intro m
    induction m with
    | zero => intro k A1 y z0 z1 z2; exfalso; omega
    | succ m ih =>
      intro k A1 y z0 z1 z2 h4 h6 frA
      refine fc_iload_n C dX7_keepsAside_2 rfl rfl ?_
      refine fc_bipush C dX7_keepsAside_3 (by decide) ?_
      refine fc_icmp_ge (tgt := 40) C dX7_keepsAside_5 (by decide) (fc_Rm (by omega)) (fc_Rm (by omega)) (fun c5 => ?_) (fun c5 => ?_)
      · have e4 : v_eq (A1 144) u := fun j j0 j1 => by rw [h4, if_pos (by omega)]; exact hu j j0 j1
        have hm1 : m_RX A1 F ps st rf tx tl := hm.fr (frA 145 (by omega) (by omega)) (frA 147 (by omega) (by omega)) (frA 157 (by omega) (by omega)) rfl rfl
        refine fc_aload_n C dX7_keepsAside_40 rfl rfl ?_
        refine fh_callVE (y := mX7_keep) C dX7_keepsAside_41 ml_X7_83 mi_X7_keep im_X7_keep se_X7_keep (r_keep (v := A1 144) ⟨rfl, v_ok.cg e4 hok, hst, htl, htx, hm1⟩) rfl rfl (by decide) rfl (Nat.le_of_ble_eq_true rfl) (Nat.zero_le _) (Nat.zero_le _) rfl ?_
        rintro r A2 F2 ⟨rfl, hm2, aj, fj, fk⟩
        refine fc_eq (st' := []) rfl rfl ?_
        refine fc_iconst C dX7_keepsAside_44 ?_
        refine fc_istore_n C dX7_keepsAside_45 rfl (by decide) ?_
        refine third 55 0 A2 F2 _ (by omega) (by omega) (by omega) (fun j j0 j1 => by omega) (fun j j0 j1 => by rw [aj 146 (by omega), h6, if_pos (by omega)]) (hm2.cg fun j q j0 j1 q0 q1 => ?_) (fun i hi => ⟨by rw [aj i (by omega)]; exact frA i (by omega) (by omega), fj i (by omega)⟩)
        unfold h_ps
        split
        · split
          · exact e4 q q0 q1
          · rfl
        · split
          · exact e4 q q0 q1
          · rfl
      · refine fc_aload_n C dX7_keepsAside_8 rfl rfl ?_
        refine fh_getf C dX7_keepsAside_9 fl_X7_7 rfl rfl ?_
        refine fc_iload_n C dX7_keepsAside_12 rfl rfl ?_
        refine fh_iaload C dX7_keepsAside_13 (fun _ _ => rfl) (by omega) (by omega) (by decide) ?_
        refine fc_istore_n C dX7_keepsAside_14 rfl (by decide) ?_
        refine fc_aload_n C dX7_keepsAside_15 rfl rfl ?_
        refine fh_getf C dX7_keepsAside_16 fl_X7_7 rfl rfl ?_
        refine fc_iload_n C dX7_keepsAside_19 rfl rfl ?_
        refine fc_aload_n C dX7_keepsAside_20 rfl rfl ?_
        refine fh_getf C dX7_keepsAside_21 fl_X7_16 rfl rfl ?_
        refine fc_iload_n C dX7_keepsAside_24 rfl rfl ?_
        refine fh_iaload C dX7_keepsAside_25 (fun _ _ => rfl) (by omega) (by omega) (by decide) ?_
        refine fh_iastore C dX7_keepsAside_26 (fun _ _ => rfl) (by omega) (by omega) (by decide) ?_
        refine fc_aload_n C dX7_keepsAside_27 rfl rfl ?_
        refine fh_getf C dX7_keepsAside_28 fl_X7_16 rfl rfl ?_
        refine fc_iload_n C dX7_keepsAside_31 rfl rfl ?_
        refine fc_iload_n C dX7_keepsAside_32 rfl rfl ?_
        refine fh_iastore C dX7_keepsAside_33 (fun _ _ => rfl) (by omega) (by omega) (by decide) ?_
        refine fc_iinc C dX7_keepsAside_34 rfl (by decide) ?_
        refine fc_goto (tgt := 2) C dX7_keepsAside_37 (by decide) ?_
        refine ih (k + 1) _ _ (by omega) (by omega) (by omega) (fun j => ?_) (fun j => ?_) (fun j j1 j2 => by rw [fa_n _ _ j2, fa_n _ _ j1]; exact frA j j1 j2)
        · rw [fa_n _ _ (by omega), fa_s]
          unfold fc_set
          by_cases q : j = k
          · rw [if_pos q, if_pos (by omega), h6, if_neg (by omega), q]
          · rw [if_neg q, h4]
            by_cases q2 : 0 ≤ j ∧ j < k
            · rw [if_pos q2, if_pos (by omega)]
            · rw [if_neg q2, if_neg (by omega)]
        · rw [fa_s, fa_n _ _ (by omega)]
          unfold fc_set
          by_cases q : j = k
          · rw [if_pos q, if_pos (by omega), h4, if_neg (by omega), q]
          · rw [if_neg q, h6]
            by_cases q2 : 0 ≤ j ∧ j < k
            · rw [if_pos q2, if_pos (by omega)]
            · rw [if_neg q2, if_neg (by omega)]
  refine fc_iconst C dX7_keepsAside_0 ?_
  refine fc_istore_n C dX7_keepsAside_1 rfl (by decide) ?_
  exact first 55 0 A none (by omega) (by omega) (by omega) (fun j => by rw [if_neg (by omega)]) (fun j => by rw [if_neg (by omega)]) (fun _ _ _ => rfl)
def m_rd (A : Nat → Int → Int) (F : Nat → Nat → Int) (v : Int → Int) (ps : Int → Int → Int) (st : Int) (rf tx : Int → Int) (tl : Int) : Option fc_AV → (Nat → Int → Int) → (Nat → Nat → Int) → Prop := fun r A' F' => ∃ (K : Nat) (flt : Int), t_end tx tl (v 0) K flt ∧ (flt ≠ -1 → m_ans A F (-10 - flt) v ps st rf tx tl r A' F') ∧ (flt = -1 → ∃ s : Int, e_end tx tl (v 0) v K s ∧ (s ≠ -1 → m_ans A F (-1000 - s) v ps st rf tx tl r A' F') ∧ (s = -1 → m_ans A F K (e_ch tx tl (v 0) v K) (h_ps ps st v) (h_st st) rf tx tl r A' F'))
theorem q_reads (RC : m_RC A F v ps st rf tx tl) : fh_E mX7_reads 7 [vR 143] A F (m_rd A F v ps st rf tx tl) := by
  obtain ⟨e, hv, hst, htl, htx, hm⟩ := id RC
  obtain ⟨h3, hps, hrf, h15, ht⟩ := id hm
  have hn := hv.n
  refine fh_E.of mi_X7_reads (Nat.le_of_ble_eq_true rfl) ?_
  intro X C T
  -- the second pass, K orders
  have second : ∀ (K : Nat) (A1 : Nat → Int → Int) (F1 : Nat → Nat → Int) (y2 y3 : Option fc_AV) (w : Int), t_end tx tl (v 0) K (-1) → A1 144 = v → (∀ j : Nat, j ≠ 158 → A1 j = A j) → m_tf F F1 → (∃ a b c d : Int, m_T A1 F1 tx tl a b c d) → fc_W X 0 0 159 (fc_H A1 F1) 52 [some (vR 143), some (vI w), y2, y3] [] := by
    intro K A1 F1 y2 y3 w hE e1 frA1 fr1 hT1
    obtain ⟨a, b, c, d, T1⟩ := hT1
    have hE1 := hE.1
    have hK1 : 1 ≤ K ∧ tl ≤ t_p tx tl (v 0) K := by
      rcases hE.2.2 with ⟨-, z1, z2⟩ | ⟨z1, z2, z3⟩
      · exact ⟨z1, z2⟩
      · exfalso
        have h9 := t_ch_bd (tx := tx) hn htl.1 (hE1 K (by omega))
        have hs := t_sk_bd (tx := tx) h9.2.1
        have ho := t_ord_bd (tx := tx) (tl := tl) (m := t_m tx tl (v 0) K) (i := t_p tx tl (v 0) K) (by unfold t_p; omega) hs.2.1 h9.2.2
        rw [← t_ch_step (hE1 K (by omega))] at ho
        omega
    have loop : ∀ (m k : Nat) (A2 : Nat → Int → Int) (F2 : Nat → Nat → Int) (b2 : Int) (y1 y3 : Option fc_AV), k ≤ K → K - k < m → (∀ j : Nat, j < k → e_X tx tl (v 0) v j = 0) → A2 144 = e_ch tx tl (v 0) v k → (∀ j : Int, 0 ≤ j → j < 54 → A2 146 j = v j) → m_RX A2 F2 ps st rf tx tl → k_fr 143 158 A F A2 F2 → m_T A2 F2 tx tl (t_ch tx tl (v 0) k).2.1 b2 (t_m tx tl (v 0) k) 0 → fc_W X 0 0 159 (fc_H A2 F2) 98 [some (vR 143), y1, some (vI (k : Int)), y3] [] := by
      intro m
      induction m with
      | zero => intro k A2 F2 b2 y1 y3 z0 z1; exfalso; omega
      | succ m ih =>
        intro k A2 F2 b2 y1 y3 z0 z1 hX e2 h146 hm2 fk2 T2
        have hbk := t_ch_bd (tx := tx) hn htl.1 (hE1 k z0)
        have hsk := t_sk_bd (tx := tx) hbk.2.1
        have hok := e_ch_ok hv htl.1 hE1 z0 hX
        refine fc_aload_n C dX7_reads_98 rfl rfl ?_
        refine fh_callVE (y := mX7_here) C dX7_reads_99 ml_X7_307 mi_X7_here im_X7_here se_X7_here (r_here T2 hbk.1 hbk.2.1) rfl rfl (by decide) rfl (Nat.le_of_ble_eq_true rfl) (Nat.zero_le _) (Nat.zero_le _) rfl ?_
        rintro r A3 F3 ⟨rfl, rfl, T3, fr3⟩
        refine fc_eq (st' := [vI (t_b tx tl (t_p tx tl (v 0) k))]) rfl rfl ?_
        have hb3 := T3.b (j := t_p tx tl (v 0) k) (by unfold t_p; omega)
        have hm3 : m_RX A3 F3 ps st rf tx tl := hm2.fr rfl rfl rfl fr3.2.1 fr3.2.2
        have fk3 : k_fr 143 158 A F A3 F3 := fun j hj => ⟨(fk2 j hj).1, by rw [fr3.1 j (by omega)]; exact (fk2 j hj).2⟩
        refine fc_iconst C dX7_reads_102 ?_
        refine fc_icmp_eq (tgt := 157) C dX7_reads_103 (by decide) (fc_Rm (by omega)) (fc_Rm (by omega)) (fun c103 => ?_) (fun c103 => ?_)
        · -- the end
          have hge : tl ≤ t_p tx tl (v 0) k := by
            apply Classical.byContradiction
            intro z
            have : t_b tx tl (t_p tx tl (v 0) k) = tx (t_p tx tl (v 0) k) := by unfold t_b; rw [if_pos (by omega)]
            have := htx (t_p tx tl (v 0) k) (by unfold t_p; omega) (by omega)
            omega
          have ek : k = K := by
            apply Classical.byContradiction
            intro z
            by_cases q : 1 ≤ k
            · have := hE.2.1 k q (by omega)
              omega
            · have h9 := t_c_ok hn htl.1 (hE1 k z0) (hE1 (k + 1) (by omega))
              have := t_cnt_lt (tx := tx) (tl := tl) (i := t_p tx tl (v 0) k) h9.1
              omega
          subst ek
          refine fc_aload_n C dX7_reads_157 rfl rfl ?_
          refine fh_callVE (y := mX7_keepsAside) C dX7_reads_158 ml_X7_345 mi_X7_keepsAside im_X7_keepsAside se_X7_keepsAside (r_keepsAside h146 hv hst htl htx hm3) rfl rfl (by decide) rfl (Nat.le_of_ble_eq_true rfl) (Nat.zero_le _) (Nat.zero_le _) rfl ?_
          rintro r A4 F4 ⟨rfl, e4, hm4, fk4⟩
          refine fc_eq (st' := []) rfl rfl ?_
          refine fc_iload_n C dX7_reads_161 rfl rfl ?_
          refine fh_iretE C T dX7_reads_162 (Or.inl rfl) ⟨k, -1, hE, fun z => absurd rfl z, fun _ => ⟨-1, Or.inl ⟨rfl, hX⟩, fun z => absurd rfl z, fun _ => ⟨rfl, ?_, hm4, fk3.tr fk4⟩⟩⟩
          rw [e2] at e4
          exact e4
        · have hlt : t_p tx tl (v 0) k < tl := t_b_lt (tx := tx) c103
          have hkK : k < K := by
            apply Classical.byContradiction
            intro z
            rw [show k = K by omega] at hlt
            omega
          have est := t_ch_step (hE1 k z0)
          have hidem : t_sk tx tl (t_p tx tl (v 0) k) = t_p tx tl (v 0) k := t_sk_sk hbk.2.1
          refine fc_aload_n C dX7_reads_106 rfl rfl ?_
          refine fc_iconst C dX7_reads_107 ?_
          refine fh_callVE (y := mX7_readsOrder) C dX7_reads_108 ml_X7_342 mi_X7_readsOrder im_X7_readsOrder se_X7_readsOrder (r_readsOrder e2 hok.1 T3 (by unfold t_p at hlt; omega) hsk.2.1 hbk.2.2 (dn := 1) (Or.inr ⟨rfl, hok.2⟩)) rfl rfl (by decide) rfl (Nat.le_of_ble_eq_true rfl) (Nat.zero_le _) (Nat.zero_le _) rfl ?_
          rintro r A4 F4 ⟨rfl, frA4, fr4, vl4, pt4, nt4, T4, hpt4, -, hdo⟩
          have hidem' : t_sk tx tl (t_sk tx tl (t_ch tx tl (v 0) k).2.1) = t_p tx tl (v 0) k := hidem
          rw [hidem', ← est] at T4 hpt4
          rw [hidem'] at hdo
          have hord1 : (t_ch tx tl (v 0) (k + 1)).1 = 1 := hE1 (k + 1) (by omega)
          have hdo := hdo rfl (by rw [← est]; exact hord1)
          refine fc_eq (st' := [vI 1]) rfl (by rw [hidem', ← est, hord1]; rfl) ?_
          have hX9 : e_x (t_b tx tl (t_p tx tl (v 0) k)) (t_oN tx tl (t_m tx tl (v 0) k) (t_p tx tl (v 0) k)).2.2 (e_ch tx tl (v 0) v k) = e_X tx tl (v 0) v k := rfl
          rw [hX9] at hdo
          have hxc : e_X tx tl (v 0) v k = 0 ∨ e_X tx tl (v 0) v k = -2 ∨ e_X tx tl (v 0) v k = -3 := e_x_c _ _ _
          have hm4 : m_RX A4 F4 ps st rf tx tl := hm3.fr (frA4 145 (by omega) (Or.inr (by omega))) (frA4 147 (by omega) (Or.inr (by omega))) (frA4 157 (by omega) (Or.inr (by omega))) fr4.2.1 fr4.2.2
          have fk4 : k_fr 143 158 A F A4 F4 := fun j hj => ⟨by rw [frA4 j (by omega) (Or.inr (by omega))]; exact (fk3 j hj).1, by rw [fr4.1 j (by omega)]; exact (fk3 j hj).2⟩
          have e20 := T4.2.2.2.2.2.2
          refine fc_istore_n C dX7_reads_111 rfl (by decide) ?_
          refine fc_aload_n C dX7_reads_112 rfl rfl ?_
          refine fh_getf C dX7_reads_113 fl_X7_336 rfl rfl ?_
          rw [e20, hdo.1]
          refine fc_if_ge (tgt := 151) C dX7_reads_116 (by decide) (fc_Rm (by omega)) (fun c116 => ?_) (fun c116 => ?_)
          · have hx0 : e_X tx tl (v 0) v k = 0 := by omega
            refine fc_iinc C dX7_reads_151 rfl (by decide) ?_
            refine fc_goto (tgt := 98) C dX7_reads_154 (by decide) ?_
            have hpt9 := hpt4 hord1
            refine ih (k + 1) A4 F4 vl4 _ _ (by omega) (by omega) (fun j hj => ?_) ?_ (fun j j0 j1 => by rw [frA4 146 (by omega) (Or.inr (by omega))]; exact h146 j j0 j1) hm4 fk4 ?_
            · by_cases q : j = k
              · rw [q]; exact hx0
              · exact hX j (by omega)
            · rw [hdo.2, if_pos hx0]
              rfl
            · rw [hpt9] at T4
              rw [hdo.1, hx0] at T4
              exact T4
          · -- an order that stops all
            have back : ∀ (m3 : Nat) (q : Int) (A5 : Nat → Int → Int), 0 ≤ q → q ≤ 54 → 54 - q < m3 → (∀ j : Int, 0 ≤ j → j < q → A5 144 j = v j) → (∀ j : Nat, j ≠ 144 → A5 j = A4 j) → fc_W X 0 0 159 (fc_H A5 F4) 121 [some (vR 143), some (vI 1), some (vI (k : Int)), some (vI q)] [] := by
              intro m3
              induction m3 with
              | zero => intro q A5 q0 q1 q2; exfalso; omega
              | succ m3 ih3 =>
                intro q A5 q0 q1 q2 h5 frA5
                refine fc_iload_n C dX7_reads_121 rfl rfl ?_
                refine fc_bipush C dX7_reads_122 (by decide) ?_
                refine fc_icmp_ge (tgt := 145) C dX7_reads_124 (by decide) (fc_Rm (by omega)) (fc_Rm (by omega)) (fun c124 => ?_) (fun c124 => ?_)
                · refine fc_sipush C dX7_reads_145 (by decide) ?_
                  refine fc_iload_n C dX7_reads_148 rfl rfl ?_
                  refine fc_isub C dX7_reads_149 ?_
                  refine fh_iretE C T dX7_reads_150 (Or.inl rfl) ⟨K, -1, hE, fun z => absurd rfl z, fun _ => ⟨(k : Int), Or.inr ⟨k, rfl, hkK, hX, by omega⟩, fun _ => ⟨rfl, fun j j0 j1 => h5 j j0 (by omega), hm4.fr (frA5 145 (by omega)) (frA5 147 (by omega)) (frA5 157 (by omega)) rfl rfl, fun j hj => ⟨by rw [frA5 j (by omega)]; exact (fk4 j hj).1, (fk4 j hj).2⟩⟩, fun z => by omega⟩⟩
                · refine fc_aload_n C dX7_reads_127 rfl rfl ?_
                  refine fh_getf C dX7_reads_128 fl_X7_7 rfl rfl ?_
                  refine fc_iload_n C dX7_reads_131 rfl rfl ?_
                  refine fc_aload_n C dX7_reads_132 rfl rfl ?_
                  refine fh_getf C dX7_reads_133 fl_X7_16 rfl rfl ?_
                  refine fc_iload_n C dX7_reads_136 rfl rfl ?_
                  refine fh_iaload C dX7_reads_137 (fun _ _ => rfl) (by omega) (by omega) (by decide) ?_
                  refine fh_iastore C dX7_reads_138 (fun _ _ => rfl) (by omega) (by omega) (by decide) ?_
                  refine fc_iinc C dX7_reads_139 rfl (by decide) ?_
                  refine fc_goto (tgt := 121) C dX7_reads_142 (by decide) ?_
                  refine ih3 (q + 1) _ (by omega) (by omega) (by omega) (fun j j0 j1 => ?_) (fun j hj => by rw [fa_n _ _ hj]; exact frA5 j hj)
                  rw [fa_s]
                  unfold fc_set
                  by_cases z : j = q
                  · rw [if_pos z, frA5 146 (by omega), frA4 146 (by omega) (Or.inr (by omega)), h146 q q0 (by omega), z]
                  · rw [if_neg z]; exact h5 j j0 (by omega)
            refine fc_iconst C dX7_reads_119 ?_
            refine fc_istore_n C dX7_reads_120 rfl (by decide) ?_
            exact back 55 0 A4 (by omega) (by omega) (by omega) (fun j j0 j1 => by omega) (fun _ _ => rfl)
    have copy : ∀ (m : Nat) (k : Int) (A2 : Nat → Int → Int), 0 ≤ k → k ≤ 54 → 54 - k < m → (∀ j : Int, 0 ≤ j → j < k → A2 146 j = v j) → (∀ j : Nat, j ≠ 146 → A2 j = A1 j) → fc_W X 0 0 159 (fc_H A2 F1) 54 [some (vR 143), some (vI w), some (vI k), y3] [] := by
      intro m
      induction m with
      | zero => intro k A2 z0 z1 z2; exfalso; omega
      | succ m ih =>
        intro k A2 z0 z1 z2 h146 frA2
        have e2 : A2 144 = v := (frA2 144 (by omega)).trans e1
        refine fc_iload_n C dX7_reads_54 rfl rfl ?_
        refine fc_bipush C dX7_reads_55 (by decide) ?_
        refine fc_icmp_ge (tgt := 78) C dX7_reads_57 (by decide) (fc_Rm (by omega)) (fc_Rm (by omega)) (fun c57 => ?_) (fun c57 => ?_)
        · refine fc_iconst C dX7_reads_78 ?_
          refine fc_istore_n C dX7_reads_79 rfl (by decide) ?_
          refine fc_aload_n C dX7_reads_80 rfl rfl ?_
          refine fc_iconst C dX7_reads_81 ?_
          refine fh_putf _ C dX7_reads_82 fl_X7_300 rfl (Nat.le_of_ble_eq_true rfl) rfl rfl ?_
          refine fc_aload_n C dX7_reads_85 rfl rfl ?_
          refine fc_iconst C dX7_reads_86 ?_
          refine fh_putf _ C dX7_reads_87 fl_X7_336 rfl (Nat.le_of_ble_eq_true rfl) rfl rfl ?_
          refine fc_aload_n C dX7_reads_90 rfl rfl ?_
          refine fc_aload_n C dX7_reads_91 rfl rfl ?_
          refine fh_callV (y := mX7_many) C dX7_reads_92 ml_X7_60 mi_X7_many im_X7_many se_X7_many (r_many e2) rfl rfl (by decide) rfl (Nat.le_of_ble_eq_true rfl) (Nat.zero_le _) (Nat.zero_le _) rfl ?_
          refine fh_putf _ C dX7_reads_95 fl_X7_320 rfl (Nat.le_of_ble_eq_true rfl) rfl rfl ?_
          have T2 := ((((T1.ar (A' := A2) (frA2 157 (by omega))).at_ 0).nt_ 0).pt_ (v 0))
          refine loop (K + 1) 0 A2 _ b _ _ (by omega) (by omega) (fun j hj => by omega) e2 (fun j j0 j1 => h146 j j0 (by omega)) ?_ ?_ T2
          · refine hm.fr (by rw [frA2 145 (by omega), frA1 145 (by omega)]) (by rw [frA2 147 (by omega), frA1 147 (by omega)]) (by rw [frA2 157 (by omega), frA1 157 (by omega)]) ?_ ?_
            · rw [ff_k (by omega), ff_k (by omega), ff_k (by omega)]; exact fr1.2.1
            · rw [ff_k (by omega), ff_k (by omega), ff_k (by omega)]; exact fr1.2.2
          · exact fun j hj => ⟨by rw [frA2 j (by omega), frA1 j (by omega)], by rw [ff_n (by omega), ff_n (by omega), ff_n (by omega)]; exact fr1.1 j (by omega)⟩
        · refine fc_aload_n C dX7_reads_60 rfl rfl ?_
          refine fh_getf C dX7_reads_61 fl_X7_16 rfl rfl ?_
          refine fc_iload_n C dX7_reads_64 rfl rfl ?_
          refine fc_aload_n C dX7_reads_65 rfl rfl ?_
          refine fh_getf C dX7_reads_66 fl_X7_7 rfl rfl ?_
          refine fc_iload_n C dX7_reads_69 rfl rfl ?_
          refine fh_iaload C dX7_reads_70 (fun _ _ => rfl) (by omega) (by omega) (by decide) ?_
          refine fh_iastore C dX7_reads_71 (fun _ _ => rfl) (by omega) (by omega) (by decide) ?_
          refine fc_iinc C dX7_reads_72 rfl (by decide) ?_
          refine fc_goto (tgt := 54) C dX7_reads_75 (by decide) ?_
          refine ih (k + 1) _ (by omega) (by omega) (by omega) (fun j j0 j1 => ?_) (fun j hj => by rw [fa_n _ _ hj]; exact frA2 j hj)
          rw [fa_s]
          unfold fc_set
          by_cases q : j = k
          · rw [if_pos q, e2, q]
          · rw [if_neg q]; exact h146 j j0 (by omega)
    refine fc_iconst C dX7_reads_52 ?_
    refine fc_istore_n C dX7_reads_53 rfl (by decide) ?_
    exact copy 55 0 A1 (by omega) (by omega) (by omega) (fun j j0 j1 => by omega) (fun _ _ => rfl)
  -- the first pass: the k + 1st order has been tried
  have first : ∀ (m k : Nat) (A1 : Nat → Int → Int) (F1 : Nat → Nat → Int) (b1 c1 d1 : Int) (y2 y3 : Option fc_AV), tl - (t_ch tx tl (v 0) (k + 1)).2.1 < m → (∀ j : Nat, j ≤ k → (t_ch tx tl (v 0) j).1 = 1) → (∀ j : Nat, 1 ≤ j → j ≤ k → t_p tx tl (v 0) j < tl) → (∀ j : Nat, j ≠ 158 → A1 j = A j) → m_tf F F1 → m_T A1 F1 tx tl (t_ch tx tl (v 0) (k + 1)).2.1 b1 c1 d1 → ((t_ch tx tl (v 0) (k + 1)).1 = 1 → c1 = t_m tx tl (v 0) (k + 1)) → fc_W X 0 0 159 (fc_H A1 F1) 19 [some (vR 143), some (vI (t_ch tx tl (v 0) (k + 1)).1), y2, y3] [] := by
    intro m
    induction m with
    | zero =>
      intro k A1 F1 b1 c1 d1 y2 y3 z0 hk
      exfalso
      have h9 := t_ch_bd (tx := tx) hn htl.1 (hk k (by omega))
      have hs := t_sk_bd (tx := tx) h9.2.1
      have := t_ord_le (tx := tx) (tl := tl) (m := t_m tx tl (v 0) k) (i := t_p tx tl (v 0) k) (by unfold t_p; omega) hs.2.1
      rw [← t_ch_step (hk k (by omega))] at this
      omega
    | succ m ih =>
      intro k A1 F1 b1 c1 d1 y2 y3 z0 hk hp frA fr T1 hc1
      have e1 : A1 144 = v := (frA 144 (by omega)).trans e
      have hbk := t_ch_bd (tx := tx) hn htl.1 (hk k (by omega))
      have hskk := t_sk_bd (tx := tx) hbk.2.1
      have hob := t_ord_bd (tx := tx) (tl := tl) (m := t_m tx tl (v 0) k) (i := t_p tx tl (v 0) k) (by unfold t_p; omega) hskk.2.1 hbk.2.2
      rw [← t_ch_step (hk k (by omega))] at hob
      have h01 : (t_ch tx tl (v 0) (k + 1)).1 = 0 ∨ (t_ch tx tl (v 0) (k + 1)).1 = 1 := by
        rw [t_ch_step (hk k (by omega))]
        unfold t_ord
        split
        · exact Or.inl rfl
        · split
          · exact Or.inl rfl
          · split
            · exact Or.inl rfl
            · split
              · exact Or.inl rfl
              · exact Or.inr rfl
      refine fc_iload_n C dX7_reads_19 rfl rfl ?_
      refine fc_if_eq (tgt := 40) C dX7_reads_20 (by decide) (fc_Rm (by omega)) (fun c20 => ?_) (fun c20 => ?_)
      · -- a fault
        have e16 := T1.2.2.2.1
        refine fc_iload_n C dX7_reads_40 rfl rfl ?_
        refine fc_if_ne (tgt := 52) C dX7_reads_41 (by decide) (fc_Rm (by omega)) (fun c41 => ?_) (fun c41 => ?_)
        · exact absurd c20 c41
        · refine fc_bipush C dX7_reads_44 (by decide) ?_
          refine fc_aload_n C dX7_reads_46 rfl rfl ?_
          refine fh_getf C dX7_reads_47 fl_X7_300 rfl rfl ?_
          rw [e16]
          refine fc_isub C dX7_reads_50 ?_
          refine fh_iretE C T dX7_reads_51 (Or.inl rfl) ⟨k, (t_ch tx tl (v 0) (k + 1)).2.1, ⟨hk, fun j j1 j2 => hp j j1 (by omega), Or.inr ⟨by omega, ?_, rfl⟩⟩, fun _ => ⟨rfl, v_eq.of e1, hm.fr (frA 145 (by omega)) (frA 147 (by omega)) (frA 157 (by omega)) fr.2.1 fr.2.2, fun j hj => ⟨frA j (by omega), fr.1 j (by omega)⟩⟩, fun z => by omega⟩
          by_cases q : k = 0
          · exact Or.inl q
          · exact Or.inr (hp k (by omega) (by omega))
      · have hok : (t_ch tx tl (v 0) (k + 1)).1 = 1 := by omega
        have hk' : ∀ j : Nat, j ≤ k + 1 → (t_ch tx tl (v 0) j).1 = 1 := fun j hj => by
          by_cases q : j = k + 1
          · rw [q]; exact hok
          · exact hk j (by omega)
        have hb1 := t_ch_bd (tx := tx) hn htl.1 hok
        have hs1 := t_sk_bd (tx := tx) hb1.2.1
        refine fc_aload_n C dX7_reads_23 rfl rfl ?_
        refine fh_callVE (y := mX7_here) C dX7_reads_24 ml_X7_307 mi_X7_here im_X7_here se_X7_here (r_here T1 hb1.1 hb1.2.1) rfl rfl (by decide) rfl (Nat.le_of_ble_eq_true rfl) (Nat.zero_le _) (Nat.zero_le _) rfl ?_
        rintro r A2 F2 ⟨rfl, rfl, T2, fr2⟩
        refine fc_eq (st' := [vI (t_b tx tl (t_p tx tl (v 0) (k + 1)))]) rfl rfl ?_
        have hb2 := T2.b (j := t_p tx tl (v 0) (k + 1)) (by unfold t_p; omega)
        refine fc_iconst C dX7_reads_27 ?_
        refine fc_icmp_eq (tgt := 40) C dX7_reads_28 (by decide) (fc_Rm (by omega)) (fc_Rm (by omega)) (fun c28 => ?_) (fun c28 => ?_)
        · have hge : tl ≤ t_p tx tl (v 0) (k + 1) := by
            apply Classical.byContradiction
            intro z
            have : t_b tx tl (t_p tx tl (v 0) (k + 1)) = tx (t_p tx tl (v 0) (k + 1)) := by unfold t_b; rw [if_pos (by omega)]
            have := htx (t_p tx tl (v 0) (k + 1)) (by unfold t_p; omega) (by omega)
            omega
          refine fc_iload_n C dX7_reads_40 rfl rfl ?_
          refine fc_if_ne (tgt := 52) C dX7_reads_41 (by decide) (fc_Rm (by omega)) (fun c41 => ?_) (fun c41 => ?_)
          · exact second (k + 1) A2 F2 _ _ _ ⟨hk', fun j j1 j2 => hp j j1 (by omega), Or.inl ⟨rfl, by omega, hge⟩⟩ e1 frA (fr.tr fr2) ⟨_, _, _, _, T2⟩
          · omega
        · have hlt : t_p tx tl (v 0) (k + 1) < tl := t_b_lt (tx := tx) c28
          have hidem : t_sk tx tl (t_sk tx tl (t_ch tx tl (v 0) (k + 1)).2.1) = t_p tx tl (v 0) (k + 1) := t_sk_sk hb1.2.1
          have hc9 := hc1 hok
          refine fc_aload_n C dX7_reads_31 rfl rfl ?_
          refine fc_iconst C dX7_reads_32 ?_
          refine fh_callVE (y := mX7_readsOrder) C dX7_reads_33 ml_X7_342 mi_X7_readsOrder im_X7_readsOrder se_X7_readsOrder (r_readsOrder e1 hv T2 (by unfold t_p at hlt; omega) hs1.2.1 (by rw [hc9]; exact hb1.2.2) (dn := 0) (Or.inl rfl)) rfl rfl (by decide) rfl (Nat.le_of_ble_eq_true rfl) (Nat.zero_le _) (Nat.zero_le _) rfl ?_
          rintro r A3 F3 ⟨rfl, frA3, fr3, vl3, pt3, nt3, T3, hpt3, -, -⟩
          have est : t_ch tx tl (v 0) (k + 1 + 1) = t_ord tx tl c1 (t_p tx tl (v 0) (k + 1)) := by rw [t_ch_step hok, hc9]
          rw [hidem, ← est] at T3 hpt3
          refine fc_eq (st' := [vI (t_ch tx tl (v 0) (k + 1 + 1)).1]) rfl (by rw [hidem, ← est]; rfl) ?_
          have hob2 := t_ord_bd (tx := tx) (tl := tl) (m := t_m tx tl (v 0) (k + 1)) (i := t_p tx tl (v 0) (k + 1)) (by unfold t_p; omega) hs1.2.1 hb1.2.2
          rw [← t_ch_step hok] at hob2
          refine fc_istore_n C dX7_reads_36 rfl (by decide) ?_
          refine fc_goto (tgt := 19) C dX7_reads_37 (by decide) ?_
          by_cases hq : (t_ch tx tl (v 0) (k + 1 + 1)).1 = 1
          · have h9 := hob2.1 hq
            have hpp : t_ch tx tl (v 0) (k + 1) = t_ch tx tl (v 0) (k + 1) := rfl
            refine ih (k + 1) A3 F3 vl3 pt3 nt3 _ _ ?_ hk' (fun j j1 j2 => ?_) (fun j hj => by rw [frA3 j hj (Or.inl rfl)]; exact frA j hj) ((fr.tr fr2).tr fr3) T3 hpt3
            · have : (t_ch tx tl (v 0) (k + 1)).2.1 ≤ t_p tx tl (v 0) (k + 1) := hs1.1
              omega
            · by_cases q : j = k + 1
              · rw [q]; exact hlt
              · exact hp j j1 (by omega)
          · -- the next one is no order: the fault comes at once
            have h01' : (t_ch tx tl (v 0) (k + 1 + 1)).1 = 0 := by
              have : (t_ch tx tl (v 0) (k + 1 + 1)).1 = 0 ∨ (t_ch tx tl (v 0) (k + 1 + 1)).1 = 1 := by
                rw [t_ch_step hok]
                unfold t_ord
                split
                · exact Or.inl rfl
                · split
                  · exact Or.inl rfl
                  · split
                    · exact Or.inl rfl
                    · split
                      · exact Or.inl rfl
                      · exact Or.inr rfl
              omega
            have e16 := T3.2.2.2.1
            refine fc_iload_n C dX7_reads_19 rfl rfl ?_
            refine fc_if_eq (tgt := 40) C dX7_reads_20 (by decide) (fc_Rm (by omega)) (fun c20b => ?_) (fun c20b => ?_)
            · refine fc_iload_n C dX7_reads_40 rfl rfl ?_
              refine fc_if_ne (tgt := 52) C dX7_reads_41 (by decide) (fc_Rm (by omega)) (fun c41 => ?_) (fun c41 => ?_)
              · exact absurd h01' c41
              · refine fc_bipush C dX7_reads_44 (by decide) ?_
                refine fc_aload_n C dX7_reads_46 rfl rfl ?_
                refine fh_getf C dX7_reads_47 fl_X7_300 rfl rfl ?_
                rw [e16]
                refine fc_isub C dX7_reads_50 ?_
                refine fh_iretE C T dX7_reads_51 (Or.inl rfl) ⟨k + 1, (t_ch tx tl (v 0) (k + 1 + 1)).2.1, ⟨hk', fun j j1 j2 => hp j j1 (by omega), Or.inr ⟨by omega, Or.inr hlt, rfl⟩⟩, fun _ => ⟨rfl, v_eq.of (by rw [frA3 144 (by omega) (Or.inl rfl)]; exact e1), hm.fr (by rw [frA3 145 (by omega) (Or.inl rfl), frA 145 (by omega)]) (by rw [frA3 147 (by omega) (Or.inl rfl), frA 147 (by omega)]) (by rw [frA3 157 (by omega) (Or.inl rfl), frA 157 (by omega)]) ((fr.tr fr2).tr fr3).2.1 ((fr.tr fr2).tr fr3).2.2, fun j hj => ⟨by rw [frA3 j (by omega) (Or.inl rfl)]; exact frA j (by omega), ((fr.tr fr2).tr fr3).1 j (by omega)⟩⟩, fun z => by omega⟩
            · exact absurd h01' c20b
  have T00 : m_T A F tx tl (F 143 16) (F 143 17) (F 143 19) (F 143 20) := ⟨h15, htl, fun j j0 j1 => ⟨ht j j0 j1, htx j j0 j1⟩, rfl, rfl, rfl, rfl⟩
  have T01 := (T00.at_ 0).pt_ (v 0)
  refine fc_aload_n C dX7_reads_0 rfl rfl ?_
  refine fc_iconst C dX7_reads_1 ?_
  refine fh_putf _ C dX7_reads_2 fl_X7_300 rfl (Nat.le_of_ble_eq_true rfl) rfl rfl ?_
  refine fc_aload_n C dX7_reads_5 rfl rfl ?_
  refine fc_aload_n C dX7_reads_6 rfl rfl ?_
  refine fh_callV (y := mX7_many) C dX7_reads_7 ml_X7_60 mi_X7_many im_X7_many se_X7_many (r_many e) rfl rfl (by decide) rfl (Nat.le_of_ble_eq_true rfl) (Nat.zero_le _) (Nat.zero_le _) rfl ?_
  refine fh_putf _ C dX7_reads_10 fl_X7_320 rfl (Nat.le_of_ble_eq_true rfl) rfl rfl ?_
  have fr0 : m_tf F (ff_up (ff_up F 143 16 0) 143 19 (v 0)) := (m_tf.rf.up (by omega) (by omega)).up (by omega) (by omega)
  refine fc_aload_n C dX7_reads_13 rfl rfl ?_
  refine fc_iconst C dX7_reads_14 ?_
  refine fh_callVE (y := mX7_readsOrder) C dX7_reads_15 ml_X7_342 mi_X7_readsOrder im_X7_readsOrder se_X7_readsOrder (r_readsOrder e hv T01 (by omega) htl.1 hn (dn := 0) (Or.inl rfl)) rfl rfl (by decide) rfl (Nat.le_of_ble_eq_true rfl) (Nat.zero_le _) (Nat.zero_le _) rfl ?_
  rintro r A1 F1 ⟨rfl, frA1, fr1, vl1, pt1, nt1, T1, hpt1, -, -⟩
  have est : t_ch tx tl (v 0) (0 + 1) = t_ord tx tl (v 0) (t_sk tx tl 0) := t_ch_step (k := 0) rfl
  rw [← est] at T1 hpt1
  refine fc_eq (st' := [vI (t_ch tx tl (v 0) (0 + 1)).1]) rfl (by rw [← est]; rfl) ?_
  refine fc_istore_n C dX7_reads_18 rfl (by decide) ?_
  have hob := t_ord_bd (tx := tx) (tl := tl) (m := v 0) (i := t_sk tx tl 0) (t_sk_bd (tx := tx) htl.1).1 (t_sk_bd (tx := tx) htl.1).2.1 hn
  rw [← est] at hob
  exact first 122 0 A1 F1 vl1 pt1 nt1 none none (by omega) (fun j hj => by rw [show j = 0 by omega]; rfl) (fun j j1 j2 => by omega) (fun j hj => frA1 j hj (Or.inl rfl)) (fr0.tr fr1) T1 hpt1
end REF9
