/-! public: rank -/
def v_dl (v : Int → Int) : Int → Int := fun p => s_val (v_L v) (v 0) p - 2 - v (26 + p)
def v_rr (v : Int → Int) (w : Int) : Int → Int := if w = 2 then v_c v else v_dl v
noncomputable def x_rk (v : Int → Int) (w : Int) : Int := if 0 ≤ w ∧ w ≤ 3 then (if 2 ≤ w then (if fc_ind (s_J (v_L v) (v 0) ∧ fs_sum (v_rr v w) (v 0).toNat ≤ 12) = 1 then 0 else -3) else 0) else -2
def a_rk (v : Int → Int) (w a : Int) : Prop := (w = 0 → a = fs_sum (v_c v) (v 0).toNat + 10000) ∧ (w = 1 → a = s_lc (v_L v) (v 0) - v 0 + 1 + 10) ∧ (2 ≤ w → ∃ r : Int, z_rk (v_L v) (v 0) (v_rr v w) r ∧ a = r + 1)
theorem z_wn_cg {L : Int → Int → Int} {n : Int} {x y : Int → Int} (h : ∀ p : Int, 0 ≤ p → p < n → x p = y p) (H : z_wn L n x) : z_wn L n y := H.ev (z_ev.of h)
theorem z_rk.congr {L : Int → Int → Int} {n : Int} {x y : Int → Int} {r : Int} (H : z_rk L n x r) (h : ∀ p : Int, 0 ≤ p → p < n → x p = y p) : z_rk L n y r := by
  refine ⟨H.1, fun e he => z_wn_cg (fun p p0 p1 => by show x p - e p = y p - e p; rw [h p p0 p1]) (H.2.1 e he), ?_⟩
  obtain ⟨e, he, hw⟩ := H.2.2
  exact ⟨e, he, fun z => hw (z_wn_cg (fun p p0 p1 => by show y p - e p = x p - e p; rw [h p p0 p1]) z)⟩
section PUB7
variable {A : Nat → Int → Int} {F : Nat → Nat → Int} {v : Int → Int} {ps : Int → Int → Int} {st : Int} {rf tx : Int → Int} {tl : Int}
theorem o_rank (RC : k_RC A F v ps st rf tx tl) {w : Int} (hw : fc_R w) : fh_E mX6_rank 17 [vR 0, vI w] A F (fun r A' F' => ∃ a : Int, (x_rk v w = 0 → a_rk v w a) ∧ k_an A F (x_rk v w) a v ps st rf tx tl r A' F') := by
  obtain ⟨E, hv, H, R⟩ := id RC
  have hn := hv.n
  have e30 : F 3 0 = v 0 := E.1
  have hch : ∀ p : Int, 0 ≤ p → p < 5 → A 10 p = v_c v p := fun p p0 p1 => E.2.2.1 p p0 p1
  refine fh_E.of mi_X6_rank (Nat.le_of_ble_eq_true rfl) ?_
  intro X C T
  have bad : ¬ (0 ≤ w ∧ w ≤ 3) → fc_W X 0 0 159 (fc_H A F) 9 [some (vR 0), some (vI w)] [] := by
    intro h
    refine fc_aload_n C dX6_rank_9 rfl rfl ?_
    refine fc_bipush C dX6_rank_10 (by decide) ?_
    refine fh_callV (y := mX6_refuse) C dX6_rank_12 ml_X6_80 mi_X6_refuse im_X6_refuse se_X6_refuse (c_refuse (Or.inl rfl)) rfl rfl (by decide) rfl (Nat.le_of_ble_eq_true rfl) (Nat.zero_le _) (Nat.zero_le _) rfl ?_
    exact fh_iretE C T dX6_rank_15 (Or.inl rfl) ⟨0, fun q => by rw [show x_rk v w = -2 from if_neg h] at q; omega, k_an.no RC (if_neg h) (Or.inl rfl)⟩
  refine fc_iload_n C dX6_rank_0 rfl rfl ?_
  refine fc_if_lt (tgt := 9) C dX6_rank_1 (by decide) (hw) (fun c1 => ?_) (fun c1 => ?_)
  · exact bad (by omega)
  · refine fc_iload_n C dX6_rank_4 rfl rfl ?_
    refine fc_iconst C dX6_rank_5 ?_
    refine fc_icmp_le (tgt := 16) C dX6_rank_6 (by decide) (hw) (fc_Rm (by omega)) (fun c6 => ?_) (fun c6 => ?_)
    · refine fc_iload_n C dX6_rank_16 rfl rfl ?_
      refine fc_if_ne (tgt := 42) C dX6_rank_17 (by decide) (hw) (fun c17 => ?_) (fun c17 => ?_)
      · refine fc_iload_n C dX6_rank_42 rfl rfl ?_
        refine fc_iconst C dX6_rank_43 ?_
        refine fc_icmp_ne (tgt := 58) C dX6_rank_44 (by decide) (hw) (fc_Rm (by omega)) (fun c44 => ?_) (fun c44 => ?_)
        · have hw2 : w = 2 ∨ w = 3 := by omega
          -- the row is laid
          have main : ∀ A1 : Nat → Int → Int, (∀ p : Int, 0 ≤ p → p < v 0 → A1 142 p = v_rr v w p) → (∀ j : Nat, j ≠ 142 → A1 j = A j) → fc_W X 0 0 159 (fc_H A1 F) 91 [some (vR 0), some (vI w)] [] := by
            intro A1 h142 fr1
            have RC1 := (RC.gr (A' := A1) (F' := F) (fun i a b c => ⟨fr1 i c, rfl⟩)).1
            have fr01 := (RC.gr (A' := A1) (F' := F) (fun i a b c => ⟨fr1 i c, rfl⟩)).2
            obtain ⟨E1, -, -, -⟩ := id RC1
            have hbd : ∀ p : Int, 0 ≤ p → p < v 0 → -1500 ≤ A1 142 p ∧ A1 142 p ≤ 1500 := fun p p0 p1 => by
              rw [h142 p p0 p1]
              have h1 := hv.2.2.2.1 p p0 (by omega)
              have h2 := s_val_bd hv.g (n := v 0) (p := p) (by omega) hn.2 p0 (by omega)
              unfold v_rr
              split
              · unfold v_c; omega
              · unfold v_dl; omega
            have hdb := fs_sum5 (f := A1 142) (n := v 0) (B := 1500) (by omega) (by omega) hbd
            have hde : fs_sum (A1 142) (v 0).toNat = fs_sum (v_rr v w) (v 0).toNat := fs_sum_congr fun p p0 p1 => h142 p p0 (by omega)
            have no : ¬ (s_J (v_L v) (v 0) ∧ fs_sum (v_rr v w) (v 0).toNat ≤ 12) → fc_W X 0 0 159 (fc_H A1 F) 120 [some (vR 0), some (vI w)] [] := by
              intro h
              have e3 : x_rk v w = -3 := by
                unfold x_rk
                rw [if_pos (by omega), if_pos (by omega), if_neg (by unfold fc_ind; rw [if_neg h]; decide)]
              refine fc_aload_n C dX6_rank_120 rfl rfl ?_
              refine fc_bipush C dX6_rank_121 (by decide) ?_
              refine fh_callV (y := mX6_refuse) C dX6_rank_123 ml_X6_80 mi_X6_refuse im_X6_refuse se_X6_refuse (c_refuse (Or.inr (Or.inl rfl))) rfl rfl (by decide) rfl (Nat.le_of_ble_eq_true rfl) (Nat.zero_le _) (Nat.zero_le _) rfl ?_
              refine fh_iretE C T dX6_rank_126 (Or.inl rfl) ⟨0, fun q => by rw [e3] at q; omega, ?_⟩
              have := k_an.no (ans := 0) RC1 e3 (Or.inr (Or.inl rfl))
              exact ⟨this.1, this.2.1, fr01.tr this.2.2⟩
            refine fc_aload_n C dX6_rank_91 rfl rfl ?_
            refine fh_getf C dX6_rank_92 fl_X6_24 rfl rfl ?_
            refine fh_callV (y := mX3_isJoined) C dX6_rank_95 ml_X6_98 mi_X3_isJoined im_X3_isJoined se_X3_isJoined (c_isJoined (E1.net hv) hv.g) rfl rfl (by decide) rfl (Nat.le_of_ble_eq_true rfl) (Nat.zero_le _) (Nat.zero_le _) rfl ?_
            refine fc_if_eq (tgt := 120) C dX6_rank_98 (by decide) (fc_ind_R _) (fun c98 => ?_) (fun c98 => ?_)
            · have c98 := fc_ind_0 c98
              exact no (fun h => c98 h.1)
            · have hJ := fc_ind_ne c98
              refine fc_aload_n C dX6_rank_101 rfl rfl ?_
              refine fh_getf C dX6_rank_102 fl_X6_51 rfl rfl ?_
              refine fc_aload_n C dX6_rank_105 rfl rfl ?_
              refine fh_getf C dX6_rank_106 fl_X6_24 rfl rfl ?_
              refine fh_getf C dX6_rank_109 fl_X6_54 rfl rfl ?_
              refine fh_callS (y := mX6_degreeOf) C dX6_rank_112 ml_X6_199 mi_X6_degreeOf st_X6_degreeOf (c_degreeOf (i := 142) (n := F 3 0) (fun _ _ => rfl) (by omega) (by omega)) (by decide) rfl (Nat.le_of_ble_eq_true rfl) (Nat.zero_le _) (Nat.zero_le _) rfl ?_
              refine fc_bipush C dX6_rank_115 (by decide) ?_
              rw [e30, hde]
              refine fc_icmp_le (tgt := 127) C dX6_rank_117 (by decide) (fc_Rm (by omega)) (fc_Rm (by omega)) (fun c117 => ?_) (fun c117 => ?_)
              · have hx : x_rk v w = 0 := by
                  unfold x_rk
                  rw [if_pos (by omega), if_pos (by omega), if_pos (by unfold fc_ind; rw [if_pos ⟨hJ, c117⟩])]
                refine fc_aload_n C dX6_rank_127 rfl rfl ?_
                refine fh_getf C dX6_rank_128 fl_X6_29 rfl rfl ?_
                refine fc_aload_n C dX6_rank_131 rfl rfl ?_
                refine fh_getf C dX6_rank_132 fl_X6_24 rfl rfl ?_
                refine fc_iconst C dX6_rank_135 ?_
                refine fh_callVE (y := mX1_takeWhole) C dX6_rank_136 ml_X6_175 mi_X1_takeWhole im_X1_takeWhole se_X1_takeWhole (c_takeWhole (E1.net hv) hv.g (q := 0) ⟨by omega, by omega⟩ hJ) rfl rfl (by decide) rfl (Nat.le_of_ble_eq_true rfl) (Nat.zero_le _) (Nat.zero_le _) rfl ?_
                rintro r A2 F2 ⟨rfl, G2, fr2⟩
                refine fc_eq (st' := []) rfl rfl ?_
                have g2 := RC1.gr (A' := A2) (F' := F2) (fun i a b c => fr2 i (by omega))
                obtain ⟨E2, -, -, -⟩ := id g2.1
                have h142' : ∀ p : Int, 0 ≤ p → p < v 0 → A2 142 p = v_rr v w p := fun p p0 p1 => by rw [(fr2 142 (by omega)).1]; exact h142 p p0 p1
                refine fc_aload_n C dX6_rank_139 rfl rfl ?_
                refine fh_getf C dX6_rank_140 fl_X6_40 rfl rfl ?_
                refine fc_aload_n C dX6_rank_143 rfl rfl ?_
                refine fh_getf C dX6_rank_144 fl_X6_29 rfl rfl ?_
                refine fc_aload_n C dX6_rank_147 rfl rfl ?_
                refine fh_getf C dX6_rank_148 fl_X6_51 rfl rfl ?_
                refine fc_aload_n C dX6_rank_151 rfl rfl ?_
                refine fh_getf C dX6_rank_152 fl_X6_24 rfl rfl ?_
                refine fh_callV (y := mX3_genus) C dX6_rank_155 ml_X6_203 mi_X3_genus im_X3_genus se_X3_genus (c_genus (E2.net hv) hv.g) rfl rfl (by decide) rfl (Nat.le_of_ble_eq_true rfl) (Nat.zero_le _) (Nat.zero_le _) rfl ?_
                refine fh_callVE (y := mX4_rankOf) C dX6_rank_158 ml_X6_209 mi_X4_rankOf im_X4_rankOf se_X4_rankOf (c_rankOf G2 hv.g hn hJ (fun p p0 p1 => by rw [(fr2 142 (by omega)).1]; exact hbd p p0 p1) (by rw [(fr2 142 (by omega)).1, hde]; exact c117) rfl) rfl rfl (by decide) rfl (Nat.le_of_ble_eq_true rfl) (Nat.zero_le _) (Nat.zero_le _) rfl ?_
                rintro r A3 F3 ⟨⟨k, rfl, hk⟩, frA, frF⟩
                refine fc_eq (st' := [vI k]) rfl rfl ?_
                have g3 := g2.1.gr (A' := A3) (F' := F3) (fun i a b c => ⟨frA i (by omega) (by omega) (by omega), frF i (by omega)⟩)
                refine fc_iconst C dX6_rank_161 ?_
                refine fc_iadd C dX6_rank_162 ?_
                exact fh_iretE C T dX6_rank_163 (Or.inl rfl) ⟨k + 1, fun _ => ⟨fun q => by omega, fun q => by omega, fun _ => ⟨k, hk.congr h142', rfl⟩⟩, k_an.yes g3.1 (fr01.tr (g2.2.tr g3.2)) hx rfl⟩
              · exact no (fun h => by have := h.2; omega)
          refine fc_iload_n C dX6_rank_58 rfl rfl ?_
          refine fc_iconst C dX6_rank_59 ?_
          refine fc_icmp_ne (tgt := 80) C dX6_rank_60 (by decide) (hw) (fc_Rm (by omega)) (fun c60 => ?_) (fun c60 => ?_)
          · refine fc_aload_n C dX6_rank_80 rfl rfl ?_
            refine fh_getf C dX6_rank_81 fl_X6_24 rfl rfl ?_
            refine fc_aload_n C dX6_rank_84 rfl rfl ?_
            refine fh_getf C dX6_rank_85 fl_X6_51 rfl rfl ?_
            refine fh_callVv (y := mX3_writeDual) C dX6_rank_88 ml_X6_206 mi_X3_writeDual im_X3_writeDual se_X3_writeDual (c_writeDual (E.net hv) (i := 142) (fun _ _ => rfl) ⟨by omega, by omega⟩) rfl rfl (by decide) rfl (Nat.le_of_ble_eq_true rfl) (Nat.zero_le _) (Nat.zero_le _) rfl ?_
            refine main _ (fun p p0 p1 => ?_) (fun j hj => fa_n _ _ hj)
            rw [fa_s, fc_cpy_in p0 p1, hch p p0 (by omega)]
            unfold v_rr
            rw [if_neg c60]
            rfl
          · refine fc_aload_n C dX6_rank_63 rfl rfl ?_
            refine fh_getf C dX6_rank_64 fl_X6_24 rfl rfl ?_
            refine fh_getf C dX6_rank_67 fl_X6_114 rfl rfl ?_
            refine fc_aload_n C dX6_rank_70 rfl rfl ?_
            refine fh_getf C dX6_rank_71 fl_X6_51 rfl rfl ?_
            refine fh_callSv (y := mX6_copyRow) C dX6_rank_74 ml_X6_185 mi_X6_copyRow st_X6_copyRow (c_copyRow (fun _ _ => rfl) (fun _ _ => rfl)) (by decide) rfl (Nat.le_of_ble_eq_true rfl) (Nat.zero_le _) (Nat.zero_le _) rfl ?_
            refine fc_goto (tgt := 91) C dX6_rank_77 (by decide) ?_
            refine main _ (fun p p0 p1 => ?_) (fun j hj => fa_n _ _ hj)
            rw [fa_s, fc_cpy_in p0 (by omega), hch p p0 (by omega)]
            unfold v_rr
            rw [if_pos (by omega)]
        · have hx : x_rk v w = 0 := by unfold x_rk; rw [if_pos (by omega), if_neg (by omega)]
          refine fc_aload_n C dX6_rank_47 rfl rfl ?_
          refine fh_getf C dX6_rank_48 fl_X6_24 rfl rfl ?_
          refine fh_callV (y := mX3_genus) C dX6_rank_51 ml_X6_203 mi_X3_genus im_X3_genus se_X3_genus (c_genus (E.net hv) hv.g) rfl rfl (by decide) rfl (Nat.le_of_ble_eq_true rfl) (Nat.zero_le _) (Nat.zero_le _) rfl ?_
          refine fc_bipush C dX6_rank_54 (by decide) ?_
          refine fc_iadd C dX6_rank_56 ?_
          exact fh_iretE C T dX6_rank_57 (Or.inl rfl) ⟨s_lc (v_L v) (v 0) - v 0 + 1 + 10, fun _ => ⟨fun q => by omega, fun _ => rfl, fun q => by omega⟩, k_an.yes RC k_fr.rf hx rfl⟩
      · have hx : x_rk v w = 0 := by unfold x_rk; rw [if_pos (by omega), if_neg (by omega)]
        refine fc_aload_n C dX6_rank_20 rfl rfl ?_
        refine fh_getf C dX6_rank_21 fl_X6_24 rfl rfl ?_
        refine fh_getf C dX6_rank_24 fl_X6_114 rfl rfl ?_
        refine fc_aload_n C dX6_rank_27 rfl rfl ?_
        refine fh_getf C dX6_rank_28 fl_X6_24 rfl rfl ?_
        refine fh_getf C dX6_rank_31 fl_X6_54 rfl rfl ?_
        refine fh_callS (y := mX6_degreeOf) C dX6_rank_34 ml_X6_199 mi_X6_degreeOf st_X6_degreeOf (c_degreeOf (i := 10) (n := F 3 0) (fun _ _ => rfl) (by omega) (by omega)) (by decide) rfl (Nat.le_of_ble_eq_true rfl) (Nat.zero_le _) (Nat.zero_le _) rfl ?_
        refine fc_sipush C dX6_rank_37 (by decide) ?_
        refine fc_iadd C dX6_rank_40 ?_
        refine fh_iretE C T dX6_rank_41 (Or.inl rfl) ⟨fs_sum (v_c v) (v 0).toNat + 10000, fun _ => ⟨fun _ => rfl, fun q => by omega, fun q => by omega⟩, k_an.yes RC k_fr.rf hx ?_⟩
        rw [e30, fs_sum_congr (f := A 10) (g := v_c v) (fun p p0 p1 => hch p p0 (by omega))]
    · exact bad (by omega)
end PUB7
