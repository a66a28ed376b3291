/-! Grounded: the common divisors of the minors -/
def d_vd (n q size R : Int) : Prop := 0 ≤ R ∧ R < 32 ∧ fc_and R (fc_xor (fb_oth n q) (-1)) = 0 ∧ s_pc R = size
theorem fb_sub {R O : Int} (h0 : 0 ≤ R) (h1 : R < 32) (h2 : 0 ≤ O) (h3 : O < 32) : (fc_and R (fc_xor O (-1)) = 0 → R ≤ O) ∧ 0 ≤ fc_and R (fc_xor O (-1)) ∧ fc_and R (fc_xor O (-1)) < 32 := by
  have key : ∀ R : Fin 32, ∀ O : Fin 32, (fc_and ((R.val : Nat) : Int) (fc_xor ((O.val : Nat) : Int) (-1)) = 0 → ((R.val : Nat) : Int) ≤ ((O.val : Nat) : Int)) ∧ 0 ≤ fc_and ((R.val : Nat) : Int) (fc_xor ((O.val : Nat) : Int) (-1)) ∧ fc_and ((R.val : Nat) : Int) (fc_xor ((O.val : Nat) : Int) (-1)) < 32 := by decide +kernel
  have := key ⟨R.toNat, by omega⟩ ⟨O.toNat, by omega⟩
  simp only [Int.toNat_of_nonneg h0, Int.toNat_of_nonneg h2] at this
  exact this
theorem s_pc_bd {R : Int} (h0 : 0 ≤ R) (h1 : R < 32) : 0 ≤ s_pc R ∧ s_pc R ≤ 5 := by
  have key : ∀ R : Fin 32, 0 ≤ s_pc ((R.val : Nat) : Int) ∧ s_pc ((R.val : Nat) : Int) ≤ 5 := by decide +kernel
  exact fz_lt (P := fun R => 0 ≤ s_pc R ∧ s_pc R ≤ 5) (N := 32) key h0 h1
section PARTS
variable {A : Nat → Int → Int} {F : Nat → Nat → Int} {L : Int → Int → Int} {n q : Int}
theorem c_commonDivisor (M : k_mx A F n q L) (hg : g_ok L) (hn : 2 ≤ n ∧ n ≤ 5) (hq : 0 ≤ q ∧ q < n) {z : Int} (hz : fc_R z) : fh_E mX1_commonDivisor 7 [vR 17, vI z] A F (fun r A' F' => A' = A ∧ F' = F ∧ ∃ g : Nat, r = some (vL (g : Int)) ∧ g ≤ 2373046875 ∧ ∀ d : Nat, d ∣ g ↔ ∀ R S : Int, d_vd n q z R → d_vd n q z S → (d : Int) ∣ d_mi (s_M L n) n R n.toNat S) := by
  have hb := fb_all_bd (n := n) (by omega) (by omega)
  have ho := (fb_outs hb.1 hb.2 hq.1 (show q < 5 by omega)).2
  have eo : fb_out (fb_all n) q = fb_oth n q := rfl
  rw [eo] at ho
  refine fh_E.of mi_X1_commonDivisor (Nat.le_of_ble_eq_true rfl) ?_
  intro X C T
  have loop1 : ∀ (m : Nat) (R : Int) (g : Nat) (y : Option fc_AV), 0 ≤ R → R ≤ fb_oth n q + 1 → fb_oth n q + 1 - R < m → g ≤ 2373046875 → (∀ d : Nat, d ∣ g ↔ ∀ R' S : Int, R' < R → d_vd n q z R' → d_vd n q z S → (d : Int) ∣ d_mi (s_M L n) n R' n.toNat S) → fc_W X 0 0 159 (fc_H A F) 11 [some (vR 17), some (vI z), some (vL (g : Int)), none, some (vI (fb_oth n q)), some (vI R), y] [] := by
    intro m
    induction m with
    | zero => intro R g y z0 z1 z2; exfalso; omega
    | succ m ih =>
      intro R g y z0 z1 z2 hgb hd
      refine fc_iload C dX1_commonDivisor_11 rfl ?_
      refine fc_iload C dX1_commonDivisor_13 rfl ?_
      refine fc_icmp_gt (tgt := 95) C dX1_commonDivisor_15 (by decide) (fc_Rm (by omega)) (fc_Rm (by omega)) (fun c15 => ?_) (fun c15 => ?_)
      · refine fc_lload_n C dX1_commonDivisor_95 rfl rfl ?_
        refine fh_lretE C T dX1_commonDivisor_96 ⟨rfl, rfl, g, rfl, hgb, fun d => (hd d).trans ⟨fun h R' S h1 h2 => h R' S ?_ h1 h2, fun h R' S _ h1 h2 => h R' S h1 h2⟩⟩
        have := (fb_sub h1.1 h1.2.1 ho.1 ho.2).1 h1.2.2.1
        omega
      · have nxt : ∀ (g2 : Nat) (y2 : Option fc_AV), g2 ≤ 2373046875 → (∀ d : Nat, d ∣ g2 ↔ ∀ R' S : Int, R' < R + 1 → d_vd n q z R' → d_vd n q z S → (d : Int) ∣ d_mi (s_M L n) n R' n.toNat S) → fc_W X 0 0 159 (fc_H A F) 89 [some (vR 17), some (vI z), some (vL (g2 : Int)), none, some (vI (fb_oth n q)), some (vI R), y2] [] := by
          intro g2 y2 h1 h2
          refine fc_iinc C dX1_commonDivisor_89 rfl (by decide) ?_
          refine fc_goto (tgt := 11) C dX1_commonDivisor_92 (by decide) ?_
          exact ih (R + 1) g2 y2 (by omega) (by omega) (by omega) h1 h2
        have skip : ¬ d_vd n q z R → fc_W X 0 0 159 (fc_H A F) 89 [some (vR 17), some (vI z), some (vL (g : Int)), none, some (vI (fb_oth n q)), some (vI R), y] [] := by
          intro hnv
          refine nxt g y hgb (fun d => (hd d).trans ⟨fun h R' S h0 h1 h2 => ?_, fun h R' S h0 h1 h2 => h R' S (by omega) h1 h2⟩)
          by_cases e : R' = R
          · rw [e] at h1; exact absurd h1 hnv
          · exact h R' S (by omega) h1 h2
        have hs := fb_sub z0 (show R < 32 by omega) ho.1 ho.2
        have hp := s_pc_bd z0 (show R < 32 by omega)
        refine fc_iload C dX1_commonDivisor_18 rfl ?_
        refine fc_iload C dX1_commonDivisor_20 rfl ?_
        refine fc_iconst C dX1_commonDivisor_22 ?_
        refine fc_ixor C dX1_commonDivisor_23 ?_
        refine fc_iand C dX1_commonDivisor_24 ?_
        refine fc_if_ne (tgt := 89) C dX1_commonDivisor_25 (by decide) (fc_Rm (by omega)) (fun c25 => ?_) (fun c25 => ?_)
        · exact skip (fun h => c25 h.2.2.1)
        · refine fc_iload C dX1_commonDivisor_28 rfl ?_
          refine fh_callS (y := mJ6_bitCount_0f7a4) C dX1_commonDivisor_30 ml_X1_78 mi_J6_bitCount_0f7a4 st_J6_bitCount_0f7a4 (c_bitCount z0 (by omega)) (by decide) rfl (Nat.le_of_ble_eq_true rfl) (Nat.zero_le _) (Nat.zero_le _) rfl ?_
          refine fc_iload_n C dX1_commonDivisor_33 rfl rfl ?_
          refine fc_icmp_eq (tgt := 40) C dX1_commonDivisor_34 (by decide) (fc_Rm (by omega)) (hz) (fun c34 => ?_) (fun c34 => ?_)
          · have hvd : d_vd n q z R := ⟨z0, by omega, by omega, c34⟩
            have loop2 : ∀ (m2 : Nat) (S : Int) (g2 : Nat), 0 ≤ S → S ≤ fb_oth n q + 1 → fb_oth n q + 1 - S < m2 → g2 ≤ 2373046875 → (∀ d : Nat, d ∣ g2 ↔ ∀ R' S' : Int, (R' < R ∨ R' = R ∧ S' < S) → d_vd n q z R' → d_vd n q z S' → (d : Int) ∣ d_mi (s_M L n) n R' n.toNat S') → fc_W X 0 0 159 (fc_H A F) 43 [some (vR 17), some (vI z), some (vL (g2 : Int)), none, some (vI (fb_oth n q)), some (vI R), some (vI S)] [] := by
              intro m2
              induction m2 with
              | zero => intro S g2 w0 w1 w2; exfalso; omega
              | succ m2 ih2 =>
                intro S g2 w0 w1 w2 hgb2 hd2
                refine fc_iload C dX1_commonDivisor_43 rfl ?_
                refine fc_iload C dX1_commonDivisor_45 rfl ?_
                refine fc_icmp_gt (tgt := 89) C dX1_commonDivisor_47 (by decide) (fc_Rm (by omega)) (fc_Rm (by omega)) (fun c47 => ?_) (fun c47 => ?_)
                · refine nxt g2 _ hgb2 (fun d => (hd2 d).trans ⟨fun h R' S' h0 h1 h2 => h R' S' ?_ h1 h2, fun h R' S' h0 h1 h2 => h R' S' (by omega) h1 h2⟩)
                  have := (fb_sub h2.1 h2.2.1 ho.1 ho.2).1 h2.2.2.1
                  omega
                · have nx2 : ∀ g3 : Nat, g3 ≤ 2373046875 → (∀ d : Nat, d ∣ g3 ↔ ∀ R' S' : Int, (R' < R ∨ R' = R ∧ S' < S + 1) → d_vd n q z R' → d_vd n q z S' → (d : Int) ∣ d_mi (s_M L n) n R' n.toNat S') → fc_W X 0 0 159 (fc_H A F) 83 [some (vR 17), some (vI z), some (vL (g3 : Int)), none, some (vI (fb_oth n q)), some (vI R), some (vI S)] [] := by
                    intro g3 h1 h2
                    refine fc_iinc C dX1_commonDivisor_83 rfl (by decide) ?_
                    refine fc_goto (tgt := 43) C dX1_commonDivisor_86 (by decide) ?_
                    exact ih2 (S + 1) g3 (by omega) (by omega) (by omega) h1 h2
                  have sk2 : ¬ d_vd n q z S → fc_W X 0 0 159 (fc_H A F) 83 [some (vR 17), some (vI z), some (vL (g2 : Int)), none, some (vI (fb_oth n q)), some (vI R), some (vI S)] [] := by
                    intro hnv
                    refine nx2 g2 hgb2 (fun d => (hd2 d).trans ⟨fun h R' S' h0 h1 h2 => ?_, fun h R' S' h0 h1 h2 => h R' S' (by omega) h1 h2⟩)
                    by_cases e : S' = S
                    · rw [e] at h2; exact absurd h2 hnv
                    · exact h R' S' (by omega) h1 h2
                  have hs2 := fb_sub w0 (show S < 32 by omega) ho.1 ho.2
                  have hp2 := s_pc_bd w0 (show S < 32 by omega)
                  refine fc_iload C dX1_commonDivisor_50 rfl ?_
                  refine fc_iload C dX1_commonDivisor_52 rfl ?_
                  refine fc_iconst C dX1_commonDivisor_54 ?_
                  refine fc_ixor C dX1_commonDivisor_55 ?_
                  refine fc_iand C dX1_commonDivisor_56 ?_
                  refine fc_if_ne (tgt := 83) C dX1_commonDivisor_57 (by decide) (fc_Rm (by omega)) (fun c57 => ?_) (fun c57 => ?_)
                  · exact sk2 (fun h => c57 h.2.2.1)
                  · refine fc_iload C dX1_commonDivisor_60 rfl ?_
                    refine fh_callS (y := mJ6_bitCount_0f7a4) C dX1_commonDivisor_62 ml_X1_78 mi_J6_bitCount_0f7a4 st_J6_bitCount_0f7a4 (c_bitCount w0 (by omega)) (by decide) rfl (Nat.le_of_ble_eq_true rfl) (Nat.zero_le _) (Nat.zero_le _) rfl ?_
                    refine fc_iload_n C dX1_commonDivisor_65 rfl rfl ?_
                    refine fc_icmp_ne (tgt := 83) C dX1_commonDivisor_66 (by decide) (fc_Rm (by omega)) (hz) (fun c66 => ?_) (fun c66 => ?_)
                    · exact sk2 (fun h => c66 h.2.2.2)
                    · have hvs : d_vd n q z S := ⟨w0, by omega, by omega, by omega⟩
                      have hM := c_minor M hg hn (R := R) z0 (by omega) n.toNat S (by omega) w0 (by omega)
                      rw [show n - ((n.toNat : Nat) : Int) = 0 by omega] at hM
                      have hmb := d_mi_bd (M := s_M L n) (R := R) (n := n) (by omega) (s_M_bd hg hn) n.toNat S (by omega)
                      have h75 := p75 hn
                      refine fc_lload_n C dX1_commonDivisor_69 rfl rfl ?_
                      refine fc_aload_n C dX1_commonDivisor_70 rfl rfl ?_
                      refine fc_iload C dX1_commonDivisor_71 rfl ?_
                      refine fc_iload C dX1_commonDivisor_73 rfl ?_
                      refine fc_iconst C dX1_commonDivisor_75 ?_
                      refine fh_callV (y := mX1_minor) C dX1_commonDivisor_76 ml_X1_68 mi_X1_minor im_X1_minor se_X1_minor hM rfl rfl (by omega) rfl (Nat.le_of_ble_eq_true rfl) (Nat.zero_le _) (Nat.zero_le _) rfl ?_
                      refine fh_callS (y := mX1_greatestDivisor) C dX1_commonDivisor_79 ml_X1_83 mi_X1_greatestDivisor st_X1_greatestDivisor (c_greatestDivisor (by omega) (by omega)) (by decide) rfl (Nat.le_of_ble_eq_true rfl) (Nat.zero_le _) (Nat.zero_le _) rfl ?_
                      refine fc_lstore_n C dX1_commonDivisor_82 rfl (by decide) ?_
                      refine nx2 _ ?_ (fun d => ?_)
                      · by_cases e : g2 = 0
                        · subst e
                          show Nat.gcd (((0 : Nat) : Int)).natAbs _ ≤ _
                          simp
                          omega
                        · have := Nat.le_of_dvd (by omega) (Nat.gcd_dvd_left g2 (d_mi (s_M L n) n R n.toNat S).natAbs)
                          have h9 : Int.gcd (g2 : Int) (d_mi (s_M L n) n R n.toNat S) = Nat.gcd g2 (d_mi (s_M L n) n R n.toNat S).natAbs := rfl
                          rw [h9]
                          omega
                      · rw [ig_dvd, Int.natCast_dvd_natCast, hd2 d]
                        constructor
                        · intro h R' S' h0 h1 h2
                          by_cases e : R' = R ∧ S' = S
                          · rw [e.1, e.2]; exact h.2
                          · exact h.1 R' S' (by omega) h1 h2
                        · intro h
                          exact ⟨fun R' S' h0 h1 h2 => h R' S' (by omega) h1 h2, h R S (by omega) hvd hvs⟩
            refine fc_iconst C dX1_commonDivisor_40 ?_
            refine fc_istore C dX1_commonDivisor_41 (by decide) ?_
            exact loop2 34 0 g (by omega) (by omega) (by omega) hgb (fun d => (hd d).trans ⟨fun h R' S' h0 h1 h2 => h R' S' (by have := h2.1; omega) h1 h2, fun h R' S' h0 h1 h2 => h R' S' (by omega) h1 h2⟩)
          · refine fc_goto (tgt := 89) C dX1_commonDivisor_37 (by decide) ?_
            exact skip (fun h => c34 h.2.2.2)
  refine fc_lconst (z := 0) C dX1_commonDivisor_0 rfl ?_
  refine fc_lstore_n C dX1_commonDivisor_1 rfl (by decide) ?_
  refine fc_aload_n C dX1_commonDivisor_2 rfl rfl ?_
  refine fh_callV (y := mX1_othersThanSink) C dX1_commonDivisor_3 ml_X1_64 mi_X1_othersThanSink im_X1_othersThanSink se_X1_othersThanSink (c_othersThanSink M hn hq) rfl rfl (by decide) rfl (Nat.le_of_ble_eq_true rfl) (Nat.zero_le _) (Nat.zero_le _) rfl ?_
  refine fc_istore C dX1_commonDivisor_6 (by decide) ?_
  refine fc_iconst C dX1_commonDivisor_8 ?_
  refine fc_istore C dX1_commonDivisor_9 (by decide) ?_
  exact loop1 34 0 0 none (by omega) (by omega) (by omega) (by omega) (fun d => ⟨fun _ R' S h0 h1 => by have := h1.1; omega, fun _ => Nat.dvd_zero d⟩)
end PARTS
