/-! laysParts over any property that its rounds keep -/
def u_sw (U : Int → Int → Int) (k x y : Int) : Int → Int → Int := b_sc (b_sw U k x) k y
def u_add (Z : Int → Int → Int) (k u : Int) : Int → Int → Int := fun i j => if i = k ∧ k ≤ j then Z k j + Z u j else Z i j
def u_H1 (s : Int) (P : Int → Nat → (Int → Int → Int) → Prop) : Prop := ∀ (k : Int) (m : Nat) (U : Int → Int → Int), 0 ≤ k → k < s → P k m U → (∀ i j : Int, k ≤ i → i < s → k ≤ j → j < s → u_b (U i j)) ∧ ∃ i j : Int, k ≤ i ∧ i < s ∧ k ≤ j ∧ j < s ∧ U i j ≠ 0
def u_H2 (s : Int) (P : Int → Nat → (Int → Int → Int) → Prop) : Prop := ∀ (k : Int) (m : Nat) (U : Int → Int → Int) (x y : Int), 0 ≤ k → k < s → P k m U → u_fl U s k x y → (¬ u_all (u_sw U k x y) s k → ∃ m' : Nat, m' < m ∧ P k m' (u_c (u_sw U k x y) k)) ∧ (u_all (u_sw U k x y) s k → (∀ i j : Int, k ≤ i → i < s → k ≤ j → j < s → u_b (u_c (u_sw U k x y) k i j)) ∧ ((∀ i j : Int, k < i → i < s → k < j → j < s → u_c (u_sw U k x y) k k k ∣ u_c (u_sw U k x y) k i j) → ∃ m' : Nat, P (k + 1) m' (u_c (u_sw U k x y) k)) ∧ ∀ u j : Int, k < u → u < s → k < j → j < s → ¬ u_c (u_sw U k x y) k k k ∣ u_c (u_sw U k x y) k u j → ∃ m' : Nat, m' < m ∧ P k m' (u_add (u_c (u_sw U k x y) k) k u))
theorem u_sw_v {U : Int → Int → Int} {s k x y : Int} (hx : k ≤ x ∧ x < s) (hy : k ≤ y ∧ y < s) {i j : Int} (hi : k ≤ i ∧ i < s) (hj : k ≤ j ∧ j < s) : ∃ i' j' : Int, (k ≤ i' ∧ i' < s) ∧ (k ≤ j' ∧ j' < s) ∧ u_sw U k x y i j = U i' j' := by
  refine ⟨if i = k then x else if i = x then k else i, if j = k then y else if j = y then k else j, ?_, ?_, ?_⟩
  · split
    · exact hx
    · split
      · omega
      · exact hi
  · split
    · exact hy
    · split
      · omega
      · exact hj
  · unfold u_sw b_sc b_sw
    repeat' split
    all_goals rfl
theorem u_sw_k {U : Int → Int → Int} {k x y : Int} : u_sw U k x y k k = U x y := by
  unfold u_sw b_sc b_sw
  rw [if_pos rfl, if_pos rfl]
theorem u_c_k {U : Int → Int → Int} {k : Int} : u_c U k k k = U k k := by
  unfold u_c
  rw [if_pos ⟨Int.le_refl _, Int.le_refl _⟩, u_z_k, u_y_k]
section SM3
variable {A : Nat → Int → Int} {F : Nat → Nat → Int} {v : Int → Int} {ps : Int → Int → Int} {st : Int} {rf tx : Int → Int} {tl : Int}
set_option maxHeartbeats 2000000 in
theorem r_laysParts (e : A 144 = v) (hv : v_ok v) {P : Int → Nat → (Int → Int → Int) → Prop} (H1 : u_H1 (v 0 - 1) P) (H2 : u_H2 (v 0 - 1) P) {m0 : Nat} (H0 : P 0 m0 (fun i j => s_M (v_L v) (v 0) (i + 1) (j + 1))) : fh_E mX7_laysParts 4 [vR 143] A F (fun r A' F' => r = none ∧ F' = F ∧ (∀ j : Nat, j ≠ 150 → A' j = A j) ∧ ∃ (m : Nat) (U : Int → Int → Int), P (v 0 - 1) m U ∧ m_tb A' U (v 0 - 1)) := by
  have hn := hv.n
  refine fh_E.of mi_X7_laysParts (Nat.le_of_ble_eq_true rfl) ?_
  intro X C T
  have outer : ∀ (q : Nat) (k : Int) (m : Nat) (U : Int → Int → Int) (A1 : Nat → Int → Int) (y2 y3 y4 y5 : Option fc_AV), 0 ≤ k → k ≤ v 0 - 1 → v 0 - k < q → P k m U → m_tb A1 U (v 0 - 1) → (∀ j : Nat, j ≠ 150 → A1 j = A j) → fc_W X 0 0 159 (fc_H A1 F) 6 [some (vR 143), some (vI k), y2, y3, y4, y5] [] := by
    intro q
    induction q with
    | zero => intro k m U A1 y2 y3 y4 y5 z0 z1 z2; exfalso; omega
    | succ q ih =>
      intro k m U A1 y2 y3 y4 y5 z0 z1 z2 hP ht frA
      refine fc_iload_n C dX7_laysParts_6 rfl rfl ?_
      refine fc_aload_n C dX7_laysParts_7 rfl rfl ?_
      refine fh_callV (y := mX7_side) C dX7_laysParts_8 ml_X7_188 mi_X7_side im_X7_side se_X7_side (r_side ((frA 144 (by omega)).trans e)) rfl rfl (by decide) rfl (Nat.le_of_ble_eq_true rfl) (Nat.zero_le _) (Nat.zero_le _) rfl ?_
      refine fc_icmp_ge (tgt := 121) C dX7_laysParts_11 (by decide) (fc_Rm (by omega)) (fc_Rm (by omega)) (fun c11 => ?_) (fun c11 => ?_)
      · exact fh_vretE C T dX7_laysParts_121 ⟨rfl, rfl, frA, m, U, by rw [show v 0 - 1 = k by omega]; exact hP, ht⟩
      · have hks : k < v 0 - 1 := by omega
        have fin : ∀ (m : Nat) (U : Int → Int → Int) (A1 : Nat → Int → Int) (y3 y4 y5 : Option fc_AV), P (k + 1) m U → m_tb A1 U (v 0 - 1) → (∀ j : Nat, j ≠ 150 → A1 j = A j) → fc_W X 0 0 159 (fc_H A1 F) 16 [some (vR 143), some (vI k), some (vI 1), y3, y4, y5] [] := by
          intro m U A1 y3 y4 y5 hP ht frA
          refine fc_iload_n C dX7_laysParts_16 rfl rfl ?_
          refine fc_if_ne (tgt := 115) C dX7_laysParts_17 (by decide) (fc_Rm (by omega)) (fun c17 => ?_) (fun c17 => ?_)
          · refine fc_iinc C dX7_laysParts_115 rfl (by decide) ?_
            refine fc_goto (tgt := 6) C dX7_laysParts_118 (by decide) ?_
            exact ih (k + 1) m U A1 _ _ _ _ (by omega) (by omega) (by omega) hP ht frA
          · exact absurd c17 (by decide)
        have rounds : ∀ (q2 m : Nat) (U : Int → Int → Int) (A1 : Nat → Int → Int) (y3 y4 y5 : Option fc_AV), m < q2 → P k m U → m_tb A1 U (v 0 - 1) → (∀ j : Nat, j ≠ 150 → A1 j = A j) → fc_W X 0 0 159 (fc_H A1 F) 16 [some (vR 143), some (vI k), some (vI 0), y3, y4, y5] [] := by
          intro q2
          induction q2 with
          | zero => intro m U A1 y3 y4 y5 w0; exfalso; omega
          | succ q2 ih2 =>
            intro m U A1 y3 y4 y5 w0 hP ht frA
            obtain ⟨hub, hne⟩ := H1 k m U z0 hks hP
            have e1 := (frA 144 (by omega)).trans e
            refine fc_iload_n C dX7_laysParts_16 rfl rfl ?_
            refine fc_if_ne (tgt := 115) C dX7_laysParts_17 (by decide) (fc_Rm (by omega)) (fun c17 => ?_) (fun c17 => ?_)
            · exact absurd rfl c17
            · refine fc_aload_n C dX7_laysParts_20 rfl rfl ?_
              refine fc_iload_n C dX7_laysParts_21 rfl rfl ?_
              refine fh_callVE (y := mX7_takesLeast) C dX7_laysParts_22 ml_X7_215 mi_X7_takesLeast im_X7_takesLeast se_X7_takesLeast (r_takesLeast e1 hn ht (k := k) ⟨z0, hks⟩ hub hne) rfl rfl (by decide) rfl (Nat.le_of_ble_eq_true rfl) (Nat.zero_le _) (Nat.zero_le _) rfl ?_
              rintro rr A2 F2 ⟨rfl, rfl, fr2, x, y, hfl, ht2⟩
              refine fc_eq (st' := []) rfl rfl ?_
              have hx : k ≤ x ∧ x < v 0 - 1 := ⟨hfl.1, hfl.2.1⟩
              have hy : k ≤ y ∧ y < v 0 - 1 := ⟨hfl.2.2.1, hfl.2.2.2.1⟩
              have ht2 : m_tb A2 (u_sw U k x y) (v 0 - 1) := ht2
              have hub2 : ∀ i j : Int, k ≤ i → i < v 0 - 1 → k ≤ j → j < v 0 - 1 → u_b (u_sw U k x y i j) := fun i j i0 i1 j0 j1 => by
                obtain ⟨i', j', g1, g2, g3⟩ := u_sw_v (U := U) hx hy ⟨i0, i1⟩ ⟨j0, j1⟩
                rw [g3]
                exact hub i' j' g1.1 g1.2 g2.1 g2.2
              have hpn : u_sw U k x y k k ≠ 0 := by rw [u_sw_k]; exact hfl.2.2.2.2.1
              obtain ⟨g1, g2⟩ := H2 k m U x y z0 hks hP hfl
              have e2 := (fr2 144 (by omega)).trans e1
              refine fc_aload_n C dX7_laysParts_25 rfl rfl ?_
              refine fc_iload_n C dX7_laysParts_26 rfl rfl ?_
              refine fh_callVE (y := mX7_clears) C dX7_laysParts_27 ml_X7_218 mi_X7_clears im_X7_clears se_X7_clears (r_clears e2 hn ht2 (k := k) ⟨z0, hks⟩ hub2 hpn) rfl rfl (by decide) rfl (Nat.le_of_ble_eq_true rfl) (Nat.zero_le _) (Nat.zero_le _) rfl ?_
              rintro rr A3 F3 ⟨rfl, rfl, fr3, ht3⟩
              refine fc_eq (st' := [vI (fc_ind (u_all (u_sw U k x y) (v 0 - 1) k))]) rfl rfl ?_
              have e3 := (fr3 144 (by omega)).trans e2
              have frB : ∀ j : Nat, j ≠ 150 → A3 j = A j := fun j hj => by rw [fr3 j hj, fr2 j hj]; exact frA j hj
              refine fc_istore_n C dX7_laysParts_30 rfl (by decide) ?_
              refine fc_iload_n C dX7_laysParts_31 rfl rfl ?_
              refine fc_if_eq (tgt := 43) C dX7_laysParts_32 (by decide) (fc_ind_R _) (fun c32 => ?_) (fun c32 => ?_)
              · -- not all cleared
                have hna := fc_ind_0 c32
                obtain ⟨m', lm, hP'⟩ := g1 hna
                rw [c32]
                refine fc_iconst C dX7_laysParts_43 ?_
                refine fc_istore C dX7_laysParts_44 (by decide) ?_
                refine fc_iload_n C dX7_laysParts_46 rfl rfl ?_
                refine fc_istore C dX7_laysParts_47 (by decide) ?_
                refine fc_iload C dX7_laysParts_49 rfl ?_
                refine fc_aload_n C dX7_laysParts_51 rfl rfl ?_
                refine fh_callV (y := mX7_side) C dX7_laysParts_52 ml_X7_188 mi_X7_side im_X7_side se_X7_side (r_side e3) rfl rfl (by decide) rfl (Nat.le_of_ble_eq_true rfl) (Nat.zero_le _) (Nat.zero_le _) rfl ?_
                have out : ∀ (y5 : Option fc_AV), fc_W X 0 0 159 (fc_H A3 F3) 96 [some (vR 143), some (vI k), some (vI 0), some (vI 0), some (vI (-1)), y5] [] := by
                  intro y5
                  refine fc_iload_n C dX7_laysParts_96 rfl rfl ?_
                  refine fc_if_eq (tgt := 110) C dX7_laysParts_97 (by decide) (fc_Rm (by omega)) (fun c97 => ?_) (fun c97 => ?_)
                  · refine fc_iconst C dX7_laysParts_110 ?_
                    refine fc_istore_n C dX7_laysParts_111 rfl (by decide) ?_
                    refine fc_goto (tgt := 16) C dX7_laysParts_112 (by decide) ?_
                    exact ih2 m' _ A3 _ _ _ (by omega) hP' ht3 frB
                  · exact absurd rfl c97
                refine fc_icmp_ge (tgt := 96) C dX7_laysParts_55 (by decide) (fc_Rm (by omega)) (fc_Rm (by omega)) (fun c55 => ?_) (fun c55 => ?_)
                · exact out _
                · refine fc_iload C dX7_laysParts_58 rfl ?_
                  refine fc_iconst C dX7_laysParts_60 ?_
                  refine fc_icmp_eq (tgt := 96) C dX7_laysParts_61 (by decide) (fc_Rm (by omega)) (fc_Rm (by omega)) (fun c61 => ?_) (fun c61 => ?_)
                  · exact out _
                  · exact absurd rfl c61
              · have ha := fc_ind_ne c32
                obtain ⟨hub3, gd, gu⟩ := g2 ha
                rw [fc_ind_t ha]
                have hpn3 : u_c (u_sw U k x y) k k k ≠ 0 := by rw [u_c_k]; exact hpn
                refine fc_aload_n C dX7_laysParts_35 rfl rfl ?_
                refine fc_iload_n C dX7_laysParts_36 rfl rfl ?_
                refine fh_callVE (y := mX7_uneven) C dX7_laysParts_37 ml_X7_221 mi_X7_uneven im_X7_uneven se_X7_uneven (r_uneven e3 hn ht3 (k := k) ⟨z0, hks⟩ hub3 hpn3) rfl rfl (by decide) rfl (Nat.le_of_ble_eq_true rfl) (Nat.zero_le _) (Nat.zero_le _) rfl ?_
                rintro rr A4 F4 ⟨rfl, rfl, u, rfl, hu⟩
                refine fc_eq (st' := [vI u]) rfl rfl ?_
                rcases hu with ⟨rfl, hdv⟩ | ⟨u0, u1, j, j0, j1, hnd⟩
                · obtain ⟨m', hP'⟩ := gd hdv
                  refine fc_goto (tgt := 44) C dX7_laysParts_40 (by decide) ?_
                  refine fc_istore C dX7_laysParts_44 (by decide) ?_
                  refine fc_iload_n C dX7_laysParts_46 rfl rfl ?_
                  refine fc_istore C dX7_laysParts_47 (by decide) ?_
                  refine fc_iload C dX7_laysParts_49 rfl ?_
                  refine fc_aload_n C dX7_laysParts_51 rfl rfl ?_
                  refine fh_callV (y := mX7_side) C dX7_laysParts_52 ml_X7_188 mi_X7_side im_X7_side se_X7_side (r_side e3) rfl rfl (by decide) rfl (Nat.le_of_ble_eq_true rfl) (Nat.zero_le _) (Nat.zero_le _) rfl ?_
                  have out : ∀ (y5 : Option fc_AV), fc_W X 0 0 159 (fc_H A4 F4) 96 [some (vR 143), some (vI k), some (vI 0), some (vI 1), some (vI (-1)), y5] [] := by
                    intro y5
                    refine fc_iload_n C dX7_laysParts_96 rfl rfl ?_
                    refine fc_if_eq (tgt := 110) C dX7_laysParts_97 (by decide) (fc_Rm (by omega)) (fun c97 => ?_) (fun c97 => ?_)
                    · exact absurd c97 (by decide)
                    · refine fc_iload C dX7_laysParts_100 rfl ?_
                      refine fc_iconst C dX7_laysParts_102 ?_
                      refine fc_icmp_ne (tgt := 110) C dX7_laysParts_103 (by decide) (fc_Rm (by omega)) (fc_Rm (by omega)) (fun c103 => ?_) (fun c103 => ?_)
                      · exact absurd rfl c103
                      · refine fc_iconst C dX7_laysParts_106 ?_
                        refine fc_goto (tgt := 111) C dX7_laysParts_107 (by decide) ?_
                        refine fc_istore_n C dX7_laysParts_111 rfl (by decide) ?_
                        refine fc_goto (tgt := 16) C dX7_laysParts_112 (by decide) ?_
                        exact fin m' _ A4 _ _ _ hP' ht3 frB
                  refine fc_icmp_ge (tgt := 96) C dX7_laysParts_55 (by decide) (fc_Rm (by omega)) (fc_Rm (by omega)) (fun c55 => ?_) (fun c55 => ?_)
                  · exact out _
                  · refine fc_iload C dX7_laysParts_58 rfl ?_
                    refine fc_iconst C dX7_laysParts_60 ?_
                    refine fc_icmp_eq (tgt := 96) C dX7_laysParts_61 (by decide) (fc_Rm (by omega)) (fc_Rm (by omega)) (fun c61 => ?_) (fun c61 => ?_)
                    · exact out _
                    · exact absurd rfl c61
                · obtain ⟨m', lm, hP'⟩ := gu u j u0 u1 j0 j1 hnd
                  obtain ⟨Z, eZ⟩ : ∃ Z, Z = u_c (u_sw U k x y) k := ⟨_, rfl⟩
                  rw [← eZ] at hP' ht3
                  have adds : ∀ (q3 : Nat) (c : Int) (A5 : Nat → Int → Int), k ≤ c → c ≤ v 0 - 1 → v 0 - c < q3 → (∀ i j : Int, 0 ≤ i → i < v 0 - 1 → 0 ≤ j → j < v 0 - 1 → A5 150 (4 * i + j) = if i = k ∧ k ≤ j ∧ j < c then Z k j + Z u j else Z i j) → (∀ j : Nat, j ≠ 150 → A5 j = A j) → fc_W X 0 0 159 (fc_H A5 F4) 49 [some (vR 143), some (vI k), some (vI 0), some (vI 1), some (vI u), some (vI c)] [] := by
                    intro q3
                    induction q3 with
                    | zero => intro c A5 p0 p1 p2; exfalso; omega
                    | succ q3 ih3 =>
                      intro c A5 p0 p1 p2 ht5 frC
                      refine fc_iload C dX7_laysParts_49 rfl ?_
                      refine fc_aload_n C dX7_laysParts_51 rfl rfl ?_
                      refine fh_callV (y := mX7_side) C dX7_laysParts_52 ml_X7_188 mi_X7_side im_X7_side se_X7_side (r_side ((frC 144 (by omega)).trans e)) rfl rfl (by decide) rfl (Nat.le_of_ble_eq_true rfl) (Nat.zero_le _) (Nat.zero_le _) rfl ?_
                      refine fc_icmp_ge (tgt := 96) C dX7_laysParts_55 (by decide) (fc_Rm (by omega)) (fc_Rm (by omega)) (fun c55 => ?_) (fun c55 => ?_)
                      · refine fc_iload_n C dX7_laysParts_96 rfl rfl ?_
                        refine fc_if_eq (tgt := 110) C dX7_laysParts_97 (by decide) (fc_Rm (by omega)) (fun c97 => ?_) (fun c97 => ?_)
                        · exact absurd c97 (by decide)
                        · refine fc_iload C dX7_laysParts_100 rfl ?_
                          refine fc_iconst C dX7_laysParts_102 ?_
                          refine fc_icmp_ne (tgt := 110) C dX7_laysParts_103 (by decide) (fc_Rm (by omega)) (fc_Rm (by omega)) (fun c103 => ?_) (fun c103 => ?_)
                          · refine fc_iconst C dX7_laysParts_110 ?_
                            refine fc_istore_n C dX7_laysParts_111 rfl (by decide) ?_
                            refine fc_goto (tgt := 16) C dX7_laysParts_112 (by decide) ?_
                            refine ih2 m' _ A5 _ _ _ (by omega) hP' (fun i j i0 i1 j0 j1 => ?_) frC
                            rw [ht5 i j i0 i1 j0 j1]
                            show _ = (if i = k ∧ k ≤ j then Z k j + Z u j else Z i j)
                            by_cases c4 : i = k ∧ k ≤ j
                            · rw [if_pos c4, if_pos (by omega)]
                            · rw [if_neg c4, if_neg (by omega)]
                          · exfalso; omega
                      · refine fc_iload C dX7_laysParts_58 rfl ?_
                        refine fc_iconst C dX7_laysParts_60 ?_
                        refine fc_icmp_eq (tgt := 96) C dX7_laysParts_61 (by decide) (fc_Rm (by omega)) (fc_Rm (by omega)) (fun c61 => ?_) (fun c61 => ?_)
                        · exfalso; omega
                        · have t1 := ht5 k c (by omega) (by omega) (by omega) (by omega)
                          have t2 := ht5 u c (by omega) (by omega) (by omega) (by omega)
                          rw [if_neg (by omega)] at t1 t2
                          refine fc_aload_n C dX7_laysParts_64 rfl rfl ?_
                          refine fh_getf C dX7_laysParts_65 fl_X7_29 rfl rfl ?_
                          refine fc_iconst C dX7_laysParts_68 ?_
                          refine fc_iload_n C dX7_laysParts_69 rfl rfl ?_
                          refine fc_imul C dX7_laysParts_70 ?_
                          refine fc_iload C dX7_laysParts_71 rfl ?_
                          refine fc_iadd C dX7_laysParts_73 ?_
                          refine fc_dup2 C dX7_laysParts_74 rfl rfl ?_
                          refine fh_laload C dX7_laysParts_75 (fun _ _ => rfl) (by omega) (by omega) (by decide) ?_
                          refine fc_aload_n C dX7_laysParts_76 rfl rfl ?_
                          refine fh_getf C dX7_laysParts_77 fl_X7_29 rfl rfl ?_
                          refine fc_iconst C dX7_laysParts_80 ?_
                          refine fc_iload C dX7_laysParts_81 rfl ?_
                          refine fc_imul C dX7_laysParts_83 ?_
                          refine fc_iload C dX7_laysParts_84 rfl ?_
                          refine fc_iadd C dX7_laysParts_86 ?_
                          refine fh_laload C dX7_laysParts_87 (fun _ _ => rfl) (by omega) (by omega) (by decide) ?_
                          refine fc_ladd C dX7_laysParts_88 ?_
                          refine fh_lastore C dX7_laysParts_89 (fun _ _ => rfl) (by omega) (by omega) (by decide) ?_
                          refine fc_iinc C dX7_laysParts_90 rfl (by decide) ?_
                          refine fc_goto (tgt := 49) C dX7_laysParts_93 (by decide) ?_
                          refine ih3 (c + 1) _ (by omega) (by omega) (by omega) (fun i j i0 i1 j0 j1 => ?_) (fun j hj => by rw [fa_n _ _ hj]; exact frC j hj)
                          rw [fa_s, t1, t2]
                          unfold fc_set
                          by_cases c1 : 4 * i + j = 4 * k + c
                          · rw [if_pos c1, if_pos (by omega), show j = c by omega]
                          · rw [if_neg c1, ht5 i j i0 i1 j0 j1]
                            by_cases c4 : i = k ∧ k ≤ j ∧ j < c
                            · rw [if_pos c4, if_pos (by omega)]
                            · rw [if_neg c4, if_neg (by omega)]
                  refine fc_goto (tgt := 44) C dX7_laysParts_40 (by decide) ?_
                  refine fc_istore C dX7_laysParts_44 (by decide) ?_
                  refine fc_iload_n C dX7_laysParts_46 rfl rfl ?_
                  refine fc_istore C dX7_laysParts_47 (by decide) ?_
                  exact adds 7 k A4 (by omega) (by omega) (by omega) (fun i j i0 i1 j0 j1 => by rw [if_neg (by omega)]; exact ht3 i j i0 i1 j0 j1) frB
        refine fc_iconst C dX7_laysParts_14 ?_
        refine fc_istore_n C dX7_laysParts_15 rfl (by decide) ?_
        exact rounds (m + 1) m U A1 _ _ _ (by omega) hP ht frA
  refine fc_aload_n C dX7_laysParts_0 rfl rfl ?_
  refine fh_callVE (y := mX7_laysTable) C dX7_laysParts_1 ml_X7_198 mi_X7_laysTable im_X7_laysTable se_X7_laysTable (r_laysTable e hv) rfl rfl (by decide) rfl (Nat.le_of_ble_eq_true rfl) (Nat.zero_le _) (Nat.zero_le _) rfl ?_
  rintro rr A1 F1 ⟨rfl, rfl, fr1, ht1⟩
  refine fc_eq (st' := []) rfl rfl ?_
  refine fc_iconst C dX7_laysParts_4 ?_
  refine fc_istore_n C dX7_laysParts_5 rfl (by decide) ?_
  exact outer 7 0 m0 _ A1 none none none none (by omega) (by omega) (by omega) H0 ht1 fr1
theorem r_partsNow (e : A 144 = v) (hv : v_ok v) {i : Int} (hi : fc_R i) {P : Int → Nat → (Int → Int → Int) → Prop} (H1 : u_H1 (v 0 - 1) P) (H2 : u_H2 (v 0 - 1) P) {m0 : Nat} (H0 : P 0 m0 (fun i j => s_M (v_L v) (v 0) (i + 1) (j + 1))) (H3 : ∀ (m : Nat) (U : Int → Int → Int), P (v 0 - 1) m U → ∀ j : Int, 0 ≤ j → j < v 0 - 1 → u_ab (U j j) ≤ 9223372036854775807) : fh_E mX7_partsNow 5 [vR 143, vI i] A F (fun r A' F' => ∃ (ans : Int) (m : Nat) (U : Int → Int → Int), r = some (vI ans) ∧ F' = F ∧ (∀ j : Nat, j ≠ 150 → A' j = A j) ∧ P (v 0 - 1) m U ∧ pt_a (fun k => u_ab (U ((k : Int) - 1) ((k : Int) - 1))) (v 0 - 1).toNat i ans) := by
  have hn := hv.n
  refine fh_E.of mi_X7_partsNow (Nat.le_of_ble_eq_true rfl) ?_
  intro X C T
  refine fc_aload_n C dX7_partsNow_0 rfl rfl ?_
  refine fh_callVE (y := mX7_laysParts) C dX7_partsNow_1 ml_X7_224 mi_X7_laysParts im_X7_laysParts se_X7_laysParts (r_laysParts e hv H1 H2 H0) rfl rfl (by decide) rfl (Nat.le_of_ble_eq_true rfl) (Nat.zero_le _) (Nat.zero_le _) rfl ?_
  rintro rr A1 F1 ⟨rfl, rfl, fr1, m, U, hP, ht⟩
  refine fc_eq (st' := []) rfl rfl ?_
  obtain ⟨p, ep⟩ : ∃ p : Nat → Int, p = fun (k : Nat) => u_ab (U ((k : Int) - 1) ((k : Int) - 1)) := ⟨_, rfl⟩
  have e1 := (fr1 144 (by omega)).trans e
  have loop : ∀ (q k : Nat) (y4 y5 : Option fc_AV), (k : Int) ≤ v 0 - 1 → v 0 - k < q → (∀ j : Nat, j < k → ¬ (1 < p (j + 1) ∧ pt_f p j = i)) → fc_W X 0 0 159 (fc_H A1 F1) 8 [some (vR 143), some (vI i), some (vI (pt_f p k)), some (vI (k : Int)), y4, y5] [] := by
    intro q
    induction q with
    | zero => intro k y4 y5 z0 z1; exfalso; omega
    | succ q ih =>
      intro k y4 y5 z0 z1 hno
      have hfb := pt_f_bd (p := p) k
      refine fc_iload_n C dX7_partsNow_8 rfl rfl ?_
      refine fc_aload_n C dX7_partsNow_9 rfl rfl ?_
      refine fh_callV (y := mX7_side) C dX7_partsNow_10 ml_X7_188 mi_X7_side im_X7_side se_X7_side (r_side e1) rfl rfl (by decide) rfl (Nat.le_of_ble_eq_true rfl) (Nat.zero_le _) (Nat.zero_le _) rfl ?_
      refine fc_icmp_ge (tgt := 54) C dX7_partsNow_13 (by decide) (fc_Rm (by omega)) (fc_Rm (by omega)) (fun c13 => ?_) (fun c13 => ?_)
      · have ek : (v 0 - 1).toNat = k := by omega
        refine fc_iload_n C dX7_partsNow_54 rfl rfl ?_
        refine fc_iconst C dX7_partsNow_55 ?_
        refine fc_icmp_ne (tgt := 63) C dX7_partsNow_56 (by decide) (hi) (fc_Rm (by omega)) (fun c56 => ?_) (fun c56 => ?_)
        · refine fc_iconst C dX7_partsNow_63 ?_
          exact fh_iretE C T dX7_partsNow_64 (Or.inl rfl) ⟨-1, m, U, rfl, rfl, fr1, hP, by rw [← ep, ek]; exact Or.inr ⟨hno, by rw [if_neg c56]⟩⟩
        · refine fc_iload_n C dX7_partsNow_59 rfl rfl ?_
          refine fc_goto (tgt := 64) C dX7_partsNow_60 (by decide) ?_
          exact fh_iretE C T dX7_partsNow_64 (Or.inl rfl) ⟨pt_f p k, m, U, rfl, rfl, fr1, hP, by rw [← ep, ek]; exact Or.inr ⟨hno, by rw [if_pos (by omega)]⟩⟩
      · have ht5 : A1 150 (5 * (k : Int)) = U k k := by rw [show 5 * (k : Int) = 4 * k + k by omega]; exact ht k k (by omega) (by omega) (by omega) (by omega)
        have hb := H3 m U hP k (by omega) (by omega)
        have hn0 := u_ab_n (U k k)
        have hub : u_b (A1 150 (5 * (k : Int))) := by
          rw [ht5]
          unfold u_ab at hb
          constructor
          · split at hb <;> omega
          · split at hb <;> omega
        have epk : p (k + 1) = u_ab (U k k) := by
          rw [ep]
          show u_ab (U (((k + 1 : Nat) : Int) - 1) (((k + 1 : Nat) : Int) - 1)) = _
          rw [show ((k + 1 : Nat) : Int) - 1 = k by omega]
        have nxt : ∀ (w : Int) (y4 y5 : Option fc_AV), w = pt_f p (k + 1) → ¬ (1 < p (k + 1) ∧ pt_f p k = i) → fc_W X 0 0 159 (fc_H A1 F1) 48 [some (vR 143), some (vI i), some (vI w), some (vI (k : Int)), y4, y5] [] := by
          intro w y4 y5 ew hn2
          refine fc_iinc C dX7_partsNow_48 rfl (by decide) ?_
          refine fc_goto (tgt := 8) C dX7_partsNow_51 (by decide) ?_
          subst ew
          have := ih (k + 1) y4 y5 (by omega) (by omega) (fun j hj => by
            by_cases cc : j = k
            · rw [cc]; exact hn2
            · exact hno j (by omega))
          rw [show ((k + 1 : Nat) : Int) = (k : Int) + 1 by omega] at this
          exact this
        refine fc_aload_n C dX7_partsNow_16 rfl rfl ?_
        refine fh_getf C dX7_partsNow_17 fl_X7_29 rfl rfl ?_
        refine fc_iconst C dX7_partsNow_20 ?_
        refine fc_iload_n C dX7_partsNow_21 rfl rfl ?_
        refine fc_imul C dX7_partsNow_22 ?_
        refine fh_laload C dX7_partsNow_23 (fun _ _ => rfl) (by omega) (by omega) (by decide) ?_
        refine fh_callS (y := mX7_abs) C dX7_partsNow_24 ml_X7_208 mi_X7_abs st_X7_abs (r_abs hub) (by decide) rfl (Nat.le_of_ble_eq_true rfl) (Nat.zero_le _) (Nat.zero_le _) rfl ?_
        refine fc_lstore C dX7_partsNow_27 (by decide) ?_
        refine fc_lload C dX7_partsNow_29 rfl ?_
        refine fc_lconst (z := 1) C dX7_partsNow_31 rfl ?_
        refine fc_lcmp C dX7_partsNow_32 (u_ab_L hub) (fc_RLm (by omega)) ?_
        refine fc_if_le (tgt := 48) C dX7_partsNow_33 (by decide) (fc_cmp_R _ _) (fun c33 => ?_) (fun c33 => ?_)
        · have hle : ¬ 1 < p (k + 1) := fun z => by rw [epk, ← ht5] at z; have := fc_cmp_gt.2 z; omega
          exact nxt _ _ _ (by rw [pt_f_s, if_neg hle]) (fun h => hle h.1)
        · have hgt : 1 < p (k + 1) := by rw [epk, ← ht5]; exact fc_cmp_gt.1 (by omega)
          refine fc_iload_n C dX7_partsNow_36 rfl rfl ?_
          refine fc_iload_n C dX7_partsNow_37 rfl rfl ?_
          refine fc_icmp_ne (tgt := 45) C dX7_partsNow_38 (by decide) (fc_Rm (by omega)) (hi) (fun c38 => ?_) (fun c38 => ?_)
          · refine fc_iinc C dX7_partsNow_45 rfl (by decide) ?_
            exact nxt _ _ _ (by rw [pt_f_s, if_pos hgt]) (fun h => c38 h.2)
          · have c38 : pt_f p k = i := by omega
            refine fc_lload C dX7_partsNow_41 rfl ?_
            rw [ht5]
            refine fc_l2i C dX7_partsNow_43 ?_
            exact fh_iretE C T dX7_partsNow_44 (Or.inl rfl) ⟨u_ab (U k k), m, U, rfl, rfl, fr1, hP, by rw [← ep]; exact Or.inl ⟨k, by omega, hgt, c38, epk.symm⟩⟩
  refine fc_iconst C dX7_partsNow_4 ?_
  refine fc_istore_n C dX7_partsNow_5 rfl (by decide) ?_
  refine fc_iconst C dX7_partsNow_6 ?_
  refine fc_istore_n C dX7_partsNow_7 rfl (by decide) ?_
  exact loop 7 0 none none (by omega) (by omega) (fun j hj => by omega)
theorem q_parts0 (RC : m_RC A F v ps st rf tx tl) {i : Int} (hi : fc_R i) {P : Int → Nat → (Int → Int → Int) → Prop} (H1 : u_H1 (v 0 - 1) P) (H2 : u_H2 (v 0 - 1) P) {m0 : Nat} (H0 : s_J (v_L v) (v 0) → P 0 m0 (fun i j => s_M (v_L v) (v 0) (i + 1) (j + 1))) (H3 : ∀ (m : Nat) (U : Int → Int → Int), P (v 0 - 1) m U → ∀ j : Int, 0 ≤ j → j < v 0 - 1 → u_ab (U j j) ≤ 9223372036854775807) : fh_E mX7_parts 6 [vR 143, vI i] A F (fun r A' F' => ∃ ans : Int, (x_prt v i = 0 → ∃ (m : Nat) (U : Int → Int → Int), P (v 0 - 1) m U ∧ pt_a (fun k => u_ab (U ((k : Int) - 1) ((k : Int) - 1))) (v 0 - 1).toNat i ans) ∧ m_an A F (x_prt v i) ans v ps st rf tx tl r A' F') := by
  obtain ⟨e, hv, -, -, -, hm⟩ := id RC
  have hn := hv.n
  refine fh_E.of mi_X7_parts (Nat.le_of_ble_eq_true rfl) ?_
  intro X C T
  refine fc_iload_n C dX7_parts_0 rfl rfl ?_
  refine fc_iconst C dX7_parts_1 ?_
  refine fc_icmp_ge (tgt := 12) C dX7_parts_2 (by decide) (hi) (fc_Rm (by omega)) (fun c2 => ?_) (fun c2 => ?_)
  · have hxx : x_prt v i = x_J v := if_pos c2
    refine fc_aload_n C dX7_parts_12 rfl rfl ?_
    refine fh_callV (y := mX7_isJoined) C dX7_parts_13 ml_X7_118 mi_X7_isJoined im_X7_isJoined se_X7_isJoined (r_isJoined e hn hv.g) rfl rfl (by decide) rfl (Nat.le_of_ble_eq_true rfl) (Nat.zero_le _) (Nat.zero_le _) rfl ?_
    refine fc_if_eq (tgt := 27) C dX7_parts_16 (by decide) (fc_ind_R _) (fun c16 => ?_) (fun c16 => ?_)
    · have hJ := fc_ind_0 c16
      have hx : x_prt v i = -3 := by rw [hxx]; exact x_J_3 hJ
      refine fc_aload_n C dX7_parts_27 rfl rfl ?_
      refine fc_bipush C dX7_parts_28 (by decide) ?_
      refine fh_callV (y := mX7_refuses) C dX7_parts_30 ml_X7_80 mi_X7_refuses im_X7_refuses se_X7_refuses (r_refuses (Or.inr (Or.inl rfl))) rfl rfl (by decide) rfl (Nat.le_of_ble_eq_true rfl) (Nat.zero_le _) (Nat.zero_le _) rfl ?_
      exact fh_iretE C T dX7_parts_33 (Or.inl rfl) ⟨0, fun h => by omega, m_an.no RC hx (Or.inr (Or.inl rfl))⟩
    · have hJ := fc_ind_ne c16
      have hx : x_prt v i = 0 := by rw [hxx]; exact x_J_0 hJ
      refine fc_aload_n C dX7_parts_19 rfl rfl ?_
      refine fc_iload_n C dX7_parts_20 rfl rfl ?_
      refine fh_callVE (y := mX7_partsNow) C dX7_parts_21 ml_X7_227 mi_X7_partsNow im_X7_partsNow se_X7_partsNow (r_partsNow e hv hi H1 H2 (H0 hJ) H3) rfl rfl (by decide) rfl (Nat.le_of_ble_eq_true rfl) (Nat.zero_le _) (Nat.zero_le _) rfl ?_
      rintro rr A1 F1 ⟨ans, m, U, rfl, rfl, fr1, hP, ha⟩
      refine fc_eq (st' := [vI ans]) rfl rfl ?_
      refine fc_goto (tgt := 33) C dX7_parts_24 (by decide) ?_
      exact fh_iretE C T dX7_parts_33 (Or.inl rfl) ⟨ans, fun _ => ⟨m, U, hP, ha⟩, m_an.red RC (fun j _ _ _ _ _ _ j7 => fr1 j j7) hx rfl⟩
  · have hx : x_prt v i = -2 := if_neg (by omega)
    refine fc_aload_n C dX7_parts_5 rfl rfl ?_
    refine fc_bipush C dX7_parts_6 (by decide) ?_
    refine fh_callV (y := mX7_refuses) C dX7_parts_8 ml_X7_80 mi_X7_refuses im_X7_refuses se_X7_refuses (r_refuses (Or.inl rfl)) rfl rfl (by decide) rfl (Nat.le_of_ble_eq_true rfl) (Nat.zero_le _) (Nat.zero_le _) rfl ?_
    exact fh_iretE C T dX7_parts_11 (Or.inl rfl) ⟨0, fun h => by omega, m_an.no RC hx (Or.inl rfl)⟩
end SM3
