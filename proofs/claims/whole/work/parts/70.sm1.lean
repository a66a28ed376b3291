/-! parts as the reference takes them: the moves on the table -/
def b_sc (U : Int → Int → Int) (a b : Int) : Int → Int → Int := fun i j => if j = a then U i b else if j = b then U i a else U i j
def u_ab (x : Int) : Int := if x < 0 then -x else x
def u_b (x : Int) : Prop := -9223372036854775807 ≤ x ∧ x ≤ 9223372036854775807
theorem u_b.L {x : Int} (h : u_b x) : fc_RL x := ⟨by have := h.1; omega, by have := h.2; omega⟩
theorem u_ab_L {x : Int} (h : u_b x) : fc_RL (u_ab x) := by
  have := h.1
  have := h.2
  unfold u_ab
  split <;> exact ⟨by omega, by omega⟩
theorem u_ab_0 {x : Int} : u_ab x = 0 ↔ x = 0 := by unfold u_ab; split <;> omega
theorem u_ab_n (x : Int) : 0 ≤ u_ab x := by unfold u_ab; split <;> omega
/-- the first least of the rest from k on -/
def u_fl (U : Int → Int → Int) (s k x y : Int) : Prop := k ≤ x ∧ x < s ∧ k ≤ y ∧ y < s ∧ U x y ≠ 0 ∧ ∀ i j : Int, k ≤ i → i < s → k ≤ j → j < s → U i j ≠ 0 → u_ab (U x y) ≤ u_ab (U i j) ∧ ((i < x ∨ (i = x ∧ j < y)) → u_ab (U x y) < u_ab (U i j))
def u_e (U : Int → Int → Int) (k r : Int) : Int := if r = k then 0 else (U r k).tdiv (U k k)
def u_f (U : Int → Int → Int) (k c : Int) : Int := if c = k then 0 else (U k c).tdiv (U k k)
def u_y (U : Int → Int → Int) (k r c : Int) : Int := U r c - u_e U k r * U k c
def u_z (U : Int → Int → Int) (k r c : Int) : Int := u_y U k r c - u_f U k c * u_y U k r k
def u_c (U : Int → Int → Int) (k : Int) : Int → Int → Int := fun r c => if k ≤ r ∧ k ≤ c then u_z U k r c else U r c
def u_all (U : Int → Int → Int) (s k : Int) : Prop := (∀ r : Int, k < r → r < s → u_z U k r k = 0) ∧ ∀ c : Int, k < c → c < s → u_z U k k c = 0
theorem u_rem {x y : Int} : u_ab (x - x.tdiv y * y) ≤ u_ab x ∧ (y ≠ 0 → u_ab (x - x.tdiv y * y) < u_ab y) := by
  have e : x - x.tdiv y * y = x.tmod y := by
    have := Int.tmod_add_mul_tdiv x y
    rw [Int.mul_comm] at this
    omega
  have ex : ∀ z : Int, u_ab z = (z.natAbs : Int) := fun z => by unfold u_ab; split <;> omega
  rw [e, ex, ex, ex, Int.natAbs_tmod]
  constructor
  · exact Int.ofNat_le.2 (Nat.mod_le _ _)
  · intro h
    exact Int.ofNat_lt.2 (Nat.mod_lt _ (by omega))
theorem u_b.rem {x y : Int} (h : u_b x) : u_b (x - x.tdiv y * y) := by
  have h1 := (u_rem (x := x) (y := y)).1
  have := h.1
  have := h.2
  unfold u_ab at h1
  constructor
  · split at h1 <;> split at h1 <;> omega
  · split at h1 <;> split at h1 <;> omega
theorem u_y_k {U : Int → Int → Int} {k c : Int} : u_y U k k c = U k c := by unfold u_y u_e; rw [if_pos rfl, Int.zero_mul, Int.sub_zero]
theorem u_z_k {U : Int → Int → Int} {k r : Int} : u_z U k r k = u_y U k r k := by unfold u_z u_f; rw [if_pos rfl, Int.zero_mul, Int.sub_zero]
theorem u_y_r {U : Int → Int → Int} {k r : Int} (h : r ≠ k) : u_y U k r k = U r k - (U r k).tdiv (U k k) * U k k := by unfold u_y u_e; rw [if_neg h]
theorem u_z_c {U : Int → Int → Int} {k c : Int} (h : c ≠ k) : u_z U k k c = U k c - (U k c).tdiv (U k k) * U k k := by
  unfold u_z u_f
  rw [if_neg h, u_y_k, u_y_k]
section SM1
variable {A : Nat → Int → Int} {F : Nat → Nat → Int} {v : Int → Int} {ps : Int → Int → Int} {st : Int} {rf tx : Int → Int} {tl : Int}
theorem r_abs {x : Int} (h : u_b x) : fh_M mX7_abs 0 [vL x] A F (some (vL (u_ab x))) A F := by
  refine fh_M.of mi_X7_abs (Nat.le_of_ble_eq_true rfl) ?_
  intro X C T
  refine fc_lload_n C dX7_abs_0 rfl rfl ?_
  refine fc_lconst (z := 0) C dX7_abs_1 rfl ?_
  refine fc_lcmp C dX7_abs_2 h.L (fc_RLm (by omega)) ?_
  refine fc_if_ge (tgt := 11) C dX7_abs_3 (by decide) (fc_cmp_R _ _) (fun c3 => ?_) (fun c3 => ?_)
  · refine fc_lload_n C dX7_abs_11 rfl rfl ?_
    have : ¬ x < 0 := fun z => by have := fc_cmp_lt.2 z; omega
    exact fh_lret C T dX7_abs_12 (by unfold u_ab; rw [if_neg this]) rfl
  · refine fc_lload_n C dX7_abs_6 rfl rfl ?_
    refine fc_lneg C dX7_abs_7 ?_
    refine fc_goto (tgt := 12) C dX7_abs_8 (by decide) ?_
    have : x < 0 := fc_cmp_lt.1 (by omega)
    exact fh_lret C T dX7_abs_12 (by unfold u_ab; rw [if_pos this]) rfl
theorem r_exchangesColumns (e : A 144 = v) (hn : 2 ≤ v 0 ∧ v 0 ≤ 5) {U : Int → Int → Int} (hT : m_tb A U (v 0 - 1)) {a b : Int} (ha : 0 ≤ a ∧ a < v 0 - 1) (hb : 0 ≤ b ∧ b < v 0 - 1) : fh_E mX7_exchangesColumns 2 [vR 143, vI a, vI b] A F (fun r A' F' => r = none ∧ F' = F ∧ (∀ j : Nat, j ≠ 150 → A' j = A j) ∧ m_tb A' (b_sc U a b) (v 0 - 1)) := by
  refine fh_E.of mi_X7_exchangesColumns (Nat.le_of_ble_eq_true rfl) ?_
  intro X C T
  have loop : ∀ (m : Nat) (c : Int) (A1 : Nat → Int → Int) (y4 y5 : Option fc_AV), 0 ≤ c → c ≤ v 0 - 1 → v 0 - c < m → (∀ i j : Int, 0 ≤ i → i < v 0 - 1 → 0 ≤ j → j < v 0 - 1 → A1 150 (4 * i + j) = if i < c then b_sc U a b i j else U i j) → (∀ j : Nat, j ≠ 150 → A1 j = A j) → fc_W X 0 0 159 (fc_H A1 F) 2 [some (vR 143), some (vI a), some (vI b), some (vI c), y4, y5] [] := by
    intro m
    induction m with
    | zero => intro c A1 y4 y5 z0 z1 z2; exfalso; omega
    | succ m ih =>
      intro c A1 y4 y5 z0 z1 z2 ht frA
      refine fc_iload_n C dX7_exchangesColumns_2 rfl rfl ?_
      refine fc_aload_n C dX7_exchangesColumns_3 rfl rfl ?_
      refine fh_callV (y := mX7_side) C dX7_exchangesColumns_4 ml_X7_188 mi_X7_side im_X7_side se_X7_side (r_side ((frA 144 (by omega)).trans e)) rfl rfl (by decide) rfl (Nat.le_of_ble_eq_true rfl) (Nat.zero_le _) (Nat.zero_le _) rfl ?_
      refine fc_icmp_ge (tgt := 60) C dX7_exchangesColumns_7 (by decide) (fc_Rm (by omega)) (fc_Rm (by omega)) (fun c7 => ?_) (fun c7 => ?_)
      · exact fh_vretE C T dX7_exchangesColumns_60 ⟨rfl, rfl, frA, fun i j i0 i1 j0 j1 => by rw [ht i j i0 i1 j0 j1, if_pos (by omega)]⟩
      · have ta := ht c a z0 (by omega) ha.1 ha.2
        have tb := ht c b z0 (by omega) hb.1 hb.2
        rw [if_neg (by omega)] at ta tb
        refine fc_aload_n C dX7_exchangesColumns_10 rfl rfl ?_
        refine fh_getf C dX7_exchangesColumns_11 fl_X7_29 rfl rfl ?_
        refine fc_iconst C dX7_exchangesColumns_14 ?_
        refine fc_iload_n C dX7_exchangesColumns_15 rfl rfl ?_
        refine fc_imul C dX7_exchangesColumns_16 ?_
        refine fc_iload_n C dX7_exchangesColumns_17 rfl rfl ?_
        refine fc_iadd C dX7_exchangesColumns_18 ?_
        refine fh_laload C dX7_exchangesColumns_19 (fun _ _ => rfl) (by omega) (by omega) (by decide) ?_
        refine fc_lstore C dX7_exchangesColumns_20 (by decide) ?_
        refine fc_aload_n C dX7_exchangesColumns_22 rfl rfl ?_
        refine fh_getf C dX7_exchangesColumns_23 fl_X7_29 rfl rfl ?_
        refine fc_iconst C dX7_exchangesColumns_26 ?_
        refine fc_iload_n C dX7_exchangesColumns_27 rfl rfl ?_
        refine fc_imul C dX7_exchangesColumns_28 ?_
        refine fc_iload_n C dX7_exchangesColumns_29 rfl rfl ?_
        refine fc_iadd C dX7_exchangesColumns_30 ?_
        refine fc_aload_n C dX7_exchangesColumns_31 rfl rfl ?_
        refine fh_getf C dX7_exchangesColumns_32 fl_X7_29 rfl rfl ?_
        refine fc_iconst C dX7_exchangesColumns_35 ?_
        refine fc_iload_n C dX7_exchangesColumns_36 rfl rfl ?_
        refine fc_imul C dX7_exchangesColumns_37 ?_
        refine fc_iload_n C dX7_exchangesColumns_38 rfl rfl ?_
        refine fc_iadd C dX7_exchangesColumns_39 ?_
        refine fh_laload C dX7_exchangesColumns_40 (fun _ _ => rfl) (by omega) (by omega) (by decide) ?_
        refine fh_lastore C dX7_exchangesColumns_41 (fun _ _ => rfl) (by omega) (by omega) (by decide) ?_
        refine fc_aload_n C dX7_exchangesColumns_42 rfl rfl ?_
        refine fh_getf C dX7_exchangesColumns_43 fl_X7_29 rfl rfl ?_
        refine fc_iconst C dX7_exchangesColumns_46 ?_
        refine fc_iload_n C dX7_exchangesColumns_47 rfl rfl ?_
        refine fc_imul C dX7_exchangesColumns_48 ?_
        refine fc_iload_n C dX7_exchangesColumns_49 rfl rfl ?_
        refine fc_iadd C dX7_exchangesColumns_50 ?_
        refine fc_lload C dX7_exchangesColumns_51 rfl ?_
        refine fh_lastore C dX7_exchangesColumns_53 (fun _ _ => rfl) (by omega) (by omega) (by decide) ?_
        refine fc_iinc C dX7_exchangesColumns_54 rfl (by decide) ?_
        refine fc_goto (tgt := 2) C dX7_exchangesColumns_57 (by decide) ?_
        refine ih (c + 1) _ _ _ (by omega) (by omega) (by omega) (fun i j i0 i1 j0 j1 => ?_) (fun j hj => by rw [fa_n _ _ hj, fa_n _ _ hj]; exact frA j hj)
        rw [fa_s, fa_s, ta, tb]
        unfold fc_set
        by_cases c1 : 4 * i + j = 4 * c + b
        · rw [if_pos c1, if_pos (by omega)]
          show U c a = (if j = a then U i b else if j = b then U i a else U i j)
          rw [show i = c by omega, show j = b by omega]
          by_cases c2 : b = a
          · rw [if_pos c2, c2]
          · rw [if_neg c2, if_pos rfl]
        · rw [if_neg c1]
          by_cases c2 : 4 * i + j = 4 * c + a
          · rw [if_pos c2, if_pos (by omega)]
            show U c b = (if j = a then U i b else if j = b then U i a else U i j)
            rw [if_pos (by omega), show i = c by omega]
          · rw [if_neg c2, ht i j i0 i1 j0 j1]
            by_cases c3 : i < c
            · rw [if_pos c3, if_pos (show i < c + 1 by omega)]
            · rw [if_neg c3]
              by_cases c4 : i < c + 1
              · rw [if_pos c4]
                show U i j = (if j = a then U i b else if j = b then U i a else U i j)
                rw [if_neg (by omega), if_neg (by omega)]
              · rw [if_neg c4]
  refine fc_iconst C dX7_exchangesColumns_0 ?_
  refine fc_istore_n C dX7_exchangesColumns_1 rfl (by decide) ?_
  exact loop 7 0 A none none (by omega) (by omega) (by omega) (fun i j i0 i1 j0 j1 => by rw [if_neg (by omega)]; exact hT i j i0 i1 j0 j1) (fun _ _ => rfl)
theorem r_takesLeast (e : A 144 = v) (hn : 2 ≤ v 0 ∧ v 0 ≤ 5) {U : Int → Int → Int} (hT : m_tb A U (v 0 - 1)) {k : Int} (hk : 0 ≤ k ∧ k < v 0 - 1) (hb : ∀ i j : Int, k ≤ i → i < v 0 - 1 → k ≤ j → j < v 0 - 1 → u_b (U i j)) (hz : ∃ i j : Int, k ≤ i ∧ i < v 0 - 1 ∧ k ≤ j ∧ j < v 0 - 1 ∧ U i j ≠ 0) : fh_E mX7_takesLeast 3 [vR 143, vI k] A F (fun r A' F' => r = none ∧ F' = F ∧ (∀ j : Nat, j ≠ 150 → A' j = A j) ∧ ∃ x y : Int, u_fl U (v 0 - 1) k x y ∧ m_tb A' (b_sc (b_sw U k x) k y) (v 0 - 1)) := by
  refine fh_E.of mi_X7_takesLeast (Nat.le_of_ble_eq_true rfl) ?_
  intro X C T
  have Tk : ∀ i j : Int, k ≤ i → i < v 0 - 1 → k ≤ j → j < v 0 - 1 → A 150 (4 * i + j) = U i j := fun i j i0 i1 j0 j1 => hT i j (by omega) i1 (by omega) j1
  have Bk : ∀ i j : Int, k ≤ i → i < v 0 - 1 → k ≤ j → j < v 0 - 1 → u_b (A 150 (4 * i + j)) := fun i j i0 i1 j0 j1 => by rw [Tk i j i0 i1 j0 j1]; exact hb i j i0 i1 j0 j1
  let Q : Int → Int → Int → Prop := fun r c w => (w = -1 ∧ ∀ i j : Int, k ≤ i → i < v 0 - 1 → k ≤ j → j < v 0 - 1 → (i < r ∨ (i = r ∧ j < c)) → U i j = 0) ∨ ∃ x y : Int, w = 4 * x + y ∧ k ≤ x ∧ x < v 0 - 1 ∧ k ≤ y ∧ y < v 0 - 1 ∧ U x y ≠ 0 ∧ (x < r ∨ (x = r ∧ y < c)) ∧ ∀ i j : Int, k ≤ i → i < v 0 - 1 → k ≤ j → j < v 0 - 1 → (i < r ∨ (i = r ∧ j < c)) → U i j ≠ 0 → u_ab (U x y) ≤ u_ab (U i j) ∧ ((i < x ∨ (i = x ∧ j < y)) → u_ab (U x y) < u_ab (U i j))
  have rows : ∀ (m : Nat) (r w : Int) (y4 y5 y6 : Option fc_AV), k ≤ r → r ≤ v 0 - 1 → v 0 - r < m → Q r k w → fc_W X 0 0 159 (fc_H A F) 4 [some (vR 143), some (vI k), some (vI w), some (vI r), y4, y5, y6] [] := by
    intro m
    induction m with
    | zero => intro r w y4 y5 y6 z0 z1 z2; exfalso; omega
    | succ m ih =>
      intro r w y4 y5 y6 z0 z1 z2 hQ
      refine fc_iload_n C dX7_takesLeast_4 rfl rfl ?_
      refine fc_aload_n C dX7_takesLeast_5 rfl rfl ?_
      refine fh_callV (y := mX7_side) C dX7_takesLeast_6 ml_X7_188 mi_X7_side im_X7_side se_X7_side (r_side e) rfl rfl (by decide) rfl (Nat.le_of_ble_eq_true rfl) (Nat.zero_le _) (Nat.zero_le _) rfl ?_
      refine fc_icmp_ge (tgt := 90) C dX7_takesLeast_9 (by decide) (fc_Rm (by omega)) (fc_Rm (by omega)) (fun c9 => ?_) (fun c9 => ?_)
      · rcases hQ with ⟨rfl, h0⟩ | ⟨x, y, rfl, x0, x1, q0, q1, hne, hsc, hlst⟩
        · obtain ⟨i, j, i0, i1, j0, j1, hh⟩ := hz
          exact absurd (h0 i j i0 i1 j0 j1 (by omega)) hh
        · refine fc_aload_n C dX7_takesLeast_90 rfl rfl ?_
          refine fc_iload_n C dX7_takesLeast_91 rfl rfl ?_
          refine fc_iload_n C dX7_takesLeast_92 rfl rfl ?_
          refine fc_iconst C dX7_takesLeast_93 ?_
          refine fc_idiv C dX7_takesLeast_94 (fc_Rm (by omega)) (fc_Rm (by omega)) (by omega) ?_
          refine fc_eq (st' := [vI x, vI k, vR 143]) rfl (by rw [show (4 * x + y).tdiv 4 = x by rw [Int.tdiv_eq_ediv_of_nonneg (by omega)]; omega]) ?_
          refine fh_callVE (y := mX7_exchangesRows) C dX7_takesLeast_95 ml_X7_194 mi_X7_exchangesRows im_X7_exchangesRows se_X7_exchangesRows (r_exchangesRows e hn hT (a := k) (b := x) (by omega) (by omega)) rfl rfl (by decide) rfl (Nat.le_of_ble_eq_true rfl) (Nat.zero_le _) (Nat.zero_le _) rfl ?_
          rintro rr A1 F1 ⟨rfl, rfl, fr1, hT1⟩
          refine fc_eq (st' := []) rfl rfl ?_
          refine fc_aload_n C dX7_takesLeast_98 rfl rfl ?_
          refine fc_iload_n C dX7_takesLeast_99 rfl rfl ?_
          refine fc_iload_n C dX7_takesLeast_100 rfl rfl ?_
          refine fc_iconst C dX7_takesLeast_101 ?_
          refine fc_irem C dX7_takesLeast_102 (fc_Rm (by omega)) (fc_Rm (by omega)) (by omega) ?_
          refine fc_eq (st' := [vI y, vI k, vR 143]) rfl (by rw [show (4 * x + y).tmod 4 = y by rw [Int.tmod_eq_emod_of_nonneg (by omega)]; omega]) ?_
          refine fh_callVE (y := mX7_exchangesColumns) C dX7_takesLeast_103 ml_X7_212 mi_X7_exchangesColumns im_X7_exchangesColumns se_X7_exchangesColumns (r_exchangesColumns ((fr1 144 (by omega)).trans e) hn hT1 (a := k) (b := y) (by omega) (by omega)) rfl rfl (by decide) rfl (Nat.le_of_ble_eq_true rfl) (Nat.zero_le _) (Nat.zero_le _) rfl ?_
          rintro rr A2 F2 ⟨rfl, rfl, fr2, hT2⟩
          refine fc_eq (st' := []) rfl rfl ?_
          exact fh_vretE C T dX7_takesLeast_106 ⟨rfl, rfl, fun j hj => by rw [fr2 j hj]; exact fr1 j hj, x, y, ⟨x0, x1, q0, q1, hne, fun i j i0 i1 j0 j1 hh => hlst i j i0 i1 j0 j1 (by omega) hh⟩, hT2⟩
      · have cols : ∀ (m2 : Nat) (c w : Int) (y5 y6 : Option fc_AV), k ≤ c → c ≤ v 0 - 1 → v 0 - c < m2 → Q r c w → fc_W X 0 0 159 (fc_H A F) 15 [some (vR 143), some (vI k), some (vI w), some (vI r), some (vI c), y5, y6] [] := by
          intro m2
          induction m2 with
          | zero => intro c w y5 y6 q0 q1 q2; exfalso; omega
          | succ m2 ih2 =>
            intro c w y5 y6 q0 q1 q2 hQ
            refine fc_iload C dX7_takesLeast_15 rfl ?_
            refine fc_aload_n C dX7_takesLeast_17 rfl rfl ?_
            refine fh_callV (y := mX7_side) C dX7_takesLeast_18 ml_X7_188 mi_X7_side im_X7_side se_X7_side (r_side e) rfl rfl (by decide) rfl (Nat.le_of_ble_eq_true rfl) (Nat.zero_le _) (Nat.zero_le _) rfl ?_
            refine fc_icmp_ge (tgt := 84) C dX7_takesLeast_21 (by decide) (fc_Rm (by omega)) (fc_Rm (by omega)) (fun c21 => ?_) (fun c21 => ?_)
            · refine fc_iinc C dX7_takesLeast_84 rfl (by decide) ?_
              refine fc_goto (tgt := 4) C dX7_takesLeast_87 (by decide) ?_
              refine ih (r + 1) w _ _ _ (by omega) (by omega) (by omega) ?_
              rcases hQ with ⟨h1, h0⟩ | ⟨x, y, h1, x0, x1, p0, p1, hne, hsc, hlst⟩
              · exact Or.inl ⟨h1, fun i j i0 i1 j0 j1 hs => h0 i j i0 i1 j0 j1 (by omega)⟩
              · exact Or.inr ⟨x, y, h1, x0, x1, p0, p1, hne, by omega, fun i j i0 i1 j0 j1 hs => hlst i j i0 i1 j0 j1 (by omega)⟩
            · have t1 := Tk r c z0 (by omega) q0 (by omega)
              have hw : -1 ≤ w ∧ w < 16 := by
                rcases hQ with ⟨h1, h0⟩ | ⟨x, y, h1, x0, x1, p0, p1, hne, hsc, hlst⟩ <;> omega
              -- keep w
              have keep : Q r (c + 1) w → fc_W X 0 0 159 (fc_H A F) 76 [some (vR 143), some (vI k), some (vI w), some (vI r), some (vI c), some (vL (u_ab (A 150 (4 * r + c)))), none] [] := by
                intro hq
                refine fc_iload_n C dX7_takesLeast_76 rfl rfl ?_
                refine fc_istore_n C dX7_takesLeast_77 rfl (by decide) ?_
                refine fc_iinc C dX7_takesLeast_78 rfl (by decide) ?_
                refine fc_goto (tgt := 15) C dX7_takesLeast_81 (by decide) ?_
                exact ih2 (c + 1) w _ _ (by omega) (by omega) (by omega) hq
              have take : Q r (c + 1) (4 * r + c) → fc_W X 0 0 159 (fc_H A F) 67 [some (vR 143), some (vI k), some (vI w), some (vI r), some (vI c), some (vL (u_ab (A 150 (4 * r + c)))), none] [] := by
                intro hq
                refine fc_iconst C dX7_takesLeast_67 ?_
                refine fc_iload_n C dX7_takesLeast_68 rfl rfl ?_
                refine fc_imul C dX7_takesLeast_69 ?_
                refine fc_iload C dX7_takesLeast_70 rfl ?_
                refine fc_iadd C dX7_takesLeast_72 ?_
                refine fc_goto (tgt := 77) C dX7_takesLeast_73 (by decide) ?_
                refine fc_istore_n C dX7_takesLeast_77 rfl (by decide) ?_
                refine fc_iinc C dX7_takesLeast_78 rfl (by decide) ?_
                refine fc_goto (tgt := 15) C dX7_takesLeast_81 (by decide) ?_
                exact ih2 (c + 1) _ _ _ (by omega) (by omega) (by omega) hq
              refine fc_aload_n C dX7_takesLeast_24 rfl rfl ?_
              refine fh_getf C dX7_takesLeast_25 fl_X7_29 rfl rfl ?_
              refine fc_iconst C dX7_takesLeast_28 ?_
              refine fc_iload_n C dX7_takesLeast_29 rfl rfl ?_
              refine fc_imul C dX7_takesLeast_30 ?_
              refine fc_iload C dX7_takesLeast_31 rfl ?_
              refine fc_iadd C dX7_takesLeast_33 ?_
              refine fh_laload C dX7_takesLeast_34 (fun _ _ => rfl) (by omega) (by omega) (by decide) ?_
              refine fh_callS (y := mX7_abs) C dX7_takesLeast_35 ml_X7_208 mi_X7_abs st_X7_abs (r_abs (Bk r c z0 (by omega) q0 (by omega))) (by decide) rfl (Nat.le_of_ble_eq_true rfl) (Nat.zero_le _) (Nat.zero_le _) rfl ?_
              refine fc_lstore C dX7_takesLeast_38 (by decide) ?_
              refine fc_lload C dX7_takesLeast_40 rfl ?_
              refine fc_lconst (z := 0) C dX7_takesLeast_42 rfl ?_
              refine fc_lcmp C dX7_takesLeast_43 (u_ab_L (Bk r c z0 (by omega) q0 (by omega))) (fc_RLm (by omega)) ?_
              refine fc_if_eq (tgt := 76) C dX7_takesLeast_44 (by decide) (fc_cmp_R _ _) (fun c44 => ?_) (fun c44 => ?_)
              · have h0 : U r c = 0 := by rw [← t1]; exact u_ab_0.1 (fc_cmp_eq.1 c44)
                refine keep ?_
                rcases hQ with ⟨h1, g0⟩ | ⟨x, y, h1, x0, x1, p0, p1, hne, hsc, hlst⟩
                · refine Or.inl ⟨h1, fun i j i0 i1 j0 j1 hs => ?_⟩
                  by_cases cc : i = r ∧ j = c
                  · rw [cc.1, cc.2]; exact h0
                  · exact g0 i j i0 i1 j0 j1 (by omega)
                · refine Or.inr ⟨x, y, h1, x0, x1, p0, p1, hne, by omega, fun i j i0 i1 j0 j1 hs hh => ?_⟩
                  by_cases cc : i = r ∧ j = c
                  · rw [cc.1, cc.2] at hh; exact absurd h0 hh
                  · exact hlst i j i0 i1 j0 j1 (by omega) hh
              · have hne2 : U r c ≠ 0 := fun z => c44 (fc_cmp_eq.2 (by rw [t1, z]; rfl))
                refine fc_iload_n C dX7_takesLeast_47 rfl rfl ?_
                refine fc_iconst C dX7_takesLeast_48 ?_
                refine fc_icmp_eq (tgt := 67) C dX7_takesLeast_49 (by decide) (fc_Rm (by omega)) (fc_Rm (by omega)) (fun c49 => ?_) (fun c49 => ?_)
                · rcases hQ with ⟨h1, g0⟩ | ⟨x, y, h1, x0, x1, p0, p1, hne, hsc, hlst⟩
                  · refine take (Or.inr ⟨r, c, rfl, z0, by omega, q0, by omega, hne2, by omega, fun i j i0 i1 j0 j1 hs hh => ?_⟩)
                    by_cases cc : i = r ∧ j = c
                    · rw [cc.1, cc.2]; exact ⟨Int.le_refl _, fun z => by omega⟩
                    · exact absurd (g0 i j i0 i1 j0 j1 (by omega)) hh
                  · exfalso; omega
                · rcases hQ with ⟨h1, g0⟩ | ⟨x, y, h1, x0, x1, p0, p1, hne, hsc, hlst⟩
                  · exact absurd h1 c49
                  · subst h1
                    have t2 := Tk x y x0 x1 p0 p1
                    refine fc_lload C dX7_takesLeast_52 rfl ?_
                    refine fc_aload_n C dX7_takesLeast_54 rfl rfl ?_
                    refine fh_getf C dX7_takesLeast_55 fl_X7_29 rfl rfl ?_
                    refine fc_iload_n C dX7_takesLeast_58 rfl rfl ?_
                    refine fh_laload C dX7_takesLeast_59 (fun _ _ => rfl) (by omega) (by omega) (by decide) ?_
                    refine fh_callS (y := mX7_abs) C dX7_takesLeast_60 ml_X7_208 mi_X7_abs st_X7_abs (r_abs (Bk x y x0 x1 p0 p1)) (by decide) rfl (Nat.le_of_ble_eq_true rfl) (Nat.zero_le _) (Nat.zero_le _) rfl ?_
                    refine fc_lcmp C dX7_takesLeast_63 (u_ab_L (Bk r c z0 (by omega) q0 (by omega))) (u_ab_L (Bk x y x0 x1 p0 p1)) ?_
                    refine fc_if_ge (tgt := 76) C dX7_takesLeast_64 (by decide) (fc_cmp_R _ _) (fun c64 => ?_) (fun c64 => ?_)
                    · have hge : ¬ u_ab (U r c) < u_ab (U x y) := fun z => by rw [← t1, ← t2] at z; have := fc_cmp_lt.2 z; omega
                      refine keep (Or.inr ⟨x, y, rfl, x0, x1, p0, p1, hne, by omega, fun i j i0 i1 j0 j1 hs hh => ?_⟩)
                      by_cases cc : i = r ∧ j = c
                      · rw [cc.1, cc.2]; exact ⟨by omega, fun z => by omega⟩
                      · exact hlst i j i0 i1 j0 j1 (by omega) hh
                    · have hlt : u_ab (U r c) < u_ab (U x y) := by rw [← t1, ← t2]; exact fc_cmp_lt.1 (by omega)
                      refine take (Or.inr ⟨r, c, rfl, z0, by omega, q0, by omega, hne2, by omega, fun i j i0 i1 j0 j1 hs hh => ?_⟩)
                      by_cases cc : i = r ∧ j = c
                      · rw [cc.1, cc.2]; exact ⟨Int.le_refl _, fun z => by omega⟩
                      · have := (hlst i j i0 i1 j0 j1 (by omega) hh).1
                        exact ⟨by omega, fun _ => by omega⟩
        refine fc_iload_n C dX7_takesLeast_12 rfl rfl ?_
        refine fc_istore C dX7_takesLeast_13 (by decide) ?_
        exact cols 7 k w _ _ (by omega) (by omega) (by omega) hQ
  refine fc_iconst C dX7_takesLeast_0 ?_
  refine fc_istore_n C dX7_takesLeast_1 rfl (by decide) ?_
  refine fc_iload_n C dX7_takesLeast_2 rfl rfl ?_
  refine fc_istore_n C dX7_takesLeast_3 rfl (by decide) ?_
  exact rows 7 k (-1) none none none (by omega) (by omega) (by omega) (Or.inl ⟨rfl, fun i j i0 i1 j0 j1 hs => by omega⟩)
end SM1
