/-! Grounded: solving, complements, divisors -/
theorem im_bd {e d b B : Int} (h1 : -b ≤ e) (h2 : e ≤ b) (h3 : -B ≤ d) (h4 : d ≤ B) : -(b * B) ≤ e * d ∧ e * d ≤ b * B := by
  have a1 := Int.mul_nonneg (show 0 ≤ b - e by omega) (show 0 ≤ B + d by omega)
  have a2 := Int.mul_nonneg (show 0 ≤ b + e by omega) (show 0 ≤ B - d by omega)
  have a3 := Int.mul_nonneg (show 0 ≤ b - e by omega) (show 0 ≤ B - d by omega)
  have a4 := Int.mul_nonneg (show 0 ≤ b + e by omega) (show 0 ≤ B + d by omega)
  rw [Int.sub_mul, Int.mul_add, Int.mul_add] at a1
  rw [Int.add_mul, Int.mul_sub, Int.mul_sub] at a2
  rw [Int.sub_mul, Int.mul_sub, Int.mul_sub] at a3
  rw [Int.add_mul, Int.mul_add, Int.mul_add] at a4
  omega
theorem fs_sum5 {f : Int → Int} {n : Int} {B : Int} (hn : 0 ≤ n ∧ n ≤ 5) (hB : 0 ≤ B) (h : ∀ k : Int, 0 ≤ k → k < n → -B ≤ f k ∧ f k ≤ B) : -(5 * B) ≤ fs_sum f n.toNat ∧ fs_sum f n.toNat ≤ 5 * B := by
  have key : ∀ m : Nat, (m : Int) ≤ n → -(m * B) ≤ fs_sum f m ∧ fs_sum f m ≤ m * B := by
    intro m
    induction m with
    | zero => intro _; show -((0 : Nat) * B) ≤ (0 : Int) ∧ (0 : Int) ≤ (0 : Nat) * B; simp
    | succ m ih =>
      intro hm
      have h1 := ih (by omega)
      have h2 := h m (by omega) (by omega)
      show -(((m + 1 : Nat) : Int) * B) ≤ fs_sum f m + f m ∧ fs_sum f m + f m ≤ ((m + 1 : Nat) : Int) * B
      rw [show ((m + 1 : Nat) : Int) = (m : Int) + 1 by omega, Int.add_mul, Int.one_mul]
      omega
  have h1 := key n.toNat (by omega)
  have h2 : ((n.toNat : Nat) : Int) * B ≤ 5 * B := Int.mul_le_mul_of_nonneg_right (by omega) hB
  omega
theorem d_mi_bd {M : Int → Int → Int} {n R : Int} (hn : 0 ≤ n ∧ n ≤ 5) (hM : ∀ a c : Int, 0 ≤ a → a < n → 0 ≤ c → c < n → -15 ≤ M a c ∧ M a c ≤ 15) : ∀ (k : Nat) (S : Int), (k : Int) ≤ n → -(75 ^ k) ≤ d_mi M n R k S ∧ d_mi M n R k S ≤ 75 ^ k := by
  intro k
  induction k with
  | zero => intro S _; show -(1 : Int) ≤ 1 ∧ (1 : Int) ≤ 1; omega
  | succ k ih =>
    intro S hk
    have hp : (0 : Int) < 75 ^ k := Int.pow_pos (by decide)
    unfold d_mi
    rw [Int.pow_succ]
    split
    · have := fs_sum5 (f := fun c => if fb_t S c = 1 then d_sg S c.toNat * M (n - (k + 1)) c * d_mi M n R k (fb_out S c) else 0) (B := 15 * 75 ^ k) hn (by omega) (fun c c0 c1 => by
        split
        · have h1 := ih (fb_out S c) (by omega)
          have h2 := hM (n - (k + 1)) c (by omega) (by omega) c0 c1
          have h3 : -15 ≤ d_sg S c.toNat * M (n - (k + 1)) c ∧ d_sg S c.toNat * M (n - (k + 1)) c ≤ 15 := by
            rcases d_sg_1 (S := S) (c := c.toNat) with e | e <;> rw [e] <;> omega
          exact im_bd h3.1 h3.2 h1.1 h1.2
        · omega)
      omega
    · have := ih S (by omega)
      omega
theorem s_M_bd {L : Int → Int → Int} (hg : g_ok L) {n : Int} (hn : 2 ≤ n ∧ n ≤ 5) : ∀ a c : Int, 0 ≤ a → a < n → 0 ≤ c → c < n → -15 ≤ s_M L n a c ∧ s_M L n a c ≤ 15 := fun a c a0 a1 c0 c1 => by
  unfold s_M
  split
  · have := s_val_bd hg (n := n) (p := a) (by omega) hn.2 a0 (by omega); omega
  · have := hg a c a0 (by omega) c0 (by omega); omega
theorem p75 {n : Int} (hn : 2 ≤ n ∧ n ≤ 5) : (75 : Int) ^ n.toNat ≤ 2373046875 := by
  have : n = 2 ∨ n = 3 ∨ n = 4 ∨ n = 5 := by omega
  rcases this with e | e | e | e <;> subst e <;> decide
theorem d_T_bd {L : Int → Int → Int} (hg : g_ok L) {n q : Int} (hn : 2 ≤ n ∧ n ≤ 5) : -2373046875 ≤ d_T L n q ∧ d_T L n q ≤ 2373046875 := by
  have := d_mi_bd (M := s_M L n) (R := fb_oth n q) (n := n) (by omega) (s_M_bd hg hn) n.toNat (fb_oth n q) (by omega)
  have := p75 hn
  unfold d_T
  omega
theorem d_cf_bd {L : Int → Int → Int} (hg : g_ok L) {n q a b : Int} (hn : 2 ≤ n ∧ n ≤ 5) : -2373046875 ≤ d_cf L n q a b ∧ d_cf L n q a b ≤ 2373046875 := by
  have := d_mi_bd (M := s_M L n) (R := fb_out (fb_oth n q) a) (n := n) (by omega) (s_M_bd hg hn) n.toNat (fb_out (fb_oth n q) b) (by omega)
  have := p75 hn
  unfold d_cf
  split <;> omega
theorem d_sv_bd {L : Int → Int → Int} (hg : g_ok L) {n q a : Int} (hn : 2 ≤ n ∧ n ≤ 5) {x : Int → Int} (hx : ∀ p : Int, 0 ≤ p → p < n → -1000000 ≤ x p ∧ x p ≤ 1000000) : -11865234375000000 ≤ d_sv L n q x a ∧ d_sv L n q x a ≤ 11865234375000000 := by
  unfold d_sv
  split
  · omega
  · have := fs_sum5 (f := fun b => if b = q then 0 else d_cf L n q a b * x b) (B := 2373046875 * 1000000) (n := n) (by omega) (by omega) (fun b b0 b1 => by
      split
      · omega
      · have h1 := d_cf_bd hg hn (q := q) (a := a) (b := b)
        have h2 := hx b b0 b1
        exact im_bd h1.1 h1.2 h2.1 h2.2)
    omega
section GR3
variable {A : Nat → Int → Int} {F : Nat → Nat → Int} {L : Int → Int → Int} {n q : Int}
theorem c_solve (M : k_gw A F n q L) (hn : 2 ≤ n ∧ n ≤ 5) (hq : 0 ≤ q ∧ q < n) {i : Nat} (hi : ∀ (a : Int → Int) (f : Nat → Int), fc_S i a f = cI 5 a) (hi2 : i ≠ 30) (hx : ∀ p : Int, 0 ≤ p → p < n → -1000000 ≤ A i p ∧ A i p ≤ 1000000) : fh_E mX1_solve 0 [vR 17, vR i] A F (fun r A' F' => r = none ∧ F' = F ∧ (∀ a : Int, 0 ≤ a → a < n → A' 30 a = d_sv L n q (A i) a) ∧ ∀ j : Nat, j ≠ 30 → A' j = A j) := by
  obtain ⟨⟨e6, e7, -⟩, -, hc, -⟩ := M
  refine fh_E.of mi_X1_solve (Nat.le_of_ble_eq_true rfl) ?_
  intro X C T
  have loop1 : ∀ (m : Nat) (a : Int) (A1 : Nat → Int → Int) (y : Option fc_AV), 0 ≤ a → a ≤ n → n - a < m → (∀ j : Int, 0 ≤ j → j < a → A1 30 j = d_sv L n q (A i) j) → (∀ j : Nat, j ≠ 30 → A1 j = A j) → fc_W X 0 0 159 (fc_H A1 F) 2 [some (vR 17), some (vR i), some (vI a), y] [] := by
    intro m
    induction m with
    | zero => intro a A1 y z0 z1 z2; exfalso; omega
    | succ m ih =>
      intro a A1 y z0 z1 z2 hv fr
      refine fc_iload_n C dX1_solve_2 rfl rfl ?_
      refine fc_aload_n C dX1_solve_3 rfl rfl ?_
      refine fh_getf C dX1_solve_4 fl_X1_35 rfl rfl ?_
      refine fc_icmp_ge (tgt := 77) C dX1_solve_7 (by decide) (fc_Rm (by omega)) (fc_Rm (by omega)) (fun c7 => ?_) (fun c7 => ?_)
      · exact fh_vretE C T dX1_solve_77 ⟨rfl, rfl, fun j j0 j1 => hv j j0 (by omega), fr⟩
      · have loop2 : ∀ (m2 : Nat) (b : Int) (A2 : Nat → Int → Int), 0 ≤ b → b ≤ n → n - b < m2 → (∀ j : Int, 0 ≤ j → j < a → A2 30 j = d_sv L n q (A i) j) → (A2 30 a = if a = q then 0 else fs_sum (fun b => if b = q then 0 else d_cf L n q a b * A i b) b.toNat) → (∀ j : Nat, j ≠ 30 → A2 j = A j) → fc_W X 0 0 159 (fc_H A2 F) 19 [some (vR 17), some (vR i), some (vI a), some (vI b)] [] := by
          intro m2
          induction m2 with
          | zero => intro b A2 w0 w1 w2; exfalso; omega
          | succ m2 ih2 =>
            intro b A2 w0 w1 w2 hv2 ha2 fr2
            refine fc_iload_n C dX1_solve_19 rfl rfl ?_
            refine fc_aload_n C dX1_solve_20 rfl rfl ?_
            refine fh_getf C dX1_solve_21 fl_X1_35 rfl rfl ?_
            refine fc_icmp_ge (tgt := 71) C dX1_solve_24 (by decide) (fc_Rm (by omega)) (fc_Rm (by omega)) (fun c24 => ?_) (fun c24 => ?_)
            · have eb : b = n := by omega
              subst eb
              refine fc_iinc C dX1_solve_71 rfl (by decide) ?_
              refine fc_goto (tgt := 2) C dX1_solve_74 (by decide) ?_
              refine ih (a + 1) A2 _ (by omega) (by omega) (by omega) (fun j j0 j1 => ?_) fr2
              by_cases e : j = a
              · rw [e, ha2]; rfl
              · exact hv2 j j0 (by omega)
            · have nxt : ∀ (A3 : Nat → Int → Int), (∀ j : Int, 0 ≤ j → j < a → A3 30 j = d_sv L n q (A i) j) → (A3 30 a = if a = q then 0 else fs_sum (fun b => if b = q then 0 else d_cf L n q a b * A i b) (b + 1).toNat) → (∀ j : Nat, j ≠ 30 → A3 j = A j) → fc_W X 0 0 159 (fc_H A3 F) 65 [some (vR 17), some (vR i), some (vI a), some (vI b)] [] := by
                intro A3 h1 h2 h3
                refine fc_iinc C dX1_solve_65 rfl (by decide) ?_
                refine fc_goto (tgt := 19) C dX1_solve_68 (by decide) ?_
                exact ih2 (b + 1) A3 (by omega) (by omega) (by omega) h1 h2 h3
              refine fc_iload_n C dX1_solve_27 rfl rfl ?_
              refine fc_aload_n C dX1_solve_28 rfl rfl ?_
              refine fh_getf C dX1_solve_29 fl_X1_39 rfl rfl ?_
              refine fc_icmp_eq (tgt := 65) C dX1_solve_32 (by decide) (fc_Rm (by omega)) (fc_Rm (by omega)) (fun c32 => ?_) (fun c32 => ?_)
              · have ea : a = q := by omega
                exact nxt A2 hv2 (by rw [ha2, if_pos ea, if_pos ea]) fr2
              · have ea : ¬ a = q := by omega
                refine fc_iload_n C dX1_solve_35 rfl rfl ?_
                refine fc_aload_n C dX1_solve_36 rfl rfl ?_
                refine fh_getf C dX1_solve_37 fl_X1_39 rfl rfl ?_
                refine fc_icmp_eq (tgt := 65) C dX1_solve_40 (by decide) (fc_Rm (by omega)) (fc_Rm (by omega)) (fun c40 => ?_) (fun c40 => ?_)
                · have eb : b = q := by omega
                  exact nxt A2 hv2 (by rw [ha2, if_neg ea, if_neg ea, fs_step w0, if_pos eb, Int.add_zero]) fr2
                · have eb : ¬ b = q := by omega
                  have hcf := hc a b z0 (by omega) w0 (by omega) ea eb
                  have hxb := hx b w0 (by omega)
                  rw [if_neg ea] at ha2
                  refine fc_aload_n C dX1_solve_43 rfl rfl ?_
                  refine fh_getf C dX1_solve_44 fl_X1_21 rfl rfl ?_
                  refine fc_iload_n C dX1_solve_47 rfl rfl ?_
                  refine fc_dup2 C dX1_solve_48 rfl rfl ?_
                  refine fh_laload C dX1_solve_49 (fun _ _ => rfl) (by omega) (by omega) (by decide) ?_
                  refine fc_aload_n C dX1_solve_50 rfl rfl ?_
                  refine fh_getf C dX1_solve_51 fl_X1_18 rfl rfl ?_
                  refine fc_iload_n C dX1_solve_54 rfl rfl ?_
                  refine fh_aaload C dX1_solve_55 (Or.inr (Or.inl rfl)) rfl (by omega) (by omega) (by decide) (fg_25 a) ?_
                  refine fc_iload_n C dX1_solve_56 rfl rfl ?_
                  refine fh_laload C dX1_solve_57 (fS_25 z0 (by omega)) (by omega) (by omega) (by decide) ?_
                  refine fc_aload_n C dX1_solve_58 rfl rfl ?_
                  refine fc_iload_n C dX1_solve_59 rfl rfl ?_
                  refine fh_iaload C dX1_solve_60 hi (by omega) (by omega) (by decide) ?_
                  refine fc_i2l C dX1_solve_61 (by rw [fr2 i hi2]; exact fc_Rm (by omega)) ?_
                  refine fc_lmul C dX1_solve_62 ?_
                  refine fc_ladd C dX1_solve_63 ?_
                  refine fh_lastore C dX1_solve_64 (fun _ _ => rfl) (by omega) (by omega) (by decide) ?_
                  refine nxt _ (fun j j0 j1 => ?_) ?_ (fun j hj => by rw [fa_n _ _ hj]; exact fr2 j hj)
                  · rw [fa_s]
                    unfold fc_set
                    rw [if_neg (by omega)]
                    exact hv2 j j0 j1
                  · rw [fa_s, if_neg ea, fs_step w0, if_neg eb, fr2 (25 + a.toNat) (by omega), hcf, fr2 i hi2, ha2]
                    unfold fc_set
                    rw [if_pos rfl]
        refine fc_aload_n C dX1_solve_10 rfl rfl ?_
        refine fh_getf C dX1_solve_11 fl_X1_21 rfl rfl ?_
        refine fc_iload_n C dX1_solve_14 rfl rfl ?_
        refine fc_lconst (z := 0) C dX1_solve_15 rfl ?_
        refine fh_lastore C dX1_solve_16 (fun _ _ => rfl) (by omega) (by omega) (by decide) ?_
        refine fc_iconst C dX1_solve_17 ?_
        refine fc_istore_n C dX1_solve_18 rfl (by decide) ?_
        refine loop2 6 0 _ (by omega) (by omega) (by omega) (fun j j0 j1 => ?_) ?_ (fun j hj => by rw [fa_n _ _ hj]; exact fr j hj)
        · rw [fa_s]
          unfold fc_set
          rw [if_neg (by omega)]
          exact hv j j0 j1
        · rw [fa_s]
          unfold fc_set
          rw [if_pos rfl]
          split <;> rfl
  refine fc_iconst C dX1_solve_0 ?_
  refine fc_istore_n C dX1_solve_1 rfl (by decide) ?_
  exact loop1 6 0 A _ (by omega) (by omega) (by omega) (fun j j0 j1 => by exfalso; omega) (fun _ _ => rfl)
theorem c_complement (M : k_mx A F n q L) (hn : 2 ≤ n ∧ n ≤ 5) {i j : Nat} (hi : ∀ (a : Int → Int) (f : Nat → Int), fc_S i a f = cI 5 a) (hj : ∀ (a : Int → Int) (f : Nat → Int), fc_S j a f = cI 5 a) (hij : i ≠ j) (hj2 : ¬ (19 ≤ j ∧ j < 24)) : fh_M mX1_complement 0 [vR 17, vR i, vR j] A F none (fa_up A j (fc_cpy (fun p => s_val L n p - 1 - A i p) (A j) n)) F := by
  obtain ⟨e6, e7, hm⟩ := id M
  refine fh_M.of mi_X1_complement (Nat.le_of_ble_eq_true rfl) ?_
  intro X C T
  have loop : ∀ (m : Nat) (k : Int), 0 ≤ k → k ≤ n → n - k < m → fc_W X 0 0 159 (fc_H (fa_up A j (fc_cpy (fun p => s_val L n p - 1 - A i p) (A j) k)) F) 2 [some (vR 17), some (vR i), some (vR j), some (vI k)] [] := by
    intro m
    induction m with
    | zero => intro k z0 z1 z2; exfalso; omega
    | succ m ih =>
      intro k z0 z1 z2
      refine fc_iload_n C dX1_complement_2 rfl rfl ?_
      refine fc_aload_n C dX1_complement_3 rfl rfl ?_
      refine fh_getf C dX1_complement_4 fl_X1_35 rfl rfl ?_
      refine fc_icmp_ge (tgt := 33) C dX1_complement_7 (by decide) (fc_Rm (by omega)) (fc_Rm (by omega)) (fun c7 => ?_) (fun c7 => ?_)
      · have ek : k = n := by omega
        subst ek
        exact fh_vret C T dX1_complement_33 rfl
      · have hmk := hm k k z0 (by omega) z0 (by omega)
        rw [s_M_d] at hmk
        refine fc_aload_n C dX1_complement_10 rfl rfl ?_
        refine fc_iload_n C dX1_complement_11 rfl rfl ?_
        refine fc_aload_n C dX1_complement_12 rfl rfl ?_
        refine fh_getf C dX1_complement_13 fl_X1_11 rfl rfl ?_
        refine fc_iload_n C dX1_complement_16 rfl rfl ?_
        refine fh_aaload C dX1_complement_17 (Or.inl rfl) rfl (by omega) (by omega) (by decide) (fg_19 k) ?_
        refine fc_iload_n C dX1_complement_18 rfl rfl ?_
        refine fh_iaload C dX1_complement_19 (fS_19 z0 (by omega)) (by omega) (by omega) (by decide) ?_
        refine fc_iconst C dX1_complement_20 ?_
        refine fc_isub C dX1_complement_21 ?_
        refine fc_aload_n C dX1_complement_22 rfl rfl ?_
        refine fc_iload_n C dX1_complement_23 rfl rfl ?_
        refine fh_iaload C dX1_complement_24 hi (by omega) (by omega) (by decide) ?_
        refine fc_isub C dX1_complement_25 ?_
        refine fh_iastore C dX1_complement_26 hj (by omega) (by omega) (by decide) ?_
        refine fc_iinc C dX1_complement_27 rfl (by decide) ?_
        refine fc_goto (tgt := 2) C dX1_complement_30 (by decide) ?_
        refine fc_heq (congrArg (fun z => fc_H z _) ?_) (ih (k + 1) (by omega) (by omega) (by omega))
        rw [fa_n (j := 19 + k.toNat) _ _ (by omega), fa_n (j := i) _ _ hij, fa_s, hmk]
        funext o
        by_cases e : o = j
        · subst e
          rw [fa_s, fa_s]
          funext p
          unfold fc_set fc_cpy
          by_cases e2 : p = k
          · rw [if_pos e2, if_pos (by omega), e2]
          · rw [if_neg e2]
            by_cases e3 : 0 ≤ p ∧ p < k
            · rw [if_pos e3, if_pos (by omega)]
            · rw [if_neg e3, if_neg (by omega)]
        · rw [fa_n _ _ e, fa_n _ _ e, fa_n _ _ e]
  refine fc_iconst C dX1_complement_0 ?_
  refine fc_istore_n C dX1_complement_1 rfl (by decide) ?_
  refine fc_heq (congrArg (fun z => fc_H z _) ?_) (loop 6 0 (by omega) (by omega) (by omega))
  funext o
  by_cases e : o = j
  · subst e
    rw [fa_s]
    funext p
    unfold fc_cpy
    rw [if_neg (by omega)]
  · rw [fa_n _ _ e]
theorem c_sinkChips (M : k_mx A F n q L) (hn : 2 ≤ n ∧ n ≤ 5) (hq : 0 ≤ q ∧ q < n) {i : Nat} (hi : ∀ (a : Int → Int) (f : Nat → Int), fc_S i a f = cI 5 a) : fh_M mX1_sinkChipsOfComplement 0 [vR 17, vR i] A F (some (vI (s_val L n q - 1 - A i q))) A F := by
  obtain ⟨e6, e7, hm⟩ := id M
  have hmk := hm q q hq.1 hq.2 hq.1 hq.2
  rw [s_M_d] at hmk
  refine fh_M.of mi_X1_sinkChipsOfComplement (Nat.le_of_ble_eq_true rfl) ?_
  intro X C T
  subst e7
  refine fc_aload_n C dX1_sinkChipsOfComplement_0 rfl rfl ?_
  refine fh_getf C dX1_sinkChipsOfComplement_1 fl_X1_11 rfl rfl ?_
  refine fc_aload_n C dX1_sinkChipsOfComplement_4 rfl rfl ?_
  refine fh_getf C dX1_sinkChipsOfComplement_5 fl_X1_39 rfl rfl ?_
  refine fh_aaload C dX1_sinkChipsOfComplement_8 (Or.inl rfl) rfl (by omega) (by omega) (by decide) (fg_19 (F 17 7)) ?_
  refine fc_aload_n C dX1_sinkChipsOfComplement_9 rfl rfl ?_
  refine fh_getf C dX1_sinkChipsOfComplement_10 fl_X1_39 rfl rfl ?_
  refine fh_iaload C dX1_sinkChipsOfComplement_13 (fS_19 hq.1 (by omega)) (by omega) (by omega) (by decide) ?_
  refine fc_iconst C dX1_sinkChipsOfComplement_14 ?_
  refine fc_isub C dX1_sinkChipsOfComplement_15 ?_
  refine fc_aload_n C dX1_sinkChipsOfComplement_16 rfl rfl ?_
  refine fc_aload_n C dX1_sinkChipsOfComplement_17 rfl rfl ?_
  refine fh_getf C dX1_sinkChipsOfComplement_18 fl_X1_39 rfl rfl ?_
  refine fh_iaload C dX1_sinkChipsOfComplement_21 hi (by omega) (by omega) (by decide) ?_
  refine fc_isub C dX1_sinkChipsOfComplement_22 ?_
  exact fh_iret C T dX1_sinkChipsOfComplement_23 (by rw [hmk]) rfl
theorem c_wayOf (M : k_gw A F n q L) (hg : g_ok L) (hn : 2 ≤ n ∧ n ≤ 5) {p z : Int} (hp : 0 ≤ p ∧ p < n) (hz : A 30 p = z) (hzb : fc_RL z) (hT : 0 < d_T L n q) : fh_M mX1_wayOf 0 [vR 17, vI p] A F (some (vI (z.tdiv (d_T L n q)))) A F := by
  obtain ⟨-, e8, -⟩ := M
  have hTb := d_T_bd hg hn (q := q)
  refine fh_M.of mi_X1_wayOf (Nat.le_of_ble_eq_true rfl) ?_
  intro X C T
  refine fc_aload_n C dX1_wayOf_0 rfl rfl ?_
  refine fh_getf C dX1_wayOf_1 fl_X1_42 rfl rfl ?_
  refine fc_lconst (z := 0) C dX1_wayOf_4 rfl ?_
  refine fc_lcmp C dX1_wayOf_5 (fc_RLm (by omega)) (fc_RLm (by omega)) ?_
  rw [e8]
  refine fc_if_le (tgt := 24) C dX1_wayOf_6 (by decide) (fc_cmp_R _ _) (fun c6 => ?_) (fun c6 => ?_)
  · have := fc_cmp_gt.2 hT
    exfalso; omega
  · refine fc_aload_n C dX1_wayOf_9 rfl rfl ?_
    refine fh_getf C dX1_wayOf_10 fl_X1_21 rfl rfl ?_
    refine fc_iload_n C dX1_wayOf_13 rfl rfl ?_
    refine fh_laload C dX1_wayOf_14 (fun _ _ => rfl) (by omega) (by omega) (by decide) ?_
    refine fc_aload_n C dX1_wayOf_15 rfl rfl ?_
    refine fh_getf C dX1_wayOf_16 fl_X1_42 rfl rfl ?_
    refine fc_ldiv C dX1_wayOf_19 (by rw [hz]; exact hzb) (by rw [e8]; exact fc_RLm (by omega)) (by omega) ?_
    refine fc_l2i C dX1_wayOf_20 ?_
    refine fc_goto (tgt := 25) C dX1_wayOf_21 (by decide) ?_
    exact fh_iret C T dX1_wayOf_25 (by rw [hz, e8]) rfl
end GR3
