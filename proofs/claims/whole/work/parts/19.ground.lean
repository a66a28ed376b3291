/-! Grounded: its matrix, firing, settling -/
def s_M (L : Int → Int → Int) (n a b : Int) : Int := if a = b then s_val L n a else - L a b
def k_mx (A : Nat → Int → Int) (F : Nat → Nat → Int) (n q : Int) (L : Int → Int → Int) : Prop := F 17 6 = n ∧ F 17 7 = q ∧ ∀ a b : Int, 0 ≤ a → a < n → 0 ≤ b → b < n → A (19 + a.toNat) b = s_M L n a b
theorem fS_19 {p : Int} (h0 : 0 ≤ p) (h1 : p < 5) : ∀ (a : Int → Int) (f : Nat → Int), fc_S (19 + p.toNat) a f = cI 5 a := by
  have key : ∀ k : Fin 5, ∀ (a : Int → Int) (f : Nat → Int), fc_S (19 + ((k.val : Nat) : Int).toNat) a f = cI 5 a := fin5 (fun _ _ => rfl) (fun _ _ => rfl) (fun _ _ => rfl) (fun _ _ => rfl) (fun _ _ => rfl)
  exact fz_lt (P := fun p => ∀ (a : Int → Int) (f : Nat → Int), fc_S (19 + p.toNat) a f = cI 5 a) (N := 5) key h0 h1
theorem fg_19 (p : Int) : (some (19 + 1 * p.toNat) : Option Nat) = some (19 + p.toNat) := by rw [Nat.one_mul]
/-- a point fires t times -/
def s_fire (L : Int → Int → Int) (n p t : Int) (x : Int → Int) : Int → Int := fun o => if 0 ≤ o ∧ o < n then x o - t * s_M L n p o else x o
def s_can (L : Int → Int → Int) (n q : Int) (x : Int → Int) (p : Int) : Prop := p ≠ q ∧ 0 < s_val L n p ∧ s_val L n p ≤ x p
/-- a sweep over the points below k: chips, script, moved -/
def s_sw (L : Int → Int → Int) (n q : Int) (x f : Int → Int) : Nat → (Int → Int) × (Int → Int) × Int
  | 0 => (x, f, 0)
  | k + 1 =>
    if (k : Int) ≠ q ∧ 0 < s_val L n k ∧ s_val L n k ≤ (s_sw L n q x f k).1 k then
      (s_fire L n k ((s_sw L n q x f k).1 k / s_val L n k) (s_sw L n q x f k).1, fc_set (s_sw L n q x f k).2.1 k ((s_sw L n q x f k).2.1 k + (s_sw L n q x f k).1 k / s_val L n k), 1)
    else s_sw L n q x f k
def s_it (L : Int → Int → Int) (n q : Int) (x f : Int → Int) : Nat → (Int → Int) × (Int → Int)
  | 0 => (x, f)
  | k + 1 => ((s_sw L n q (s_it L n q x f k).1 (s_it L n q x f k).2 n.toNat).1, (s_sw L n q (s_it L n q x f k).1 (s_it L n q x f k).2 n.toNat).2.1)
theorem s_sw_t {L : Int → Int → Int} {n q : Int} {x f : Int → Int} {k : Int} (h : 0 ≤ k) (hc : s_can L n q (s_sw L n q x f k.toNat).1 k) : s_sw L n q x f (k + 1).toNat = (s_fire L n k ((s_sw L n q x f k.toNat).1 k / s_val L n k) (s_sw L n q x f k.toNat).1, fc_set (s_sw L n q x f k.toNat).2.1 k ((s_sw L n q x f k.toNat).2.1 k + (s_sw L n q x f k.toNat).1 k / s_val L n k), 1) := by
  have e : (k + 1).toNat = k.toNat + 1 := by omega
  have e2 : ((k.toNat : Nat) : Int) = k := by omega
  rw [e]
  unfold s_can at hc
  conv => lhs; unfold s_sw
  rw [e2, if_pos hc]
theorem s_sw_f {L : Int → Int → Int} {n q : Int} {x f : Int → Int} {k : Int} (h : 0 ≤ k) (hc : ¬ s_can L n q (s_sw L n q x f k.toNat).1 k) : s_sw L n q x f (k + 1).toNat = s_sw L n q x f k.toNat := by
  have e : (k + 1).toNat = k.toNat + 1 := by omega
  have e2 : ((k.toNat : Nat) : Int) = k := by omega
  rw [e]
  unfold s_can at hc
  conv => lhs; unfold s_sw
  rw [e2, if_neg hc]
/-- what settling asks of chips: none below 0 but at the sink, all within bounds -/
def s_nn (n q : Int) (x : Int → Int) : Prop := ∀ p : Int, 0 ≤ p → p < n → (p ≠ q → 0 ≤ x p) ∧ -1000000000 ≤ x p ∧ x p ≤ 1000000000
section GROUND
variable {A : Nat → Int → Int} {F : Nat → Nat → Int} {n q : Int} {L : Int → Int → Int} {c : Int → Int}
set_option maxHeartbeats 4000000 in
theorem c_take (K : k_net A F n L) {q : Int} : fh_E mX1_take 2 [vR 17, vR 3, vI q] A F (fun r A' F' => r = none ∧ F' = ff_up (ff_up F 17 6 n) 17 7 q ∧ k_mx A' F' n q L ∧ ∀ i : Nat, ¬ (19 ≤ i ∧ i < 24) → A' i = A i) := by
  obtain ⟨e0, hn1, hn2, eL⟩ := id K
  refine fh_E.of mi_X1_take (Nat.le_of_ble_eq_true rfl) ?_
  intro X C T
  have loop1 : ∀ (m : Nat) (a : Int) (A1 : Nat → Int → Int) (y : Option fc_AV), 0 ≤ a → a ≤ n → n - a < m → (∀ x y : Int, 0 ≤ x → x < a → 0 ≤ y → y < n → A1 (19 + x.toNat) y = s_M L n x y) → (∀ i : Nat, ¬ (19 ≤ i ∧ i < 24) → A1 i = A i) → fc_W X 0 0 159 (fc_H A1 (ff_up (ff_up F 17 6 n) 17 7 q)) 15 [some (vR 17), some (vR 3), some (vI q), some (vI a), y] [] := by
    intro m
    induction m with
    | zero => intro a A1 y h0 h1 h2; exfalso; omega
    | succ m ih =>
      intro a A1 y h0 h1 h2 M1 fr
      have eF : ff_up (ff_up F 17 6 n) 17 7 q 17 6 = n := by simp [ff_up]
      refine fc_iload_n C dX1_take_15 rfl rfl ?_
      refine fc_aload_n C dX1_take_16 rfl rfl ?_
      refine fh_getf C dX1_take_17 fl_X1_35 rfl rfl ?_
      refine fc_eq (st' := [vI n, vI a]) rfl (by rw [eF]) ?_
      refine fc_icmp_ge (tgt := 80) C dX1_take_20 (by decide) (fc_Rm (by omega)) (fc_Rm (by omega)) (fun c20 => ?_) (fun c20 => ?_)
      · have e : a = n := by omega
        subst e
        exact fh_vretE C T dX1_take_80 ⟨rfl, rfl, ⟨eF, by simp [ff_up], M1⟩, fr⟩
      · have loop2 : ∀ (m2 : Nat) (b : Int) (A2 : Nat → Int → Int), 0 ≤ b → b ≤ n → n - b < m2 → (∀ x y : Int, 0 ≤ x → 0 ≤ y → (x < a ∧ y < n) ∨ (x = a ∧ y < b) → A2 (19 + x.toNat) y = s_M L n x y) → (∀ i : Nat, ¬ (19 ≤ i ∧ i < 24) → A2 i = A i) → fc_W X 0 0 159 (fc_H A2 (ff_up (ff_up F 17 6 n) 17 7 q)) 26 [some (vR 17), some (vR 3), some (vI q), some (vI a), some (vI b)] [] := by
          intro m2
          induction m2 with
          | zero => intro b A2 h0 h1 h2; exfalso; omega
          | succ m2 ih2 =>
            intro b A2 q0 q1 q2 M2 fr2
            have K2 : k_net A2 (ff_up (ff_up F 17 6 n) 17 7 q) n L := ⟨by simp [ff_up]; exact e0, hn1, hn2, fun x y z0 z1 z2 z3 => by rw [fr2 _ (by omega)]; exact eL x y z0 z1 z2 z3⟩
            refine fc_iload C dX1_take_26 rfl ?_
            refine fc_aload_n C dX1_take_28 rfl rfl ?_
            refine fh_getf C dX1_take_29 fl_X1_35 rfl rfl ?_
            refine fc_eq (st' := [vI n, vI b]) rfl (by rw [eF]) ?_
            refine fc_icmp_ge (tgt := 74) C dX1_take_32 (by decide) (fc_Rm (by omega)) (fc_Rm (by omega)) (fun c32 => ?_) (fun c32 => ?_)
            · refine fc_iinc C dX1_take_74 rfl (by decide) ?_
              refine fc_goto (tgt := 15) C dX1_take_77 (by decide) ?_
              exact ih (a + 1) A2 _ (by omega) (by omega) (by omega) (fun x y z0 z1 z2 z3 => M2 x y z0 z2 (by omega)) fr2
            · have fin : ∀ v : Int, v = s_M L n a b → fc_W X 0 0 159 (fc_H A2 (ff_up (ff_up F 17 6 n) 17 7 q)) 67 [some (vR 17), some (vR 3), some (vI q), some (vI a), some (vI b)] [vI v, vI b, vR (19 + a.toNat)] := by
                intro v hv
                refine fh_iastore C dX1_take_67 (fS_19 h0 (by omega)) (by omega) (by omega) (by decide) ?_
                refine fc_iinc C dX1_take_68 rfl (by decide) ?_
                refine fc_goto (tgt := 26) C dX1_take_71 (by decide) ?_
                refine ih2 (b + 1) _ (by omega) (by omega) (by omega) (fun x y z0 z1 z2 => ?_) (fun i hi => by rw [fa_n _ _ (by omega)]; exact fr2 i hi)
                by_cases ex : x = a
                · subst ex
                  rw [fa_s]
                  unfold fc_set
                  by_cases ey : y = b
                  · rw [if_pos ey, ey, hv]
                  · rw [if_neg ey]
                    exact M2 x y z0 z1 (by omega)
                · rw [fa_n _ _ (by omega)]
                  exact M2 x y z0 z1 (by omega)
              refine fc_aload_n C dX1_take_35 rfl rfl ?_
              refine fh_getf C dX1_take_36 fl_X1_11 rfl rfl ?_
              refine fc_iload_n C dX1_take_39 rfl rfl ?_
              refine fh_aaload C dX1_take_40 (Or.inl rfl) rfl (by omega) (by omega) (by decide) (fg_19 a) ?_
              refine fc_iload C dX1_take_41 rfl ?_
              refine fc_iload_n C dX1_take_43 rfl rfl ?_
              refine fc_iload C dX1_take_44 rfl ?_
              refine fc_icmp_ne (tgt := 57) C dX1_take_46 (by decide) (fc_Rm (by omega)) (fc_Rm (by omega)) (fun c46 => ?_) (fun c46 => ?_)
              · refine fc_aload_n C dX1_take_57 rfl rfl ?_
                refine fh_getf C dX1_take_58 fl_X1_53 rfl rfl ?_
                refine fc_iload_n C dX1_take_61 rfl rfl ?_
                refine fh_aaload C dX1_take_62 (Or.inl rfl) rfl (by omega) (by omega) (by decide) (fg_5 a) ?_
                refine fc_iload C dX1_take_63 rfl ?_
                refine fh_iaload C dX1_take_65 (fS_5 h0 (by omega)) (by omega) (by omega) (by decide) ?_
                refine fc_ineg C dX1_take_66 ?_
                exact fin _ (by rw [K2.2.2.2 a b h0 (by omega) q0 (by omega)]; unfold s_M; rw [if_neg c46])
              · refine fc_aload_n C dX1_take_49 rfl rfl ?_
                refine fc_iload_n C dX1_take_50 rfl rfl ?_
                refine fh_callV (y := mX3_valence) C dX1_take_51 ml_X1_49 mi_X3_valence im_X3_valence se_X3_valence (c_valence K2 h0 (by omega)) rfl rfl (by decide) rfl (Nat.le_of_ble_eq_true rfl) (Nat.zero_le _) (Nat.zero_le _) rfl ?_
                refine fc_goto (tgt := 67) C dX1_take_54 (by decide) ?_
                exact fin _ (by unfold s_M; rw [if_pos c46])
        refine fc_iconst C dX1_take_23 ?_
        refine fc_istore C dX1_take_24 (by decide) ?_
        exact loop2 6 0 A1 (by omega) (by omega) (by omega) (fun x y z0 z1 z2 => M1 x y z0 (by omega) z1 (by omega)) fr
  refine fc_aload_n C dX1_take_0 rfl rfl ?_
  refine fc_aload_n C dX1_take_1 rfl rfl ?_
  refine fh_getf C dX1_take_2 fl_X1_46 rfl rfl ?_
  refine fh_putf _ C dX1_take_5 fl_X1_35 rfl (Nat.le_of_ble_eq_true rfl) rfl rfl ?_
  refine fc_aload_n C dX1_take_8 rfl rfl ?_
  refine fc_iload_n C dX1_take_9 rfl rfl ?_
  refine fh_putf _ C dX1_take_10 fl_X1_39 rfl (Nat.le_of_ble_eq_true rfl) rfl rfl ?_
  refine fc_iconst C dX1_take_13 ?_
  refine fc_istore_n C dX1_take_14 rfl (by decide) ?_
  refine fc_heq ?_ (loop1 6 0 A _ (by omega) (by omega) (by omega) (fun x y z0 z1 => by omega) (fun i _ => rfl))
  rw [e0]
theorem c_fire (M : k_mx A F n q L) (hn : 2 ≤ n ∧ n ≤ 5) {i : Nat} (hi : ∀ (a : Int → Int) (f : Nat → Int), fc_S i a f = cI 5 a) (hi2 : ¬ (19 ≤ i ∧ i < 24)) {p t : Int} (hp0 : 0 ≤ p) (hp1 : p < n) : fh_M mX1_fire 0 [vR 17, vR i, vI p, vI t] A F none (fa_up A i (s_fire L n p t (A i))) F := by
  obtain ⟨e6, e7, eM⟩ := M
  refine fh_M.of mi_X1_fire (Nat.le_of_ble_eq_true rfl) ?_
  intro X C T
  have loop : ∀ (m : Nat) (k : Int), 0 ≤ k → k ≤ n → n - k < m → fc_W X 0 0 159 (fc_H (fa_up A i (fc_cpy (s_fire L n p t (A i)) (A i) k)) F) 3 [some (vR 17), some (vR i), some (vI p), some (vI t), some (vI k)] [] := by
    intro m
    induction m with
    | zero => intro k h0 h1 h2; exfalso; omega
    | succ m ih =>
      intro k h0 h1 h2
      refine fc_iload C dX1_fire_3 rfl ?_
      refine fc_aload_n C dX1_fire_5 rfl rfl ?_
      refine fh_getf C dX1_fire_6 fl_X1_35 rfl rfl ?_
      refine fc_icmp_ge (tgt := 36) C dX1_fire_9 (by decide) (fc_Rm (by omega)) (fc_Rm (by omega)) (fun c9 => ?_) (fun c9 => ?_)
      · have e : k = n := by omega
        subst e
        refine fh_vret C T dX1_fire_36 (congrArg (fun z => fc_H z _) ?_)
        congr 1
        funext o
        unfold fc_cpy s_fire
        by_cases h : 0 ≤ o ∧ o < k
        · rw [if_pos h, if_pos h]
        · rw [if_neg h, if_neg h]
      · refine fc_aload_n C dX1_fire_12 rfl rfl ?_
        refine fc_iload C dX1_fire_13 rfl ?_
        refine fc_dup2 C dX1_fire_15 rfl rfl ?_
        refine fh_iaload C dX1_fire_16 hi (by omega) (by omega) (by decide) ?_
        refine fc_iload_n C dX1_fire_17 rfl rfl ?_
        refine fc_aload_n C dX1_fire_18 rfl rfl ?_
        refine fh_getf C dX1_fire_19 fl_X1_11 rfl rfl ?_
        refine fc_iload_n C dX1_fire_22 rfl rfl ?_
        refine fh_aaload C dX1_fire_23 (Or.inl rfl) rfl (by omega) (by omega) (by decide) (fg_19 p) ?_
        refine fc_iload C dX1_fire_24 rfl ?_
        refine fh_iaload C dX1_fire_26 (fS_19 hp0 (by omega)) (by omega) (by omega) (by decide) ?_
        refine fc_imul C dX1_fire_27 ?_
        refine fc_isub C dX1_fire_28 ?_
        refine fh_iastore C dX1_fire_29 hi (by omega) (by omega) (by decide) ?_
        refine fc_iinc C dX1_fire_30 rfl (by decide) ?_
        refine fc_goto (tgt := 3) C dX1_fire_33 (by decide) ?_
        refine fc_heq (congrArg (fun z => fc_H z _) ?_) (ih (k + 1) (by omega) (by omega) (by omega))
        rw [fa_n (j := 19 + p.toNat) _ _ (by omega), fa_s, eM p k hp0 hp1 h0 (by omega)]
        funext j
        by_cases ej : j = i
        · subst ej
          rw [fa_s, fa_s]
          funext o
          unfold fc_set fc_cpy s_fire
          by_cases q1 : o = k
          · subst q1
            rw [if_pos rfl, if_neg (by omega), if_pos (by omega), if_pos (by omega)]
          · rw [if_neg q1]
            by_cases q2 : 0 ≤ o ∧ o < k
            · rw [if_pos q2, if_pos (by omega), if_pos (by omega)]
            · rw [if_neg q2, if_neg (by omega)]
        · rw [fa_n _ _ ej, fa_n _ _ ej, fa_n _ _ ej]
  refine fc_iconst C dX1_fire_0 ?_
  refine fc_istore C dX1_fire_1 (by decide) ?_
  refine fc_heq (congrArg (fun z => fc_H z _) ?_) (loop 6 0 (by omega) (by omega) (by omega))
  funext j
  by_cases ej : j = i
  · subst ej
    rw [fa_s]
    funext o
    unfold fc_cpy
    rw [if_neg (by omega)]
  · rw [fa_n _ _ ej]
set_option maxHeartbeats 4000000 in
/-- settling: the sweeps up to the first that moves nothing, K -/
theorem c_settle (M : k_mx A F n q L) (hg : g_ok L) (hn : 2 ≤ n ∧ n ≤ 5) (hq : 0 ≤ q ∧ q < n) {i j : Nat} (hi : ∀ (a : Int → Int) (f : Nat → Int), fc_S i a f = cI 5 a) (hi2 : ¬ (19 ≤ i ∧ i < 24)) (hj : ∀ (a : Int → Int) (f : Nat → Int), fc_S j a f = cI 5 a) (hj2 : ¬ (19 ≤ j ∧ j < 24)) (hij : i ≠ j) {x f : Int → Int} (hx : A i = x) (hf : A j = f) {K : Nat} (hK : K < 1000000)
    (hb : ∀ k : Nat, k ≤ K → ∀ m : Nat, (m : Int) ≤ n → s_nn n q (s_sw L n q (s_it L n q x f k).1 (s_it L n q x f k).2 m).1)
    (hmv : ∀ k : Nat, k < K → (s_sw L n q (s_it L n q x f k).1 (s_it L n q x f k).2 n.toNat).2.2 = 1) (hst : (s_sw L n q (s_it L n q x f K).1 (s_it L n q x f K).2 n.toNat).2.2 = 0) : fh_M mX1_settle 1 [vR 17, vR i, vR j] A F none (fa_up (fa_up A i (s_it L n q x f (K + 1)).1) j (s_it L n q x f (K + 1)).2) F := by
  obtain ⟨e6, e7, eM⟩ := id M
  refine fh_M.of mi_X1_settle (Nat.le_of_ble_eq_true rfl) ?_
  intro X C T
  have MM : ∀ (g h : Int → Int), k_mx (fa_up (fa_up A i g) j h) F n q L := fun g h => ⟨e6, e7, fun a b q0 q1 q2 q3 => by rw [fa_n _ _ (by omega), fa_n _ _ (by omega)]; exact eM a b q0 q1 q2 q3⟩
  have outer : ∀ (m t : Nat) (y5 y6 y7 : Option fc_AV), t ≤ K → K - t < m → fc_W X 0 0 159 (fc_H (fa_up (fa_up A i (s_it L n q x f t).1) j (s_it L n q x f t).2) F) 5 [some (vR 17), some (vR i), some (vR j), some (vI 1), some (vI t), y5, y6, y7] [] := by
    intro m
    induction m with
    | zero => intro t y5 y6 y7 h0 h1; exfalso; omega
    | succ m ih =>
      intro t y5 y6 y7 ht htm
      have hb2 := hb t ht
      have hmv2 : t < K → (s_sw L n q (s_it L n q x f t).1 (s_it L n q x f t).2 n.toNat).2.2 = 1 := hmv t
      have hst2 : t = K → (s_sw L n q (s_it L n q x f t).1 (s_it L n q x f t).2 n.toNat).2.2 = 0 := fun e => by rw [e]; exact hst
      have ens : s_it L n q x f (t + 1) = ((s_sw L n q (s_it L n q x f t).1 (s_it L n q x f t).2 n.toNat).1, (s_sw L n q (s_it L n q x f t).1 (s_it L n q x f t).2 n.toNat).2.1) := rfl
      generalize (s_it L n q x f t).1 = x1 at hb2 hmv2 hst2 ens ⊢
      generalize (s_it L n q x f t).2 = f1 at hb2 hmv2 hst2 ens ⊢
      have inner : ∀ (m2 : Nat) (k : Int) (y6 y7 : Option fc_AV), 0 ≤ k → k ≤ n → n - k < m2 → fc_W X 0 0 159 (fc_H (fa_up (fa_up A i (s_sw L n q x1 f1 k.toNat).1) j (s_sw L n q x1 f1 k.toNat).2.1) F) 21 [some (vR 17), some (vR i), some (vR j), some (vI (s_sw L n q x1 f1 k.toNat).2.2), some (vI t), some (vI k), y6, y7] [] := by
        intro m2
        induction m2 with
        | zero => intro k y6 y7 h0 h1 h2; exfalso; omega
        | succ m2 ih2 =>
          intro k y6 y7 h0 h1 h2
          have hbk := hb2 k.toNat (by omega)
          refine fc_iload C dX1_settle_21 rfl ?_
          refine fc_aload_n C dX1_settle_23 rfl rfl ?_
          refine fh_getf C dX1_settle_24 fl_X1_35 rfl rfl ?_
          refine fc_icmp_ge (tgt := 100) C dX1_settle_27 (by decide) (fc_Rm (by omega)) (fc_Rm (by omega)) (fun c27 => ?_) (fun c27 => ?_)
          · have e : k = n := by omega
            subst e
            refine fc_iinc C dX1_settle_100 rfl (by decide) ?_
            refine fc_goto (tgt := 5) C dX1_settle_103 (by decide) ?_
            have ecast : ((t : Int) + 1) = ((t + 1 : Nat) : Int) := by omega
            by_cases htK : t = K
            · refine fc_eq (ls' := [some (vR 17), some (vR i), some (vR j), some (vI 0), some (vI ((t + 1 : Nat) : Int)), some (vI k), y6, y7]) (by rw [← ecast, ← hst2 htK]; rfl) rfl ?_
              refine fc_iload C dX1_settle_5 rfl ?_
              refine fc_ldc C dX1_settle_7 kc_X1_93 ?_
              refine fc_icmp_ge (tgt := 106) C dX1_settle_9 (by decide) (fc_Rm (by omega)) (fc_Rm (by omega)) (fun c9 => ?_) (fun c9 => ?_)
              · refine fh_vret C T dX1_settle_106 ?_
                rw [← htK, ens]
              · refine fc_iload_n C dX1_settle_12 rfl rfl ?_
                refine fc_if_eq (tgt := 106) C dX1_settle_13 (by decide) (fc_Rm (by omega)) (fun c13 => ?_) (fun c13 => ?_)
                · refine fh_vret C T dX1_settle_106 ?_
                  rw [← htK, ens]
                · exact absurd rfl c13
            · refine fc_eq (ls' := [some (vR 17), some (vR i), some (vR j), some (vI 1), some (vI ((t + 1 : Nat) : Int)), some (vI k), y6, y7]) (by rw [← ecast, ← hmv2 (by omega)]; rfl) rfl ?_
              refine fc_heq ?_ (ih (t + 1) (some (vI k)) y6 y7 (by omega) (by omega))
              rw [ens]
          · have hMk := (MM (s_sw L n q x1 f1 k.toNat).1 (s_sw L n q x1 f1 k.toNat).2.1).2.2 k k h0 (by omega) h0 (by omega)
            have hvb := s_val_bd hg (n := n) (p := k) (by omega) hn.2 h0 (by omega)
            have hxk := hbk k h0 (by omega)
            have hM0 : s_M L n k k = s_val L n k := by unfold s_M; rw [if_pos rfl]
            refine fc_aload_n C dX1_settle_30 rfl rfl ?_
            refine fh_getf C dX1_settle_31 fl_X1_11 rfl rfl ?_
            refine fc_iload C dX1_settle_34 rfl ?_
            refine fh_aaload C dX1_settle_36 (Or.inl rfl) rfl (by omega) (by omega) (by decide) (fg_19 k) ?_
            refine fc_iload C dX1_settle_37 rfl ?_
            refine fh_iaload C dX1_settle_39 (fS_19 h0 (by omega)) (by omega) (by omega) (by decide) ?_
            refine fc_eq (st' := [vI (s_val L n k)]) rfl (by rw [hMk, hM0]) ?_
            refine fc_istore C dX1_settle_40 (by decide) ?_
            refine fc_iload C dX1_settle_42 rfl ?_
            refine fc_aload_n C dX1_settle_44 rfl rfl ?_
            refine fh_getf C dX1_settle_45 fl_X1_39 rfl rfl ?_
            have skip : ¬ s_can L n q (s_sw L n q x1 f1 k.toNat).1 k → ∀ (y6 y7 : Option fc_AV), fc_W X 0 0 159 (fc_H (fa_up (fa_up A i (s_sw L n q x1 f1 k.toNat).1) j (s_sw L n q x1 f1 k.toNat).2.1) F) 94 [some (vR 17), some (vR i), some (vR j), some (vI (s_sw L n q x1 f1 k.toNat).2.2), some (vI t), some (vI k), y6, y7] [] := by
              intro hcn y6 y7
              refine fc_iinc C dX1_settle_94 rfl (by decide) ?_
              refine fc_goto (tgt := 21) C dX1_settle_97 (by decide) ?_
              have := ih2 (k + 1) y6 y7 (by omega) (by omega) (by omega)
              rw [s_sw_f h0 hcn] at this
              exact this
            refine fc_icmp_eq (tgt := 94) C dX1_settle_48 (by decide) (fc_Rm (by omega)) (fc_Rm (by omega)) (fun c48 => ?_) (fun c48 => ?_)
            · exact skip (fun z => z.1 (by omega)) _ _
            · refine fc_iload C dX1_settle_51 rfl ?_
              refine fc_if_le (tgt := 94) C dX1_settle_53 (by decide) (fc_Rm (by omega)) (fun c53 => ?_) (fun c53 => ?_)
              · exact skip (fun z => by have := z.2.1; omega) _ _
              · refine fc_aload_n C dX1_settle_56 rfl rfl ?_
                refine fc_iload C dX1_settle_57 rfl ?_
                refine fh_iaload C dX1_settle_59 hi (by omega) (by omega) (by decide) ?_
                refine fc_iload C dX1_settle_60 rfl ?_
                refine fc_eq (st' := [vI (s_val L n k), vI ((s_sw L n q x1 f1 k.toNat).1 k)]) rfl (by rw [fa_n _ _ hij, fa_s]) ?_
                refine fc_icmp_lt (tgt := 94) C dX1_settle_62 (by decide) (fc_Rm (by omega)) (fc_Rm (by omega)) (fun c62 => ?_) (fun c62 => ?_)
                · exact skip (fun z => by have := z.2.2; omega) _ _
                · have hcan : s_can L n q (s_sw L n q x1 f1 k.toNat).1 k := ⟨by omega, c53, c62⟩
                  refine fc_aload_n C dX1_settle_65 rfl rfl ?_
                  refine fc_iload C dX1_settle_66 rfl ?_
                  refine fh_iaload C dX1_settle_68 hi (by omega) (by omega) (by decide) ?_
                  refine fc_iload C dX1_settle_69 rfl ?_
                  refine fc_eq (st' := [vI (s_val L n k), vI ((s_sw L n q x1 f1 k.toNat).1 k)]) rfl (by rw [fa_n _ _ hij, fa_s]) ?_
                  refine fc_idiv C dX1_settle_71 (fc_Rm (by omega)) (fc_Rm (by omega)) (by omega) ?_
                  refine fc_eq (st' := [vI ((s_sw L n q x1 f1 k.toNat).1 k / s_val L n k)]) rfl (by rw [Int.tdiv_eq_ediv_of_nonneg (by omega)]) ?_
                  refine fc_istore C dX1_settle_72 (by decide) ?_
                  refine fc_aload_n C dX1_settle_74 rfl rfl ?_
                  refine fc_aload_n C dX1_settle_75 rfl rfl ?_
                  refine fc_iload C dX1_settle_76 rfl ?_
                  refine fc_iload C dX1_settle_78 rfl ?_
                  refine fh_callVv (y := mX1_fire) C dX1_settle_80 ml_X1_94 mi_X1_fire im_X1_fire se_X1_fire (c_fire (MM _ _) hn hi hi2 h0 (by omega)) rfl rfl (by decide) rfl (Nat.le_of_ble_eq_true rfl) (Nat.zero_le _) (Nat.zero_le _) rfl ?_
                  refine fc_aload_n C dX1_settle_83 rfl rfl ?_
                  refine fc_iload C dX1_settle_84 rfl ?_
                  refine fc_dup2 C dX1_settle_86 rfl rfl ?_
                  refine fh_iaload C dX1_settle_87 hj (by omega) (by omega) (by decide) ?_
                  refine fc_iload C dX1_settle_88 rfl ?_
                  refine fc_iadd C dX1_settle_90 ?_
                  refine fh_iastore C dX1_settle_91 hj (by omega) (by omega) (by decide) ?_
                  refine fc_iconst C dX1_settle_92 ?_
                  refine fc_istore_n C dX1_settle_93 rfl (by decide) ?_
                  refine fc_iinc C dX1_settle_94 rfl (by decide) ?_
                  refine fc_goto (tgt := 21) C dX1_settle_97 (by decide) ?_
                  have := ih2 (k + 1) (some (vI (s_val L n k))) (some (vI ((s_sw L n q x1 f1 k.toNat).1 k / s_val L n k))) (by omega) (by omega) (by omega)
                  rw [s_sw_t h0 hcan] at this
                  refine fc_heq (congrArg (fun z => fc_H z _) ?_) this
                  rw [fa_n _ _ hij, fa_s, fa_n (i := i) (j := j) _ _ (Ne.symm hij), fa_s]
                  funext u
                  by_cases u1 : u = j
                  · subst u1
                    rw [fa_s, fa_s]
                  · rw [fa_n _ _ u1, fa_n _ _ u1]
                    by_cases u2 : u = i
                    · subst u2
                      rw [fa_s, fa_s]
                    · rw [fa_n _ _ u2, fa_n _ _ u1, fa_n _ _ u2, fa_n _ _ u2]
      refine fc_iload C dX1_settle_5 rfl ?_
      refine fc_ldc C dX1_settle_7 kc_X1_93 ?_
      refine fc_icmp_ge (tgt := 106) C dX1_settle_9 (by decide) (fc_Rm (by omega)) (fc_Rm (by omega)) (fun c9 => ?_) (fun c9 => ?_)
      · exfalso; omega
      · refine fc_iload_n C dX1_settle_12 rfl rfl ?_
        refine fc_if_eq (tgt := 106) C dX1_settle_13 (by decide) (fc_Rm (by omega)) (fun c13 => ?_) (fun c13 => ?_)
        · exact absurd c13 (by decide)
        · refine fc_iconst C dX1_settle_16 ?_
          refine fc_istore_n C dX1_settle_17 rfl (by decide) ?_
          refine fc_iconst C dX1_settle_18 ?_
          refine fc_istore C dX1_settle_19 (by decide) ?_
          exact inner 6 0 _ _ (by omega) (by omega) (by omega)
  refine fc_iconst C dX1_settle_0 ?_
  refine fc_istore_n C dX1_settle_1 rfl (by decide) ?_
  refine fc_iconst C dX1_settle_2 ?_
  refine fc_istore C dX1_settle_3 (by decide) ?_
  refine fc_heq (congrArg (fun z => fc_H z _) ?_) (outer (K + 1) 0 _ _ _ (by omega) (by omega))
  show A = fa_up (fa_up A i x) j f
  funext u
  by_cases u1 : u = j
  · subst u1
    rw [fa_s, hf]
  · rw [fa_n _ _ u1]
    by_cases u2 : u = i
    · subst u2
      rw [fa_s, hx]
    · rw [fa_n _ _ u2]
end GROUND
