/-! Position: the rest -/
def s_kb (kn : Int → Int) : Int := fs_sum (fun s => if 0 < kn s then 2 ^ s.toNat else 0) 3
def s_prod (f : Int → Int) : Nat → Int
  | 0 => 1
  | n + 1 => s_prod f n * f (n + 1)
theorem s_prod_step {f : Int → Int} {k : Int} (h : 1 ≤ k) : s_prod f k.toNat = s_prod f (k - 1).toNat * f k := by
  have e : k.toNat = (k - 1).toNat + 1 := by omega
  rw [e]
  show s_prod f (k - 1).toNat * f (((k - 1).toNat : Nat) + 1) = _
  rw [show (((k - 1).toNat : Nat) : Int) + 1 = k by omega]
/-- the points that burn next -/
def s_bc (L : Int → Int → Int) (n : Int) (c : Int → Int) (S p : Int) : Prop := s_val L n p ≤ c p + s_li L n S p
def s_put (L : Int → Int → Int) (a b k : Int) : Int → Int → Int := fun x y => if (x = a ∧ y = b) ∨ (x = b ∧ y = a) then k else L x y
theorem s_put_ok {L : Int → Int → Int} (hg : g_ok L) {a b k : Int} (hab : a ≠ b) (h0 : 0 ≤ k) (h3 : k ≤ 3) : g_ok (s_put L a b k) := by
  intro x y x0 x1 y0 y1
  have h := hg x y x0 x1 y0 y1
  have h' := hg y x y0 y1 x0 x1
  unfold s_put
  refine ⟨?_, ?_, ?_, ?_⟩
  · split <;> omega
  · split <;> omega
  · by_cases q : (x = a ∧ y = b) ∨ (x = b ∧ y = a)
    · rw [if_pos q, if_pos (by omega)]
    · rw [if_neg q, if_neg (by omega)]; omega
  · rw [if_neg (by omega)]; omega
section POS3
variable {A : Nat → Int → Int} {F : Nat → Nat → Int} {n : Int} {L : Int → Int → Int} {c : Int → Int}
theorem fb_small {r k : Int} (h0 : 0 ≤ r) (h1 : r < 2 ^ k.toNat) : fb_t r k = 0 := by
  unfold fb_t
  rw [Int.ediv_eq_zero_of_lt h0 h1]
  rfl
theorem c_keptBits {kn : Int → Int} (H : ∀ s : Int, 0 ≤ s → s < 3 → A 12 s = kn s) (hk : ∀ s : Int, 0 ≤ s → s < 3 → 0 ≤ kn s ∧ kn s ≤ 5) : fh_M mX3_keptBits 0 [vR 3] A F (some (vI (s_kb kn))) A F := by
  refine fh_M.of mi_X3_keptBits (Nat.le_of_ble_eq_true rfl) ?_
  intro X C T
  have loop : ∀ (m : Nat) (k r : Int), 0 ≤ k → k ≤ 3 → 3 - k < m → r = fs_sum (fun s => if 0 < kn s then 2 ^ s.toNat else 0) k.toNat → 0 ≤ r → r < 2 ^ k.toNat → fc_W X 0 0 159 (fc_H A F) 4 [some (vR 3), some (vI r), some (vI k)] [] := by
    intro m
    induction m with
    | zero => intro k r h0 h1 h2; exfalso; omega
    | succ m ih =>
      intro k r h0 h1 h2 er r0 r1
      refine fc_iload_n C dX3_keptBits_4 rfl rfl ?_
      refine fc_iconst C dX3_keptBits_5 ?_
      refine fc_icmp_ge (tgt := 30) C dX3_keptBits_6 (by decide) (fc_Rm (by omega)) (fc_Rm (by omega)) (fun c6 => ?_) (fun c6 => ?_)
      · have e : k = 3 := by omega
        subst e
        refine fc_iload_n C dX3_keptBits_30 rfl rfl ?_
        exact fh_iret C T dX3_keptBits_31 (by rw [er]; rfl) rfl
      · have hk9 := hk k h0 (by omega)
        have hp := fb_pow5 h0 (show k < 5 by omega)
        have e2 : (2 : Int) ^ (k + 1).toNat = 2 ^ k.toNat * 2 := by rw [show (k + 1).toNat = k.toNat + 1 by omega, Int.pow_succ]
        refine fc_aload_n C dX3_keptBits_9 rfl rfl ?_
        refine fh_getf C dX3_keptBits_10 fl_X3_27 rfl rfl ?_
        refine fc_iload_n C dX3_keptBits_13 rfl rfl ?_
        refine fh_iaload C dX3_keptBits_14 (fun _ _ => rfl) (by omega) (by omega) (by decide) ?_
        refine fc_eq (st' := [vI (kn k)]) rfl (by rw [H k h0 (by omega)]) ?_
        refine fc_if_le (tgt := 24) C dX3_keptBits_15 (by decide) (fc_Rm (by omega)) (fun c15 => ?_) (fun c15 => ?_)
        · refine fc_iinc C dX3_keptBits_24 rfl (by decide) ?_
          refine fc_goto (tgt := 4) C dX3_keptBits_27 (by decide) ?_
          exact ih (k + 1) r (by omega) (by omega) (by omega) (by rw [fs_step h0, if_neg (by omega), er]; omega) r0 (by omega)
        · refine fc_iload_n C dX3_keptBits_18 rfl rfl ?_
          refine fc_iconst C dX3_keptBits_19 ?_
          refine fc_iload_n C dX3_keptBits_20 rfl rfl ?_
          refine fc_ishl C dX3_keptBits_21 ?_
          refine fc_ior C dX3_keptBits_22 ?_
          have hr : r < 32 := by omega
          refine fc_eq (st' := [vI (r + 2 ^ k.toNat)]) rfl (by
            rw [fb_shl1 h0 (by omega), (fb_or r0 hr h0 (by omega)).1]
            unfold fb_in
            rw [if_neg (by rw [fb_small r0 r1]; decide)]) ?_
          refine fc_istore_n C dX3_keptBits_23 rfl (by decide) ?_
          refine fc_iinc C dX3_keptBits_24 rfl (by decide) ?_
          refine fc_goto (tgt := 4) C dX3_keptBits_27 (by decide) ?_
          exact ih (k + 1) _ (by omega) (by omega) (by omega) (by rw [fs_step h0, if_pos c15, er]) (by omega) (by omega)
  refine fc_iconst C dX3_keptBits_0 ?_
  refine fc_istore_n C dX3_keptBits_1 rfl (by decide) ?_
  refine fc_iconst C dX3_keptBits_2 ?_
  refine fc_istore_n C dX3_keptBits_3 rfl (by decide) ?_
  exact loop 4 0 0 (by omega) (by omega) (by omega) rfl (by omega) (by decide)
theorem c_nextToBurn (K : k_net A F n L) (hg : g_ok L) (H : k_ch A c) (hc : k_cR c) {S : Int} (hS0 : 0 ≤ S) (hS1 : S < 32) : ∃ w : Int, 0 ≤ w ∧ w < 32 ∧ (∀ o : Int, 0 ≤ o → o < 5 → (fb_t w o = 1 ↔ o < n ∧ fb_t S o = 0 ∧ s_bc L n c S o)) ∧ fh_M mX3_nextToBurn 2 [vR 3, vI S] A F (some (vI w)) A F := by
  obtain ⟨e0, hn1, hn2, eL⟩ := id K
  -- the wave, built point by point
  have hex : ∀ m : Nat, m ≤ 5 → ∃ w : Int, 0 ≤ w ∧ w < 32 ∧ ∀ o : Int, 0 ≤ o → o < 5 → (fb_t w o = 1 ↔ (o < m ∧ fb_t S o = 0 ∧ s_bc L n c S o)) := by
    intro m
    induction m with
    | zero => intro _; exact ⟨0, by omega, by omega, fun o h0 h1 => ⟨fun q => by
        rw [fb_small (by omega) (by have := fb_pow5 h0 h1; omega)] at q; omega, fun q => by omega⟩⟩
    | succ m ih =>
      intro hm
      obtain ⟨w, w0, w1, w2⟩ := ih (by omega)
      rcases Classical.em (fb_t S m = 0 ∧ s_bc L n c S m) with q | q
      · obtain ⟨-, b1, b2⟩ := fb_or w0 w1 (show (0 : Int) ≤ m by omega) (show (m : Int) < 5 by omega)
        refine ⟨fb_in w m, b1, b2, fun o h0 h1 => ?_⟩
        rw [fb_in_t w0 w1 (by omega) (by omega) h0 h1]
        by_cases e : o = m
        · rw [if_pos e, e]
          exact ⟨fun _ => ⟨by omega, q⟩, fun _ => rfl⟩
        · rw [if_neg e, w2 o h0 h1]
          exact ⟨fun z => ⟨by omega, z.2⟩, fun z => ⟨by omega, z.2⟩⟩
      · refine ⟨w, w0, w1, fun o h0 h1 => ?_⟩
        rw [w2 o h0 h1]
        refine ⟨fun z => ⟨by omega, z.2⟩, fun z => ⟨?_, z.2⟩⟩
        by_cases e : o = m
        · rw [e] at z; exact absurd z.2 q
        · omega
  obtain ⟨w, w0, w1, w2⟩ := hex n.toNat (by omega)
  refine ⟨w, w0, w1, fun o h0 h1 => (w2 o h0 h1).trans ⟨fun z => ⟨by omega, z.2⟩, fun z => ⟨by omega, z.2⟩⟩, ?_⟩
  refine fh_M.of mi_X3_nextToBurn (Nat.le_of_ble_eq_true rfl) ?_
  intro X C T
  have loop : ∀ (m : Nat) (k r : Int) (x : Option fc_AV), 0 ≤ k → k ≤ n → n - k < m → 0 ≤ r → r < 32 → (∀ o : Int, 0 ≤ o → o < 5 → (fb_t r o = 1 ↔ (o < k ∧ fb_t S o = 0 ∧ s_bc L n c S o))) → fc_W X 0 0 159 (fc_H A F) 4 [some (vR 3), some (vI S), some (vI r), some (vI k), x] [] := by
    intro m
    induction m with
    | zero => intro k r x h0 h1 h2; exfalso; omega
    | succ m ih =>
      intro k r x h0 h1 h2 r0 r1 r2
      refine fc_iload_n C dX3_nextToBurn_4 rfl rfl ?_
      refine fc_aload_n C dX3_nextToBurn_5 rfl rfl ?_
      refine fh_getf C dX3_nextToBurn_6 fl_X3_9 rfl rfl ?_
      refine fc_icmp_ge (tgt := 66) C dX3_nextToBurn_9 (by decide) (fc_Rm (by omega)) (fc_Rm (by omega)) (fun c9 => ?_) (fun c9 => ?_)
      · have e : r = w := fb_ext r0 r1 w0 w1 fun o q0 q1 => by
          have z1 := r2 o q0 q1
          have z2 := w2 o q0 q1
          have z3 := fb_01 r o
          have z4 := fb_01 w o
          have z5 : fb_t r o = 1 ↔ fb_t w o = 1 := z1.trans (⟨fun z => ⟨by omega, z.2⟩, fun z => ⟨by omega, z.2⟩⟩ : _ ↔ _) |>.trans z2.symm
          omega
        refine fc_iload_n C dX3_nextToBurn_66 rfl rfl ?_
        exact fh_iret C T dX3_nextToBurn_67 (by rw [e]) rfl
      · have hb := fb_01 S k
        have hlb := s_li_bd hg (n := n) (set := S) (p := k) (by omega) hn2 h0 (by omega)
        have hvb := s_val_bd hg (n := n) (p := k) (by omega) hn2 h0 (by omega)
        have hkc := hc k h0 (by omega)
        refine fc_iload_n C dX3_nextToBurn_12 rfl rfl ?_
        refine fc_iload_n C dX3_nextToBurn_13 rfl rfl ?_
        refine fc_ishr C dX3_nextToBurn_14 ?_
        refine fc_iconst C dX3_nextToBurn_15 ?_
        refine fc_iand C dX3_nextToBurn_16 ?_
        refine fc_iconst C dX3_nextToBurn_17 ?_
        refine fc_eq (st' := [vI 1, vI (fb_t S k)]) rfl (by rw [fb_and hS0 hS1 h0 (by omega)]) ?_
        have keep : ¬ (fb_t S k = 0 ∧ s_bc L n c S k) → ∀ o : Int, 0 ≤ o → o < 5 → (fb_t r o = 1 ↔ (o < k + 1 ∧ fb_t S o = 0 ∧ s_bc L n c S o)) := fun hq o q0 q1 => by
          rw [r2 o q0 q1]
          refine ⟨fun z => ⟨by omega, z.2⟩, fun z => ⟨?_, z.2⟩⟩
          by_cases e : o = k
          · rw [e] at z; exact absurd z.2 hq
          · omega
        refine fc_icmp_ne (tgt := 25) C dX3_nextToBurn_18 (by decide) (fc_Rm (by omega)) (fc_Rm (by omega)) (fun c18 => ?_) (fun c18 => ?_)
        · refine fc_iconst C dX3_nextToBurn_25 ?_
          refine fc_istore C dX3_nextToBurn_26 (by decide) ?_
          refine fc_iload C dX3_nextToBurn_28 rfl ?_
          refine fc_if_ne (tgt := 60) C dX3_nextToBurn_30 (by decide) (fc_Rm (by omega)) (fun c30 => ?_) (fun c30 => ?_)
          · exfalso; omega
          · refine fc_aload_n C dX3_nextToBurn_33 rfl rfl ?_
            refine fh_getf C dX3_nextToBurn_34 fl_X3_20 rfl rfl ?_
            refine fc_iload_n C dX3_nextToBurn_37 rfl rfl ?_
            refine fh_iaload C dX3_nextToBurn_38 (fun _ _ => rfl) (by omega) (by omega) (by decide) ?_
            refine fc_aload_n C dX3_nextToBurn_39 rfl rfl ?_
            refine fc_iload_n C dX3_nextToBurn_40 rfl rfl ?_
            refine fc_iload_n C dX3_nextToBurn_41 rfl rfl ?_
            refine fh_callV (y := mX3_linesInto) C dX3_nextToBurn_42 ml_X3_71 mi_X3_linesInto im_X3_linesInto se_X3_linesInto (c_linesInto K hS0 hS1 h0 (by omega)) rfl rfl (by decide) rfl (Nat.le_of_ble_eq_true rfl) (Nat.zero_le _) (Nat.zero_le _) rfl ?_
            refine fc_iadd C dX3_nextToBurn_45 ?_
            refine fc_aload_n C dX3_nextToBurn_46 rfl rfl ?_
            refine fc_iload_n C dX3_nextToBurn_47 rfl rfl ?_
            refine fh_callV (y := mX3_valence) C dX3_nextToBurn_48 ml_X3_75 mi_X3_valence im_X3_valence se_X3_valence (c_valence K h0 (by omega)) rfl rfl (by decide) rfl (Nat.le_of_ble_eq_true rfl) (Nat.zero_le _) (Nat.zero_le _) rfl ?_
            refine fc_eq (st' := [vI (s_val L n k), vI (c k + s_li L n S k)]) rfl (by rw [H k h0 (by omega)]) ?_
            refine fc_icmp_lt (tgt := 60) C dX3_nextToBurn_51 (by decide) (fc_Rm (by omega)) (fc_Rm (by omega)) (fun c51 => ?_) (fun c51 => ?_)
            · refine fc_iinc C dX3_nextToBurn_60 rfl (by decide) ?_
              refine fc_goto (tgt := 4) C dX3_nextToBurn_63 (by decide) ?_
              exact ih (k + 1) r _ (by omega) (by omega) (by omega) r0 r1 (keep (fun q => by have := q.2; unfold s_bc at this; omega))
            · refine fc_iload_n C dX3_nextToBurn_54 rfl rfl ?_
              refine fc_iconst C dX3_nextToBurn_55 ?_
              refine fc_iload_n C dX3_nextToBurn_56 rfl rfl ?_
              refine fc_ishl C dX3_nextToBurn_57 ?_
              refine fc_ior C dX3_nextToBurn_58 ?_
              refine fc_eq (st' := [vI (fb_in r k)]) rfl (by rw [fb_shl1 h0 (by omega), (fb_or r0 r1 h0 (by omega)).1]) ?_
              obtain ⟨-, b1, b2⟩ := fb_or r0 r1 h0 (show k < 5 by omega)
              refine fc_istore_n C dX3_nextToBurn_59 rfl (by decide) ?_
              refine fc_iinc C dX3_nextToBurn_60 rfl (by decide) ?_
              refine fc_goto (tgt := 4) C dX3_nextToBurn_63 (by decide) ?_
              refine ih (k + 1) _ _ (by omega) (by omega) (by omega) b1 b2 (fun o q0 q1 => ?_)
              rw [fb_in_t r0 r1 h0 (by omega) q0 q1]
              by_cases e : o = k
              · rw [if_pos e, e]
                exact ⟨fun _ => ⟨by omega, by omega, c51⟩, fun _ => rfl⟩
              · rw [if_neg e, r2 o q0 q1]
                exact ⟨fun z => ⟨by omega, z.2⟩, fun z => ⟨by omega, z.2⟩⟩
        · refine fc_iconst C dX3_nextToBurn_21 ?_
          refine fc_goto (tgt := 26) C dX3_nextToBurn_22 (by decide) ?_
          refine fc_istore C dX3_nextToBurn_26 (by decide) ?_
          refine fc_iload C dX3_nextToBurn_28 rfl ?_
          refine fc_if_ne (tgt := 60) C dX3_nextToBurn_30 (by decide) (fc_Rm (by omega)) (fun c30 => ?_) (fun c30 => ?_)
          · refine fc_iinc C dX3_nextToBurn_60 rfl (by decide) ?_
            refine fc_goto (tgt := 4) C dX3_nextToBurn_63 (by decide) ?_
            exact ih (k + 1) r _ (by omega) (by omega) (by omega) r0 r1 (keep (fun q => by have := q.1; omega))
          · exfalso; omega
  refine fc_iconst C dX3_nextToBurn_0 ?_
  refine fc_istore_n C dX3_nextToBurn_1 rfl (by decide) ?_
  refine fc_iconst C dX3_nextToBurn_2 ?_
  refine fc_istore_n C dX3_nextToBurn_3 rfl (by decide) ?_
  refine loop 6 0 0 _ (by omega) (by omega) (by omega) (by omega) (by omega) (fun o q0 q1 => ⟨fun q => ?_, fun q => by omega⟩)
  rw [fb_small (by omega) (by have := fb_pow5 q0 q1; omega)] at q
  omega
theorem c_stableHeapCount (K : k_net A F n L) : fh_M mX3_stableHeapCount 2 [vR 3] A F (some (vI (s_prod (s_val L n) (n - 1).toNat))) A F := by
  obtain ⟨e0, hn1, hn2, eL⟩ := id K
  refine fh_M.of mi_X3_stableHeapCount (Nat.le_of_ble_eq_true rfl) ?_
  intro X C T
  have loop : ∀ (m : Nat) (k : Int), 1 ≤ k → k ≤ n → n - k < m → fc_W X 0 0 159 (fc_H A F) 4 [some (vR 3), some (vI (s_prod (s_val L n) (k - 1).toNat)), some (vI k)] [] := by
    intro m
    induction m with
    | zero => intro k h0 h1 h2; exfalso; omega
    | succ m ih =>
      intro k h0 h1 h2
      refine fc_iload_n C dX3_stableHeapCount_4 rfl rfl ?_
      refine fc_aload_n C dX3_stableHeapCount_5 rfl rfl ?_
      refine fh_getf C dX3_stableHeapCount_6 fl_X3_9 rfl rfl ?_
      refine fc_icmp_ge (tgt := 26) C dX3_stableHeapCount_9 (by decide) (fc_Rm (by omega)) (fc_Rm (by omega)) (fun c9 => ?_) (fun c9 => ?_)
      · have e : k = n := by omega
        refine fc_iload_n C dX3_stableHeapCount_26 rfl rfl ?_
        exact fh_iret C T dX3_stableHeapCount_27 (by rw [e]) rfl
      · refine fc_iload_n C dX3_stableHeapCount_12 rfl rfl ?_
        refine fc_aload_n C dX3_stableHeapCount_13 rfl rfl ?_
        refine fc_iload_n C dX3_stableHeapCount_14 rfl rfl ?_
        refine fh_callV (y := mX3_valence) C dX3_stableHeapCount_15 ml_X3_75 mi_X3_valence im_X3_valence se_X3_valence (c_valence K (by omega) (by omega)) rfl rfl (by decide) rfl (Nat.le_of_ble_eq_true rfl) (Nat.zero_le _) (Nat.zero_le _) rfl ?_
        refine fc_imul C dX3_stableHeapCount_18 ?_
        refine fc_istore_n C dX3_stableHeapCount_19 rfl (by decide) ?_
        refine fc_iinc C dX3_stableHeapCount_20 rfl (by decide) ?_
        refine fc_goto (tgt := 4) C dX3_stableHeapCount_23 (by decide) ?_
        exact fc_eq (by rw [show k + 1 - 1 = k by omega, s_prod_step h0]; rfl) rfl (ih (k + 1) (by omega) (by omega) (by omega))
  refine fc_iconst C dX3_stableHeapCount_0 ?_
  refine fc_istore_n C dX3_stableHeapCount_1 rfl (by decide) ?_
  refine fc_iconst C dX3_stableHeapCount_2 ?_
  refine fc_istore_n C dX3_stableHeapCount_3 rfl (by decide) ?_
  exact loop 6 1 (by omega) (by omega) (by omega)
theorem c_firedInAll (K : k_net A F n L) : fh_M mX3_firedInAll 1 [vR 3] A F (some (vI (fs_sum (A 11) n.toNat))) A F := by
  obtain ⟨e0, hn1, hn2, eL⟩ := id K
  refine fh_M.of mi_X3_firedInAll (Nat.le_of_ble_eq_true rfl) ?_
  intro X C T
  refine fc_aload_n C dX3_firedInAll_0 rfl rfl ?_
  refine fh_getf C dX3_firedInAll_1 fl_X3_24 rfl rfl ?_
  refine fc_aload_n C dX3_firedInAll_4 rfl rfl ?_
  refine fh_getf C dX3_firedInAll_5 fl_X3_9 rfl rfl ?_
  refine fh_callS (y := mX6_degreeOf) C dX3_firedInAll_8 ml_X3_89 mi_X6_degreeOf st_X6_degreeOf (c_degreeOf (fun _ _ => rfl) (by omega) (by omega)) (by decide) rfl (Nat.le_of_ble_eq_true rfl) (Nat.zero_le _) (Nat.zero_le _) rfl ?_
  exact fh_iret C T dX3_firedInAll_11 (by rw [e0]) rfl
def s_unl (c d : Int → Int) : Nat → Int := fs_sum (fun p => if c p = d p then 0 else 1)
theorem c_chipsUnlike (K : k_net A F n L) {b : Nat} (hb : k_PB b) (hc : k_cR (A 10)) (hc2 : k_cR (A (b + 7))) : fh_M mX3_chipsUnlike 0 [vR 3, vR b] A F (some (vI (s_unl (A 10) (A (b + 7)) n.toNat))) A F := by
  obtain ⟨e0, hn1, hn2, eL⟩ := id K
  obtain ⟨t0, t1, t2, t7, t8, t9, t10, t11⟩ := id hb
  refine fh_M.of mi_X3_chipsUnlike (Nat.le_of_ble_eq_true rfl) ?_
  intro X C T
  have loop : ∀ (m : Nat) (k : Int), 0 ≤ k → k ≤ n → n - k < m → fc_W X 0 0 159 (fc_H A F) 4 [some (vR 3), some (vR b), some (vI (s_unl (A 10) (A (b + 7)) k.toNat)), some (vI k)] [] := by
    intro m
    induction m with
    | zero => intro k h0 h1 h2; exfalso; omega
    | succ m ih =>
      intro k h0 h1 h2
      refine fc_iload_n C dX3_chipsUnlike_4 rfl rfl ?_
      refine fc_aload_n C dX3_chipsUnlike_5 rfl rfl ?_
      refine fh_getf C dX3_chipsUnlike_6 fl_X3_9 rfl rfl ?_
      refine fc_icmp_ge (tgt := 36) C dX3_chipsUnlike_9 (by decide) (fc_Rm (by omega)) (fc_Rm (by omega)) (fun c9 => ?_) (fun c9 => ?_)
      · have e : k = n := by omega
        refine fc_iload_n C dX3_chipsUnlike_36 rfl rfl ?_
        exact fh_iret C T dX3_chipsUnlike_37 (by rw [e]) rfl
      · have z1 := hc k h0 (by omega)
        have z2 := hc2 k h0 (by omega)
        refine fc_aload_n C dX3_chipsUnlike_12 rfl rfl ?_
        refine fh_getf C dX3_chipsUnlike_13 fl_X3_20 rfl rfl ?_
        refine fc_iload_n C dX3_chipsUnlike_16 rfl rfl ?_
        refine fh_iaload C dX3_chipsUnlike_17 (fun _ _ => rfl) (by omega) (by omega) (by decide) ?_
        refine fc_aload_n C dX3_chipsUnlike_18 rfl rfl ?_
        refine fh_getf C dX3_chipsUnlike_19 fl_X3_20 (t0 _ _) rfl ?_
        refine fc_iload_n C dX3_chipsUnlike_22 rfl rfl ?_
        refine fh_iaload C dX3_chipsUnlike_23 t7 (by omega) (by omega) (by decide) ?_
        refine fc_icmp_eq (tgt := 30) C dX3_chipsUnlike_24 (by decide) (fc_Rm (by omega)) (fc_Rm (by omega)) (fun c24 => ?_) (fun c24 => ?_)
        · refine fc_iinc C dX3_chipsUnlike_30 rfl (by decide) ?_
          refine fc_goto (tgt := 4) C dX3_chipsUnlike_33 (by decide) ?_
          exact fc_eq (by unfold s_unl; rw [fs_step h0, if_pos c24, Int.add_zero]; rfl) rfl (ih (k + 1) (by omega) (by omega) (by omega))
        · refine fc_iinc C dX3_chipsUnlike_27 rfl (by decide) ?_
          refine fc_iinc C dX3_chipsUnlike_30 rfl (by decide) ?_
          refine fc_goto (tgt := 4) C dX3_chipsUnlike_33 (by decide) ?_
          exact fc_eq (by unfold s_unl; rw [fs_step h0, if_neg c24]; rfl) rfl (ih (k + 1) (by omega) (by omega) (by omega))
  refine fc_iconst C dX3_chipsUnlike_0 ?_
  refine fc_istore_n C dX3_chipsUnlike_1 rfl (by decide) ?_
  refine fc_iconst C dX3_chipsUnlike_2 ?_
  refine fc_istore_n C dX3_chipsUnlike_3 rfl (by decide) ?_
  exact loop 6 0 (by omega) (by omega) (by omega)
theorem c_writeDual (K : k_net A F n L) {i : Nat} (hi : ∀ (a : Int → Int) (f : Nat → Int), fc_S i a f = cI 5 a) (hi2 : i ≠ 10 ∧ ¬ (5 ≤ i ∧ i < 10)) : fh_M mX3_writeDual 2 [vR 3, vR i] A F none (fa_up A i (fc_cpy (fun p => s_val L n p - 2 - A 10 p) (A i) n)) F := by
  obtain ⟨e0, hn1, hn2, eL⟩ := id K
  refine fh_M.of mi_X3_writeDual (Nat.le_of_ble_eq_true rfl) ?_
  intro X C T
  have loop : ∀ (m : Nat) (k : Int), 0 ≤ k → k ≤ n → n - k < m → fc_W X 0 0 159 (fc_H (fa_up A i (fc_cpy (fun p => s_val L n p - 2 - A 10 p) (A i) k)) F) 2 [some (vR 3), some (vR i), some (vI k)] [] := by
    intro m
    induction m with
    | zero => intro k h0 h1 h2; exfalso; omega
    | succ m ih =>
      intro k h0 h1 h2
      have K2 : k_net (fa_up A i (fc_cpy (fun p => s_val L n p - 2 - A 10 p) (A i) k)) F n L := ⟨e0, hn1, hn2, fun a b q0 q1 q2 q3 => by rw [fa_n _ _ (by omega)]; exact eL a b q0 q1 q2 q3⟩
      refine fc_iload_n C dX3_writeDual_2 rfl rfl ?_
      refine fc_aload_n C dX3_writeDual_3 rfl rfl ?_
      refine fh_getf C dX3_writeDual_4 fl_X3_9 rfl rfl ?_
      refine fc_icmp_ge (tgt := 33) C dX3_writeDual_7 (by decide) (fc_Rm (by omega)) (fc_Rm (by omega)) (fun c7 => ?_) (fun c7 => ?_)
      · have e : k = n := by omega
        subst e
        exact fh_vret C T dX3_writeDual_33 rfl
      · refine fc_aload_n C dX3_writeDual_10 rfl rfl ?_
        refine fc_iload_n C dX3_writeDual_11 rfl rfl ?_
        refine fc_aload_n C dX3_writeDual_12 rfl rfl ?_
        refine fc_iload_n C dX3_writeDual_13 rfl rfl ?_
        refine fh_callV (y := mX3_valence) C dX3_writeDual_14 ml_X3_75 mi_X3_valence im_X3_valence se_X3_valence (c_valence K2 h0 (by omega)) rfl rfl (by decide) rfl (Nat.le_of_ble_eq_true rfl) (Nat.zero_le _) (Nat.zero_le _) rfl ?_
        refine fc_iconst C dX3_writeDual_17 ?_
        refine fc_isub C dX3_writeDual_18 ?_
        refine fc_aload_n C dX3_writeDual_19 rfl rfl ?_
        refine fh_getf C dX3_writeDual_20 fl_X3_20 rfl rfl ?_
        refine fc_iload_n C dX3_writeDual_23 rfl rfl ?_
        refine fh_iaload C dX3_writeDual_24 (fun _ _ => rfl) (by omega) (by omega) (by decide) ?_
        refine fc_isub C dX3_writeDual_25 ?_
        refine fh_iastore C dX3_writeDual_26 hi (by omega) (by omega) (by decide) ?_
        refine fc_iinc C dX3_writeDual_27 rfl (by decide) ?_
        refine fc_goto (tgt := 2) C dX3_writeDual_30 (by decide) ?_
        refine fc_heq (congrArg (fun z => fc_H z _) ?_) (ih (k + 1) (by omega) (by omega) (by omega))
        rw [fa_n (j := 10) _ _ (by omega), fa_s]
        funext j
        by_cases ej : j = i
        · subst ej
          rw [fa_s, fa_s]
          funext q
          unfold fc_set fc_cpy
          by_cases q1 : q = k
          · rw [if_pos q1, if_pos (by omega), q1]
          · rw [if_neg q1]
            by_cases q2 : 0 ≤ q ∧ q < k
            · rw [if_pos q2, if_pos (by omega)]
            · rw [if_neg q2, if_neg (by omega)]
        · rw [fa_n _ _ ej, fa_n _ _ ej, fa_n _ _ ej]
  refine fc_iconst C dX3_writeDual_0 ?_
  refine fc_istore_n C dX3_writeDual_1 rfl (by decide) ?_
  refine fc_heq (congrArg (fun z => fc_H z _) ?_) (loop 6 0 (by omega) (by omega) (by omega))
  funext j
  by_cases ej : j = i
  · subst ej
    rw [fa_s]
    funext q
    unfold fc_cpy
    rw [if_neg (by omega)]
  · rw [fa_n _ _ ej]
theorem c_putLines (K : k_net A F n L) {a b k : Int} (ha0 : 0 ≤ a) (ha1 : a < 5) (hb0 : 0 ≤ b) (hb1 : b < 5) (hab : a ≠ b) : ∃ A' : Nat → Int → Int, fh_M mX3_putLines 0 [vR 3, vI a, vI b, vI k] A F none A' F ∧ k_net A' F n (s_put L a b k) ∧ ∀ i : Nat, ¬ (5 ≤ i ∧ i < 10) → A' i = A i := by
  obtain ⟨e0, hn1, hn2, eL⟩ := id K
  refine ⟨fa_up (fa_up A (5 + a.toNat) (fc_set (A (5 + a.toNat)) b k)) (5 + b.toNat) (fc_set (fa_up A (5 + a.toNat) (fc_set (A (5 + a.toNat)) b k) (5 + b.toNat)) a k), ?_, ⟨e0, hn1, hn2, ?_⟩, ?_⟩
  · refine fh_M.of mi_X3_putLines (Nat.le_of_ble_eq_true rfl) ?_
    intro X C T
    refine fc_aload_n C dX3_putLines_0 rfl rfl ?_
    refine fh_getf C dX3_putLines_1 fl_X3_17 rfl rfl ?_
    refine fc_iload_n C dX3_putLines_4 rfl rfl ?_
    refine fh_aaload C dX3_putLines_5 (Or.inl rfl) rfl (by omega) (by omega) (by decide) (fg_5 a) ?_
    refine fc_iload_n C dX3_putLines_6 rfl rfl ?_
    refine fc_iload_n C dX3_putLines_7 rfl rfl ?_
    refine fh_iastore C dX3_putLines_8 (fS_5 ha0 ha1) (by omega) (by omega) (by decide) ?_
    refine fc_aload_n C dX3_putLines_9 rfl rfl ?_
    refine fh_getf C dX3_putLines_10 fl_X3_17 rfl rfl ?_
    refine fc_iload_n C dX3_putLines_13 rfl rfl ?_
    refine fh_aaload C dX3_putLines_14 (Or.inl rfl) rfl (by omega) (by omega) (by decide) (fg_5 b) ?_
    refine fc_iload_n C dX3_putLines_15 rfl rfl ?_
    refine fc_iload_n C dX3_putLines_16 rfl rfl ?_
    refine fh_iastore C dX3_putLines_17 (fS_5 hb0 hb1) (by omega) (by omega) (by decide) ?_
    exact fh_vret C T dX3_putLines_18 rfl
  · intro x y x0 x1 y0 y1
    have e := eL x y x0 x1 y0 y1
    unfold s_put
    rw [← e]
    by_cases h1 : x = b
    · rw [h1, fa_s, fa_n _ _ (by omega)]
      unfold fc_set
      by_cases h2 : y = a
      · rw [if_pos h2, if_pos (by omega)]
      · rw [if_neg h2, if_neg (by omega)]
    · rw [fa_n _ _ (by omega)]
      by_cases h2 : x = a
      · rw [h2, fa_s]
        unfold fc_set
        by_cases h3 : y = b
        · rw [if_pos h3, if_pos (by omega)]
        · rw [if_neg h3, if_neg (by omega)]
      · rw [fa_n _ _ (by omega), if_neg (by omega)]
  · intro i hi
    rw [fa_n _ _ (by omega), fa_n _ _ (by omega)]
theorem fS_14 {p : Int} (h0 : 0 ≤ p) (h1 : p < 3) : ∀ (a : Int → Int) (f : Nat → Int), fc_S (14 + p.toNat) a f = cI 5 a := by
  have := k_PB_3.krow h0 h1
  rw [Nat.one_mul] at this
  exact this
theorem fg_14 (p : Int) : (some (14 + 1 * p.toNat) : Option Nat) = some (14 + p.toNat) := by rw [Nat.one_mul]
theorem c_keepChips {s : Int} (hs0 : 0 ≤ s) (hs1 : s < 3) : fh_M mX3_keepChips 2 [vR 3, vI s] A F none (fa_up (fa_up A 12 (fc_set (A 12) s (F 3 0))) (14 + s.toNat) (fc_cpy (A 10) (A (14 + s.toNat)) 5)) F := by
  refine fh_M.of mi_X3_keepChips (Nat.le_of_ble_eq_true rfl) ?_
  intro X C T
  refine fc_aload_n C dX3_keepChips_0 rfl rfl ?_
  refine fh_getf C dX3_keepChips_1 fl_X3_27 rfl rfl ?_
  refine fc_iload_n C dX3_keepChips_4 rfl rfl ?_
  refine fc_aload_n C dX3_keepChips_5 rfl rfl ?_
  refine fh_getf C dX3_keepChips_6 fl_X3_9 rfl rfl ?_
  refine fh_iastore C dX3_keepChips_9 (fun _ _ => rfl) (by omega) (by omega) (by decide) ?_
  refine fc_aload_n C dX3_keepChips_10 rfl rfl ?_
  refine fh_getf C dX3_keepChips_11 fl_X3_20 rfl rfl ?_
  refine fc_aload_n C dX3_keepChips_14 rfl rfl ?_
  refine fh_getf C dX3_keepChips_15 fl_X3_30 rfl rfl ?_
  refine fc_iload_n C dX3_keepChips_18 rfl rfl ?_
  refine fh_aaload C dX3_keepChips_19 (Or.inl rfl) rfl (by omega) (by omega) (by decide) (fg_14 s) ?_
  refine fh_callSv (y := mX6_copyRow) C dX3_keepChips_20 ml_X3_33 mi_X6_copyRow st_X6_copyRow (c_copyRow (fun _ _ => rfl) (fS_14 hs0 hs1)) (by decide) rfl (Nat.le_of_ble_eq_true rfl) (Nat.zero_le _) (Nat.zero_le _) rfl ?_
  refine fh_vret C T dX3_keepChips_23 (congrArg (fun z => fc_H z _) ?_)
  rw [fa_n (j := 10) _ _ (by omega), fa_n (j := 14 + s.toNat) (i := 12) _ _ (by omega)]
def s_nx (x : Int) : Int := (x * 1103515245 + 12345).tmod 2147483648
theorem s_nx_bd {x : Int} (h : 0 ≤ x) : 0 ≤ s_nx x ∧ s_nx x < 2147483648 := ⟨Int.tmod_nonneg _ (by omega), Int.tmod_lt_of_pos _ (by decide)⟩
theorem c_drawnAfter {x : Int} (h0 : 0 ≤ x) (h1 : x < 2147483648) : fh_M mX3_drawnAfter 0 [vL x] A F (some (vL (s_nx x))) A F := by
  refine fh_M.of mi_X3_drawnAfter (Nat.le_of_ble_eq_true rfl) ?_
  intro X C T
  refine fc_lload_n C dX3_drawnAfter_0 rfl rfl ?_
  refine fc_ldc2_w C dX3_drawnAfter_1 kc_X3_57 ?_
  refine fc_lmul C dX3_drawnAfter_4 ?_
  refine fc_ldc2_w C dX3_drawnAfter_5 kc_X3_59 ?_
  refine fc_ladd C dX3_drawnAfter_8 ?_
  refine fc_ldc2_w C dX3_drawnAfter_9 kc_X3_61 ?_
  refine fc_lrem C dX3_drawnAfter_12 (fc_RLm (by omega)) (fc_RLm (by omega)) (by omega) ?_
  exact fh_lret C T dX3_drawnAfter_13 rfl rfl
end POS3
