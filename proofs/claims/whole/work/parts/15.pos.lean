/-! Position: the network that stands (cell 3): its number of points F 3 0, its lines A (5 + a) b, chips A 10, script A 11, kept rows A 12, A (14 + s) -/
def k_net (A : Nat → Int → Int) (F : Nat → Nat → Int) (n : Int) (L : Int → Int → Int) : Prop := F 3 0 = n ∧ 2 ≤ n ∧ n ≤ 5 ∧ ∀ a b : Int, 0 ≤ a → a < 5 → 0 ≤ b → b < 5 → A (5 + a.toNat) b = L a b
def k_ch (A : Nat → Int → Int) (c : Int → Int) : Prop := ∀ p : Int, 0 ≤ p → p < 5 → A 10 p = c p
def k_cR (c : Int → Int) : Prop := ∀ p : Int, 0 ≤ p → p < 5 → -999 ≤ c p ∧ c p ≤ 999
theorem fS_5 {p : Int} (h0 : 0 ≤ p) (h1 : p < 5) : ∀ (a : Int → Int) (f : Nat → Int), fc_S (5 + p.toNat) a f = cI 5 a := by
  have key : ∀ k : Fin 5, ∀ (a : Int → Int) (f : Nat → Int), fc_S (5 + ((k.val : Nat) : Int).toNat) a f = cI 5 a
    | ⟨0, _⟩ => fun _ _ => rfl
    | ⟨1, _⟩ => fun _ _ => rfl
    | ⟨2, _⟩ => fun _ _ => rfl
    | ⟨3, _⟩ => fun _ _ => rfl
    | ⟨4, _⟩ => fun _ _ => rfl
  exact fz_lt (P := fun p => ∀ (a : Int → Int) (f : Nat → Int), fc_S (5 + p.toNat) a f = cI 5 a) (N := 5) key h0 h1
theorem fg_5 (p : Int) : (some (5 + 1 * p.toNat) : Option Nat) = some (5 + p.toNat) := by rw [Nat.one_mul]
section POS
variable {A : Nat → Int → Int} {F : Nat → Nat → Int} {n : Int} {L : Int → Int → Int} {c : Int → Int}
theorem c_hasPoint (K : k_net A F n L) {p : Int} (hp : fc_R p) : fh_M mX3_hasPoint 0 [vR 3, vI p] A F (some (vI (fc_ind (0 ≤ p ∧ p < n)))) A F := by
  obtain ⟨e0, hn1, hn2, eL⟩ := K
  refine fh_M.of mi_X3_hasPoint (Nat.le_of_ble_eq_true rfl) ?_
  intro X C T
  refine fc_iload_n C dX3_hasPoint_0 rfl rfl ?_
  refine fc_if_lt (tgt := 16) C dX3_hasPoint_1 (by decide) (hp) (fun c1 => ?_) (fun c1 => ?_)
  · refine fc_iconst C dX3_hasPoint_16 ?_
    exact fh_zret C T dX3_hasPoint_17 (Or.inl rfl) (by rw [fc_ind_f (by omega)]) rfl
  · refine fc_iload_n C dX3_hasPoint_4 rfl rfl ?_
    refine fc_aload_n C dX3_hasPoint_5 rfl rfl ?_
    refine fh_getf C dX3_hasPoint_6 fl_X3_9 rfl rfl ?_
    refine fc_icmp_ge (tgt := 16) C dX3_hasPoint_9 (by decide) (hp) (fc_Rm (by omega)) (fun c9 => ?_) (fun c9 => ?_)
    · refine fc_iconst C dX3_hasPoint_16 ?_
      exact fh_zret C T dX3_hasPoint_17 (Or.inl rfl) (by rw [fc_ind_f (by omega)]) rfl
    · refine fc_iconst C dX3_hasPoint_12 ?_
      refine fc_goto (tgt := 17) C dX3_hasPoint_13 (by decide) ?_
      exact fh_zret C T dX3_hasPoint_17 (Or.inr rfl) (by rw [fc_ind_t (by omega)]) rfl
theorem c_allPoints (K : k_net A F n L) : fh_M mX3_allPoints 0 [vR 3] A F (some (vI (fb_all n))) A F := by
  obtain ⟨e0, hn1, hn2, eL⟩ := K
  refine fh_M.of mi_X3_allPoints (Nat.le_of_ble_eq_true rfl) ?_
  intro X C T
  refine fc_iconst C dX3_allPoints_0 ?_
  refine fc_aload_n C dX3_allPoints_1 rfl rfl ?_
  refine fh_getf C dX3_allPoints_2 fl_X3_9 rfl rfl ?_
  refine fc_ishl C dX3_allPoints_5 ?_
  refine fc_iconst C dX3_allPoints_6 ?_
  refine fc_isub C dX3_allPoints_7 ?_
  exact fh_iret C T dX3_allPoints_8 (by rw [e0, fb_shl1 (by omega) (by omega)]; rfl) rfl
theorem c_linesBetween (K : k_net A F n L) {a b : Int} (ha : fc_R a) (hb : fc_R b) : fh_M mX3_linesBetween 1 [vR 3, vI a, vI b] A F (some (vI (if (0 ≤ a ∧ a < n) ∧ (0 ≤ b ∧ b < n) then L a b else 0))) A F := by
  obtain ⟨e0, hn1, hn2, eL⟩ := id K
  refine fh_M.of mi_X3_linesBetween (Nat.le_of_ble_eq_true rfl) ?_
  intro X C T
  refine fc_aload_n C dX3_linesBetween_0 rfl rfl ?_
  refine fc_iload_n C dX3_linesBetween_1 rfl rfl ?_
  refine fh_callV (y := mX3_hasPoint) C dX3_linesBetween_2 ml_X3_63 mi_X3_hasPoint im_X3_hasPoint se_X3_hasPoint (c_hasPoint K ha) rfl rfl (by decide) rfl (Nat.le_of_ble_eq_true rfl) (Nat.zero_le _) (Nat.zero_le _) rfl ?_
  refine fc_if_eq (tgt := 27) C dX3_linesBetween_5 (by decide) (fc_ind_R _) (fun c5 => ?_) (fun c5 => ?_)
  · have c5 := fc_ind_0 c5
    refine fc_iconst C dX3_linesBetween_27 ?_
    exact fh_iret C T dX3_linesBetween_28 (by rw [if_neg (by omega)]) rfl
  · have c5 := fc_ind_ne c5
    refine fc_aload_n C dX3_linesBetween_8 rfl rfl ?_
    refine fc_iload_n C dX3_linesBetween_9 rfl rfl ?_
    refine fh_callV (y := mX3_hasPoint) C dX3_linesBetween_10 ml_X3_63 mi_X3_hasPoint im_X3_hasPoint se_X3_hasPoint (c_hasPoint K hb) rfl rfl (by decide) rfl (Nat.le_of_ble_eq_true rfl) (Nat.zero_le _) (Nat.zero_le _) rfl ?_
    refine fc_if_eq (tgt := 27) C dX3_linesBetween_13 (by decide) (fc_ind_R _) (fun c13 => ?_) (fun c13 => ?_)
    · have c13 := fc_ind_0 c13
      refine fc_iconst C dX3_linesBetween_27 ?_
      exact fh_iret C T dX3_linesBetween_28 (by rw [if_neg (by omega)]) rfl
    · have c13 := fc_ind_ne c13
      refine fc_aload_n C dX3_linesBetween_16 rfl rfl ?_
      refine fh_getf C dX3_linesBetween_17 fl_X3_17 rfl rfl ?_
      refine fc_iload_n C dX3_linesBetween_20 rfl rfl ?_
      refine fh_aaload C dX3_linesBetween_21 (Or.inl rfl) rfl (by omega) (by omega) (by decide) (fg_5 a) ?_
      refine fc_iload_n C dX3_linesBetween_22 rfl rfl ?_
      refine fh_iaload C dX3_linesBetween_23 (fS_5 (by omega) (by omega)) (by omega) (by omega) (by decide) ?_
      refine fc_goto (tgt := 28) C dX3_linesBetween_24 (by decide) ?_
      exact fh_iret C T dX3_linesBetween_28 (by rw [if_pos ⟨c5, c13⟩, eL a b (by omega) (by omega) (by omega) (by omega)]) rfl
theorem c_linesInto (K : k_net A F n L) {set p : Int} (hs0 : 0 ≤ set) (hs1 : set < 32) (hp0 : 0 ≤ p) (hp1 : p < 5) : fh_M mX3_linesInto 0 [vR 3, vI set, vI p] A F (some (vI (s_li L n set p))) A F := by
  obtain ⟨e0, hn1, hn2, eL⟩ := K
  refine fh_M.of mi_X3_linesInto (Nat.le_of_ble_eq_true rfl) ?_
  intro X C T
  have loop : ∀ (m : Nat) (k : Int), 0 ≤ k → k ≤ n → n - k < m → fc_W X 0 0 159 (fc_H A F) 5 [some (vR 3), some (vI set), some (vI p), some (vI (fs_sum (fun o => if fb_t set o = 1 then L p o else 0) k.toNat)), some (vI k)] [] := by
    intro m
    induction m with
    | zero => intro k h0 h1 h2; exfalso; omega
    | succ m ih =>
      intro k h0 h1 h2
      refine fc_iload C dX3_linesInto_5 rfl ?_
      refine fc_aload_n C dX3_linesInto_7 rfl rfl ?_
      refine fh_getf C dX3_linesInto_8 fl_X3_9 rfl rfl ?_
      refine fc_icmp_ge (tgt := 42) C dX3_linesInto_11 (by decide) (fc_Rm (by omega)) (fc_Rm (by omega)) (fun c11 => ?_) (fun c11 => ?_)
      · have e : k = n := by omega
        refine fc_iload_n C dX3_linesInto_42 rfl rfl ?_
        exact fh_iret C T dX3_linesInto_43 (by rw [e]; rfl) rfl
      · refine fc_iload_n C dX3_linesInto_14 rfl rfl ?_
        refine fc_iload C dX3_linesInto_15 rfl ?_
        refine fc_ishr C dX3_linesInto_17 ?_
        refine fc_iconst C dX3_linesInto_18 ?_
        refine fc_iand C dX3_linesInto_19 ?_
        refine fc_iconst C dX3_linesInto_20 ?_
        refine fc_eq (st' := [vI 1, vI (fb_t set k)]) rfl (by rw [fb_and hs0 hs1 h0 (by omega)]) ?_
        have hb := fb_01 set k
        refine fc_icmp_ne (tgt := 36) C dX3_linesInto_21 (by decide) (fc_Rm (by omega)) (fc_Rm (by omega)) (fun c21 => ?_) (fun c21 => ?_)
        · refine fc_iinc C dX3_linesInto_36 rfl (by decide) ?_
          refine fc_goto (tgt := 5) C dX3_linesInto_39 (by decide) ?_
          exact fc_eq (by rw [fs_step h0, if_neg c21, Int.add_zero]; rfl) rfl (ih (k + 1) (by omega) (by omega) (by omega))
        · refine fc_iload_n C dX3_linesInto_24 rfl rfl ?_
          refine fc_aload_n C dX3_linesInto_25 rfl rfl ?_
          refine fh_getf C dX3_linesInto_26 fl_X3_17 rfl rfl ?_
          refine fc_iload_n C dX3_linesInto_29 rfl rfl ?_
          refine fh_aaload C dX3_linesInto_30 (Or.inl rfl) rfl (by omega) (by omega) (by decide) (fg_5 p) ?_
          refine fc_iload C dX3_linesInto_31 rfl ?_
          refine fh_iaload C dX3_linesInto_33 (fS_5 hp0 hp1) (by omega) (by omega) (by decide) ?_
          refine fc_iadd C dX3_linesInto_34 ?_
          refine fc_istore_n C dX3_linesInto_35 rfl (by decide) ?_
          refine fc_iinc C dX3_linesInto_36 rfl (by decide) ?_
          refine fc_goto (tgt := 5) C dX3_linesInto_39 (by decide) ?_
          exact fc_eq (by rw [fs_step h0, if_pos c21, eL p k hp0 hp1 h0 (by omega)]; rfl) rfl (ih (k + 1) (by omega) (by omega) (by omega))
  refine fc_iconst C dX3_linesInto_0 ?_
  refine fc_istore_n C dX3_linesInto_1 rfl (by decide) ?_
  refine fc_iconst C dX3_linesInto_2 ?_
  refine fc_istore C dX3_linesInto_3 (by decide) ?_
  exact loop 6 0 (by omega) (by omega) (by omega)
theorem c_valence (K : k_net A F n L) {p : Int} (hp0 : 0 ≤ p) (hp1 : p < 5) : fh_M mX3_valence 1 [vR 3, vI p] A F (some (vI (s_val L n p))) A F := by
  obtain ⟨e0, hn1, hn2, eL⟩ := id K
  have hb := fb_all_bd (n := n) (by omega) (by omega)
  refine fh_M.of mi_X3_valence (Nat.le_of_ble_eq_true rfl) ?_
  intro X C T
  refine fc_aload_n C dX3_valence_0 rfl rfl ?_
  refine fc_aload_n C dX3_valence_1 rfl rfl ?_
  refine fh_callV (y := mX3_allPoints) C dX3_valence_2 ml_X3_67 mi_X3_allPoints im_X3_allPoints se_X3_allPoints (c_allPoints K) rfl rfl (by decide) rfl (Nat.le_of_ble_eq_true rfl) (Nat.zero_le _) (Nat.zero_le _) rfl ?_
  refine fc_iload_n C dX3_valence_5 rfl rfl ?_
  refine fh_callV (y := mX3_linesInto) C dX3_valence_6 ml_X3_71 mi_X3_linesInto im_X3_linesInto se_X3_linesInto (c_linesInto K hb.1 hb.2 hp0 hp1) rfl rfl (by decide) rfl (Nat.le_of_ble_eq_true rfl) (Nat.zero_le _) (Nat.zero_le _) rfl ?_
  exact fh_iret C T dX3_valence_9 (by rw [s_li_all (by omega) hn2]) rfl
theorem c_lineCount (K : k_net A F n L) (hg : g_ok L) : fh_M mX3_lineCount 2 [vR 3] A F (some (vI (s_lc L n))) A F := by
  obtain ⟨e0, hn1, hn2, eL⟩ := id K
  refine fh_M.of mi_X3_lineCount (Nat.le_of_ble_eq_true rfl) ?_
  intro X C T
  have loop : ∀ (m : Nat) (k : Int), 0 ≤ k → k ≤ n → n - k < m → fc_W X 0 0 159 (fc_H A F) 4 [some (vR 3), some (vI (fs_sum (fun p => s_val L n p) k.toNat)), some (vI k)] [] := by
    intro m
    induction m with
    | zero => intro k h0 h1 h2; exfalso; omega
    | succ m ih =>
      intro k h0 h1 h2
      refine fc_iload_n C dX3_lineCount_4 rfl rfl ?_
      refine fc_aload_n C dX3_lineCount_5 rfl rfl ?_
      refine fh_getf C dX3_lineCount_6 fl_X3_9 rfl rfl ?_
      refine fc_icmp_ge (tgt := 26) C dX3_lineCount_9 (by decide) (fc_Rm (by omega)) (fc_Rm (by omega)) (fun c9 => ?_) (fun c9 => ?_)
      · have e : k = n := by omega
        subst e
        have hb := s_lc_bd hg (n := k) (by omega) (by omega)
        refine fc_iload_n C dX3_lineCount_26 rfl rfl ?_
        refine fc_iconst C dX3_lineCount_27 ?_
        refine fc_idiv C dX3_lineCount_28 (fc_Rm (by omega)) (fc_Rm (by omega)) (by omega) ?_
        exact fh_iret C T dX3_lineCount_29 rfl rfl
      · refine fc_iload_n C dX3_lineCount_12 rfl rfl ?_
        refine fc_aload_n C dX3_lineCount_13 rfl rfl ?_
        refine fc_iload_n C dX3_lineCount_14 rfl rfl ?_
        refine fh_callV (y := mX3_valence) C dX3_lineCount_15 ml_X3_75 mi_X3_valence im_X3_valence se_X3_valence (c_valence K h0 (by omega)) rfl rfl (by decide) rfl (Nat.le_of_ble_eq_true rfl) (Nat.zero_le _) (Nat.zero_le _) rfl ?_
        refine fc_iadd C dX3_lineCount_18 ?_
        refine fc_istore_n C dX3_lineCount_19 rfl (by decide) ?_
        refine fc_iinc C dX3_lineCount_20 rfl (by decide) ?_
        refine fc_goto (tgt := 4) C dX3_lineCount_23 (by decide) ?_
        exact fc_eq (by rw [fs_step h0]; rfl) rfl (ih (k + 1) (by omega) (by omega) (by omega))
  refine fc_iconst C dX3_lineCount_0 ?_
  refine fc_istore_n C dX3_lineCount_1 rfl (by decide) ?_
  refine fc_iconst C dX3_lineCount_2 ?_
  refine fc_istore_n C dX3_lineCount_3 rfl (by decide) ?_
  exact loop 6 0 (by omega) (by omega) (by omega)
theorem c_genus (K : k_net A F n L) (hg : g_ok L) : fh_M mX3_genus 3 [vR 3] A F (some (vI (s_lc L n - n + 1))) A F := by
  obtain ⟨e0, hn1, hn2, eL⟩ := id K
  refine fh_M.of mi_X3_genus (Nat.le_of_ble_eq_true rfl) ?_
  intro X C T
  refine fc_aload_n C dX3_genus_0 rfl rfl ?_
  refine fh_callV (y := mX3_lineCount) C dX3_genus_1 ml_X3_79 mi_X3_lineCount im_X3_lineCount se_X3_lineCount (c_lineCount K hg) rfl rfl (by decide) rfl (Nat.le_of_ble_eq_true rfl) (Nat.zero_le _) (Nat.zero_le _) rfl ?_
  refine fc_aload_n C dX3_genus_4 rfl rfl ?_
  refine fh_getf C dX3_genus_5 fl_X3_9 rfl rfl ?_
  refine fc_isub C dX3_genus_8 ?_
  refine fc_iconst C dX3_genus_9 ?_
  refine fc_iadd C dX3_genus_10 ?_
  exact fh_iret C T dX3_genus_11 (by rw [e0]) rfl
theorem c_isJoined (K : k_net A F n L) (hg : g_ok L) : fh_M mX3_isJoined 1 [vR 3] A F (some (vI (fc_ind (s_J L n)))) A F := by
  obtain ⟨e0, hn1, hn2, eL⟩ := id K
  refine fh_M.of mi_X3_isJoined (Nat.le_of_ble_eq_true rfl) ?_
  intro X C T
  -- the outer loop: behind t rounds the set is closed or has more than t points
  have outer : ∀ (m : Nat) (t r : Int), 1 ≤ t → t ≤ n → n - t < m → s_R L n r → (s_cl L n r ∨ t ≤ s_pc r) → fc_W X 0 0 159 (fc_H A F) 4 [some (vR 3), some (vI r), some (vI t), none] [] ∧ ∀ x : fc_AV, fc_cat x = 1 → fc_W X 0 0 159 (fc_H A F) 4 [some (vR 3), some (vI r), some (vI t), some x] [] := by
    intro m
    induction m with
    | zero => intro t r h0 h1 h2; exfalso; omega
    | succ m ih =>
      intro t r h0 h1 h2 hR hc
      -- the inner loop
      have inner : ∀ (m2 : Nat) (k r2 : Int), 0 ≤ k → k ≤ n → n - k < m2 → s_R L n r2 → (r2 = r ∧ (∀ p : Int, 0 ≤ p → p < k → 0 < s_li L n r p → fb_t r p = 1) ∨ s_pc r + 1 ≤ s_pc r2 ∧ ¬ s_cl L n r) → t < n → fc_W X 0 0 159 (fc_H A F) 14 [some (vR 3), some (vI r2), some (vI t), some (vI k)] [] := by
        intro m2
        induction m2 with
        | zero => intro k r2 q0 q1 q2; exfalso; omega
        | succ m2 ih2 =>
          intro k r2 q0 q1 q2 hR2 hc2 htn
          obtain ⟨a1, a2, a3, a4, a5⟩ := id hR2
          refine fc_iload_n C dX3_isJoined_14 rfl rfl ?_
          refine fc_aload_n C dX3_isJoined_15 rfl rfl ?_
          refine fh_getf C dX3_isJoined_16 fl_X3_9 rfl rfl ?_
          refine fc_icmp_ge (tgt := 43) C dX3_isJoined_19 (by decide) (fc_Rm (by omega)) (fc_Rm (by omega)) (fun c19 => ?_) (fun c19 => ?_)
          · refine fc_iinc C dX3_isJoined_43 rfl (by decide) ?_
            refine fc_goto (tgt := 4) C dX3_isJoined_46 (by decide) ?_
            have hk : k = n := by omega
            refine (ih (t + 1) r2 (by omega) (by omega) (by omega) hR2 ?_).2 (vI k) rfl
            rcases hc2 with ⟨e, h9⟩ | ⟨h9, h8⟩
            · subst e
              left
              intro a b z0 z1 z2 z3 z4 z5
              refine h9 b z2 (by omega) ?_
              by_cases z : 0 < s_li L n r2 b
              · exact z
              · have := s_li_neg hg hn2 z2 (by omega) (Int.not_lt.mp z) z0 z1 z4
                rw [(hg a b z0 (by omega) z2 (by omega)).2.2.1] at z5
                omega
            · rcases hc with hc | hc
              · exact absurd hc h8
              · right; omega
          · have hlb := s_li_bd hg (n := n) (set := r2) (p := k) (by omega) hn2 q0 (by omega)
            refine fc_aload_n C dX3_isJoined_22 rfl rfl ?_
            refine fc_iload_n C dX3_isJoined_23 rfl rfl ?_
            refine fc_iload_n C dX3_isJoined_24 rfl rfl ?_
            refine fh_callV (y := mX3_linesInto) C dX3_isJoined_25 ml_X3_71 mi_X3_linesInto im_X3_linesInto se_X3_linesInto (c_linesInto K a1 a2 q0 (by omega)) rfl rfl (by decide) rfl (Nat.le_of_ble_eq_true rfl) (Nat.zero_le _) (Nat.zero_le _) rfl ?_
            refine fc_if_le (tgt := 37) C dX3_isJoined_28 (by decide) (fc_Rm (by omega)) (fun c28 => ?_) (fun c28 => ?_)
            · refine fc_iinc C dX3_isJoined_37 rfl (by decide) ?_
              refine fc_goto (tgt := 14) C dX3_isJoined_40 (by decide) ?_
              refine ih2 (k + 1) r2 (by omega) (by omega) (by omega) hR2 ?_ htn
              rcases hc2 with ⟨e, h9⟩ | h9
              · left
                refine ⟨e, fun p z0 z1 z2 => ?_⟩
                by_cases hp : p = k
                · subst hp; rw [← e] at z2; omega
                · exact h9 p z0 (by omega) z2
              · exact Or.inr h9
            · refine fc_iload_n C dX3_isJoined_31 rfl rfl ?_
              refine fc_iconst C dX3_isJoined_32 ?_
              refine fc_iload_n C dX3_isJoined_33 rfl rfl ?_
              refine fc_ishl C dX3_isJoined_34 ?_
              refine fc_ior C dX3_isJoined_35 ?_
              refine fc_eq (st' := [vI (fb_in r2 k)]) rfl (by rw [fb_shl1 q0 (by omega), (fb_or a1 a2 q0 (by omega)).1]) ?_
              refine fc_istore_n C dX3_isJoined_36 rfl (by decide) ?_
              refine fc_iinc C dX3_isJoined_37 rfl (by decide) ?_
              refine fc_goto (tgt := 14) C dX3_isJoined_40 (by decide) ?_
              refine ih2 (k + 1) (fb_in r2 k) (by omega) (by omega) (by omega) (hR2.add hg (by omega) hn2 q0 (by omega) c28) ?_ htn
              rcases fb_01 r2 k with hb | hb
              · have hpc := s_pc_in a1 a2 q0 (by omega) hb
                right
                rcases hc2 with ⟨e, h9⟩ | ⟨h9, h8⟩
                · subst e
                  refine ⟨by omega, fun hcl => ?_⟩
                  obtain ⟨o, z0, z1, z2, z3⟩ := s_li_pos hg (by omega) hn2 q0 (by omega) c28
                  have := hcl o k z0 z1 q0 (by omega) z2 (by rw [(hg o k z0 (by omega) q0 (by omega)).2.2.1]; exact z3)
                  omega
                · exact ⟨by omega, h8⟩
              · rw [fb_in_same hb]
                rcases hc2 with ⟨e, h9⟩ | h9
                · left
                  refine ⟨e, fun p z0 z1 z2 => ?_⟩
                  by_cases hp : p = k
                  · rw [hp, ← e]; exact hb
                  · exact h9 p z0 (by omega) z2
                · exact Or.inr h9
      obtain ⟨a1, a2, a3, a4, a5⟩ := id hR
      have fin : ∀ ls : List (Option fc_AV), fc_get ls 0 = some (vR 3) → fc_get ls 1 = some (vI r) → n ≤ t → fc_W X 0 0 159 (fc_H A F) 49 ls [] := by
        intro ls g0 g1 htn
        have hb := fb_all_bd (n := n) (by omega) (by omega)
        have key := s_R.end hn2 hn1 hR (by
          rcases hc with hc | hc
          · exact Or.inl hc
          · right
            intro p q0 q1
            have h5 := s_pc5 r
            have b0 := fb_01 r 0
            have b1 := fb_01 r 1
            have b2 := fb_01 r 2
            have b3 := fb_01 r 3
            have b4 := fb_01 r 4
            have c2 := a4 2 (by omega) (by omega)
            have c3 := a4 3 (by omega) (by omega)
            have c4 := a4 4 (by omega) (by omega)
            have hp : p = 0 ∨ p = 1 ∨ p = 2 ∨ p = 3 ∨ p = 4 := by omega
            rcases hp with rfl | rfl | rfl | rfl | rfl <;> omega)
        refine fc_iload_n C dX3_isJoined_49 rfl g1 ?_
        refine fc_aload_n C dX3_isJoined_50 rfl g0 ?_
        refine fh_callV (y := mX3_allPoints) C dX3_isJoined_51 ml_X3_67 mi_X3_allPoints im_X3_allPoints se_X3_allPoints (c_allPoints K) rfl rfl (by decide) rfl (Nat.le_of_ble_eq_true rfl) (Nat.zero_le _) (Nat.zero_le _) rfl ?_
        refine fc_icmp_ne (tgt := 61) C dX3_isJoined_54 (by decide) (fc_Rm (by omega)) (fc_Rm (by omega)) (fun c54 => ?_) (fun c54 => ?_)
        · refine fc_iconst C dX3_isJoined_61 ?_
          exact fh_zret C T dX3_isJoined_62 (Or.inl rfl) (by rw [fc_ind_f (fun q => c54 (key.mpr q))]) rfl
        · refine fc_iconst C dX3_isJoined_57 ?_
          refine fc_goto (tgt := 62) C dX3_isJoined_58 (by decide) ?_
          exact fh_zret C T dX3_isJoined_62 (Or.inr rfl) (by rw [fc_ind_t (key.mp c54)]) rfl
      constructor
      · refine fc_iload_n C dX3_isJoined_4 rfl rfl ?_
        refine fc_aload_n C dX3_isJoined_5 rfl rfl ?_
        refine fh_getf C dX3_isJoined_6 fl_X3_9 rfl rfl ?_
        refine fc_icmp_ge (tgt := 49) C dX3_isJoined_9 (by decide) (fc_Rm (by omega)) (fc_Rm (by omega)) (fun c9 => ?_) (fun c9 => ?_)
        · exact fin _ rfl rfl (by omega)
        · refine fc_iconst C dX3_isJoined_12 ?_
          refine fc_istore_n C dX3_isJoined_13 rfl (by decide) ?_
          exact inner 6 0 r (by omega) (by omega) (by omega) hR (Or.inl ⟨rfl, fun p z0 z1 => by omega⟩) (by omega)
      · intro x hx
        refine fc_iload_n C dX3_isJoined_4 rfl rfl ?_
        refine fc_aload_n C dX3_isJoined_5 rfl rfl ?_
        refine fh_getf C dX3_isJoined_6 fl_X3_9 rfl rfl ?_
        refine fc_icmp_ge (tgt := 49) C dX3_isJoined_9 (by decide) (fc_Rm (by omega)) (fc_Rm (by omega)) (fun c9 => ?_) (fun c9 => ?_)
        · exact fin _ rfl rfl (by omega)
        · refine fc_iconst C dX3_isJoined_12 ?_
          refine fc_istore_n C dX3_isJoined_13 rfl (by decide) ?_
          exact inner 6 0 r (by omega) (by omega) (by omega) hR (Or.inl ⟨rfl, fun p z0 z1 => by omega⟩) (by omega)
  refine fc_iconst C dX3_isJoined_0 ?_
  refine fc_istore_n C dX3_isJoined_1 rfl (by decide) ?_
  refine fc_iconst C dX3_isJoined_2 ?_
  refine fc_istore_n C dX3_isJoined_3 rfl (by decide) ?_
  exact (outer 6 1 1 (by omega) (by omega) (by omega) (s_R.one hn1) (Or.inr (by decide))).1
theorem c_isHeap (K : k_net A F n L) (H : k_ch A c) (hc : k_cR c) : fh_M mX3_isHeap 0 [vR 3] A F (some (vI (fc_ind (∀ p : Int, 1 ≤ p → p < n → 0 ≤ c p)))) A F := by
  obtain ⟨e0, hn1, hn2, eL⟩ := K
  refine fh_M.of mi_X3_isHeap (Nat.le_of_ble_eq_true rfl) ?_
  intro X C T
  have loop : ∀ (m : Nat) (k : Int), 1 ≤ k → k ≤ n → n - k < m → (∀ p : Int, 1 ≤ p → p < k → 0 ≤ c p) → fc_W X 0 0 159 (fc_H A F) 2 [some (vR 3), some (vI k)] [] := by
    intro m
    induction m with
    | zero => intro k h0 h1 h2; exfalso; omega
    | succ m ih =>
      intro k h0 h1 h2 h3
      refine fc_iload_n C dX3_isHeap_2 rfl rfl ?_
      refine fc_aload_n C dX3_isHeap_3 rfl rfl ?_
      refine fh_getf C dX3_isHeap_4 fl_X3_9 rfl rfl ?_
      refine fc_icmp_ge (tgt := 27) C dX3_isHeap_7 (by decide) (fc_Rm (by omega)) (fc_Rm (by omega)) (fun c7 => ?_) (fun c7 => ?_)
      · refine fc_iconst C dX3_isHeap_27 ?_
        exact fh_zret C T dX3_isHeap_28 (Or.inr rfl) (by rw [fc_ind_t (fun p q0 q1 => h3 p q0 (by omega))]) rfl
      · refine fc_aload_n C dX3_isHeap_10 rfl rfl ?_
        refine fh_getf C dX3_isHeap_11 fl_X3_20 rfl rfl ?_
        refine fc_iload_n C dX3_isHeap_14 rfl rfl ?_
        refine fh_iaload C dX3_isHeap_15 (fun _ _ => rfl) (by omega) (by omega) (by decide) ?_
        have e := H k (by omega) (by omega)
        have hk := hc k (by omega) (by omega)
        refine fc_if_ge (tgt := 21) C dX3_isHeap_16 (by decide) (fc_Rm (by omega)) (fun c16 => ?_) (fun c16 => ?_)
        · refine fc_iinc C dX3_isHeap_21 rfl (by decide) ?_
          refine fc_goto (tgt := 2) C dX3_isHeap_24 (by decide) ?_
          exact ih (k + 1) (by omega) (by omega) (by omega) (fun p q0 q1 => by
            by_cases q : p = k
            · rw [q]; omega
            · exact h3 p q0 (by omega))
        · refine fc_iconst C dX3_isHeap_19 ?_
          exact fh_zret C T dX3_isHeap_20 (Or.inl rfl) (by rw [fc_ind_f (fun q => by have := q k h0 (by omega); omega)]) rfl
  refine fc_iconst C dX3_isHeap_0 ?_
  refine fc_istore_n C dX3_isHeap_1 rfl (by decide) ?_
  exact loop 6 1 (by omega) (by omega) (by omega) (fun p q0 q1 => by omega)
def s_full (L : Int → Int → Int) (n : Int) (c : Int → Int) (p : Int) : Prop := p ≠ 0 ∧ 0 < s_val L n p ∧ s_val L n p ≤ c p
theorem c_isFullAt (K : k_net A F n L) (hg : g_ok L) (H : k_ch A c) (hc : k_cR c) {p : Int} (hp0 : 0 ≤ p) (hp1 : p < 5) : fh_M mX3_isFullAt 2 [vR 3, vI p] A F (some (vI (fc_ind (s_full L n c p)))) A F := by
  obtain ⟨e0, hn1, hn2, eL⟩ := id K
  have hv := s_val_bd hg (n := n) (p := p) (by omega) hn2 hp0 hp1
  have e := H p hp0 hp1
  have hk := hc p hp0 hp1
  refine fh_M.of mi_X3_isFullAt (Nat.le_of_ble_eq_true rfl) ?_
  intro X C T
  refine fc_aload_n C dX3_isFullAt_0 rfl rfl ?_
  refine fc_iload_n C dX3_isFullAt_1 rfl rfl ?_
  refine fh_callV (y := mX3_valence) C dX3_isFullAt_2 ml_X3_75 mi_X3_valence im_X3_valence se_X3_valence (c_valence K hp0 hp1) rfl rfl (by decide) rfl (Nat.le_of_ble_eq_true rfl) (Nat.zero_le _) (Nat.zero_le _) rfl ?_
  refine fc_istore_n C dX3_isFullAt_5 rfl (by decide) ?_
  refine fc_iload_n C dX3_isFullAt_6 rfl rfl ?_
  refine fc_if_eq (tgt := 28) C dX3_isFullAt_7 (by decide) (fc_Rm (by omega)) (fun c7 => ?_) (fun c7 => ?_)
  · refine fc_iconst C dX3_isFullAt_28 ?_
    exact fh_zret C T dX3_isFullAt_29 (Or.inl rfl) (by rw [fc_ind_f (fun q => q.1 c7)]) rfl
  · refine fc_iload_n C dX3_isFullAt_10 rfl rfl ?_
    refine fc_if_le (tgt := 28) C dX3_isFullAt_11 (by decide) (fc_Rm (by omega)) (fun c11 => ?_) (fun c11 => ?_)
    · refine fc_iconst C dX3_isFullAt_28 ?_
      exact fh_zret C T dX3_isFullAt_29 (Or.inl rfl) (by rw [fc_ind_f (fun q => by have := q.2.1; omega)]) rfl
    · refine fc_aload_n C dX3_isFullAt_14 rfl rfl ?_
      refine fh_getf C dX3_isFullAt_15 fl_X3_20 rfl rfl ?_
      refine fc_iload_n C dX3_isFullAt_18 rfl rfl ?_
      refine fh_iaload C dX3_isFullAt_19 (fun _ _ => rfl) (by omega) (by omega) (by decide) ?_
      refine fc_iload_n C dX3_isFullAt_20 rfl rfl ?_
      refine fc_icmp_lt (tgt := 28) C dX3_isFullAt_21 (by decide) (fc_Rm (by omega)) (fc_Rm (by omega)) (fun c21 => ?_) (fun c21 => ?_)
      · refine fc_iconst C dX3_isFullAt_28 ?_
        exact fh_zret C T dX3_isFullAt_29 (Or.inl rfl) (by rw [fc_ind_f (fun q => by have := q.2.2; omega)]) rfl
      · refine fc_iconst C dX3_isFullAt_24 ?_
        refine fc_goto (tgt := 29) C dX3_isFullAt_25 (by decide) ?_
        exact fh_zret C T dX3_isFullAt_29 (Or.inr rfl) (by rw [fc_ind_t ⟨c7, c11, by omega⟩]) rfl
def s_stable (L : Int → Int → Int) (n : Int) (c : Int → Int) : Prop := (∀ p : Int, 1 ≤ p → p < n → ¬ s_full L n c p) ∧ ∀ p : Int, 1 ≤ p → p < n → 0 ≤ c p
theorem c_isStableHeap (K : k_net A F n L) (hg : g_ok L) (H : k_ch A c) (hc : k_cR c) : fh_M mX3_isStableHeap 3 [vR 3] A F (some (vI (fc_ind (s_stable L n c)))) A F := by
  obtain ⟨e0, hn1, hn2, eL⟩ := id K
  refine fh_M.of mi_X3_isStableHeap (Nat.le_of_ble_eq_true rfl) ?_
  intro X C T
  have loop : ∀ (m : Nat) (k : Int), 1 ≤ k → k ≤ n → n - k < m → (∀ p : Int, 1 ≤ p → p < k → ¬ s_full L n c p) → fc_W X 0 0 159 (fc_H A F) 2 [some (vR 3), some (vI k)] [] := by
    intro m
    induction m with
    | zero => intro k h0 h1 h2; exfalso; omega
    | succ m ih =>
      intro k h0 h1 h2 h3
      refine fc_iload_n C dX3_isStableHeap_2 rfl rfl ?_
      refine fc_aload_n C dX3_isStableHeap_3 rfl rfl ?_
      refine fh_getf C dX3_isStableHeap_4 fl_X3_9 rfl rfl ?_
      refine fc_icmp_ge (tgt := 26) C dX3_isStableHeap_7 (by decide) (fc_Rm (by omega)) (fc_Rm (by omega)) (fun c7 => ?_) (fun c7 => ?_)
      · refine fc_aload_n C dX3_isStableHeap_26 rfl rfl ?_
        refine fh_callV (y := mX3_isHeap) C dX3_isStableHeap_27 ml_X3_85 mi_X3_isHeap im_X3_isHeap se_X3_isHeap (c_isHeap K H hc) rfl rfl (by decide) rfl (Nat.le_of_ble_eq_true rfl) (Nat.zero_le _) (Nat.zero_le _) rfl ?_
        exact fh_zret C T dX3_isStableHeap_30 (fc_ind_01 _) (by rw [fc_ind_congr (Q := s_stable L n c) ⟨fun q => ⟨fun p z0 z1 => h3 p z0 (by omega), q⟩, fun q => q.2⟩]) rfl
      · refine fc_aload_n C dX3_isStableHeap_10 rfl rfl ?_
        refine fc_iload_n C dX3_isStableHeap_11 rfl rfl ?_
        refine fh_callV (y := mX3_isFullAt) C dX3_isStableHeap_12 ml_X3_82 mi_X3_isFullAt im_X3_isFullAt se_X3_isFullAt (c_isFullAt K hg H hc (by omega) (by omega)) rfl rfl (by decide) rfl (Nat.le_of_ble_eq_true rfl) (Nat.zero_le _) (Nat.zero_le _) rfl ?_
        refine fc_if_eq (tgt := 20) C dX3_isStableHeap_15 (by decide) (fc_ind_R _) (fun c15 => ?_) (fun c15 => ?_)
        · refine fc_iinc C dX3_isStableHeap_20 rfl (by decide) ?_
          refine fc_goto (tgt := 2) C dX3_isStableHeap_23 (by decide) ?_
          exact ih (k + 1) (by omega) (by omega) (by omega) (fun p q0 q1 => by
            by_cases q : p = k
            · rw [q]; exact fc_ind_0 c15
            · exact h3 p q0 (by omega))
        · refine fc_iconst C dX3_isStableHeap_18 ?_
          exact fh_zret C T dX3_isStableHeap_19 (Or.inl rfl) (by rw [fc_ind_f (fun q => q.1 k h0 (by omega) (fc_ind_ne c15))]) rfl
  refine fc_iconst C dX3_isStableHeap_0 ?_
  refine fc_istore_n C dX3_isStableHeap_1 rfl (by decide) ?_
  exact loop 6 1 (by omega) (by omega) (by omega) (fun p q0 q1 => by omega)
end POS
