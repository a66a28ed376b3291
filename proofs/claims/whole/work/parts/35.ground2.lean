/-! Grounded: the whole of it taken -/
theorem fS_25 {p : Int} (h0 : 0 ≤ p) (h1 : p < 5) : ∀ (a : Int → Int) (f : Nat → Int), fc_S (25 + p.toNat) a f = cJ 5 a := by
  have key : ∀ k : Fin 5, ∀ (a : Int → Int) (f : Nat → Int), fc_S (25 + ((k.val : Nat) : Int).toNat) a f = cJ 5 a := fin5 (fun _ _ => rfl) (fun _ _ => rfl) (fun _ _ => rfl) (fun _ _ => rfl) (fun _ _ => rfl)
  exact fz_lt (P := fun p => ∀ (a : Int → Int) (f : Nat → Int), fc_S (25 + p.toNat) a f = cJ 5 a) (N := 5) key h0 h1
theorem fg_25 (p : Int) : (some (25 + 1 * p.toNat) : Option Nat) = some (25 + p.toNat) := by rw [Nat.one_mul]
/-- TREES -/
def d_T (L : Int → Int → Int) (n q : Int) : Int := d_mi (s_M L n) n (fb_oth n q) n.toNat (fb_oth n q)
def d_pl (q p : Int) : Int := if q < p then p - 1 else p
def d_cf (L : Int → Int → Int) (n q a b : Int) : Int := if (d_pl q a + d_pl q b).tmod 2 = 0 then d_mi (s_M L n) n (fb_out (fb_oth n q) a) n.toNat (fb_out (fb_oth n q) b) else - d_mi (s_M L n) n (fb_out (fb_oth n q) a) n.toNat (fb_out (fb_oth n q) b)
def d_sv (L : Int → Int → Int) (n q : Int) (x : Int → Int) (a : Int) : Int := if a = q then 0 else fs_sum (fun b => if b = q then 0 else d_cf L n q a b * x b) n.toNat
/-- what is neutral: 2 VALENCE less what that settles to -/
def d_nt (L : Int → Int → Int) (n q : Int) (y : Int → Int) : Prop := ∃ g x f : Int → Int, s_fin L n q (fun p => 2 * s_val L n p) g x f ∧ ∀ p : Int, 0 ≤ p → p < n → y p = 2 * s_val L n p - x p
def k_gw (A : Nat → Int → Int) (F : Nat → Nat → Int) (n q : Int) (L : Int → Int → Int) : Prop := k_mx A F n q L ∧ F 17 8 = d_T L n q ∧ (∀ a b : Int, 0 ≤ a → a < n → 0 ≤ b → b < n → a ≠ q → b ≠ q → A (25 + a.toNat) b = d_cf L n q a b) ∧ d_nt L n q (A 32)
theorem s_M_d {L : Int → Int → Int} {n p : Int} : s_M L n p p = s_val L n p := if_pos rfl
section GW
variable {A : Nat → Int → Int} {F : Nat → Nat → Int} {L : Int → Int → Int} {n q : Int}
theorem k_mx.fr {A' : Nat → Int → Int} {F' : Nat → Nat → Int} (M : k_mx A F n q L) (hn : 2 ≤ n ∧ n ≤ 5) (hA : ∀ i : Nat, 19 ≤ i → i < 24 → A' i = A i) (h6 : F' 17 6 = F 17 6) (h7 : F' 17 7 = F 17 7) : k_mx A' F' n q L := ⟨h6.trans M.1, h7.trans M.2.1, fun a b a0 a1 b0 b1 => by rw [hA _ (by omega) (by omega)]; exact M.2.2 a b a0 a1 b0 b1⟩
theorem k_gw.fr {A' : Nat → Int → Int} {F' : Nat → Nat → Int} (M : k_gw A F n q L) (hn : 2 ≤ n ∧ n ≤ 5) (hA : ∀ i : Nat, 19 ≤ i → i < 30 → A' i = A i) (h32 : A' 32 = A 32) (hF : F' 17 = F 17) : k_gw A' F' n q L := ⟨M.1.fr hn (fun i i0 i1 => hA i i0 (by omega)) (by rw [hF]) (by rw [hF]), by rw [hF]; exact M.2.1, fun a b a0 a1 b0 b1 x y => by rw [hA _ (by omega) (by omega)]; exact M.2.2.1 a b a0 a1 b0 b1 x y, by rw [h32]; exact M.2.2.2⟩
theorem c_findNeutral (M : k_mx A F n q L) (hg : g_ok L) (hn : 2 ≤ n ∧ n ≤ 5) (hq : 0 ≤ q ∧ q < n) (hJ : s_J L n) : fh_E mX1_findNeutral 2 [vR 17] A F (fun r A' F' => r = none ∧ F' = F ∧ d_nt L n q (A' 32) ∧ ∀ i : Nat, ¬ (31 ≤ i ∧ i < 34) → A' i = A i) := by
  obtain ⟨e6, e7, hm⟩ := id M
  refine fh_E.of mi_X1_findNeutral (Nat.le_of_ble_eq_true rfl) ?_
  intro X C T
  have loop2 : ∀ (g x f : Int → Int) (m : Nat) (k : Int) (A1 : Nat → Int → Int), s_fin L n q (fun p => 2 * s_val L n p) g x f → 0 ≤ k → k ≤ n → n - k < m → (∀ p : Int, 0 ≤ p → p < n → A1 31 p = x p) → (∀ p : Int, 0 ≤ p → p < k → A1 32 p = 2 * s_val L n p - x p) → (∀ i : Nat, ¬ (31 ≤ i ∧ i < 34) → A1 i = A i) → fc_W X 0 0 159 (fc_H A1 F) 46 [some (vR 17), some (vI k)] [] := by
    intro g x f m
    induction m with
    | zero => intro k A1 hf z0 z1 z2; exfalso; omega
    | succ m ih =>
      intro k A1 hf z0 z1 z2 hx hy fr
      refine fc_iload_n C dX1_findNeutral_46 rfl rfl ?_
      refine fc_aload_n C dX1_findNeutral_47 rfl rfl ?_
      refine fh_getf C dX1_findNeutral_48 fl_X1_35 rfl rfl ?_
      refine fc_icmp_ge (tgt := 83) C dX1_findNeutral_51 (by decide) (fc_Rm (by omega)) (fc_Rm (by omega)) (fun c51 => ?_) (fun c51 => ?_)
      · exact fh_vretE C T dX1_findNeutral_83 ⟨rfl, rfl, ⟨g, x, f, hf, fun p p0 p1 => hy p p0 (by omega)⟩, fr⟩
      · have hmk := hm k k z0 (by omega) z0 (by omega)
        rw [s_M_d] at hmk
        refine fc_aload_n C dX1_findNeutral_54 rfl rfl ?_
        refine fh_getf C dX1_findNeutral_55 fl_X1_29 rfl rfl ?_
        refine fc_iload_n C dX1_findNeutral_58 rfl rfl ?_
        refine fc_iconst C dX1_findNeutral_59 ?_
        refine fc_aload_n C dX1_findNeutral_60 rfl rfl ?_
        refine fh_getf C dX1_findNeutral_61 fl_X1_11 rfl rfl ?_
        refine fc_iload_n C dX1_findNeutral_64 rfl rfl ?_
        refine fh_aaload C dX1_findNeutral_65 (Or.inl rfl) rfl (by omega) (by omega) (by decide) (fg_19 k) ?_
        refine fc_iload_n C dX1_findNeutral_66 rfl rfl ?_
        refine fh_iaload C dX1_findNeutral_67 (fS_19 z0 (by omega)) (by omega) (by omega) (by decide) ?_
        refine fc_imul C dX1_findNeutral_68 ?_
        refine fc_aload_n C dX1_findNeutral_69 rfl rfl ?_
        refine fh_getf C dX1_findNeutral_70 fl_X1_25 rfl rfl ?_
        refine fc_iload_n C dX1_findNeutral_73 rfl rfl ?_
        refine fh_iaload C dX1_findNeutral_74 (fun _ _ => rfl) (by omega) (by omega) (by decide) ?_
        refine fc_isub C dX1_findNeutral_75 ?_
        refine fh_iastore C dX1_findNeutral_76 (fun _ _ => rfl) (by omega) (by omega) (by decide) ?_
        refine fc_iinc C dX1_findNeutral_77 rfl (by decide) ?_
        refine fc_goto (tgt := 46) C dX1_findNeutral_80 (by decide) ?_
        refine ih (k + 1) _ hf (by omega) (by omega) (by omega) (fun p p0 p1 => by rw [fa_n _ _ (by omega)]; exact hx p p0 p1) (fun p p0 p1 => ?_) (fun i hi => by rw [fa_n _ _ (by omega)]; exact fr i hi)
        rw [fa_s, fr (19 + k.toNat) (by omega), hmk, hx k z0 (by omega)]
        unfold fc_set
        by_cases e : p = k
        · rw [if_pos e, e]
        · rw [if_neg e]; exact hy p p0 (by omega)
  have loop1 : ∀ (m : Nat) (k : Int) (A1 : Nat → Int → Int), 0 ≤ k → k ≤ n → n - k < m → (∀ p : Int, 0 ≤ p → p < k → A1 31 p = 2 * s_val L n p) → (∀ i : Nat, ¬ (31 ≤ i ∧ i < 34) → A1 i = A i) → fc_W X 0 0 159 (fc_H A1 F) 2 [some (vR 17), some (vI k)] [] := by
    intro m
    induction m with
    | zero => intro k A1 z0 z1 z2; exfalso; omega
    | succ m ih =>
      intro k A1 z0 z1 z2 hy fr
      refine fc_iload_n C dX1_findNeutral_2 rfl rfl ?_
      refine fc_aload_n C dX1_findNeutral_3 rfl rfl ?_
      refine fh_getf C dX1_findNeutral_4 fl_X1_35 rfl rfl ?_
      refine fc_icmp_ge (tgt := 32) C dX1_findNeutral_7 (by decide) (fc_Rm (by omega)) (fc_Rm (by omega)) (fun c7 => ?_) (fun c7 => ?_)
      · have M1 : k_mx A1 F n q L := M.fr hn (fun i i0 i1 => fr i (by omega)) rfl rfl
        have hb : ∀ p : Int, 0 ≤ p → p < n → 0 ≤ A1 31 p ∧ A1 31 p ≤ 30 := fun p p0 p1 => by
          rw [hy p p0 (by omega)]
          have := s_val_bd hg (n := n) (p := p) (by omega) hn.2 p0 (by omega)
          omega
        obtain ⟨x, f, hf, hM⟩ := c_settleE M1 hg hn hq hJ (i := 31) (j := 33) (fun _ _ => rfl) (by omega) (fun _ _ => rfl) (by omega) (by omega) (fun p p0 p1 _ => by have := hb p p0 p1; omega) (by have := hb q hq.1 hq.2; omega)
        obtain ⟨x2, f2, hf3⟩ := s_fin_ex hg hn hq hJ (z := fun p => 2 * s_val L n p) (g := A1 33) (fun p p0 p1 _ => by have := s_val_bd hg (n := n) (p := p) (by omega) hn.2 p0 (by omega); omega)
        have ex := (s_fin.uniq (by omega) hf hf3 (fun p p0 p1 => hy p p0 (by omega)) (fun _ _ _ => rfl)).1
        refine fc_aload_n C dX1_findNeutral_32 rfl rfl ?_
        refine fc_aload_n C dX1_findNeutral_33 rfl rfl ?_
        refine fh_getf C dX1_findNeutral_34 fl_X1_25 rfl rfl ?_
        refine fc_aload_n C dX1_findNeutral_37 rfl rfl ?_
        refine fh_getf C dX1_findNeutral_38 fl_X1_32 rfl rfl ?_
        refine fh_callVv (y := mX1_settle) C dX1_findNeutral_41 ml_X1_98 mi_X1_settle im_X1_settle se_X1_settle (hM) rfl rfl (by decide) rfl (Nat.le_of_ble_eq_true rfl) (Nat.zero_le _) (Nat.zero_le _) rfl ?_
        refine fc_iconst C dX1_findNeutral_44 ?_
        refine fc_istore_n C dX1_findNeutral_45 rfl (by decide) ?_
        refine loop2 (A1 33) x2 f2 6 0 _ hf3 (by omega) (by omega) (by omega) (fun p p0 p1 => ?_) (fun p p0 p1 => by exfalso; omega) (fun i hi => ?_)
        · rw [fa_n _ _ (by omega), fa_s]; exact ex p p0 p1
        · rw [fa_n _ _ (by omega), fa_n _ _ (by omega)]; exact fr i hi
      · have hmk := hm k k z0 (by omega) z0 (by omega)
        rw [s_M_d] at hmk
        refine fc_aload_n C dX1_findNeutral_10 rfl rfl ?_
        refine fh_getf C dX1_findNeutral_11 fl_X1_25 rfl rfl ?_
        refine fc_iload_n C dX1_findNeutral_14 rfl rfl ?_
        refine fc_iconst C dX1_findNeutral_15 ?_
        refine fc_aload_n C dX1_findNeutral_16 rfl rfl ?_
        refine fh_getf C dX1_findNeutral_17 fl_X1_11 rfl rfl ?_
        refine fc_iload_n C dX1_findNeutral_20 rfl rfl ?_
        refine fh_aaload C dX1_findNeutral_21 (Or.inl rfl) rfl (by omega) (by omega) (by decide) (fg_19 k) ?_
        refine fc_iload_n C dX1_findNeutral_22 rfl rfl ?_
        refine fh_iaload C dX1_findNeutral_23 (fS_19 z0 (by omega)) (by omega) (by omega) (by decide) ?_
        refine fc_imul C dX1_findNeutral_24 ?_
        refine fh_iastore C dX1_findNeutral_25 (fun _ _ => rfl) (by omega) (by omega) (by decide) ?_
        refine fc_iinc C dX1_findNeutral_26 rfl (by decide) ?_
        refine fc_goto (tgt := 2) C dX1_findNeutral_29 (by decide) ?_
        refine ih (k + 1) _ (by omega) (by omega) (by omega) (fun p p0 p1 => ?_) (fun i hi => by rw [fa_n _ _ (by omega)]; exact fr i hi)
        rw [fa_s, fr (19 + k.toNat) (by omega), hmk]
        unfold fc_set
        by_cases e : p = k
        · rw [if_pos e, e]
        · rw [if_neg e]; exact hy p p0 (by omega)
  refine fc_iconst C dX1_findNeutral_0 ?_
  refine fc_istore_n C dX1_findNeutral_1 rfl (by decide) ?_
  exact loop1 6 0 A (by omega) (by omega) (by omega) (fun p p0 p1 => by exfalso; omega) (fun _ _ => rfl)
theorem c_takeWhole (K : k_net A F n L) (hg : g_ok L) (hq : 0 ≤ q ∧ q < n) (hJ : s_J L n) : fh_E mX1_takeWhole 7 [vR 17, vR 3, vI q] A F (fun r A' F' => r = none ∧ k_gw A' F' n q L ∧ k_fr 17 33 A F A' F') := by
  obtain ⟨-, hn1, hn2, -⟩ := id K
  have hn : 2 ≤ n ∧ n ≤ 5 := ⟨hn1, hn2⟩
  have hb := fb_all_bd (n := n) (by omega) (by omega)
  have ho := (fb_outs hb.1 hb.2 hq.1 (show q < 5 by omega)).2
  refine fh_E.of mi_X1_takeWhole (Nat.le_of_ble_eq_true rfl) ?_
  intro X C T
  refine fc_aload_n C dX1_takeWhole_0 rfl rfl ?_
  refine fc_aload_n C dX1_takeWhole_1 rfl rfl ?_
  refine fc_iload_n C dX1_takeWhole_2 rfl rfl ?_
  refine fh_callVE (y := mX1_take) C dX1_takeWhole_3 ml_X1_56 mi_X1_take im_X1_take se_X1_take (c_take K (q := q)) rfl rfl (by decide) rfl (Nat.le_of_ble_eq_true rfl) (Nat.zero_le _) (Nat.zero_le _) rfl ?_
  rintro r A1 F1 ⟨rfl, eF1, M1, fr1⟩
  refine fc_eq (st' := []) rfl rfl ?_
  refine fc_aload_n C dX1_takeWhole_6 rfl rfl ?_
  refine fc_aload_n C dX1_takeWhole_7 rfl rfl ?_
  refine fh_callV (y := mX1_treeCount) C dX1_takeWhole_8 ml_X1_60 mi_X1_treeCount im_X1_treeCount se_X1_treeCount (c_treeCount M1 hg hn hq) rfl rfl (by decide) rfl (Nat.le_of_ble_eq_true rfl) (Nat.zero_le _) (Nat.zero_le _) rfl ?_
  refine fh_putf _ C dX1_takeWhole_11 fl_X1_42 rfl (Nat.le_of_ble_eq_true rfl) rfl rfl ?_
  have M2 : k_mx A1 (ff_up F1 17 8 (d_T L n q)) n q L := M1.fr hn (fun _ _ _ => rfl) (by simp [ff_up]) (by simp [ff_up])
  have e8 : ff_up F1 17 8 (d_T L n q) 17 8 = d_T L n q := by simp [ff_up]
  have fr2 : k_fr 17 33 A F A1 (ff_up F1 17 8 (d_T L n q)) := fun i hi => ⟨fr1 i (by omega), by rw [ff_n (by omega), eF1, ff_n (by omega), ff_n (by omega)]⟩
  refine fc_heq (h := fc_H A1 (ff_up F1 17 8 (d_T L n q))) rfl ?_
  generalize ff_up F1 17 8 (d_T L n q) = F2 at M2 e8 fr2 ⊢
  have e6 := M2.1
  have e7 := M2.2.1
  refine fc_aload_n C dX1_takeWhole_14 rfl rfl ?_
  refine fh_callV (y := mX1_othersThanSink) C dX1_takeWhole_15 ml_X1_64 mi_X1_othersThanSink im_X1_othersThanSink se_X1_othersThanSink (c_othersThanSink M2 hn hq) rfl rfl (by decide) rfl (Nat.le_of_ble_eq_true rfl) (Nat.zero_le _) (Nat.zero_le _) rfl ?_
  refine fc_istore_n C dX1_takeWhole_18 rfl (by decide) ?_
  refine fc_iconst C dX1_takeWhole_19 ?_
  refine fc_istore C dX1_takeWhole_20 (by decide) ?_
  have loop1 : ∀ (m : Nat) (a : Int) (A3 : Nat → Int → Int) (y1 y2 y3 : Option fc_AV), 0 ≤ a → a ≤ n → n - a < m → k_mx A3 F2 n q L → (∀ i j : Int, 0 ≤ i → i < a → 0 ≤ j → j < n → i ≠ q → j ≠ q → A3 (25 + i.toNat) j = d_cf L n q i j) → k_fr 17 33 A F A3 F2 → fc_W X 0 0 159 (fc_H A3 F2) 22 [some (vR 17), some (vR 3), some (vI q), some (vI (fb_oth n q)), some (vI a), y1, y2, y3] [] := by
    intro m
    induction m with
    | zero => intro a A3 y1 y2 y3 z0 z1 z2; exfalso; omega
    | succ m ih =>
      intro a A3 y1 y2 y3 z0 z1 z2 M3 hc fr3
      refine fc_iload C dX1_takeWhole_22 rfl ?_
      refine fc_aload_n C dX1_takeWhole_24 rfl rfl ?_
      refine fh_getf C dX1_takeWhole_25 fl_X1_35 rfl rfl ?_
      refine fc_icmp_ge (tgt := 132) C dX1_takeWhole_28 (by decide) (fc_Rm (by omega)) (fc_Rm (by omega)) (fun c28 => ?_) (fun c28 => ?_)
      · refine fc_aload_n C dX1_takeWhole_132 rfl rfl ?_
        refine fh_callVE (y := mX1_findNeutral) C dX1_takeWhole_133 ml_X1_75 mi_X1_findNeutral im_X1_findNeutral se_X1_findNeutral (c_findNeutral M3 hg hn hq hJ) rfl rfl (by decide) rfl (Nat.le_of_ble_eq_true rfl) (Nat.zero_le _) (Nat.zero_le _) rfl ?_
        rintro r A4 F4 ⟨rfl, rfl, hnt, fr4⟩
        refine fc_eq (st' := []) rfl rfl ?_
        refine fh_vretE C T dX1_takeWhole_136 ⟨rfl, ⟨M3.fr hn (fun i i0 i1 => fr4 i (by omega)) rfl rfl, e8, fun i j i0 i1 j0 j1 x y => by rw [fr4 _ (by omega)]; exact hc i j i0 (by omega) j0 j1 x y, hnt⟩, fun i hi => ⟨by rw [fr4 i (by omega)]; exact (fr3 i hi).1, (fr3 i hi).2⟩⟩
      · have loop2 : ∀ (m2 : Nat) (b : Int) (A4 : Nat → Int → Int) (y2 y3 : Option fc_AV), 0 ≤ b → b ≤ n → n - b < m2 → k_mx A4 F2 n q L → (∀ i j : Int, 0 ≤ i → (i < a ∧ j < n ∨ i = a ∧ j < b) → 0 ≤ j → i ≠ q → j ≠ q → A4 (25 + i.toNat) j = d_cf L n q i j) → k_fr 17 33 A F A4 F2 → fc_W X 0 0 159 (fc_H A4 F2) 34 [some (vR 17), some (vR 3), some (vI q), some (vI (fb_oth n q)), some (vI a), some (vI b), y2, y3] [] := by
          intro m2
          induction m2 with
          | zero => intro b A4 y2 y3 w0 w1 w2; exfalso; omega
          | succ m2 ih2 =>
            intro b A4 y2 y3 w0 w1 w2 M4 hc4 fr4
            refine fc_iload C dX1_takeWhole_34 rfl ?_
            refine fc_aload_n C dX1_takeWhole_36 rfl rfl ?_
            refine fh_getf C dX1_takeWhole_37 fl_X1_35 rfl rfl ?_
            refine fc_icmp_ge (tgt := 126) C dX1_takeWhole_40 (by decide) (fc_Rm (by omega)) (fc_Rm (by omega)) (fun c40 => ?_) (fun c40 => ?_)
            · refine fc_iinc C dX1_takeWhole_126 rfl (by decide) ?_
              refine fc_goto (tgt := 22) C dX1_takeWhole_129 (by decide) ?_
              exact ih (a + 1) A4 _ _ _ (by omega) (by omega) (by omega) M4 (fun i j i0 i1 j0 j1 x y => hc4 i j i0 (by omega) j0 x y) fr4
            · have skip : (a = q ∨ b = q) → fc_W X 0 0 159 (fc_H A4 F2) 120 [some (vR 17), some (vR 3), some (vI q), some (vI (fb_oth n q)), some (vI a), some (vI b), y2, y3] [] := by
                intro h
                refine fc_iinc C dX1_takeWhole_120 rfl (by decide) ?_
                refine fc_goto (tgt := 34) C dX1_takeWhole_123 (by decide) ?_
                exact ih2 (b + 1) A4 _ _ (by omega) (by omega) (by omega) M4 (fun i j i0 i1 j0 x y => hc4 i j i0 (by omega) j0 x y) fr4
              refine fc_iload C dX1_takeWhole_43 rfl ?_
              refine fc_aload_n C dX1_takeWhole_45 rfl rfl ?_
              refine fh_getf C dX1_takeWhole_46 fl_X1_39 rfl rfl ?_
              refine fc_icmp_eq (tgt := 120) C dX1_takeWhole_49 (by decide) (fc_Rm (by omega)) (fc_Rm (by omega)) (fun c49 => ?_) (fun c49 => ?_)
              · exact skip (by omega)
              · refine fc_iload C dX1_takeWhole_52 rfl ?_
                refine fc_aload_n C dX1_takeWhole_54 rfl rfl ?_
                refine fh_getf C dX1_takeWhole_55 fl_X1_39 rfl rfl ?_
                refine fc_icmp_eq (tgt := 120) C dX1_takeWhole_58 (by decide) (fc_Rm (by omega)) (fc_Rm (by omega)) (fun c58 => ?_) (fun c58 => ?_)
                · exact skip (by omega)
                · have hA := fb_outs ho.1 ho.2 z0 (show a < 5 by omega)
                  have hB := fb_outs ho.1 ho.2 w0 (show b < 5 by omega)
                  have eo : fb_out (fb_all n) q = fb_oth n q := rfl
                  rw [eo] at hA hB
                  have hM := c_minor M4 hg hn (R := fb_out (fb_oth n q) a) hA.2.1 hA.2.2 n.toNat (fb_out (fb_oth n q) b) (by omega) hB.2.1 hB.2.2
                  rw [show n - ((n.toNat : Nat) : Int) = 0 by omega] at hM
                  refine fc_aload_n C dX1_takeWhole_61 rfl rfl ?_
                  refine fc_iload_n C dX1_takeWhole_62 rfl rfl ?_
                  refine fc_iconst C dX1_takeWhole_63 ?_
                  refine fc_iload C dX1_takeWhole_64 rfl ?_
                  refine fc_ishl C dX1_takeWhole_66 ?_
                  refine fc_iconst C dX1_takeWhole_67 ?_
                  refine fc_ixor C dX1_takeWhole_68 ?_
                  refine fc_iand C dX1_takeWhole_69 ?_
                  refine fc_iload_n C dX1_takeWhole_70 rfl rfl ?_
                  refine fc_iconst C dX1_takeWhole_71 ?_
                  refine fc_iload C dX1_takeWhole_72 rfl ?_
                  refine fc_ishl C dX1_takeWhole_74 ?_
                  refine fc_iconst C dX1_takeWhole_75 ?_
                  refine fc_ixor C dX1_takeWhole_76 ?_
                  refine fc_iand C dX1_takeWhole_77 ?_
                  refine fc_iconst C dX1_takeWhole_78 ?_
                  refine fc_eq (st' := [vI 0, vI (fb_out (fb_oth n q) b), vI (fb_out (fb_oth n q) a), vR 17]) rfl (by rw [fb_shl1 z0 (by omega), fb_shl1 w0 (by omega), hA.1, hB.1]) ?_
                  have hpl : 0 ≤ (if q < a then a - 1 else a) ∧ (if q < a then a - 1 else a) ≤ 5 := by split <;> omega
                  have hpl2 : 0 ≤ (if q < b then b - 1 else b) ∧ (if q < b then b - 1 else b) ≤ 5 := by split <;> omega
                  have htm : fc_R (((if q < a then a - 1 else a) + (if q < b then b - 1 else b)).tmod 2) := by
                    have h1 := Int.tmod_nonneg (a := (if q < a then a - 1 else a) + (if q < b then b - 1 else b)) 2 (by omega)
                    have h2 := Int.tmod_lt_of_pos ((if q < a then a - 1 else a) + (if q < b then b - 1 else b)) (show (0 : Int) < 2 by decide)
                    exact fc_Rm (by omega)
                  have put : ∀ z : Int, z = d_cf L n q a b → fc_W X 0 0 159 (fc_H A4 F2) 119 [some (vR 17), some (vR 3), some (vI q), some (vI (fb_oth n q)), some (vI a), some (vI b), some (vL (d_mi (s_M L n) n (fb_out (fb_oth n q) a) n.toNat (fb_out (fb_oth n q) b))), none] [vL z, vI b, vR (25 + a.toNat)] := by
                    intro z hz
                    refine fh_lastore C dX1_takeWhole_119 (fS_25 z0 (by omega)) (by omega) (by omega) (by decide) ?_
                    refine fc_iinc C dX1_takeWhole_120 rfl (by decide) ?_
                    refine fc_goto (tgt := 34) C dX1_takeWhole_123 (by decide) ?_
                    refine ih2 (b + 1) _ _ _ (by omega) (by omega) (by omega) (M4.fr hn (fun i i0 i1 => fa_n _ _ (by omega)) rfl rfl) (fun i j i0 i1 j0 x y => ?_) (fun i hi => ⟨by rw [fa_n _ _ (by omega)]; exact (fr4 i hi).1, (fr4 i hi).2⟩)
                    by_cases e : i = a
                    · rw [e, fa_s]
                      unfold fc_set
                      by_cases e2 : j = b
                      · rw [if_pos e2, e2, hz]
                      · rw [if_neg e2, ← e]; exact hc4 i j i0 (by omega) j0 x y
                    · rw [fa_n _ _ (by omega)]; exact hc4 i j i0 (by omega) j0 x y
                  refine fh_callV (y := mX1_minor) C dX1_takeWhole_79 ml_X1_68 mi_X1_minor im_X1_minor se_X1_minor hM rfl rfl (by omega) rfl (Nat.le_of_ble_eq_true rfl) (Nat.zero_le _) (Nat.zero_le _) rfl ?_
                  refine fc_lstore C dX1_takeWhole_82 (by decide) ?_
                  refine fc_aload_n C dX1_takeWhole_84 rfl rfl ?_
                  refine fh_getf C dX1_takeWhole_85 fl_X1_18 rfl rfl ?_
                  refine fc_iload C dX1_takeWhole_88 rfl ?_
                  refine fh_aaload C dX1_takeWhole_90 (Or.inr (Or.inl rfl)) rfl (by omega) (by omega) (by decide) (fg_25 a) ?_
                  refine fc_iload C dX1_takeWhole_91 rfl ?_
                  refine fc_aload_n C dX1_takeWhole_93 rfl rfl ?_
                  refine fc_iload C dX1_takeWhole_94 rfl ?_
                  refine fh_callV (y := mX1_placeOf) C dX1_takeWhole_96 ml_X1_72 mi_X1_placeOf im_X1_placeOf se_X1_placeOf (c_placeOf M4 hn hq ⟨z0, by omega⟩) rfl rfl (by decide) rfl (Nat.le_of_ble_eq_true rfl) (Nat.zero_le _) (Nat.zero_le _) rfl ?_
                  refine fc_aload_n C dX1_takeWhole_99 rfl rfl ?_
                  refine fc_iload C dX1_takeWhole_100 rfl ?_
                  refine fh_callV (y := mX1_placeOf) C dX1_takeWhole_102 ml_X1_72 mi_X1_placeOf im_X1_placeOf se_X1_placeOf (c_placeOf M4 hn hq ⟨w0, by omega⟩) rfl rfl (by decide) rfl (Nat.le_of_ble_eq_true rfl) (Nat.zero_le _) (Nat.zero_le _) rfl ?_
                  refine fc_iadd C dX1_takeWhole_105 ?_
                  refine fc_iconst C dX1_takeWhole_106 ?_
                  refine fc_irem C dX1_takeWhole_107 (fc_Rm (by omega)) (fc_Rm (by omega)) (by omega) ?_
                  refine fc_if_ne (tgt := 116) C dX1_takeWhole_108 (by decide) (htm) (fun c108 => ?_) (fun c108 => ?_)
                  · refine fc_lload C dX1_takeWhole_116 rfl ?_
                    refine fc_lneg C dX1_takeWhole_118 ?_
                    refine put _ ?_
                    unfold d_cf d_pl
                    rw [if_neg c108]
                  · refine fc_lload C dX1_takeWhole_111 rfl ?_
                    refine fc_goto (tgt := 119) C dX1_takeWhole_113 (by decide) ?_
                    refine put _ ?_
                    unfold d_cf d_pl
                    rw [if_pos (by omega)]
        refine fc_iconst C dX1_takeWhole_31 ?_
        refine fc_istore C dX1_takeWhole_32 (by decide) ?_
        exact loop2 6 0 A3 _ _ (by omega) (by omega) (by omega) M3 (fun i j i0 i1 j0 x y => by
          rcases i1 with i1 | i1
          · exact hc i j i0 i1.1 j0 i1.2 x y
          · exfalso; omega) fr3
  exact loop1 6 0 A1 _ _ _ (by omega) (by omega) (by omega) M2 (fun i j i0 i1 => by exfalso; omega) fr2
end GW
