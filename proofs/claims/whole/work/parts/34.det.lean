/-! determinants as the class takes them -/
def d_sg (S : Int) : Nat → Int
  | 0 => 1
  | c + 1 => if fb_t S c = 1 then - d_sg S c else d_sg S c
/-- S without the point p -/
def fb_out (S p : Int) : Int := if fb_t S p = 1 then S - 2 ^ p.toNat else S
/-- the rows of R from n - k on, and the columns of S -/
def d_mi (M : Int → Int → Int) (n R : Int) : Nat → Int → Int
  | 0, _ => 1
  | k + 1, S => if fb_t R (n - (k + 1)) = 1 then fs_sum (fun c => if fb_t S c = 1 then d_sg S c.toNat * M (n - (k + 1)) c * d_mi M n R k (fb_out S c) else 0) n.toNat else d_mi M n R k S
theorem fb_outs {s p : Int} (h0 : 0 ≤ s) (h1 : s < 32) (h2 : 0 ≤ p) (h3 : p < 5) : fc_and s (fc_xor (2 ^ p.toNat) (-1)) = fb_out s p ∧ 0 ≤ fb_out s p ∧ fb_out s p < 32 := by
  have key : ∀ s : Fin 32, ∀ p : Fin 5, fc_and ((s.val : Nat) : Int) (fc_xor (2 ^ ((p.val : Nat) : Int).toNat) (-1)) = fb_out ((s.val : Nat) : Int) ((p.val : Nat) : Int) ∧ 0 ≤ fb_out ((s.val : Nat) : Int) ((p.val : Nat) : Int) ∧ fb_out ((s.val : Nat) : Int) ((p.val : Nat) : Int) < 32 := by decide +kernel
  have := key ⟨s.toNat, by omega⟩ ⟨p.toNat, by omega⟩
  simp only [Int.toNat_of_nonneg h0, Int.toNat_of_nonneg h2] at this
  exact this
theorem fb_out_t {s p o : Int} (h0 : 0 ≤ s) (h1 : s < 32) (h2 : 0 ≤ p) (h3 : p < 5) (h4 : 0 ≤ o) (h5 : o < 5) : fb_t (fb_out s p) o = if o = p then 0 else fb_t s o := by
  have key : ∀ s : Fin 32, ∀ p : Fin 5, ∀ o : Fin 5, fb_t (fb_out ((s.val : Nat) : Int) ((p.val : Nat) : Int)) ((o.val : Nat) : Int) = if ((o.val : Nat) : Int) = ((p.val : Nat) : Int) then 0 else fb_t ((s.val : Nat) : Int) ((o.val : Nat) : Int) := by decide +kernel
  have := key ⟨s.toNat, by omega⟩ ⟨p.toNat, by omega⟩ ⟨o.toNat, by omega⟩
  simp only [Int.toNat_of_nonneg h0, Int.toNat_of_nonneg h2, Int.toNat_of_nonneg h4] at this
  exact this
theorem d_sg_1 {S : Int} : ∀ {c : Nat}, d_sg S c = 1 ∨ d_sg S c = -1
  | 0 => Or.inl rfl
  | c + 1 => by
    have ih := d_sg_1 (S := S) (c := c)
    unfold d_sg
    split <;> omega
/-- all points but q -/
def fb_oth (n q : Int) : Int := fb_out (fb_all n) q
section DET
variable {A : Nat → Int → Int} {F : Nat → Nat → Int} {L : Int → Int → Int} {n q : Int}
theorem c_othersThanSink (M : k_mx A F n q L) (hn : 2 ≤ n ∧ n ≤ 5) (hq : 0 ≤ q ∧ q < n) : fh_M mX1_othersThanSink 0 [vR 17] A F (some (vI (fb_oth n q))) A F := by
  obtain ⟨e6, e7, -⟩ := M
  have hb := fb_all_bd (n := n) (by omega) (by omega)
  refine fh_M.of mi_X1_othersThanSink (Nat.le_of_ble_eq_true rfl) ?_
  intro X C T
  refine fc_iconst C dX1_othersThanSink_0 ?_
  refine fc_aload_n C dX1_othersThanSink_1 rfl rfl ?_
  refine fh_getf C dX1_othersThanSink_2 fl_X1_35 rfl rfl ?_
  refine fc_ishl C dX1_othersThanSink_5 ?_
  refine fc_iconst C dX1_othersThanSink_6 ?_
  refine fc_isub C dX1_othersThanSink_7 ?_
  refine fc_iconst C dX1_othersThanSink_8 ?_
  refine fc_aload_n C dX1_othersThanSink_9 rfl rfl ?_
  refine fh_getf C dX1_othersThanSink_10 fl_X1_39 rfl rfl ?_
  refine fc_ishl C dX1_othersThanSink_13 ?_
  refine fc_iconst C dX1_othersThanSink_14 ?_
  refine fc_ixor C dX1_othersThanSink_15 ?_
  refine fc_iand C dX1_othersThanSink_16 ?_
  refine fh_iret C T dX1_othersThanSink_17 ?_ rfl
  rw [e6, e7, fb_shl1 (by omega) (by omega), fb_shl1 (by omega) (by omega)]
  have := (fb_outs hb.1 hb.2 hq.1 (by omega)).1
  show some (vI (fc_and (fb_all n) _)) = _
  rw [this]
  rfl
theorem c_placeOf (M : k_mx A F n q L) (hn : 2 ≤ n ∧ n ≤ 5) (hq : 0 ≤ q ∧ q < n) {p : Int} (hp : 0 ≤ p ∧ p < n) : fh_M mX1_placeOf 0 [vR 17, vI p] A F (some (vI (if q < p then p - 1 else p))) A F := by
  obtain ⟨e6, e7, -⟩ := M
  refine fh_M.of mi_X1_placeOf (Nat.le_of_ble_eq_true rfl) ?_
  intro X C T
  refine fc_iload_n C dX1_placeOf_0 rfl rfl ?_
  refine fc_aload_n C dX1_placeOf_1 rfl rfl ?_
  refine fh_getf C dX1_placeOf_2 fl_X1_39 rfl rfl ?_
  refine fc_icmp_le (tgt := 14) C dX1_placeOf_5 (by decide) (fc_Rm (by omega)) (fc_Rm (by omega)) (fun c5 => ?_) (fun c5 => ?_)
  · refine fc_iload_n C dX1_placeOf_14 rfl rfl ?_
    exact fh_iret C T dX1_placeOf_15 (by rw [if_neg (by omega)]) rfl
  · refine fc_iload_n C dX1_placeOf_8 rfl rfl ?_
    refine fc_iconst C dX1_placeOf_9 ?_
    refine fc_isub C dX1_placeOf_10 ?_
    refine fc_goto (tgt := 15) C dX1_placeOf_11 (by decide) ?_
    exact fh_iret C T dX1_placeOf_15 (by rw [if_pos (by omega)]) rfl
theorem c_minor (M : k_mx A F n q L) (hg : g_ok L) (hn : 2 ≤ n ∧ n ≤ 5) {R : Int} (hR0 : 0 ≤ R) (hR1 : R < 32) : ∀ (k : Nat) (S : Int), (k : Int) ≤ n → 0 ≤ S → S < 32 → fh_M mX1_minor k [vR 17, vI R, vI S, vI (n - k)] A F (some (vL (d_mi (s_M L n) n R k S))) A F := by
  obtain ⟨e6, e7, hm⟩ := id M
  intro k
  induction k with
  | zero =>
    intro S hk hS0 hS1
    refine fh_M.of mi_X1_minor (Nat.le_of_ble_eq_true rfl) ?_
    intro X C T
    refine fc_iload_n C dX1_minor_0 rfl rfl ?_
    refine fc_aload_n C dX1_minor_1 rfl rfl ?_
    refine fh_getf C dX1_minor_2 fl_X1_35 rfl rfl ?_
    refine fc_icmp_lt (tgt := 10) C dX1_minor_5 (by decide) (fc_Rm (by omega)) (fc_Rm (by omega)) (fun c5 => ?_) (fun c5 => ?_)
    · exfalso; omega
    · refine fc_lconst (z := 1) C dX1_minor_8 rfl ?_
      exact fh_lret C T dX1_minor_9 rfl rfl
  | succ k ih =>
    intro S hk hS0 hS1
    refine fh_M.of mi_X1_minor (Nat.le_of_ble_eq_true rfl) ?_
    intro X C T
    have ef : n - ((k + 1 : Nat) : Int) = n - (k + 1) := by omega
    refine fc_iload_n C dX1_minor_0 rfl rfl ?_
    refine fc_aload_n C dX1_minor_1 rfl rfl ?_
    refine fh_getf C dX1_minor_2 fl_X1_35 rfl rfl ?_
    refine fc_icmp_lt (tgt := 10) C dX1_minor_5 (by decide) (fc_Rm (by omega)) (fc_Rm (by omega)) (fun c5 => ?_) (fun c5 => ?_)
    · refine fc_iload_n C dX1_minor_10 rfl rfl ?_
      refine fc_iload_n C dX1_minor_11 rfl rfl ?_
      refine fc_ishr C dX1_minor_12 ?_
      refine fc_iconst C dX1_minor_13 ?_
      refine fc_iand C dX1_minor_14 ?_
      refine fc_eq (st' := [vI (fb_t R (n - (k + 1)))]) rfl (by rw [fb_and hR0 hR1 (by omega) (by omega), ef]) ?_
      have h01 := fb_01 R (n - (k + 1))
      refine fc_if_ne (tgt := 28) C dX1_minor_15 (by decide) (fc_Rm (by omega)) (fun c15 => ?_) (fun c15 => ?_)
      · have h1 : fb_t R (n - (k + 1)) = 1 := by omega
        have loop : ∀ (m : Nat) (c : Int) (y : Option fc_AV), 0 ≤ c → c ≤ n → n - c < m → fc_W X 0 0 159 (fc_H A F) 37 [some (vR 17), some (vI R), some (vI S), some (vI (n - ((k + 1 : Nat) : Int))), some (vL (fs_sum (fun c => if fb_t S c = 1 then d_sg S c.toNat * s_M L n (n - (k + 1)) c * d_mi (s_M L n) n R k (fb_out S c) else 0) c.toNat)), none, some (vI (d_sg S c.toNat)), some (vI c), y] [] := by
          intro m
          induction m with
          | zero => intro c y z0 z1 z2; exfalso; omega
          | succ m ihm =>
            intro c y z0 z1 z2
            have ec1 : (c + 1).toNat = c.toNat + 1 := by omega
            have ecc : ((c.toNat : Nat) : Int) = c := Int.toNat_of_nonneg z0
            refine fc_iload C dX1_minor_37 rfl ?_
            refine fc_aload_n C dX1_minor_39 rfl rfl ?_
            refine fh_getf C dX1_minor_40 fl_X1_35 rfl rfl ?_
            refine fc_icmp_ge (tgt := 111) C dX1_minor_43 (by decide) (fc_Rm (by omega)) (fc_Rm (by omega)) (fun c43 => ?_) (fun c43 => ?_)
            · have ec : c = n := by omega
              subst ec
              refine fc_lload C dX1_minor_111 rfl ?_
              refine fh_lret C T dX1_minor_113 ?_ rfl
              show _ = some (vL (if _ then _ else _))
              rw [if_pos h1]
            · refine fc_iload_n C dX1_minor_46 rfl rfl ?_
              refine fc_iload C dX1_minor_47 rfl ?_
              refine fc_ishr C dX1_minor_49 ?_
              refine fc_iconst C dX1_minor_50 ?_
              refine fc_iand C dX1_minor_51 ?_
              refine fc_eq (st' := [vI (fb_t S c)]) rfl (by rw [fb_and hS0 hS1 z0 (by omega)]) ?_
              have h02 := fb_01 S c
              refine fc_iconst C dX1_minor_52 ?_
              refine fc_icmp_ne (tgt := 105) C dX1_minor_53 (by decide) (fc_Rm (by omega)) (fc_Rm (by omega)) (fun c53 => ?_) (fun c53 => ?_)
              · refine fc_iinc C dX1_minor_105 rfl (by decide) ?_
                refine fc_goto (tgt := 37) C dX1_minor_108 (by decide) ?_
                have h3 : fb_t S c ≠ 1 := c53
                have := ihm (c + 1) y (by omega) (by omega) (by omega)
                refine fc_eq (st' := []) ?_ rfl this
                rw [fs_step z0, if_neg h3, Int.add_zero, ec1]
                have e9 : d_sg S (c.toNat + 1) = d_sg S c.toNat := by
                  show (if fb_t S ((c.toNat : Nat) : Int) = 1 then _ else _) = _
                  rw [ecc, if_neg h3]
                rw [e9]
                rfl
              · have h3 : fb_t S c = 1 := by omega
                have hsg := d_sg_1 (S := S) (c := c.toNat)
                have hMa := hm (n - (k + 1)) c (by omega) (by omega) z0 (by omega)
                have hMb : -15 ≤ s_M L n (n - (k + 1)) c ∧ s_M L n (n - (k + 1)) c ≤ 15 := by
                  unfold s_M
                  split
                  · have := s_val_bd hg (n := n) (p := n - (k + 1)) (by omega) hn.2 (by omega) (by omega); omega
                  · have := hg (n - (k + 1)) c (by omega) (by omega) z0 (by omega); omega
                have hent : -15 ≤ d_sg S c.toNat * s_M L n (n - (k + 1)) c ∧ d_sg S c.toNat * s_M L n (n - (k + 1)) c ≤ 15 := by
                  rcases hsg with e | e <;> rw [e] <;> omega
                have e9 : d_sg S (c.toNat + 1) = - d_sg S c.toNat := by
                  show (if fb_t S ((c.toNat : Nat) : Int) = 1 then _ else _) = _
                  rw [ecc, if_pos h3]
                have nxt : ∀ (x : Int) (y : Option fc_AV), x = fs_sum (fun c => if fb_t S c = 1 then d_sg S c.toNat * s_M L n (n - (k + 1)) c * d_mi (s_M L n) n R k (fb_out S c) else 0) (c + 1).toNat → fc_W X 0 0 159 (fc_H A F) 100 [some (vR 17), some (vI R), some (vI S), some (vI (n - ((k + 1 : Nat) : Int))), some (vL x), none, some (vI (d_sg S c.toNat)), some (vI c), y] [] := by
                  intro x y ex
                  refine fc_iload C dX1_minor_100 rfl ?_
                  refine fc_ineg C dX1_minor_102 ?_
                  refine fc_istore C dX1_minor_103 (by decide) ?_
                  refine fc_iinc C dX1_minor_105 rfl (by decide) ?_
                  refine fc_goto (tgt := 37) C dX1_minor_108 (by decide) ?_
                  have := ihm (c + 1) y (by omega) (by omega) (by omega)
                  refine fc_eq (st' := []) ?_ rfl this
                  rw [ex, ec1, e9]
                  rfl
                refine fc_iload C dX1_minor_56 rfl ?_
                refine fc_aload_n C dX1_minor_58 rfl rfl ?_
                refine fh_getf C dX1_minor_59 fl_X1_11 rfl rfl ?_
                refine fc_iload_n C dX1_minor_62 rfl rfl ?_
                refine fh_aaload C dX1_minor_63 (Or.inl rfl) rfl (by omega) (by omega) (by decide) (fg_19 (n - ((k + 1 : Nat) : Int))) ?_
                refine fc_iload C dX1_minor_64 rfl ?_
                refine fh_iaload C dX1_minor_66 (fS_19 (p := n - ((k + 1 : Nat) : Int)) (by omega) (by omega)) (by omega) (by omega) (by decide) ?_
                rw [ef]
                refine fc_eq (st' := [vI (s_M L n (n - (k + 1)) c), vI (d_sg S c.toNat)]) rfl (by rw [hMa]) ?_
                refine fc_imul C dX1_minor_67 ?_
                refine fc_istore C dX1_minor_68 (by decide) ?_
                refine fc_iload C dX1_minor_70 rfl ?_
                refine fc_if_eq (tgt := 100) C dX1_minor_72 (by decide) (fc_Rm (by omega)) (fun c72 => ?_) (fun c72 => ?_)
                · refine nxt _ _ ?_
                  rw [fs_step z0, if_pos h3, c72, Int.zero_mul, Int.add_zero]
                · have hout := fb_outs hS0 hS1 z0 (show c < 5 by omega)
                  refine fc_lload C dX1_minor_75 rfl ?_
                  refine fc_iload C dX1_minor_77 rfl ?_
                  refine fc_i2l C dX1_minor_79 (fc_Rm (by omega)) ?_
                  refine fc_aload_n C dX1_minor_80 rfl rfl ?_
                  refine fc_iload_n C dX1_minor_81 rfl rfl ?_
                  refine fc_iload_n C dX1_minor_82 rfl rfl ?_
                  refine fc_iconst C dX1_minor_83 ?_
                  refine fc_iload C dX1_minor_84 rfl ?_
                  refine fc_ishl C dX1_minor_86 ?_
                  refine fc_iconst C dX1_minor_87 ?_
                  refine fc_ixor C dX1_minor_88 ?_
                  refine fc_iand C dX1_minor_89 ?_
                  refine fc_iload_n C dX1_minor_90 rfl rfl ?_
                  refine fc_iconst C dX1_minor_91 ?_
                  refine fc_iadd C dX1_minor_92 ?_
                  refine fc_eq (st' := [vI (n - k), vI (fb_out S c), vI R, vR 17, vL (d_sg S c.toNat * s_M L n (n - (k + 1)) c), vL (fs_sum (fun c => if fb_t S c = 1 then d_sg S c.toNat * s_M L n (n - (k + 1)) c * d_mi (s_M L n) n R k (fb_out S c) else 0) c.toNat)]) rfl (by rw [fb_shl1 z0 (by omega), hout.1, show n - ((k : Int) + 1) + 1 = n - k by omega]) ?_
                  refine fh_callV (y := mX1_minor) C dX1_minor_93 ml_X1_68 mi_X1_minor im_X1_minor se_X1_minor (ih (fb_out S c) (by omega) hout.2.1 hout.2.2) rfl rfl (Nat.lt_succ_self k) rfl (Nat.le_of_ble_eq_true rfl) (Nat.zero_le _) (Nat.zero_le _) rfl ?_
                  refine fc_lmul C dX1_minor_96 ?_
                  refine fc_ladd C dX1_minor_97 ?_
                  refine fc_lstore C dX1_minor_98 (by decide) ?_
                  refine nxt _ _ ?_
                  rw [fs_step z0, if_pos h3]
        refine fc_lconst (z := 0) C dX1_minor_28 rfl ?_
        refine fc_lstore C dX1_minor_29 (by decide) ?_
        refine fc_iconst C dX1_minor_31 ?_
        refine fc_istore C dX1_minor_32 (by decide) ?_
        refine fc_iconst C dX1_minor_34 ?_
        refine fc_istore C dX1_minor_35 (by decide) ?_
        exact loop 6 0 none (by omega) (by omega) (by omega)
      · have h1 : fb_t R (n - (k + 1)) = 0 := by omega
        refine fc_aload_n C dX1_minor_18 rfl rfl ?_
        refine fc_iload_n C dX1_minor_19 rfl rfl ?_
        refine fc_iload_n C dX1_minor_20 rfl rfl ?_
        refine fc_iload_n C dX1_minor_21 rfl rfl ?_
        refine fc_iconst C dX1_minor_22 ?_
        refine fc_iadd C dX1_minor_23 ?_
        refine fc_eq (st' := [vI (n - k), vI S, vI R, vR 17]) rfl (by rw [show n - ((k + 1 : Nat) : Int) + 1 = n - k by omega]) ?_
        refine fh_callV (y := mX1_minor) C dX1_minor_24 ml_X1_68 mi_X1_minor im_X1_minor se_X1_minor (ih S (by omega) hS0 hS1) rfl rfl (Nat.lt_succ_self k) rfl (Nat.le_of_ble_eq_true rfl) (Nat.zero_le _) (Nat.zero_le _) rfl ?_
        refine fh_lret C T dX1_minor_27 ?_ rfl
        show _ = some (vL (if _ then _ else _))
        rw [if_neg (by omega)]
    · exfalso; omega
theorem c_treeCount (M : k_mx A F n q L) (hg : g_ok L) (hn : 2 ≤ n ∧ n ≤ 5) (hq : 0 ≤ q ∧ q < n) : fh_M mX1_treeCount 6 [vR 17] A F (some (vL (d_mi (s_M L n) n (fb_oth n q) n.toNat (fb_oth n q)))) A F := by
  have hb := fb_all_bd (n := n) (by omega) (by omega)
  have ho := (fb_outs hb.1 hb.2 hq.1 (show q < 5 by omega)).2
  have hM := c_minor M hg hn (R := fb_oth n q) ho.1 ho.2 n.toNat (fb_oth n q) (by omega) ho.1 ho.2
  rw [show n - ((n.toNat : Nat) : Int) = 0 by omega] at hM
  refine fh_M.of mi_X1_treeCount (Nat.le_of_ble_eq_true rfl) ?_
  intro X C T
  refine fc_aload_n C dX1_treeCount_0 rfl rfl ?_
  refine fh_callV (y := mX1_othersThanSink) C dX1_treeCount_1 ml_X1_64 mi_X1_othersThanSink im_X1_othersThanSink se_X1_othersThanSink (c_othersThanSink M hn hq) rfl rfl (by decide) rfl (Nat.le_of_ble_eq_true rfl) (Nat.zero_le _) (Nat.zero_le _) rfl ?_
  refine fc_istore_n C dX1_treeCount_4 rfl (by decide) ?_
  refine fc_aload_n C dX1_treeCount_5 rfl rfl ?_
  refine fc_iload_n C dX1_treeCount_6 rfl rfl ?_
  refine fc_iload_n C dX1_treeCount_7 rfl rfl ?_
  refine fc_iconst C dX1_treeCount_8 ?_
  refine fh_callV (y := mX1_minor) C dX1_treeCount_9 ml_X1_68 mi_X1_minor im_X1_minor se_X1_minor hM rfl rfl (by omega) rfl (Nat.le_of_ble_eq_true rfl) (Nat.zero_le _) (Nat.zero_le _) rfl ?_
  exact fh_lret C T dX1_treeCount_12 rfl rfl
end DET
