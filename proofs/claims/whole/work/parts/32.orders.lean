/-! all ORDERS of THE TEXT, and doing them -/
def t_ch (tx : Int → Int) (tl m : Int) : Nat → Int × Int × Int
  | 0 => (1, 0, m)
  | k + 1 => if (t_ch tx tl m k).1 = 1 then t_ord tx tl (t_ch tx tl m k).2.2 (t_sk tx tl (t_ch tx tl m k).2.1) else t_ch tx tl m k
/-- the k-th ORDER: its place, letter, points then, how many numbers, its numbers -/
def t_p (tx : Int → Int) (tl m : Int) (k : Nat) : Int := t_sk tx tl (t_ch tx tl m k).2.1
def t_l (tx : Int → Int) (tl m : Int) (k : Nat) : Int := t_b tx tl (t_p tx tl m k)
def t_m (tx : Int → Int) (tl m : Int) (k : Nat) : Int := (t_ch tx tl m k).2.2
def t_c (tx : Int → Int) (tl m : Int) (k : Nat) : Int := t_cnt (t_l tx tl m k) (t_m tx tl m k)
def t_n (tx : Int → Int) (tl m : Int) (k : Nat) : Int → Int := (t_oN tx tl (t_m tx tl m k) (t_p tx tl m k)).2.2
def t_of (tx : Int → Int) (tl m : Int) : Nat → Int
  | 0 => 0
  | k + 1 => t_of tx tl m k + 1 + t_c tx tl m k
def t_end (tx : Int → Int) (tl m : Int) (K : Nat) (flt : Int) : Prop := (∀ k : Nat, k ≤ K → (t_ch tx tl m k).1 = 1) ∧ (∀ k : Nat, 1 ≤ k → k < K → t_p tx tl m k < tl) ∧ ((flt = -1 ∧ 1 ≤ K ∧ tl ≤ t_p tx tl m K) ∨ ((t_ch tx tl m (K + 1)).1 ≠ 1 ∧ (K = 0 ∨ t_p tx tl m K < tl) ∧ flt = (t_ch tx tl m (K + 1)).2.1))
theorem t_end_uniq {tx : Int → Int} {tl m : Int} {K K' : Nat} {f f' : Int} (h : t_end tx tl m K f) (h' : t_end tx tl m K' f') : K = K' ∧ f = f' := by
  have key : ∀ {K K' : Nat} {f f' : Int}, t_end tx tl m K f → t_end tx tl m K' f' → ¬ K < K' := by
    intro K K' f f' h h' hl
    rcases h.2.2 with ⟨-, a, b⟩ | ⟨a, -, -⟩
    · have := h'.2.1 K a hl
      omega
    · exact a (h'.1 (K + 1) (by omega))
  have e : K = K' := by
    have := key h h'
    have := key h' h
    omega
  subst e
  refine ⟨rfl, ?_⟩
  rcases h.2.2 with ⟨a1, a2, a3⟩ | ⟨a1, a2, a3⟩ <;> rcases h'.2.2 with ⟨b1, b2, b3⟩ | ⟨b1, b2, b3⟩
  · omega
  · omega
  · omega
  · omega
theorem t_ch_bd {tx : Int → Int} {tl m : Int} (hm : 2 ≤ m ∧ m ≤ 5) (htl : 0 ≤ tl) : ∀ {k : Nat}, (t_ch tx tl m k).1 = 1 → 0 ≤ (t_ch tx tl m k).2.1 ∧ (t_ch tx tl m k).2.1 ≤ tl ∧ 2 ≤ t_m tx tl m k ∧ t_m tx tl m k ≤ 5
  | 0, _ => ⟨Int.le_refl 0, htl, hm⟩
  | k + 1, h => by
    unfold t_m
    unfold t_ch at h ⊢
    split at h
    · rename_i g
      rw [if_pos g]
      have ih := t_ch_bd hm htl g
      have hs := t_sk_bd (tx := tx) ih.2.1
      have ho := t_ord_bd (tx := tx) (tl := tl) (m := (t_ch tx tl m k).2.2) (i := t_sk tx tl (t_ch tx tl m k).2.1) (by omega) hs.2.1 ih.2.2
      obtain ⟨a1, a2, a3, a4, a5, a6⟩ := ho.1 h
      exact ⟨ho.2, a4, a5, a6⟩
    · rename_i g
      exact absurd h g
theorem t_ord_le {tx : Int → Int} {tl m i : Int} (hi0 : 0 ≤ i) (hi : i ≤ tl) : (t_ord tx tl m i).2.1 ≤ tl := by
  unfold t_ord
  split
  · exact hi
  · rename_i g0
    have hlt := t_cnt_lt (tx := tx) (tl := tl) (m := m) (i := i) (by omega)
    have hN := t_oN_bd (tx := tx) (tl := tl) (m := m) (i := i) (by omega)
    split
    · exact hN.2
    · split
      · exact (t_sk_bd (tx := tx) (by omega)).2.1
      · have hs := t_sk_bd (tx := tx) hN.2
        split
        · exact hs.2.1
        · rename_i g3
          have h59 : t_sk tx tl (t_oN tx tl m i).2.1 < tl := t_b_lt (tx := tx) (fun q => g3 (by rw [q]; decide))
          show t_sk _ _ _ + 1 ≤ tl
          omega
theorem t_ch_step {tx : Int → Int} {tl m : Int} {k : Nat} (h : (t_ch tx tl m k).1 = 1) : t_ch tx tl m (k + 1) = t_ord tx tl (t_m tx tl m k) (t_p tx tl m k) := if_pos h
theorem t_c_ok {tx : Int → Int} {tl m : Int} (hm : 2 ≤ m ∧ m ≤ 5) (htl : 0 ≤ tl) {k : Nat} (h : (t_ch tx tl m k).1 = 1) (h' : (t_ch tx tl m (k + 1)).1 = 1) : 0 ≤ t_c tx tl m k ∧ t_c tx tl m k ≤ 5 := by
  have hb := t_ch_bd hm htl h
  have hs := t_sk_bd (tx := tx) hb.2.1
  rw [t_ch_step h] at h'
  have ho := t_ord_bd (tx := tx) (tl := tl) (m := t_m tx tl m k) (i := t_p tx tl m k) (by unfold t_p; omega) hs.2.1 hb.2.2
  have := ho.1 h'
  exact ⟨this.1, (t_cnt_bd hb.2.2).2⟩
/-- the items lie so -/
def t_ly (tx : Int → Int) (tl m : Int) (it : Int → Int) (K : Nat) : Prop := ∀ k : Nat, k < K → it (t_of tx tl m k) = t_l tx tl m k ∧ ∀ j : Int, 0 ≤ j → j < t_c tx tl m k → it (t_of tx tl m k + 1 + j) = t_n tx tl m k j
/-- what an ORDER comes to, and does -/
noncomputable def e_x (c : Int) (a v : Int → Int) : Int := if c = 110 then x_pts v (a 0) else if c = 108 then x_ln v (a 0) (a 1) (a 2) else if c = 102 then x_one v (a 0) 1 else if c = 98 then x_one v (a 0) (-1) else if c = 122 then x_stl v else if c = 97 then x_add v (a 0) (a 1) else 0
noncomputable def e_p (c : Int) (a v : Int → Int) : Int → Int := if c = 110 then p_pts v (a 0) else if c = 108 then p_ln v (a 0) (a 1) (a 2) else if c = 102 then p_fire v (2 ^ (a 0).toNat) 1 else if c = 98 then p_fire v (2 ^ (a 0).toNat) (-1) else if c = 122 then p_stl v else if c = 97 then p_set v (26 + a 0) (v (26 + a 0) + a 1) else p_ch v a
noncomputable def e_ch (tx : Int → Int) (tl m : Int) (v : Int → Int) : Nat → Int → Int
  | 0 => v
  | k + 1 => e_p (t_l tx tl m k) (t_n tx tl m k) (e_ch tx tl m v k)
noncomputable def e_X (tx : Int → Int) (tl m : Int) (v : Int → Int) (k : Nat) : Int := e_x (t_l tx tl m k) (t_n tx tl m k) (e_ch tx tl m v k)
def e_end (tx : Int → Int) (tl m : Int) (v : Int → Int) (K : Nat) (s : Int) : Prop := (s = -1 ∧ ∀ k : Nat, k < K → e_X tx tl m v k = 0) ∨ ∃ j : Nat, s = j ∧ j < K ∧ (∀ k : Nat, k < j → e_X tx tl m v k = 0) ∧ e_X tx tl m v j ≠ 0
theorem e_end_uniq {tx : Int → Int} {tl m : Int} {v : Int → Int} {K : Nat} {s s' : Int} (h : e_end tx tl m v K s) (h' : e_end tx tl m v K s') : s = s' := by
  rcases h with ⟨a1, a2⟩ | ⟨j, a1, a2, a3, a4⟩ <;> rcases h' with ⟨b1, b2⟩ | ⟨i, b1, b2, b3, b4⟩
  · omega
  · exact absurd (a2 i b2) b4
  · exact absurd (b2 j a2) a4
  · by_cases q : j < i
    · exact absurd (b3 j q) a4
    · by_cases q2 : i < j
      · exact absurd (a3 i q2) b4
      · omega
theorem e_ok {c : Int} {a v : Int → Int} (hv : v_ok v) (ha : ∀ j : Int, -999 ≤ a j ∧ a j ≤ 999) (h : e_x c a v = 0) : v_ok (e_p c a v) ∧ e_p c a v 0 = if c = 110 then a 0 else v 0 := by
  have hn := hv.n
  unfold e_x at h
  unfold e_p
  split
  · rename_i g
    rw [if_pos g] at h
    have := x_pts_0 h
    exact ⟨v_ok_pts hv this.1 this.2, by rw [p_pts_at, if_pos rfl]⟩
  · rename_i g
    rw [if_neg g] at h
    split
    · rename_i g1
      rw [if_pos g1] at h
      obtain ⟨q1, q2, q3, q4, q5⟩ := x_ln_0 h
      exact ⟨v_ok_ln hv q1.1 (by omega) q2.1 (by omega) q3 q4 q5, by rw [p_ln_at, if_neg (by omega)]⟩
    · rename_i g1
      rw [if_neg g1] at h
      split
      · rename_i g2
        rw [if_pos g2] at h
        have := x_one_0 h
        exact ⟨v_ok_fire hv this.2, by unfold p_fire; rw [p_ch_at, if_neg (by omega)]⟩
      · rename_i g2
        rw [if_neg g2] at h
        split
        · rename_i g3
          rw [if_pos g3] at h
          have := x_one_0 h
          exact ⟨v_ok_fire hv this.2, by unfold p_fire; rw [p_ch_at, if_neg (by omega)]⟩
        · rename_i g3
          rw [if_neg g3] at h
          split
          · rename_i g4
            rw [if_pos g4] at h
            refine ⟨v_ok_stl hv h, ?_⟩
            unfold p_stl
            rw [p_fs_at, if_neg (by omega), p_ch_at, if_neg (by omega)]
          · rename_i g4
            rw [if_neg g4] at h
            split
            · rename_i g5
              rw [if_pos g5] at h
              obtain ⟨q1, q2, q3⟩ := x_add_0 h
              exact ⟨v_ok_set hv q1.1 q1.2 q3.1 q3.2, by rw [p_set_at, if_neg (by omega)]⟩
            · exact ⟨v_ok_ch hv (fun p _ _ => ha p), by rw [p_ch_at, if_neg (by omega)]⟩
section ORD
variable {A : Nat → Int → Int} {F : Nat → Nat → Int} {tx : Int → Int} {tl : Int} {it : Int → Int} {ic dn oc i fl pt : Int} {v : Int → Int} {ps : Int → Int → Int} {st : Int} {rf : Int → Int}
theorem c_parse (K : k_T A F tx tl it ic dn oc i fl pt) {m : Int} (hm : 2 ≤ m ∧ m ≤ 5) : fh_E mX5_parse 4 [vR 139, vI m] A F (fun r A' F' => ∃ (K : Nat) (flt : Int), t_end tx tl m K flt ∧ r = some (vI flt) ∧ k_tf A F A' F' ∧ 0 ≤ flt + 1 ∧ flt ≤ 120 ∧ ∃ (it' : Int → Int) (ic' at' fl' pt' : Int), k_T A' F' tx tl it' ic' dn K at' fl' pt' ∧ (flt = -1 → ic' = t_of tx tl m K ∧ ic' ≤ 120 ∧ t_ly tx tl m it' K)) := by
  have htl := K.1.2.2.1
  have htl0 := K.1.2.1
  refine fh_E.of mi_X5_parse (Nat.le_of_ble_eq_true rfl) ?_
  intro X C T
  have loop : ∀ (z : Nat) (u : Nat) (A1 : Nat → Int → Int) (F1 : Nat → Nat → Int) (it1 : Int → Int), tl - (t_ch tx tl m u).2.1 < z → (∀ k : Nat, k ≤ u → (t_ch tx tl m k).1 = 1) → (∀ k : Nat, 1 ≤ k → k < u → t_p tx tl m k < tl) → (u : Int) ≤ t_of tx tl m u → t_of tx tl m u + u ≤ (t_ch tx tl m u).2.1 → ((u : Int) = 0 → t_of tx tl m u = 0) → k_T A1 F1 tx tl it1 (t_of tx tl m u) dn u (t_ch tx tl m u).2.1 (-1) (t_m tx tl m u) → t_ly tx tl m it1 u → k_tf A F A1 F1 → fc_W X 0 0 159 (fc_H A1 F1) 27 [some (vR 139), some (vI m), some (vI u)] [] := by
    intro z
    induction z with
    | zero =>
      intro u A1 F1 it1 h1 h2
      have := t_ch_bd hm htl0 (h2 u (by omega))
      exfalso; omega
    | succ z ih =>
      intro u A1 F1 it1 h1 h2 h3 h4 h5 h6 K1 L1 fr1
      obtain ⟨b1, b2, b3, b4⟩ := t_ch_bd hm htl0 (h2 u (by omega))
      have hs := t_sk_bd (tx := tx) b2
      have ep : t_sk tx tl (t_ch tx tl m u).2.1 = t_p tx tl m u := rfl
      rw [ep] at hs
      refine fc_iload_n C dX5_parse_27 rfl rfl ?_
      refine fc_bipush C dX5_parse_28 (by decide) ?_
      refine fc_icmp_gt (tgt := 78) C dX5_parse_30 (by decide) (fc_Rm (by omega)) (fc_Rm (by omega)) (fun c30 => ?_) (fun c30 => ?_)
      · exfalso; omega
      · refine fc_aload_n C dX5_parse_33 rfl rfl ?_
        refine fh_callVE (y := mX5_skipBlanks) C dX5_parse_34 ml_X5_40 mi_X5_skipBlanks im_X5_skipBlanks se_X5_skipBlanks (c_skipBlanks K1 b1 b2) rfl rfl (by decide) rfl (Nat.le_of_ble_eq_true rfl) (Nat.zero_le _) (Nat.zero_le _) rfl ?_
        rintro r A2 F2 ⟨rfl, K2, fr2⟩
        refine fc_eq (st' := []) rfl rfl ?_
        have e7 := K2.2.2.2.2.2.1
        have e5 := K2.2.2.2.1
        have e6 := K2.2.2.2.2.1
        have e1 := K2.1.1
        -- one more ORDER
        have more : ((u : Int) = 0 ∨ t_p tx tl m u < tl) → fc_W X 0 0 159 (fc_H A2 F2) 68 [some (vR 139), some (vI m), some (vI u)] [] := by
          intro hmore
          rw [ep] at K2
          have hob := t_ord_bd (tx := tx) (tl := tl) (m := t_m tx tl m u) (i := t_p tx tl m u) (by omega) hs.2.1 ⟨b3, b4⟩
          have est := t_ch_step (h2 u (by omega))
          refine fc_aload_n C dX5_parse_68 rfl rfl ?_
          refine fh_callVE (y := mX5_parseOrder) C dX5_parse_69 ml_X5_43 mi_X5_parseOrder im_X5_parseOrder se_X5_parseOrder (c_parseOrder K2 (by omega) hs.2.1 (by omega) (by omega) (by omega) h6 ⟨b3, b4⟩) rfl rfl (by decide) rfl (Nat.le_of_ble_eq_true rfl) (Nat.zero_le _) (Nat.zero_le _) rfl ?_
          rintro r A3 F3 ⟨rfl, fr3, ok3, no3⟩
          refine fc_eq (st' := []) rfl rfl ?_
          by_cases q : (t_ord tx tl (t_m tx tl m u) (t_p tx tl m u)).1 = 1
          · obtain ⟨it3, K3, i1, i2, i3⟩ := ok3 q
            obtain ⟨o1, o2, o3, o4, o5, o6⟩ := hob.1 q
            have ec : t_cnt (t_b tx tl (t_p tx tl m u)) (t_m tx tl m u) = t_c tx tl m u := rfl
            rw [ec] at o1 o3 K3 i3
            have eof : t_of tx tl m (u + 1) = t_of tx tl m u + 1 + t_c tx tl m u := rfl
            refine fc_iinc C dX5_parse_72 rfl (by decide) ?_
            refine fc_goto (tgt := 27) C dX5_parse_75 (by decide) ?_
            have := ih (u + 1) A3 F3 it3 (by rw [est]; omega) (fun k hk => by
              by_cases e : k = u + 1
              · rw [e, est]; exact q
              · exact h2 k (by omega)) (fun k k0 k1 => by
              by_cases e : k = u
              · rw [e]; omega
              · exact h3 k k0 (by omega)) (by rw [eof]; omega) (by rw [eof, est]; omega) (fun e => by omega) (by
                rw [eof]
                unfold t_m
                rw [est]
                rw [show ((u + 1 : Nat) : Int) = (u : Int) + 1 by omega]
                exact K3) (fun k hk => by
              by_cases e : k = u
              · rw [e]
                exact ⟨i2, i3⟩
              · have hL := L1 k (by omega)
                have hmono : ∀ d : Nat, k + 1 + d ≤ u → t_of tx tl m (k + 1) ≤ t_of tx tl m (k + 1 + d) := by
                  intro d
                  induction d with
                  | zero => intro _; exact Int.le_refl _
                  | succ d ihd =>
                    intro hd
                    have h7 := ihd (by omega)
                    have e8 : t_of tx tl m (k + 1 + d + 1) = t_of tx tl m (k + 1 + d) + 1 + t_c tx tl m (k + 1 + d) := rfl
                    have h9 := t_c_ok hm htl0 (h2 (k + 1 + d) (by omega)) (h2 (k + 1 + d + 1) (by omega))
                    show _ ≤ t_of tx tl m (k + 1 + d + 1)
                    omega
                have h10 := hmono (u - (k + 1)) (by omega)
                rw [show k + 1 + (u - (k + 1)) = u by omega] at h10
                have e11 : t_of tx tl m (k + 1) = t_of tx tl m k + 1 + t_c tx tl m k := rfl
                have h12 : 0 ≤ t_of tx tl m k := by
                  have h13 : ∀ d : Nat, d ≤ u → 0 ≤ t_of tx tl m d := by
                    intro d
                    induction d with
                    | zero => intro _; exact Int.le_refl _
                    | succ d ihd =>
                      intro hd
                      have h7 := ihd (by omega)
                      have e8 : t_of tx tl m (d + 1) = t_of tx tl m d + 1 + t_c tx tl m d := rfl
                      have h9 := t_c_ok hm htl0 (h2 d (by omega)) (h2 (d + 1) (by omega))
                      omega
                  exact h13 k (by omega)
                have h14 := t_c_ok hm htl0 (h2 k (by omega)) (h2 (k + 1) (by omega))
                exact ⟨by rw [i1 _ h12 (by omega)]; exact hL.1, fun j j0 j1 => by rw [i1 _ (by omega) (by omega)]; exact hL.2 j j0 j1⟩) ((fr1.tr fr2).tr fr3)
            exact this
          · obtain ⟨it3, ic3, at3, pt3, K3, a0, a1⟩ := no3 q
            have hflt := hob.2
            have hE : t_end tx tl m u (t_ord tx tl (t_m tx tl m u) (t_p tx tl m u)).2.1 := ⟨h2, h3, Or.inr ⟨by rw [est]; exact q, hmore.elim (fun e => Or.inl (by omega)) Or.inr, by rw [est]⟩⟩
            have hfl2 : (t_ord tx tl (t_m tx tl m u) (t_p tx tl m u)).2.1 ≤ tl := t_ord_le (by omega) hs.2.1
            refine fc_iinc C dX5_parse_72 rfl (by decide) ?_
            refine fc_goto (tgt := 27) C dX5_parse_75 (by decide) ?_
            refine fc_iload_n C dX5_parse_27 rfl rfl ?_
            refine fc_bipush C dX5_parse_28 (by decide) ?_
            refine fc_icmp_gt (tgt := 78) C dX5_parse_30 (by decide) (fc_Rm (by omega)) (fc_Rm (by omega)) (fun d30 => ?_) (fun d30 => ?_)
            · exfalso; omega
            · refine fc_aload_n C dX5_parse_33 rfl rfl ?_
              refine fh_callVE (y := mX5_skipBlanks) C dX5_parse_34 ml_X5_40 mi_X5_skipBlanks im_X5_skipBlanks se_X5_skipBlanks (c_skipBlanks K3 a0 a1) rfl rfl (by decide) rfl (Nat.le_of_ble_eq_true rfl) (Nat.zero_le _) (Nat.zero_le _) rfl ?_
              rintro r A4 F4 ⟨rfl, K4, fr4⟩
              refine fc_eq (st' := []) rfl rfl ?_
              have e74 := K4.2.2.2.2.2.1
              refine fc_aload_n C dX5_parse_37 rfl rfl ?_
              refine fh_getf C dX5_parse_38 fl_X5_34 rfl rfl ?_
              refine fc_iconst C dX5_parse_41 ?_
              refine fc_icmp_ne (tgt := 63) C dX5_parse_42 (by decide) (fc_Rm (by omega)) (fc_Rm (by omega)) (fun d42 => ?_) (fun d42 => ?_)
              · refine fc_aload_n C dX5_parse_63 rfl rfl ?_
                refine fh_getf C dX5_parse_64 fl_X5_34 rfl rfl ?_
                exact fh_iretE C T dX5_parse_67 (Or.inl rfl) ⟨u, (t_ord tx tl (t_m tx tl m u) (t_p tx tl m u)).2.1, hE, by rw [e74], ((fr1.tr fr2).tr fr3).tr fr4, by omega, by omega, it3, ic3, t_sk tx tl at3, (t_ord tx tl (t_m tx tl m u) (t_p tx tl m u)).2.1, pt3, K4, fun q2 => absurd q2 (by omega)⟩
              · exfalso; omega
        refine fc_aload_n C dX5_parse_37 rfl rfl ?_
        refine fh_getf C dX5_parse_38 fl_X5_34 rfl rfl ?_
        refine fc_iconst C dX5_parse_41 ?_
        refine fc_icmp_ne (tgt := 63) C dX5_parse_42 (by decide) (fc_Rm (by omega)) (fc_Rm (by omega)) (fun c42 => ?_) (fun c42 => ?_)
        · exfalso; omega
        · refine fc_aload_n C dX5_parse_45 rfl rfl ?_
          refine fh_getf C dX5_parse_46 fl_X5_28 rfl rfl ?_
          refine fc_if_le (tgt := 68) C dX5_parse_49 (by decide) (fc_Rm (by omega)) (fun c49 => ?_) (fun c49 => ?_)
          · exact more (Or.inl (by omega))
          · refine fc_aload_n C dX5_parse_52 rfl rfl ?_
            refine fh_getf C dX5_parse_53 fl_X5_31 rfl rfl ?_
            refine fc_aload_n C dX5_parse_56 rfl rfl ?_
            refine fh_getf C dX5_parse_57 fl_X5_15 rfl rfl ?_
            refine fc_icmp_lt (tgt := 68) C dX5_parse_60 (by decide) (fc_Rm (by omega)) (fc_Rm (by omega)) (fun c60 => ?_) (fun c60 => ?_)
            · exact more (Or.inr (by rw [← ep]; omega))
            · refine fc_aload_n C dX5_parse_63 rfl rfl ?_
              refine fh_getf C dX5_parse_64 fl_X5_34 rfl rfl ?_
              refine fh_iretE C T dX5_parse_67 (Or.inl rfl) ⟨u, -1, ⟨h2, h3, Or.inl ⟨rfl, by omega, by rw [← ep]; omega⟩⟩, by rw [e7], fr1.tr fr2, by omega, by omega, it1, _, _, _, _, K2, fun _ => ⟨rfl, by omega, L1⟩⟩
  obtain ⟨⟨k1, k2, k3, k4⟩, k5, k6, k7, k8, k9, k10, k11⟩ := id K
  refine fc_aload_n C dX5_parse_0 rfl rfl ?_
  refine fc_iload_n C dX5_parse_1 rfl rfl ?_
  refine fh_putf _ C dX5_parse_2 fl_X5_37 rfl (Nat.le_of_ble_eq_true rfl) rfl rfl ?_
  refine fc_aload_n C dX5_parse_5 rfl rfl ?_
  refine fc_iconst C dX5_parse_6 ?_
  refine fh_putf _ C dX5_parse_7 fl_X5_22 rfl (Nat.le_of_ble_eq_true rfl) rfl rfl ?_
  refine fc_aload_n C dX5_parse_10 rfl rfl ?_
  refine fc_iconst C dX5_parse_11 ?_
  refine fh_putf _ C dX5_parse_12 fl_X5_28 rfl (Nat.le_of_ble_eq_true rfl) rfl rfl ?_
  refine fc_aload_n C dX5_parse_15 rfl rfl ?_
  refine fc_iconst C dX5_parse_16 ?_
  refine fh_putf _ C dX5_parse_17 fl_X5_31 rfl (Nat.le_of_ble_eq_true rfl) rfl rfl ?_
  refine fc_aload_n C dX5_parse_20 rfl rfl ?_
  refine fc_iconst C dX5_parse_21 ?_
  refine fh_putf _ C dX5_parse_22 fl_X5_34 rfl (Nat.le_of_ble_eq_true rfl) rfl rfl ?_
  refine fc_iconst C dX5_parse_25 ?_
  refine fc_istore_n C dX5_parse_26 rfl (by decide) ?_
  exact loop 122 0 A _ it (by show tl - 0 < _; omega) (fun k hk => by rw [show k = 0 by omega]; rfl) (fun k k0 k1 => by omega) (Int.le_refl 0) (Int.le_refl 0) (fun _ => rfl) (by
    refine ⟨⟨by simp [ff_up]; exact k1, k2, k3, k4⟩, by simp [ff_up]; rfl, by simp [ff_up]; exact k6, by simp [ff_up], by simp [ff_up]; rfl, by simp [ff_up], by simp [ff_up]; rfl, fun j j0 j1 => ?_⟩
    have : t_of tx tl m 0 = 0 := rfl
    omega) (fun k hk => by omega) (((((k_tf.rf.up 8 _).up 3 _).up 5 _).up 6 _).up 7 _)
end ORD
