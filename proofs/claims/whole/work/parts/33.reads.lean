/-! doing the ORDERS: reads -/
def k_wf (A : Nat → Int → Int) (F : Nat → Nat → Int) (A' : Nat → Int → Int) (F' : Nat → Nat → Int) : Prop := ∀ i : Nat, ¬ (3 ≤ i ∧ i ≤ 35) → A' i = A i ∧ (i ≠ 139 → F' i = F i)
def p_cp (v a : Int → Int) (k : Int) : Int → Int := fun j => if 26 ≤ j ∧ j < 26 + k then a (j - 26) else v j
theorem p_cp_at {v a : Int → Int} {k j : Int} : p_cp v a k j = if 26 ≤ j ∧ j < 26 + k then a (j - 26) else v j := rfl
section READS
variable {A : Nat → Int → Int} {F : Nat → Nat → Int} {tx : Int → Int} {tl : Int} {it : Int → Int} {ic dn oc i fl pt : Int} {v : Int → Int} {ps : Int → Int → Int} {st : Int} {rf : Int → Int}
theorem k_wf.id_ : k_wf A F A F := fun _ _ => ⟨rfl, fun _ => rfl⟩
theorem k_wf.tr {A1 A2 : Nat → Int → Int} {F1 F2 : Nat → Nat → Int} (h : k_wf A F A1 F1) (h' : k_wf A1 F1 A2 F2) : k_wf A F A2 F2 := fun j hj => ⟨(h' j hj).1.trans (h j hj).1, fun q => ((h' j hj).2 q).trans ((h j hj).2 q)⟩
theorem k_wf.up {A1 : Nat → Int → Int} {F1 : Nat → Nat → Int} (h : k_wf A F A1 F1) (k : Nat) (z : Int) : k_wf A F A1 (ff_up F1 139 k z) := fun j hj => ⟨(h j hj).1, fun q => by rw [ff_n q]; exact (h j hj).2 q⟩
theorem k_wf.of_fr {A1 : Nat → Int → Int} {F1 : Nat → Nat → Int} (h : k_fr 3 35 A F A1 F1) : k_wf A F A1 F1 := fun j hj => ⟨(h j hj).1, fun _ => (h j hj).2⟩
theorem k_wf.ua {A1 : Nat → Int → Int} {F1 : Nat → Nat → Int} (h : k_wf A F A1 F1) (z : Int → Int) : k_wf A F (fa_up A1 10 z) F1 := fun j hj => ⟨by rw [fa_n _ _ (by omega)]; exact (h j hj).1, (h j hj).2⟩
theorem k_T.act {A1 : Nat → Int → Int} {F1 : Nat → Nat → Int} (K : k_T A F tx tl it ic dn oc i fl pt) (h : k_fr 3 35 A F A1 F1) : k_T A1 F1 tx tl it ic dn oc i fl pt := by
  obtain ⟨⟨k1, k2, k3, k4⟩, k5, k6, k7, k8, k9, k10, k11⟩ := K
  have e := (h 139 (by omega)).2
  exact ⟨⟨by rw [e]; exact k1, k2, k3, fun j j0 j1 => by rw [(h 140 (by omega)).1]; exact k4 j j0 j1⟩, by rw [e]; exact k5, by rw [e]; exact k6, by rw [e]; exact k7, by rw [e]; exact k8, by rw [e]; exact k9, by rw [e]; exact k10, fun j j0 j1 => by rw [(h 141 (by omega)).1]; exact k11 j j0 j1⟩
theorem k_T.ua (K : k_T A F tx tl it ic dn oc i fl pt) (z : Int → Int) : k_T (fa_up A 10 z) F tx tl it ic dn oc i fl pt := K.act (fun j hj => ⟨fa_n _ _ (by omega), rfl⟩)
theorem k_enc.up {F1 : Nat → Nat → Int} {k : Nat} {z : Int} (E : k_enc A F1 3 v) : k_enc A (ff_up F1 139 k z) 3 v := E.of_fr (by rw [ff_n (by omega)]) (fun _ _ _ _ => rfl)
theorem c_nextItem (K : k_T A F tx tl it ic dn oc i fl pt) (h0 : 0 ≤ dn) (h1 : dn < ic) (h2 : ic ≤ 120) : fh_M mX5_nextItem 0 [vR 139] A F (some (vI (it dn))) A (ff_up F 139 4 (dn + 1)) := by
  obtain ⟨⟨k1, k2, k3, k4⟩, k5, k6, k7, k8, k9, k10, k11⟩ := K
  refine fh_M.of mi_X5_nextItem (Nat.le_of_ble_eq_true rfl) ?_
  intro X C T
  refine fc_aload_n C dX5_nextItem_0 rfl rfl ?_
  refine fh_getf C dX5_nextItem_1 fl_X5_25 rfl rfl ?_
  refine fc_aload_n C dX5_nextItem_4 rfl rfl ?_
  refine fh_getf C dX5_nextItem_5 fl_X5_22 rfl rfl ?_
  refine fc_icmp_lt (tgt := 13) C dX5_nextItem_8 (by decide) (fc_Rm (by omega)) (fc_Rm (by omega)) (fun c8 => ?_) (fun c8 => ?_)
  · refine fc_aload_n C dX5_nextItem_13 rfl rfl ?_
    refine fc_dup C dX5_nextItem_14 rfl ?_
    refine fh_getf C dX5_nextItem_15 fl_X5_25 rfl rfl ?_
    refine fc_iconst C dX5_nextItem_18 ?_
    refine fc_iadd C dX5_nextItem_19 ?_
    refine fh_putf _ C dX5_nextItem_20 fl_X5_25 rfl (Nat.le_of_ble_eq_true rfl) rfl rfl ?_
    rw [k6]
    have e : ff_up F 139 4 (dn + 1) 139 4 - 1 = dn := by simp [ff_up]
    refine fc_aload_n C dX5_nextItem_23 rfl rfl ?_
    refine fh_getf C dX5_nextItem_24 fl_X5_19 rfl rfl ?_
    refine fc_aload_n C dX5_nextItem_27 rfl rfl ?_
    refine fh_getf C dX5_nextItem_28 fl_X5_25 rfl rfl ?_
    refine fc_iconst C dX5_nextItem_31 ?_
    refine fc_isub C dX5_nextItem_32 ?_
    refine fc_eq (st' := [vI dn, vR 141]) rfl (by rw [e]) ?_
    refine fh_iaload C dX5_nextItem_33 (fun _ _ => rfl) (by omega) (by omega) (by decide) ?_
    exact fh_iret C T dX5_nextItem_34 (by rw [k11 dn h0 h1]) rfl
  · exfalso; omega
theorem c_rewind : fh_M mX5_rewind 0 [vR 139] A F none A (ff_up F 139 4 0) := by
  refine fh_M.of mi_X5_rewind (Nat.le_of_ble_eq_true rfl) ?_
  intro X C T
  refine fc_aload_n C dX5_rewind_0 rfl rfl ?_
  refine fc_iconst C dX5_rewind_1 ?_
  refine fh_putf _ C dX5_rewind_2 fl_X5_25 rfl (Nat.le_of_ble_eq_true rfl) rfl rfl ?_
  exact fh_vret C T dX5_rewind_5 rfl
theorem c_doOrder (E : k_enc A F 3 v) (hv : v_ok v) (K : k_T A F tx tl it ic dn oc i fl pt) (h0 : 0 ≤ dn) (hic : ic ≤ 120) {c : Int} {a : Int → Int} {n : Int} (hc : it dn = c) (ha : ∀ j : Int, 0 ≤ j → j < n → it (dn + 1 + j) = a j) (hn : n = t_cnt c (v 0)) (hn0 : 0 ≤ n) (hd : dn + 1 + n ≤ ic) (hR : ∀ j : Int, -999 ≤ a j ∧ a j ≤ 999) : fh_E mX6_doOrder 5 [vR 0] A F (fun r A' F' => r = some (vI (e_x c a v)) ∧ k_enc A' F' 3 (if e_x c a v = 0 then e_p c a v else v) ∧ k_T A' F' tx tl it ic (dn + 1 + n) oc i fl pt ∧ k_wf A F A' F') := by
  have hnv := hv.n
  refine fh_E.of mi_X6_doOrder (Nat.le_of_ble_eq_true rfl) ?_
  intro X C T
  have K1 := K.dn_ (dn + 1)
  have E1 : k_enc A (ff_up F 139 4 (dn + 1)) 3 v := E.up
  have fr1 : k_wf A F A (ff_up F 139 4 (dn + 1)) := k_wf.id_.up 4 _
  -- behind the act
  have fin : ∀ (pc : Nat) (A2 : Nat → Int → Int) (F2 : Nat → Nat → Int) (n2 : Int), k_T A2 F2 tx tl it ic (dn + 1 + n2) oc i fl pt → k_wf A F A2 F2 → n2 = n → ∀ x w, x = e_x c a v → w = e_p c a v → ∀ (r : Option fc_AV) (A3 : Nat → Int → Int) (F3 : Nat → Nat → Int), k_act v A2 F2 x w r A3 F3 → r = some (vI (e_x c a v)) ∧ k_enc A3 F3 3 (if e_x c a v = 0 then e_p c a v else v) ∧ k_T A3 F3 tx tl it ic (dn + 1 + n) oc i fl pt ∧ k_wf A F A3 F3 := by
    intro pc A2 F2 n2 K2 fr2 e2 x w ex ew r A3 F3 h
    obtain ⟨g1, g2, g3⟩ := h
    rw [ex] at g1 g2
    rw [ew] at g2
    rw [e2] at K2
    exact ⟨g1, g2, K2.act g3, fr2.tr (k_wf.of_fr g3)⟩
  refine fc_aload_n C dX6_doOrder_0 rfl rfl ?_
  refine fh_getf C dX6_doOrder_1 fl_X6_47 rfl rfl ?_
  refine fh_callV (y := mX5_nextItem) C dX6_doOrder_4 ml_X6_303 mi_X5_nextItem im_X5_nextItem se_X5_nextItem (c_nextItem K h0 (by omega) hic) rfl rfl (by decide) rfl (Nat.le_of_ble_eq_true rfl) (Nat.zero_le _) (Nat.zero_le _) rfl ?_
  refine fc_eq (st' := [vI c]) rfl (by rw [hc]) ?_
  by_cases q1 : c = 110
  · subst q1
    have en : n = 1 := by rw [hn]; unfold t_cnt; simp
    refine fc_lookup (off := 65) (tgt := 72) C dX6_doOrder_7 (fc_Rm (by omega)) (by decide) (by decide) (by decide) ?_
    refine fc_aload_n C dX6_doOrder_72 rfl rfl ?_
    refine fh_getf C dX6_doOrder_73 fl_X6_16 rfl rfl ?_
    refine fc_aload_n C dX6_doOrder_76 rfl rfl ?_
    refine fh_getf C dX6_doOrder_77 fl_X6_47 rfl rfl ?_
    refine fh_callV (y := mX5_nextItem) C dX6_doOrder_80 ml_X6_303 mi_X5_nextItem im_X5_nextItem se_X5_nextItem (c_nextItem K1 (by omega) (by omega) hic) rfl rfl (by decide) rfl (Nat.le_of_ble_eq_true rfl) (Nat.zero_le _) (Nat.zero_le _) rfl ?_
    have a0 := ha 0 (by omega) (by omega)
    rw [Int.add_zero] at a0
    refine fc_eq (st' := [vI (a 0), vR 2]) rfl (by rw [a0]) ?_
    have hr := hR 0
    refine fh_callVE (y := mX0_startAnew) C dX6_doOrder_83 ml_X6_64 mi_X0_startAnew im_X0_startAnew se_X0_startAnew (c_startAnew E1.up (fc_Rm (by omega))) rfl rfl (by decide) rfl (Nat.le_of_ble_eq_true rfl) (Nat.zero_le _) (Nat.zero_le _) rfl ?_
    rintro r A3 F3 h3
    have h4 := fin 0 _ _ 1 (K1.dn_ (dn + 1 + 1)) (fr1.up 4 _) en.symm _ _ (by unfold e_x; simp) (by unfold e_p; simp) _ _ _ h3
    have hr := h3.1
    subst hr
    exact fh_iretE C T dX6_doOrder_86 (Or.inl rfl) h4
  by_cases q2 : c = 108
  · subst q2
    have en : n = 3 := by rw [hn]; unfold t_cnt; simp
    have K2 := K1.dn_ (dn + 1 + 1)
    have K3 := K2.dn_ (dn + 1 + 1 + 1)
    have K4 := K3.dn_ (dn + 1 + 1 + 1 + 1)
    refine fc_lookup (off := 80) (tgt := 87) C dX6_doOrder_7 (fc_Rm (by omega)) (by decide) (by decide) (by decide) ?_
    refine fc_aload_n C dX6_doOrder_87 rfl rfl ?_
    refine fh_getf C dX6_doOrder_88 fl_X6_16 rfl rfl ?_
    refine fc_aload_n C dX6_doOrder_91 rfl rfl ?_
    refine fh_getf C dX6_doOrder_92 fl_X6_47 rfl rfl ?_
    refine fh_callV (y := mX5_nextItem) C dX6_doOrder_95 ml_X6_303 mi_X5_nextItem im_X5_nextItem se_X5_nextItem (c_nextItem K1 (by omega) (by omega) hic) rfl rfl (by decide) rfl (Nat.le_of_ble_eq_true rfl) (Nat.zero_le _) (Nat.zero_le _) rfl ?_
    refine fc_aload_n C dX6_doOrder_98 rfl rfl ?_
    refine fh_getf C dX6_doOrder_99 fl_X6_47 rfl rfl ?_
    refine fh_callV (y := mX5_nextItem) C dX6_doOrder_102 ml_X6_303 mi_X5_nextItem im_X5_nextItem se_X5_nextItem (c_nextItem K2 (by omega) (by omega) hic) rfl rfl (by decide) rfl (Nat.le_of_ble_eq_true rfl) (Nat.zero_le _) (Nat.zero_le _) rfl ?_
    refine fc_aload_n C dX6_doOrder_105 rfl rfl ?_
    refine fh_getf C dX6_doOrder_106 fl_X6_47 rfl rfl ?_
    refine fh_callV (y := mX5_nextItem) C dX6_doOrder_109 ml_X6_303 mi_X5_nextItem im_X5_nextItem se_X5_nextItem (c_nextItem K3 (by omega) (by omega) hic) rfl rfl (by decide) rfl (Nat.le_of_ble_eq_true rfl) (Nat.zero_le _) (Nat.zero_le _) rfl ?_
    have a0 := ha 0 (by omega) (by omega)
    have a1 := ha 1 (by omega) (by omega)
    have a2 := ha 2 (by omega) (by omega)
    rw [Int.add_zero] at a0
    rw [show dn + 1 + 2 = dn + 1 + 1 + 1 by omega] at a2
    refine fc_eq (st' := [vI (a 2), vI (a 1), vI (a 0), vR 2]) rfl (by rw [a0, a1, a2]) ?_
    have r0 := hR 0
    have r1 := hR 1
    have r2 := hR 2
    refine fh_callVE (y := mX0_layLines) C dX6_doOrder_112 ml_X6_75 mi_X0_layLines im_X0_layLines se_X0_layLines (c_layLines E1.up.up.up hv (fc_Rm (by omega)) (fc_Rm (by omega)) (fc_Rm (by omega))) rfl rfl (by decide) rfl (Nat.le_of_ble_eq_true rfl) (Nat.zero_le _) (Nat.zero_le _) rfl ?_
    rintro r A3 F3 h3
    have h4 := fin 0 _ _ 3 (by rw [show dn + 1 + 3 = dn + 1 + 1 + 1 + 1 by omega]; exact K4) (((fr1.up 4 _).up 4 _).up 4 _) en.symm _ _ (by unfold e_x; simp) (by unfold e_p; simp) _ _ _ h3
    have hr := h3.1
    subst hr
    exact fh_iretE C T dX6_doOrder_115 (Or.inl rfl) h4
  by_cases q3 : c = 102
  · subst q3
    have en : n = 1 := by rw [hn]; unfold t_cnt; simp
    refine fc_lookup (off := 109) (tgt := 116) C dX6_doOrder_7 (fc_Rm (by omega)) (by decide) (by decide) (by decide) ?_
    refine fc_aload_n C dX6_doOrder_116 rfl rfl ?_
    refine fh_getf C dX6_doOrder_117 fl_X6_16 rfl rfl ?_
    refine fc_aload_n C dX6_doOrder_120 rfl rfl ?_
    refine fh_getf C dX6_doOrder_121 fl_X6_47 rfl rfl ?_
    refine fh_callV (y := mX5_nextItem) C dX6_doOrder_124 ml_X6_303 mi_X5_nextItem im_X5_nextItem se_X5_nextItem (c_nextItem K1 (by omega) (by omega) hic) rfl rfl (by decide) rfl (Nat.le_of_ble_eq_true rfl) (Nat.zero_le _) (Nat.zero_le _) rfl ?_
    refine fc_iconst C dX6_doOrder_127 ?_
    have a0 := ha 0 (by omega) (by omega)
    rw [Int.add_zero] at a0
    refine fc_eq (st' := [vI 1, vI (a 0), vR 2]) rfl (by rw [a0]) ?_
    have hr := hR 0
    refine fh_callVE (y := mX0_firePoint) C dX6_doOrder_128 ml_X6_120 mi_X0_firePoint im_X0_firePoint se_X0_firePoint (c_firePoint E1.up hv (fc_Rm (by omega)) (Or.inl rfl)) rfl rfl (by decide) rfl (Nat.le_of_ble_eq_true rfl) (Nat.zero_le _) (Nat.zero_le _) rfl ?_
    rintro r A3 F3 h3
    have h4 := fin 0 _ _ 1 (K1.dn_ (dn + 1 + 1)) (fr1.up 4 _) en.symm _ _ (by unfold e_x; simp) (by unfold e_p; simp) _ _ _ h3
    have hr := h3.1
    subst hr
    exact fh_iretE C T dX6_doOrder_131 (Or.inl rfl) h4
  by_cases q4 : c = 98
  · subst q4
    have en : n = 1 := by rw [hn]; unfold t_cnt; simp
    refine fc_lookup (off := 125) (tgt := 132) C dX6_doOrder_7 (fc_Rm (by omega)) (by decide) (by decide) (by decide) ?_
    refine fc_aload_n C dX6_doOrder_132 rfl rfl ?_
    refine fh_getf C dX6_doOrder_133 fl_X6_16 rfl rfl ?_
    refine fc_aload_n C dX6_doOrder_136 rfl rfl ?_
    refine fh_getf C dX6_doOrder_137 fl_X6_47 rfl rfl ?_
    refine fh_callV (y := mX5_nextItem) C dX6_doOrder_140 ml_X6_303 mi_X5_nextItem im_X5_nextItem se_X5_nextItem (c_nextItem K1 (by omega) (by omega) hic) rfl rfl (by decide) rfl (Nat.le_of_ble_eq_true rfl) (Nat.zero_le _) (Nat.zero_le _) rfl ?_
    refine fc_iconst C dX6_doOrder_143 ?_
    have a0 := ha 0 (by omega) (by omega)
    rw [Int.add_zero] at a0
    refine fc_eq (st' := [vI (-1), vI (a 0), vR 2]) rfl (by rw [a0]) ?_
    have hr := hR 0
    refine fh_callVE (y := mX0_firePoint) C dX6_doOrder_144 ml_X6_120 mi_X0_firePoint im_X0_firePoint se_X0_firePoint (c_firePoint E1.up hv (fc_Rm (by omega)) (Or.inr rfl)) rfl rfl (by decide) rfl (Nat.le_of_ble_eq_true rfl) (Nat.zero_le _) (Nat.zero_le _) rfl ?_
    rintro r A3 F3 h3
    have h4 := fin 0 _ _ 1 (K1.dn_ (dn + 1 + 1)) (fr1.up 4 _) en.symm _ _ (by unfold e_x; simp) (by unfold e_p; simp) _ _ _ h3
    have hr := h3.1
    subst hr
    exact fh_iretE C T dX6_doOrder_147 (Or.inl rfl) h4
  by_cases q5 : c = 122
  · subst q5
    have en : n = 0 := by rw [hn]; unfold t_cnt; simp
    refine fc_lookup (off := 141) (tgt := 148) C dX6_doOrder_7 (fc_Rm (by omega)) (by decide) (by decide) (by decide) ?_
    refine fc_aload_n C dX6_doOrder_148 rfl rfl ?_
    refine fh_getf C dX6_doOrder_149 fl_X6_16 rfl rfl ?_
    refine fh_callVE (y := mX0_settleHeap) C dX6_doOrder_152 ml_X6_134 mi_X0_settleHeap im_X0_settleHeap se_X0_settleHeap (c_settleHeap E1 hv) rfl rfl (by decide) rfl (Nat.le_of_ble_eq_true rfl) (Nat.zero_le _) (Nat.zero_le _) rfl ?_
    rintro r A3 F3 h3
    have h4 := fin 0 _ _ 0 (by rw [Int.add_zero]; exact K1) fr1 en.symm _ _ (by unfold e_x; simp) (by unfold e_p; simp) _ _ _ h3
    have hr := h3.1
    subst hr
    exact fh_iretE C T dX6_doOrder_155 (Or.inl rfl) h4
  by_cases q6 : c = 97
  · subst q6
    have en : n = 2 := by rw [hn]; unfold t_cnt; simp
    have K2 := K1.dn_ (dn + 1 + 1)
    have K3 := K2.dn_ (dn + 1 + 1 + 1)
    refine fc_lookup (off := 149) (tgt := 156) C dX6_doOrder_7 (fc_Rm (by omega)) (by decide) (by decide) (by decide) ?_
    refine fc_aload_n C dX6_doOrder_156 rfl rfl ?_
    refine fh_getf C dX6_doOrder_157 fl_X6_16 rfl rfl ?_
    refine fc_aload_n C dX6_doOrder_160 rfl rfl ?_
    refine fh_getf C dX6_doOrder_161 fl_X6_47 rfl rfl ?_
    refine fh_callV (y := mX5_nextItem) C dX6_doOrder_164 ml_X6_303 mi_X5_nextItem im_X5_nextItem se_X5_nextItem (c_nextItem K1 (by omega) (by omega) hic) rfl rfl (by decide) rfl (Nat.le_of_ble_eq_true rfl) (Nat.zero_le _) (Nat.zero_le _) rfl ?_
    refine fc_aload_n C dX6_doOrder_167 rfl rfl ?_
    refine fh_getf C dX6_doOrder_168 fl_X6_47 rfl rfl ?_
    refine fh_callV (y := mX5_nextItem) C dX6_doOrder_171 ml_X6_303 mi_X5_nextItem im_X5_nextItem se_X5_nextItem (c_nextItem K2 (by omega) (by omega) hic) rfl rfl (by decide) rfl (Nat.le_of_ble_eq_true rfl) (Nat.zero_le _) (Nat.zero_le _) rfl ?_
    have a0 := ha 0 (by omega) (by omega)
    have a1 := ha 1 (by omega) (by omega)
    rw [Int.add_zero] at a0
    refine fc_eq (st' := [vI (a 1), vI (a 0), vR 2]) rfl (by rw [a0, a1]) ?_
    have r0 := hR 0
    have r1 := hR 1
    refine fh_callVE (y := mX0_addChips) C dX6_doOrder_174 ml_X6_117 mi_X0_addChips im_X0_addChips se_X0_addChips (c_addChips E1.up.up hv (fc_Rm (by omega)) (fc_Rm (by omega))) rfl rfl (by decide) rfl (Nat.le_of_ble_eq_true rfl) (Nat.zero_le _) (Nat.zero_le _) rfl ?_
    rintro r A3 F3 h3
    have h4 := fin 0 _ _ 2 (by rw [show dn + 1 + 2 = dn + 1 + 1 + 1 by omega]; exact K3) ((fr1.up 4 _).up 4 _) en.symm _ _ (by unfold e_x; simp) (by unfold e_p; simp) _ _ _ h3
    have hr := h3.1
    subst hr
    exact fh_iretE C T dX6_doOrder_177 (Or.inl rfl) h4
  by_cases q7 : c = 99
  · subst q7
    have en : n = v 0 := by rw [hn]; unfold t_cnt; simp
    have ex : e_x 99 a v = 0 := by unfold e_x; simp
    have ep : e_p 99 a v = p_ch v a := by unfold e_p; simp
    refine fc_lookup (off := 171) (tgt := 178) C dX6_doOrder_7 (fc_Rm (by omega)) (by decide) (by decide) (by decide) ?_
    have loop : ∀ (m : Nat) (k : Int) (A2 : Nat → Int → Int) (F2 : Nat → Nat → Int), 0 ≤ k → k ≤ v 0 → v 0 - k < m → k_T A2 F2 tx tl it ic (dn + 1 + k) oc i fl pt → k_wf A F A2 F2 → k_enc A2 F2 3 (p_cp v a k) → fc_W X 0 0 159 (fc_H A2 F2) 180 [some (vR 0), some (vI k)] [] := by
      intro m
      induction m with
      | zero => intro k A2 F2 z0 z1 z2; exfalso; omega
      | succ m ih =>
        intro k A2 F2 z0 z1 z2 K2 fr2 E2
        have e0 := E2.1
        rw [p_cp_at, if_neg (by omega)] at e0
        refine fc_iload_n C dX6_doOrder_180 rfl rfl ?_
        refine fc_aload_n C dX6_doOrder_181 rfl rfl ?_
        refine fh_getf C dX6_doOrder_182 fl_X6_24 rfl rfl ?_
        refine fh_getf C dX6_doOrder_185 fl_X6_54 rfl rfl ?_
        refine fc_icmp_ge (tgt := 213) C dX6_doOrder_188 (by decide) (fc_Rm (by omega)) (fc_Rm (by omega)) (fun c188 => ?_) (fun c188 => ?_)
        · have ek : k = v 0 := by omega
          refine fc_iconst C dX6_doOrder_213 ?_
          refine fh_iretE C T dX6_doOrder_214 (Or.inl rfl) ⟨by rw [ex], ?_, by rw [en, ← ek]; exact K2, fr2⟩
          rw [if_pos ex, ep]
          refine E2.congr fun j j0 j1 => ?_
          rw [p_cp_at, p_ch_at, ek]
        · have ak := ha k z0 (by omega)
          refine fc_aload_n C dX6_doOrder_191 rfl rfl ?_
          refine fh_getf C dX6_doOrder_192 fl_X6_24 rfl rfl ?_
          refine fh_getf C dX6_doOrder_195 fl_X6_114 rfl rfl ?_
          refine fc_iload_n C dX6_doOrder_198 rfl rfl ?_
          refine fc_aload_n C dX6_doOrder_199 rfl rfl ?_
          refine fh_getf C dX6_doOrder_200 fl_X6_47 rfl rfl ?_
          refine fh_callV (y := mX5_nextItem) C dX6_doOrder_203 ml_X6_303 mi_X5_nextItem im_X5_nextItem se_X5_nextItem (c_nextItem K2 (by omega) (by omega) hic) rfl rfl (by decide) rfl (Nat.le_of_ble_eq_true rfl) (Nat.zero_le _) (Nat.zero_le _) rfl ?_
          refine fc_eq (st' := [vI (a k), vI k, vR 10]) rfl (by rw [ak]) ?_
          refine fh_iastore C dX6_doOrder_206 (fun _ _ => rfl) (by omega) (by omega) (by decide) ?_
          refine fc_iinc C dX6_doOrder_207 rfl (by decide) ?_
          refine fc_goto (tgt := 180) C dX6_doOrder_210 (by decide) ?_
          refine ih (k + 1) _ _ (by omega) (by omega) (by omega) ?_ ((fr2.up 4 _).ua _) ?_
          · rw [show dn + 1 + (k + 1) = dn + 1 + k + 1 by omega]
            exact (K2.dn_ _).ua _
          · obtain ⟨g1, g2, g3, g4, g5, g6⟩ := E2
            refine ⟨?_, fun x y x0 x1 y0 y1 => ?_, fun p p0 p1 => ?_, fun p p0 p1 => ?_, fun s s0 s1 => ?_, fun s p s0 s1 p0 p1 => ?_⟩
            · rw [ff_n (by omega), p_cp_at, if_neg (by omega)]; rw [p_cp_at, if_neg (by omega)] at g1; exact g1
            · rw [fa_n _ _ (by omega), p_cp_at, if_neg (by omega)]
              have := g2 x y x0 x1 y0 y1
              rw [p_cp_at, if_neg (by omega)] at this
              exact this
            · rw [fa_s, p_cp_at]
              have := g3 p p0 p1
              rw [p_cp_at] at this
              unfold fc_set
              by_cases z : p = k
              · rw [if_pos z, if_pos (by omega), show 26 + p - 26 = k by omega]
              · rw [if_neg z]
                by_cases z3 : p < k
                · rw [if_pos (by omega)] at this ⊢; exact this
                · rw [if_neg (by omega)] at this ⊢; exact this
            · rw [fa_n _ _ (by omega), p_cp_at, if_neg (by omega)]
              have := g4 p p0 p1
              rw [p_cp_at, if_neg (by omega)] at this
              exact this
            · rw [fa_n _ _ (by omega), p_cp_at, if_neg (by omega)]
              have := g5 s s0 s1
              rw [p_cp_at, if_neg (by omega)] at this
              exact this
            · rw [fa_n _ _ (by omega), p_cp_at, if_neg (by omega)]
              have := g6 s p s0 s1 p0 p1
              rw [p_cp_at, if_neg (by omega)] at this
              exact this
    refine fc_iconst C dX6_doOrder_178 ?_
    refine fc_istore_n C dX6_doOrder_179 rfl (by decide) ?_
    exact loop 6 0 _ _ (by omega) (by omega) (by omega) (by rw [Int.add_zero]; exact K1) fr1 (E1.congr fun j j0 j1 => by rw [p_cp_at, if_neg (by omega)])
  exfalso
  rw [hn] at hn0
  revert hn0
  unfold t_cnt
  simp [q1, q2, q3, q4, q5, q6, q7]
theorem t_n_R {m : Int} (hm : 2 ≤ m ∧ m ≤ 5) (htl : 0 ≤ tl) {k : Nat} (h : (t_ch tx tl m k).1 = 1) (h' : (t_ch tx tl m (k + 1)).1 = 1) (j : Int) : -999 ≤ t_n tx tl m k j ∧ t_n tx tl m k j ≤ 999 := by
  have := t_oN_R (t_c_ok hm htl h h').1 j
  exact ⟨this.1, this.2.1⟩
/-- as long as nothing is refused the rows are sound, and have as many points as the text thinks -/
theorem e_ch_ok (hv : v_ok v) (htl : 0 ≤ tl) {K : Nat} (h1 : ∀ k : Nat, k ≤ K → (t_ch tx tl (v 0) k).1 = 1) : ∀ {k : Nat}, k ≤ K → (∀ j : Nat, j < k → e_X tx tl (v 0) v j = 0) → v_ok (e_ch tx tl (v 0) v k) ∧ e_ch tx tl (v 0) v k 0 = t_m tx tl (v 0) k
  | 0, _, _ => ⟨hv, rfl⟩
  | k + 1, hk, h => by
    have ih := e_ch_ok hv htl h1 (k := k) (by omega) (fun j hj => h j (by omega))
    have h2 := e_ok ih.1 (fun j => t_n_R hv.n htl (h1 k (by omega)) (h1 (k + 1) hk) j) (h k (by omega))
    refine ⟨h2.1, ?_⟩
    show e_p _ _ _ 0 = _
    rw [h2.2]
    unfold t_m
    have h3 := h1 (k + 1) hk
    rw [t_ch_step (h1 k (by omega))] at h3 ⊢
    have e2 : (t_ord tx tl (t_m tx tl (v 0) k) (t_p tx tl (v 0) k)).2.2 = if t_b tx tl (t_p tx tl (v 0) k) = 110 then (t_oN tx tl (t_m tx tl (v 0) k) (t_p tx tl (v 0) k)).2.2 0 else t_m tx tl (v 0) k := by
      unfold t_ord at h3 ⊢
      split
      · rename_i g; rw [if_pos g] at h3; simp at h3
      · rename_i g
        rw [if_neg g] at h3
        split
        · rename_i g; rw [if_pos g] at h3; simp at h3
        · rename_i g
          rw [if_neg g] at h3
          split
          · rename_i g; rw [if_pos g] at h3; simp at h3
          · rename_i g
            rw [if_neg g] at h3
            split
            · rename_i g; rw [if_pos g] at h3; simp at h3
            · rfl
    rw [e2, ih.2]
    rfl
theorem c_doOrders (E : k_enc A F 3 v) (hv : v_ok v) {K : Nat} (KT : k_T A F tx tl it (t_of tx tl (v 0) K) dn K i fl pt) (hic : t_of tx tl (v 0) K ≤ 120) (hK : K ≤ 120) (hL : t_ly tx tl (v 0) it K) (h1 : ∀ k : Nat, k ≤ K → (t_ch tx tl (v 0) k).1 = 1) : fh_E mX6_doOrders 6 [vR 0] A F (fun r A' F' => ∃ s : Int, e_end tx tl (v 0) v K s ∧ r = some (vI s) ∧ -1 ≤ s ∧ s ≤ 120 ∧ (s = -1 → k_enc A' F' 3 (e_ch tx tl (v 0) v K)) ∧ k_wf A F A' F' ∧ F' 139 1 = tl ∧ F' 139 5 = K) := by
  have htl := KT.1.2.1
  have hnv := hv.n
  refine fh_E.of mi_X6_doOrders (Nat.le_of_ble_eq_true rfl) ?_
  intro X C T
  have hof : ∀ k : Nat, k ≤ K → 0 ≤ t_of tx tl (v 0) k ∧ t_of tx tl (v 0) k ≤ t_of tx tl (v 0) K := by
    have a : ∀ k : Nat, k ≤ K → 0 ≤ t_of tx tl (v 0) k := by
      intro k
      induction k with
      | zero => intro _; exact Int.le_refl _
      | succ k ih =>
        intro hk
        have := ih (by omega)
        have h9 := t_c_ok hnv htl (h1 k (by omega)) (h1 (k + 1) hk)
        show 0 ≤ t_of tx tl (v 0) k + 1 + t_c tx tl (v 0) k
        omega
    have b : ∀ d k : Nat, k + d = K → t_of tx tl (v 0) k ≤ t_of tx tl (v 0) K := by
      intro d
      induction d with
      | zero => intro k hk; rw [show k = K by omega]; exact Int.le_refl _
      | succ d ih =>
        intro k hk
        have := ih (k + 1) (by omega)
        have h9 := t_c_ok hnv htl (h1 k (by omega)) (h1 (k + 1) (by omega))
        have e : t_of tx tl (v 0) (k + 1) = t_of tx tl (v 0) k + 1 + t_c tx tl (v 0) k := rfl
        omega
    exact fun k hk => ⟨a k hk, b (K - k) k (by omega)⟩
  have loop : ∀ (m : Nat) (k : Nat) (A1 : Nat → Int → Int) (F1 : Nat → Nat → Int), k ≤ K → K - k < m → (∀ j : Nat, j < k → e_X tx tl (v 0) v j = 0) → k_enc A1 F1 3 (e_ch tx tl (v 0) v k) → k_T A1 F1 tx tl it (t_of tx tl (v 0) K) (t_of tx tl (v 0) k) K i fl pt → k_wf A F A1 F1 → fc_W X 0 0 159 (fc_H A1 F1) 9 [some (vR 0), some (vI k)] [] := by
    intro m
    induction m with
    | zero => intro k A1 F1 z0 z1; exfalso; omega
    | succ m ih =>
      intro k A1 F1 z0 z1 z2 E1 K1 fr1
      have e5 := K1.2.2.2.1
      refine fc_iload_n C dX6_doOrders_9 rfl rfl ?_
      refine fc_aload_n C dX6_doOrders_10 rfl rfl ?_
      refine fh_getf C dX6_doOrders_11 fl_X6_47 rfl rfl ?_
      refine fh_getf C dX6_doOrders_14 fl_X6_250 rfl rfl ?_
      refine fc_icmp_ge (tgt := 35) C dX6_doOrders_17 (by decide) (fc_Rm (by omega)) (fc_Rm (by omega)) (fun c17 => ?_) (fun c17 => ?_)
      · have ek : k = K := by omega
        subst ek
        refine fc_iconst C dX6_doOrders_35 ?_
        exact fh_iretE C T dX6_doOrders_36 (Or.inl rfl) ⟨-1, Or.inl ⟨rfl, z2⟩, rfl, by omega, by omega, fun _ => E1, fr1, K1.1.1, K1.2.2.2.1⟩
      · have hk : k < K := by omega
        obtain ⟨ok1, ok2⟩ := e_ch_ok hv htl h1 (k := k) z0 z2
        have hl := hL k hk
        have ho := hof k z0
        have ho1 := hof (k + 1) (by omega)
        have eo : t_of tx tl (v 0) (k + 1) = t_of tx tl (v 0) k + 1 + t_c tx tl (v 0) k := rfl
        have hc := t_c_ok hnv htl (h1 k z0) (h1 (k + 1) (by omega))
        refine fc_aload_n C dX6_doOrders_20 rfl rfl ?_
        refine fh_callVE (y := mX6_doOrder) C dX6_doOrders_21 ml_X6_300 mi_X6_doOrder im_X6_doOrder se_X6_doOrder (c_doOrder E1 ok1 K1 ho.1 hic hl.1 hl.2 (show t_c tx tl (v 0) k = t_cnt (t_l tx tl (v 0) k) (e_ch tx tl (v 0) v k 0) by rw [ok2]; rfl) hc.1 (by omega) (fun j => t_n_R hnv htl (h1 k z0) (h1 (k + 1) (by omega)) j)) rfl rfl (by decide) rfl (Nat.le_of_ble_eq_true rfl) (Nat.zero_le _) (Nat.zero_le _) rfl ?_
        rintro r A2 F2 ⟨rfl, E2, K2, fr2⟩
        refine fc_eq (st' := [vI (e_X tx tl (v 0) v k)]) rfl rfl ?_
        have eX : e_x (t_l tx tl (v 0) k) (t_n tx tl (v 0) k) (e_ch tx tl (v 0) v k) = e_X tx tl (v 0) v k := rfl
        rw [eX] at E2
        have hXR : fc_R (e_X tx tl (v 0) v k) := by
          have hx : e_X tx tl (v 0) v k = 0 ∨ e_X tx tl (v 0) v k = -2 ∨ e_X tx tl (v 0) v k = -3 := by
            unfold e_X e_x
            split
            · exact x_pts_c _ _
            · split
              · exact x_ln_c _ _ _ _
              · split
                · exact x_one_c _ _ _
                · split
                  · exact x_one_c _ _ _
                  · split
                    · exact x_stl_c _
                    · split
                      · exact x_add_c _ _ _
                      · exact Or.inl rfl
          exact fc_Rm (by omega)
        refine fc_if_eq (tgt := 29) C dX6_doOrders_24 (by decide) (hXR) (fun c24 => ?_) (fun c24 => ?_)
        · rw [if_pos c24] at E2
          refine fc_iinc C dX6_doOrders_29 rfl (by decide) ?_
          refine fc_goto (tgt := 9) C dX6_doOrders_32 (by decide) ?_
          exact ih (k + 1) A2 F2 (by omega) (by omega) (fun j hj => by
            by_cases q : j = k
            · rw [q]; exact c24
            · exact z2 j (by omega)) E2 (by rw [eo]; exact K2) (fr1.tr fr2)
        · refine fc_iload_n C dX6_doOrders_27 rfl rfl ?_
          exact fh_iretE C T dX6_doOrders_28 (Or.inl rfl) ⟨k, Or.inr ⟨k, rfl, hk, z2, c24⟩, rfl, by omega, by omega, fun q => by omega, fr1.tr fr2, K2.1.1, K2.2.2.2.1⟩
  refine fc_aload_n C dX6_doOrders_0 rfl rfl ?_
  refine fh_getf C dX6_doOrders_1 fl_X6_47 rfl rfl ?_
  refine fh_callVv (y := mX5_rewind) C dX6_doOrders_4 ml_X6_297 mi_X5_rewind im_X5_rewind se_X5_rewind (c_rewind) rfl rfl (by decide) rfl (Nat.le_of_ble_eq_true rfl) (Nat.zero_le _) (Nat.zero_le _) rfl ?_
  refine fc_iconst C dX6_doOrders_7 ?_
  refine fc_istore_n C dX6_doOrders_8 rfl (by decide) ?_
  exact loop (K + 1) 0 A _ (by omega) (by omega) (fun j hj => by omega) E.up (KT.dn_ 0) (k_wf.id_.up 4 _)
/-- the held one is kept -/
theorem k_hist.keep {u : Int} (h1 : F 36 1 = u) (H : k_hist A F ps st) (Hd : k_held A F v) : k_hist A (ff_up (ff_up F 36 1 ((u + 1) % 6)) 36 2 (if st < 5 then st + 1 else 5)) (h_ps ps st v) (h_st st) := by
  obtain ⟨u', h1', h2, h3, h4, h5, h6, h7⟩ := H
  have eu : u' = u := h1'.symm.trans h1
  subst eu
  refine ⟨(u' + 1) % 6, by simp [ff_up], by omega, by omega, by simp [ff_up, h_st], by unfold h_st; split <;> omega, by unfold h_st; split <;> omega, fun j j0 j1 => ?_⟩
  have of : ∀ {b : Nat} {z : Int → Int}, b ≠ 36 → k_enc A F b z → k_enc A (ff_up (ff_up F 36 1 ((u' + 1) % 6)) 36 2 (if st < 5 then st + 1 else 5)) b z := fun hb hk => hk.of_fr (by rw [ff_n hb, ff_n hb]) (fun _ _ _ _ => rfl)
  unfold k_held at Hd
  rw [h1] at Hd
  unfold h_ps
  unfold h_st at j1 ⊢
  by_cases q : st < 5
  · rw [if_pos q] at j1
    rw [if_pos q, if_pos q]
    by_cases q2 : j = st
    · rw [if_pos q2, q2, show ((u' + 1) % 6 + 7 - (st + 1) + st) % 6 = (u' + 1) % 6 by omega]
      exact ⟨of (by omega) Hd.1, Hd.2⟩
    · rw [if_neg q2, show ((u' + 1) % 6 + 7 - (st + 1) + j) % 6 = (u' + 7 - st + j) % 6 by omega]
      exact ⟨of (by omega) (h7 j j0 (by omega)).1, (h7 j j0 (by omega)).2⟩
  · rw [if_neg q] at j1
    rw [if_neg q, if_neg q]
    by_cases q2 : j = 4
    · rw [if_pos q2, q2, show ((u' + 1) % 6 + 7 - 5 + 4) % 6 = (u' + 1) % 6 by omega]
      exact ⟨of (by omega) Hd.1, Hd.2⟩
    · rw [if_neg q2, show ((u' + 1) % 6 + 7 - 5 + j) % 6 = (u' + 7 - st + (j + 1)) % 6 by omega]
      exact ⟨of (by omega) (h7 (j + 1) (by omega) (by omega)).1, (h7 (j + 1) (by omega) (by omega)).2⟩
/-- what reads comes to -/
def k_rd (A : Nat → Int → Int) (F : Nat → Nat → Int) (v : Int → Int) (ps : Int → Int → Int) (st : Int) (rf tx : Int → Int) (tl : Int) : Option fc_AV → (Nat → Int → Int) → (Nat → Nat → Int) → Prop := fun r A' F' => ∃ (K : Nat) (flt : Int), t_end tx tl (v 0) K flt ∧ (flt ≠ -1 → k_ans A F (-10 - flt) v ps st rf tx tl r A' F') ∧ (flt = -1 → ∃ s : Int, e_end tx tl (v 0) v K s ∧ (s ≠ -1 → k_ans A F (-1000 - s) v ps st rf tx tl r A' F') ∧ (s = -1 → k_ans A F K (e_ch tx tl (v 0) v K) (h_ps ps st v) (h_st st) rf tx tl r A' F'))
theorem o_reads (RC : k_RC A F v ps st rf tx tl) : fh_E mX6_reads 7 [vR 0] A F (k_rd A F v ps st rf tx tl) := by
  obtain ⟨E, hv, H, R⟩ := id RC
  have hn := hv.n
  obtain ⟨r1, r2, r3, r4, r5⟩ := id R
  have KT : k_T A F tx tl (fun j => A 141 j) (F 139 3) (F 139 4) (F 139 5) (F 139 6) (F 139 7) (F 139 8) := ⟨⟨r2, r3, r4, r5⟩, rfl, rfl, rfl, rfl, rfl, rfl, fun _ _ _ => rfl⟩
  have e0 := E.1
  refine fh_E.of mi_X6_reads (Nat.le_of_ble_eq_true rfl) ?_
  intro X C T
  refine fc_aload_n C dX6_reads_0 rfl rfl ?_
  refine fh_getf C dX6_reads_1 fl_X6_47 rfl rfl ?_
  refine fc_aload_n C dX6_reads_4 rfl rfl ?_
  refine fh_getf C dX6_reads_5 fl_X6_24 rfl rfl ?_
  refine fh_getf C dX6_reads_8 fl_X6_54 rfl rfl ?_
  refine fc_eq (st' := [vI (v 0), vR 139]) rfl (by rw [e0]) ?_
  refine fh_callVE (y := mX5_parse) C dX6_reads_11 ml_X6_238 mi_X5_parse im_X5_parse se_X5_parse (c_parse KT hn) rfl rfl (by decide) rfl (Nat.le_of_ble_eq_true rfl) (Nat.zero_le _) (Nat.zero_le _) rfl ?_
  rintro r A1 F1 ⟨K, flt, hE, rfl, fr1, f0, f1, it1, ic1, at1, fl1, pt1, KT1, hlay⟩
  refine fc_eq (st' := [vI flt]) rfl rfl ?_
  have E1 : k_enc A1 F1 3 v := E.of_fr (by rw [fr1.2 _ (by omega)]) (fun j j0 j1 _ => fr1.1 j (by omega))
  have H1 : k_hist A1 F1 ps st := H.fr (fun j j0 j1 => ⟨fr1.1 j (by omega), fr1.2 j (by omega)⟩)
  have R1 : k_rest A1 F1 rf tx tl := ⟨fun j j0 j1 => by rw [fr1.1 _ (by omega)]; exact r1 j j0 j1, KT1.1.1, r3, r4, fun j j0 j1 => by rw [fr1.1 _ (by omega)]; exact r5 j j0 j1⟩
  have RC1 : k_RC A1 F1 v ps st rf tx tl := ⟨E1, hv, H1, R1⟩
  have fk1 : k_fr 0 142 A F A1 F1 := fun j hj => ⟨fr1.1 j (by omega), fr1.2 j (by omega)⟩
  refine fc_istore_n C dX6_reads_14 rfl (by decide) ?_
  refine fc_iload_n C dX6_reads_15 rfl rfl ?_
  refine fc_iconst C dX6_reads_16 ?_
  refine fc_icmp_eq (tgt := 25) C dX6_reads_17 (by decide) (fc_Rm (by omega)) (fc_Rm (by omega)) (fun c17 => ?_) (fun c17 => ?_)
  · subst c17
    obtain ⟨hic, hic2, hly⟩ := hlay rfl
    subst hic
    have hK : K ≤ 120 := by
      have h9 : ∀ k : Nat, k ≤ K → (k : Int) ≤ t_of tx tl (v 0) k := by
        intro k
        induction k with
        | zero => intro _; exact Int.le_refl _
        | succ k ih =>
          intro hk
          have := ih (by omega)
          have h9 := t_c_ok hn r3 (hE.1 k (by omega)) (hE.1 (k + 1) hk)
          show ((k + 1 : Nat) : Int) ≤ t_of tx tl (v 0) k + 1 + t_c tx tl (v 0) k
          omega
      have := h9 K (by omega)
      omega
    refine fc_aload_n C dX6_reads_25 rfl rfl ?_
    refine fh_getf C dX6_reads_26 fl_X6_33 rfl rfl ?_
    refine fc_aload_n C dX6_reads_29 rfl rfl ?_
    refine fh_getf C dX6_reads_30 fl_X6_24 rfl rfl ?_
    refine fh_callVE (y := mX2_hold) C dX6_reads_33 ml_X6_60 mi_X2_hold im_X2_hold se_X2_hold (c_holdE E1 hv H1) rfl rfl (by decide) rfl (Nat.le_of_ble_eq_true rfl) (Nat.zero_le _) (Nat.zero_le _) rfl ?_
    rintro r A2 F2 ⟨rfl, E2, H2, Hd2, fr2, hw2⟩
    refine fc_eq (st' := []) rfl rfl ?_
    have e139 := (fr2 139 (by omega)).2
    have KT2 : k_T A2 F2 tx tl it1 (t_of tx tl (v 0) K) (F 139 4) K at1 fl1 pt1 := by
      obtain ⟨⟨k1, k2, k3, k4⟩, k5, k6, k7, k8, k9, k10, k11⟩ := KT1
      exact ⟨⟨by rw [e139]; exact k1, k2, k3, fun j j0 j1 => by rw [(fr2 140 (by omega)).1]; exact k4 j j0 j1⟩, by rw [e139]; exact k5, by rw [e139]; exact k6, by rw [e139]; exact k7, by rw [e139]; exact k8, by rw [e139]; exact k9, by rw [e139]; exact k10, fun j j0 j1 => by rw [(fr2 141 (by omega)).1]; exact k11 j j0 j1⟩
    refine fc_aload_n C dX6_reads_36 rfl rfl ?_
    refine fh_callVE (y := mX6_doOrders) C dX6_reads_37 ml_X6_241 mi_X6_doOrders im_X6_doOrders se_X6_doOrders (c_doOrders E2 hv KT2 hic2 hK hly hE.1) rfl rfl (by decide) rfl (Nat.le_of_ble_eq_true rfl) (Nat.zero_le _) (Nat.zero_le _) rfl ?_
    rintro r A3 F3 ⟨s, hS, rfl, s0, s1, E3, fr3, e1, e5⟩
    refine fc_eq (st' := [vI s]) rfl rfl ?_
    have H3 : k_hist A3 F3 ps st := H2.fr (fun j j0 j1 => ⟨(fr3 j (by omega)).1, (fr3 j (by omega)).2 (by omega)⟩)
    have Hd3 : k_held A3 F3 v := Hd2.fr hw2 (fun j j0 j1 => ⟨(fr3 j (by omega)).1, (fr3 j (by omega)).2 (by omega)⟩)
    have hw3 : 0 ≤ F3 36 1 ∧ F3 36 1 < 6 := by rw [(fr3 36 (by omega)).2 (by omega)]; exact hw2
    have R3 : k_rest A3 F3 rf tx tl := ⟨fun j j0 j1 => by rw [(fr3 1 (by omega)).1, (fr2 1 (by omega)).1]; exact R1.1 j j0 j1, e1, r3, r4, fun j j0 j1 => by rw [(fr3 140 (by omega)).1, (fr2 140 (by omega)).1]; exact R1.2.2.2.2 j j0 j1⟩
    have fk3 : k_fr 0 142 A F A3 F3 := (fk1.tr (fr2.wd (by omega) (by omega))).tr (fun j hj => ⟨(fr3 j (by omega)).1, (fr3 j (by omega)).2 (by omega)⟩)
    refine fc_istore_n C dX6_reads_40 rfl (by decide) ?_
    refine fc_iload_n C dX6_reads_41 rfl rfl ?_
    refine fc_iconst C dX6_reads_42 ?_
    refine fc_icmp_eq (tgt := 66) C dX6_reads_43 (by decide) (fc_Rm (by omega)) (fc_Rm (by omega)) (fun c43 => ?_) (fun c43 => ?_)
    · subst c43
      obtain ⟨u, u1, u2, u3, u4, u5, u6, u7⟩ := id H3
      refine fc_aload_n C dX6_reads_66 rfl rfl ?_
      refine fh_getf C dX6_reads_67 fl_X6_33 rfl rfl ?_
      refine fh_callVv (y := mX2_keepHeld) C dX6_reads_70 ml_X6_247 mi_X2_keepHeld im_X2_keepHeld se_X2_keepHeld (c_keepHeld u1 u4 u2 u3 u5 u6) rfl rfl (by decide) rfl (Nat.le_of_ble_eq_true rfl) (Nat.zero_le _) (Nat.zero_le _) rfl ?_
      refine fc_aload_n C dX6_reads_73 rfl rfl ?_
      refine fh_getf C dX6_reads_74 fl_X6_47 rfl rfl ?_
      refine fh_getf C dX6_reads_77 fl_X6_250 rfl rfl ?_
      refine fh_iretE C T dX6_reads_80 (Or.inl rfl) ⟨K, -1, hE, fun q => absurd rfl q, fun _ => ⟨-1, hS, fun q => absurd rfl q, fun _ => ⟨by rw [ff_n (by omega), ff_n (by omega), e5], ⟨(E3 rfl).of_fr (by rw [ff_n (by omega), ff_n (by omega)]) (fun _ _ _ _ => rfl), (e_ch_ok hv r3 hE.1 (Nat.le_refl K) ?_).1, H3.keep u1 Hd3, R3.fr rfl (by rw [ff_n (by omega), ff_n (by omega)]) rfl⟩, fk3.tr (fun j hj => ⟨rfl, by rw [ff_n (by omega), ff_n (by omega)]⟩)⟩⟩⟩
      rcases hS with ⟨-, q⟩ | ⟨j, q, -⟩
      · exact q
      · omega
    · have hcp := Hd3.1.cp (b := 3) (Or.inl (by omega))
      have fa : ∀ j : Nat, ¬ (5 ≤ j ∧ j < 17) → k_cp A3 3 (38 + 14 * ((F3 36 1 + 1) % 6).toNat) j = A3 j := fun j hj => by
        unfold k_cp
        rw [fa_sel_no]
        simp
        omega
      refine fc_aload_n C dX6_reads_46 rfl rfl ?_
      refine fh_getf C dX6_reads_47 fl_X6_24 rfl rfl ?_
      refine fc_aload_n C dX6_reads_50 rfl rfl ?_
      refine fh_getf C dX6_reads_51 fl_X6_33 rfl rfl ?_
      refine fh_callV (y := mX2_held) C dX6_reads_54 ml_X6_126 mi_X2_held im_X2_held se_X2_held (c_held rfl hw3.1 hw3.2) rfl rfl (by decide) rfl (Nat.le_of_ble_eq_true rfl) (Nat.zero_le _) (Nat.zero_le _) rfl ?_
      refine fh_callVv (y := mX3_copyFrom) C dX6_reads_57 ml_X6_244 mi_X3_copyFrom im_X3_copyFrom se_X3_copyFrom (c_copyFrom k_PB_3 (k_PB_t (t := ((F3 36 1 + 1) % 6).toNat) (by omega)) (Or.inl (by omega))) rfl rfl (by decide) rfl (Nat.le_of_ble_eq_true rfl) (Nat.zero_le _) (Nat.zero_le _) rfl ?_
      refine fc_sipush C dX6_reads_60 (by decide) ?_
      refine fc_iload_n C dX6_reads_63 rfl rfl ?_
      refine fc_isub C dX6_reads_64 ?_
      exact fh_iretE C T dX6_reads_65 (Or.inl rfl) ⟨K, -1, hE, fun q => absurd rfl q, fun _ => ⟨s, hS, fun _ => ⟨rfl, ⟨hcp.1, hv, H3.fr (fun j j0 j1 => ⟨fa j (by omega), ff_n (by omega)⟩), R3.fr (fa 1 (by omega)) (ff_n (by omega)) (fa 140 (by omega))⟩, fk3.tr (fun j hj => ⟨fa j (by omega), ff_n (by omega)⟩)⟩, fun q => absurd q c43⟩⟩
  · refine fc_bipush C dX6_reads_20 (by decide) ?_
    refine fc_iload_n C dX6_reads_22 rfl rfl ?_
    refine fc_isub C dX6_reads_23 ?_
    exact fh_iretE C T dX6_reads_24 (Or.inl rfl) ⟨K, flt, hE, fun _ => ⟨rfl, RC1, fk1⟩, fun q => absurd q c17⟩
end READS
