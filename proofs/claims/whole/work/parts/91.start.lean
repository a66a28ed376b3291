/-! the start -/
theorem s_arr {s : State} {cA : ClassId} {kA : Class} {comp : ClassId} {ty : FieldType} (h2 : s.vm.classes[cA]? = some kA) (h3 : kA.kind = .array comp ty) : ArrOfT s cA ty := fun _ _ => ⟨fun _ h => (by cases h), kA, h2, comp, h3⟩
theorem s_known {args : Array Value} {s : State} (hts : ∀ w ∈ fc_tbl, w.before args s = true) : ∃ (D : va_G) (cy : Nat → ClassId), fc_K D cy s := by
  obtain ⟨c0, i0, k0⟩ := u_known hts in_X0 (hts _ ns_X0)
  obtain ⟨c1, i1, k1⟩ := u_known hts in_X1 (hts _ ns_X1)
  obtain ⟨c2, i2, k2⟩ := u_known hts in_X2 (hts _ ns_X2)
  obtain ⟨c3, i3, k3⟩ := u_known hts in_X3 (hts _ ns_X3)
  obtain ⟨c4, i4, k4⟩ := u_known hts in_X4 (hts _ ns_X4)
  obtain ⟨c5, i5, k5⟩ := u_known hts in_X5 (hts _ ns_X5)
  obtain ⟨c6, i6, k6⟩ := u_known hts in_X6 (hts _ ns_X6)
  obtain ⟨c7, i7, k7⟩ := u_known hts in_X7 (hts _ ns_X7)
  obtain ⟨y0, ya, yb, a1, a2, a3⟩ := Cond.arrayClass_spec (hts _ ac_i)
  obtain ⟨y1, yc, yd, b1, b2, b3⟩ := Cond.arrayClass_spec (hts _ ac_j)
  obtain ⟨e1, y2, e2, e3, -, e4, e5, e6⟩ := arrayOverA_spec (hts _ ao_i)
  obtain ⟨f1, y3, f2, f3, -, f4, f5, f6⟩ := arrayOverA_spec (hts _ ao_j)
  obtain ⟨g1, y4, g2, g3, -, g4, g5, g6⟩ := Cond.arrayOver_spec (hts _ ao_p)
  refine ⟨(fun c => [c0, c1, c2, c3, c4, c5, c6, c7].getD c 0, fun c => [i0, i1, i2, i3, i4, i5, i6, i7].getD c (fun _ => 0)), fun c => [y0, y1, y2, y3, y4].getD c 0, ?_, ?_⟩
  · intro c q hq
    match c with
    | 0 => cases hq; exact k0
    | 1 => cases hq; exact k1
    | 2 => cases hq; exact k2
    | 3 => cases hq; exact k3
    | 4 => cases hq; exact k4
    | 5 => cases hq; exact k5
    | 6 => cases hq; exact k6
    | 7 => cases hq; exact k7
    | c + 8 => cases hq
  · intro c q hq
    match c with
    | 0 => cases hq; exact ⟨s_arr a2 a3, a1⟩
    | 1 => cases hq; exact ⟨s_arr b2 b3, b1⟩
    | 2 => cases hq; exact ⟨s_arr e4 e5, e6⟩
    | 3 => cases hq; exact ⟨s_arr f4 f5, f6⟩
    | 4 => cases hq; exact ⟨s_arr g4 g5, g2, g1, g4, g5, g3, g6⟩
    | c + 5 => cases hq
theorem i_A_n {j : Nat} (h : j ≠ 144) : i_A j = fun _ => 0 := if_neg h
theorem i_v {k : Int} (h : k ≠ 0) : i_A 144 k = 0 := if_neg h
theorem i_v0 : i_A 144 0 = 3 := rfl
theorem i_ok : v_ok (i_A 144) := by
  refine ⟨by rw [i_v0]; omega, by rw [i_v0]; omega, fun a c a0 a1 b0 b1 => ?_, fun p p0 p1 => by rw [i_v (by omega)]; omega, fun p p0 p1 => ?_, fun p p0 p1 => by rw [i_v (by omega)]; omega, fun p p0 p1 => by rw [i_v (by omega)]; omega, fun s p s0 s1 p0 p1 => by rw [i_v (by omega)]; omega⟩
  · unfold v_L
    rw [i_v (by omega), i_v (by omega), i_v (by omega)]
    omega
  · rw [i_v0] at p0
    rw [i_v (by omega), i_v (by omega)]
    exact ⟨rfl, rfl⟩
theorem i_inv : j_I 0 i_A i_F := by
  refine ⟨i_A 144, fun _ _ => 0, 0, fun _ => 0, fun _ => 0, 0, ⟨⟨rfl, fun a c a0 a1 c0 c1 => ?_, fun p p0 p1 => ?_, fun p p0 p1 => ?_, fun p p0 p1 => ?_, fun s p s0 s1 p0 p1 => ?_⟩, i_ok, ⟨0, rfl, by omega, by omega, rfl, by omega, by omega, fun j j0 j1 => by omega⟩, fun i i0 i1 => by rw [i_A_n (by omega)], rfl, by omega, by omega, fun i i0 i1 => by omega⟩, ⟨rfl, i_ok, ⟨by omega, by omega⟩, ⟨by omega, by omega⟩, fun i i0 i1 => by omega, rfl, fun j k j0 j1 => by omega, fun i i0 i1 => by rw [i_A_n (by omega)], rfl, fun i i0 i1 => by omega⟩, fun i i0 i1 => ⟨Int.le_refl 0, Int.le_refl 0⟩⟩
  · rw [i_A_n (by omega), i_v (by omega)]
  · rw [i_A_n (by omega), i_v (by omega)]
  · rw [i_A_n (by omega), i_v (by omega)]
  · rw [i_A_n (by omega), i_v (by omega)]
  · rw [i_A_n (by omega), i_v (by omega)]
/-- YOUR PART: from the entry, for every script of at most 2048 ints, the law comes to its end with true -/
theorem whole_start {p : Program} {e : Env} {s : State} {m : MethodId} {below : List Frame} {meth : Method} {c : Code} (l : Launch) (hflags : l.flags = flags0) {b L : Nat} {xs : Nat → Int32} (hL : L ≤ 2048) (C0 : lw_At p s m meth c b L xs) : W p l e room_1 s m #[Value.ref b] below meth c s.heap [] 0 0 (lw_Z below #[Value.ref b] s) (entryFrame m ([Value.ref b] : List Value).toArray 4) := by
  obtain ⟨hx, hb, hret, hml, hown, hts0, hX, hbl, hlocks, hgv⟩ := C0
  have hts : ∀ w ∈ fc_tbl, w.before #[Value.ref b] s = true := fun w hw => hts0 w (List.mem_filter.mp hw).1
  obtain ⟨D, cy, hK⟩ := s_known hts
  obtain ⟨X, eX⟩ : ∃ X : fc_X, X = (p, l, e, room_1, s, m, #[Value.ref b], below, meth, c, D, cy, s.heap, lw_Z below #[Value.ref b] s) := ⟨_, rfl⟩
  have C : fc_C X RL cL_law 4 1000 600000 7302250 meth.name := by
    rw [eX]
    exact ⟨hx, hb, hml, hown, hts, hK, rfl, by decide, by decide, Nat.le_of_ble_eq_true rfl, Nat.le_of_ble_eq_true rfl⟩
  have SC : fl_S X b L xs := by
    rw [eX]
    exact ⟨hX, hbl⟩
  have fin : ∀ (A : Nat → Int → Int) (F : Nat → Nat → Int) (ls : List (Option fc_AV)), fl_W b X 159 1521 159 (fc_H A F) 926 ls [] := by
    intro A F ls
    refine fl_iconst C dL_law_926 ?_
    rw [eX]
    intro H locs lsA hH hLo hl hz
    refine va_forget hLo ?_
    refine W.widen (k := 600000) (n := 7302250) (Nat.le_of_ble_eq_true rfl) (Nat.le_of_ble_eq_true rfl) ?_
    exact lw_ret hx hb hret hlocks dL_law_927
  have body : fl_W b X 0 0 0 (fc_H i_A i_F) 0 [none, none, none, none] [] := by
    refine fl_new (c := 6) (fs := [vN, vN, vN, vN, vN, vN, vN, vN]) C dL_law_0 lk_L_7 ns_X6 iz_X6 rfl in_X6 tyX6_ok df_X6 (Nat.le_of_ble_eq_true rfl) (Nat.le_of_ble_eq_true rfl) ?_
    refine fl_dup C dL_law_3 rfl ?_
    refine fl_callI (y := mX6_init) C dL_law_4 ml_L_9 mi_X6_init rfl rfl im_X6_init (i_X6_0 (fun _ _ _ => rfl)) (by decide) rfl (by decide) rfl (Nat.le_of_ble_eq_true rfl) (Nat.le_of_ble_eq_true rfl) ?_
    refine fl_eq (st' := [vR 0]) rfl rfl ?_
    refine fl_astore_n C dL_law_7 rfl (by decide) (Or.inl rfl) ?_
    refine fl_eq (ls' := [none, some (vR 0), none, none]) rfl rfl ?_
    refine fl_new (c := 7) (fs := [vN, vN, vN, vI 0, vN, vN, vN, vN, vN, vN, vN, vN, vN, vN, vN, vI 0, vI 0, vI 0, vN, vI 0, vI 0]) C dL_law_8 lk_L_10 ns_X7 iz_X7 rfl in_X7 tyX7_ok df_X7 (Nat.le_of_ble_eq_true rfl) (Nat.le_of_ble_eq_true rfl) ?_
    refine fl_dup C dL_law_11 rfl ?_
    refine fl_callI (y := mX7_init) C dL_law_12 ml_L_12 mi_X7_init rfl rfl im_X7_init (i_X7_143 (fun _ _ _ => rfl)) (by decide) rfl (by decide) rfl (Nat.le_of_ble_eq_true rfl) (Nat.le_of_ble_eq_true rfl) ?_
    refine fl_eq (st' := [vR 143]) rfl rfl ?_
    refine fl_astore_n C dL_law_15 rfl (by decide) (Or.inr (Or.inl rfl)) ?_
    refine fl_eq (ls' := [none, some (vR 0), some (vR 143), none]) rfl rfl ?_
    refine fl_iconst C dL_law_16 ?_
    refine fl_istore_n C dL_law_17 rfl (by decide) (Or.inr (Or.inr rfl)) ?_
    refine fl_eq (ls' := [none, some (vR 0), some (vR 143), some (vI 0)]) rfl rfl ?_
    exact l_loop C SC hL (Nat.le_of_ble_eq_true rfl) (Nat.le_of_ble_eq_true rfl) fin (L + 1) 0 0 i_A i_F (by omega) (by omega) (by omega) (by omega) (by omega) i_inv
  rw [eX] at body
  rw [lg_entry_eq]
  have hl := lv_entry [Value.ref b] (n := 4) (Nat.le_of_ble_eq_true rfl)
  refine body s.heap [] _ ⟨rfl, fun _ _ => rfl, fun i hi => by omega⟩ (fun q hq => by cases hq) ⟨hl.1.trans hml.symm, hl.2.1, fun k v hk => ?_⟩ (hl.2.2 (0, Value.ref b) List.mem_cons_self)
  match k with
  | 0 => cases hk
  | 1 => cases hk
  | 2 => cases hk
  | 3 => cases hk
  | k + 4 => cases hk
