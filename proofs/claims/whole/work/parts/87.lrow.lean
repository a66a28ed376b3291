/-! rows for the law's own frame: its local 0 is the script (written by genlaw.py out of the rows of 03, 05, 11b, 84) -/
def fl_W (b : Nat) (X : fc_X) (cs sl n : Nat) (h : Nat → fc_AC) (pc : Nat) (ls : List (Option fc_AV)) (st : List fc_AV) : Prop := match X with
  | (p, l, e, R, s, m, args, below, meth, c, D, cy, B, Q) => ∀ (H : Heap) (locs : List Loc) (lsA : Array Slot), fc_HR D cy B n h H → (∀ q ∈ locs, B.size ≤ q.base) → fc_ls B.size lsA c.maxLocals ls → lsA[0]? = some (.val (.ref b)) → W p l e R s m args below meth c H locs cs sl Q (F0 m pc lsA (st.map (fc_v B.size)))
def fl_S (X : fc_X) (b L : Nat) (xs : Nat → Int32) : Prop := match X with
  | (p, l, e, R, s, m, args, below, meth, c, D, cy, B, Q) => va_X b L xs s B ∧ b < B.size
section FL
variable {b : Nat} {X : fc_X} {own : String} {cc : ByteArray} {nL d nc ns : Nat} {nm : String} {cs sl n : Nat} {h : Nat → fc_AC} {pc : Nat} {ls : List (Option fc_AV)} {st : List fc_AV}
theorem fl_eq {ls' : List (Option fc_AV)} {st' : List fc_AV} (e1 : ls = ls') (e2 : st = st') (k : fl_W b X cs sl n h pc ls' st') : fl_W b X cs sl n h pc ls st := by
  subst e1; subst e2; exact k
theorem fl_iconst {z : Int} (C : fc_C X own cc nL d nc ns nm) (dg : decode cc pc = .ok (.iconst z, 1))
    (k : fl_W b X cs sl n h (pc + 1) (ls) (vI z :: st)) : fl_W b X cs sl n h (pc) (ls) (st) := by
  obtain ⟨p, l, e, R, s, m, args, below, meth, c, D, cy, B, Q⟩ := X
  obtain ⟨hx, hb, hml, hown, hts, hK, hnm, hR1, hR2, hR3, hR4⟩ := C
  intro H locs lsA hH hL hl hz
  exact lv_iconst hx hb dg rfl (k H locs lsA hH hL hl hz)
theorem fl_bipush {z : Int} (C : fc_C X own cc nL d nc ns nm) (dg : decode cc pc = .ok (.bipush z, 2)) (hv : (Int8.ofInt z).toInt32 = Int32.ofInt z)
    (k : fl_W b X cs sl n h (pc + 2) (ls) (vI z :: st)) : fl_W b X cs sl n h (pc) (ls) (st) := by
  obtain ⟨p, l, e, R, s, m, args, below, meth, c, D, cy, B, Q⟩ := X
  obtain ⟨hx, hb, hml, hown, hts, hK, hnm, hR1, hR2, hR3, hR4⟩ := C
  intro H locs lsA hH hL hl hz
  exact lv_bipush hx hb dg hv (k H locs lsA hH hL hl hz)
theorem fl_iload_n {f : Fin 4} {i : Nat} {x : Int} (C : fc_C X own cc nL d nc ns nm) (dg : decode cc pc = .ok (.iload_n f, 1)) (hi : (f : Nat) = i) (hv : fc_get ls i = some (vI x))
    (k : fl_W b X cs sl n h (pc + 1) (ls) (vI x :: st)) : fl_W b X cs sl n h (pc) (ls) (st) := by
  obtain ⟨p, l, e, R, s, m, args, below, meth, c, D, cy, B, Q⟩ := X
  obtain ⟨hx, hb, hml, hown, hts, hK, hnm, hR1, hR2, hR3, hR4⟩ := C
  intro H locs lsA hH hL hl hz
  exact lv_iload_n hx hb dg hi (hl.2.2 _ _ hv) (k H locs lsA hH hL hl hz)
theorem fl_aload_n {f : Fin 4} {i : Nat} {x : Nat} (C : fc_C X own cc nL d nc ns nm) (dg : decode cc pc = .ok (.aload_n f, 1)) (hi : (f : Nat) = i) (hv : fc_get ls i = some (vR x))
    (k : fl_W b X cs sl n h (pc + 1) (ls) (vR x :: st)) : fl_W b X cs sl n h (pc) (ls) (st) := by
  obtain ⟨p, l, e, R, s, m, args, below, meth, c, D, cy, B, Q⟩ := X
  obtain ⟨hx, hb, hml, hown, hts, hK, hnm, hR1, hR2, hR3, hR4⟩ := C
  intro H locs lsA hH hL hl hz
  exact lv_aload_n hx hb dg hi (hl.2.2 _ _ hv) (k H locs lsA hH hL hl hz)
theorem fl_iadd {x y : Int} (C : fc_C X own cc nL d nc ns nm) (dg : decode cc pc = .ok (.iadd, 1))
    (k : fl_W b X cs sl n h (pc + 1) (ls) (vI (x + y) :: st)) : fl_W b X cs sl n h (pc) (ls) (vI y :: vI x :: st) := by
  obtain ⟨p, l, e, R, s, m, args, below, meth, c, D, cy, B, Q⟩ := X
  obtain ⟨hx, hb, hml, hown, hts, hK, hnm, hR1, hR2, hR3, hR4⟩ := C
  intro H locs lsA hH hL hl hz
  refine lv_iadd hx hb dg ?_
  rw [← Int32.ofInt_add]
  exact k H locs lsA hH hL hl hz
theorem fl_isub {x y : Int} (C : fc_C X own cc nL d nc ns nm) (dg : decode cc pc = .ok (.isub, 1))
    (k : fl_W b X cs sl n h (pc + 1) (ls) (vI (x - y) :: st)) : fl_W b X cs sl n h (pc) (ls) (vI y :: vI x :: st) := by
  obtain ⟨p, l, e, R, s, m, args, below, meth, c, D, cy, B, Q⟩ := X
  obtain ⟨hx, hb, hml, hown, hts, hK, hnm, hR1, hR2, hR3, hR4⟩ := C
  intro H locs lsA hH hL hl hz
  refine lv_isub hx hb dg ?_
  rw [← Int32.ofInt_sub]
  exact k H locs lsA hH hL hl hz
theorem fl_iand {x y : Int} (C : fc_C X own cc nL d nc ns nm) (dg : decode cc pc = .ok (.iand, 1))
    (k : fl_W b X cs sl n h (pc + 1) (ls) (vI (fc_and x y) :: st)) : fl_W b X cs sl n h (pc) (ls) (vI y :: vI x :: st) := by
  obtain ⟨p, l, e, R, s, m, args, below, meth, c, D, cy, B, Q⟩ := X
  obtain ⟨hx, hb, hml, hown, hts, hK, hnm, hR1, hR2, hR3, hR4⟩ := C
  intro H locs lsA hH hL hl hz
  refine lv_iand hx hb dg ?_
  have k1 := k H locs lsA hH hL hl hz
  have e : fc_v B.size (vI (fc_and x y)) = .int _ := congrArg Value.int (Int32.ofInt_toInt _)
  rw [List.map_cons, e] at k1
  exact k1
theorem fl_icmp_gt {x y off : Int} {tgt : Nat} (C : fc_C X own cc nL d nc ns nm) (dg : decode cc pc = .ok (.if_icmp .gt off, 3)) (ht : (pc : Int) + off = (tgt : Int)) (hx1 : fc_R x) (hy : fc_R y)
    (kt : y < x → fl_W b X cs sl n h (tgt) (ls) (st)) (kf : x ≤ y → fl_W b X cs sl n h (pc + 3) (ls) (st)) : fl_W b X cs sl n h (pc) (ls) (vI y :: vI x :: st) := by
  obtain ⟨p, l, e, R, s, m, args, below, meth, c, D, cy, B, Q⟩ := X
  obtain ⟨hx, hb, hml, hown, hts, hK, hnm, hR1, hR2, hR3, hR4⟩ := C
  intro H locs lsA hH hL hl hz
  exact lv_icmp_gt hx hb dg ht (fun q => kt ((fc_iff_lt hy hx1).mp q) H locs lsA hH hL hl hz) (fun q => kf (Int.not_lt.mp (fun z => q ((fc_iff_lt hy hx1).mpr z))) H locs lsA hH hL hl hz)
theorem fl_goto {off : Int} {tgt : Nat} (C : fc_C X own cc nL d nc ns nm) (dg : decode cc pc = .ok (.goto off, 3)) (ht : (pc : Int) + off = (tgt : Int))
    (k : fl_W b X cs sl n h (tgt) (ls) (st)) : fl_W b X cs sl n h (pc) (ls) (st) := by
  obtain ⟨p, l, e, R, s, m, args, below, meth, c, D, cy, B, Q⟩ := X
  obtain ⟨hx, hb, hml, hown, hts, hK, hnm, hR1, hR2, hR3, hR4⟩ := C
  intro H locs lsA hH hL hl hz
  exact lv_goto hx hb dg ht (k H locs lsA hH hL hl hz)
theorem fl_tableOut {dflt lo hi : Int} {offs : Array Int} {len : Nat} {x : Int} {tgt : Nat} (C : fc_C X own cc nL d nc ns nm) (dg : decode cc pc = .ok (.tableswitch dflt lo hi offs, len)) (hx1 : fc_R x) (ho : x < lo ∨ hi < x) (ht : (pc : Int) + dflt = (tgt : Int))
    (k : fl_W b X cs sl n h (tgt) (ls) (st)) : fl_W b X cs sl n h (pc) (ls) (vI x :: st) := by
  obtain ⟨p, l, e, R, s, m, args, below, meth, c, D, cy, B, Q⟩ := X
  obtain ⟨hx, hb, hml, hown, hts, hK, hnm, hR1, hR2, hR3, hR4⟩ := C
  intro H locs lsA hH hL hl hz
  exact lv_tableOut hx hb dg (by rw [fc_to hx1]; exact ho) ht (k H locs lsA hH hL hl hz)
theorem fl_tableIn {dflt lo hi : Int} {offs : Array Int} {len : Nat} {x off : Int} {tgt : Nat} (C : fc_C X own cc nL d nc ns nm) (dg : decode cc pc = .ok (.tableswitch dflt lo hi offs, len)) (hx1 : fc_R x) (h1 : lo ≤ x) (h2 : x ≤ hi) (ho : offs[(x - lo).toNat]? = some off) (ht : (pc : Int) + off = (tgt : Int))
    (k : fl_W b X cs sl n h (tgt) (ls) (st)) : fl_W b X cs sl n h (pc) (ls) (vI x :: st) := by
  obtain ⟨p, l, e, R, s, m, args, below, meth, c, D, cy, B, Q⟩ := X
  obtain ⟨hx, hb, hml, hown, hts, hK, hnm, hR1, hR2, hR3, hR4⟩ := C
  intro H locs lsA hH hL hl hz
  exact lv_tableIn hx hb dg (by rw [fc_to hx1]; omega) (by rw [fc_to hx1]; omega) (by rw [fc_to hx1]; exact ho) ht (k H locs lsA hH hL hl hz)
theorem fl_dup {v : fc_AV} (C : fc_C X own cc nL d nc ns nm) (dg : decode cc pc = .ok (.dup, 1)) (hc : fc_cat v = 1)
    (k : fl_W b X cs sl n h (pc + 1) (ls) (v :: v :: st)) : fl_W b X cs sl n h (pc) (ls) (v :: st) := by
  obtain ⟨p, l, e, R, s, m, args, below, meth, c, D, cy, B, Q⟩ := X
  obtain ⟨hx, hb, hml, hown, hts, hK, hnm, hR1, hR2, hR3, hR4⟩ := C
  intro H locs lsA hH hL hl hz
  exact lv_dup hx hb dg ((fc_v_cat _ _).trans hc) (k H locs lsA hH hL hl hz)
theorem fl_new {ix N c : Nat} {Cn : String} {T : u_T} {ty0 : Nat → FieldType} {fs : List fc_AV} (C : fc_C X own cc nL d nc ns nm) (dg : decode cc pc = .ok (.new ix, 3)) (w1 : Cond.classLink own ix Cn ∈ fc_tbl) (w2 : Cond.instantiable Cn N ∈ fc_tbl) (w3 : Cond.initialized Cn ∈ fc_tbl) (hc : fc_cl[c]? = some (Cn, T, N)) (hin : ∀ w ∈ u_ws Cn T N, w ∈ fc_tbl) (hty : ∀ k, k < N → parseFieldDescriptor (T k).2.2.1 = some (ty0 k)) (hfs : ∀ b j : Nat, j < N → defaultValue (ty0 j) = vp_V (fs.map (fc_v b)) j) (hcs : cs + 1 ≤ nc) (hsl : sl + N ≤ ns) (k : fl_W b X (cs + 1) (sl + N) (n + 1) (fc_up h n (cO c fs)) (pc + 3) ls (vR n :: st)) : fl_W b X cs sl n h pc ls st := by
  obtain ⟨p, l, e, R, s, m, args, below, meth, c9, D, cy, B, Q⟩ := X
  obtain ⟨hx, hb, hml, hown, hts, hK, hnm, hR1, hR2, hR3, hR4⟩ := C
  intro H locs lsA hH hL hl hz
  have hKn := hK.1 c _ hc
  refine W.newcK hx hb hown (hts _ w1) (hts _ w2) (hts _ w3) rfl dg (by omega) (by omega) hKn.2.1 hH.1 fun H1 kC hkC e1 z1 o1 => ?_
  exact k H1 locs lsA (hH.push (x := cO c fs) ⟨_, hc, (u_born ty0 hts hin hKn hkC e1 hty).to (hfs B.size)⟩ (by rw [z1, hH.1]) (fun q hq => o1 q (by rw [← hH.1]; exact hq))) hL hl hz
theorem fl_has {lsA : Array Slot} {b0 nL : Nat} {ls : List (Option fc_AV)} (hl : fc_ls b0 lsA nL ls) (hz : lsA[0]? = some (.val (.ref b))) : lv_has lsA nL ((0, Value.ref b) :: fc_as b0 ls) := by
  have := hl.as
  refine ⟨this.1, this.2.1, fun q hq => ?_⟩
  rcases List.mem_cons.mp hq with rfl | hq
  · exact hz
  · exact this.2.2 q hq
theorem fl_has2 {ls' : Array Slot} {b0 nL i : Nat} {ls : List (Option fc_AV)} {v : fc_AV} (hi : i = 1 ∨ i = 2 ∨ i = 3) (hl' : lv_has ls' nL ((i, fc_v b0 v) :: ((0, Value.ref b) :: fc_as b0 ls).filter (fun q => !(q.1 == i) && !(q.1 + 1 == i && q.2.category == 2)))) : fc_ls b0 ls' nL (fc_sto ls i v) ∧ ls'[0]? = some (.val (.ref b)) := by
  refine ⟨fc_ls.sto1 ⟨hl'.1, hl'.2.1, fun q hq => hl'.2.2 q ?_⟩, hl'.2.2 (0, Value.ref b) (List.mem_cons_of_mem _ (List.mem_filter.mpr ⟨List.mem_cons_self, ?_⟩))⟩
  · rcases List.mem_cons.mp hq with rfl | hq
    · exact List.mem_cons_self
    · have := List.mem_filter.mp hq
      exact List.mem_cons_of_mem _ (List.mem_filter.mpr ⟨List.mem_cons_of_mem _ this.1, this.2⟩)
  · rcases hi with rfl | rfl | rfl <;> rfl
theorem fl_astore_n {f : Fin 4} {i x : Nat} (C : fc_C X own cc nL d nc ns nm) (dg : decode cc pc = .ok (.astore_n f, 1)) (hi : (f : Nat) = i) (hn : i < nL) (hi2 : i = 1 ∨ i = 2 ∨ i = 3)
    (k : fl_W b X cs sl n h (pc + 1) (fc_sto ls i (vR x)) (st)) : fl_W b X cs sl n h (pc) (ls) (vR x :: st) := by
  obtain ⟨p, l, e, R, s, m, args, below, meth, c, D, cy, B, Q⟩ := X
  obtain ⟨hx, hb, hml, hown, hts, hK, hnm, hR1, hR2, hR3, hR4⟩ := C
  intro H locs lsA hH hL hl hz
  exact lv_astore_n hx hb dg hi (fl_has hl hz) (by rw [hml]; exact hn) rfl (fun ls' hl' => k H locs ls' hH hL (fl_has2 (v := vR x) hi2 hl').1 (fl_has2 (v := vR x) hi2 hl').2)
theorem fl_istore_n {f : Fin 4} {i : Nat} {x : Int} (C : fc_C X own cc nL d nc ns nm) (dg : decode cc pc = .ok (.istore_n f, 1)) (hi : (f : Nat) = i) (hn : i < nL) (hi2 : i = 1 ∨ i = 2 ∨ i = 3)
    (k : fl_W b X cs sl n h (pc + 1) (fc_sto ls i (vI x)) (st)) : fl_W b X cs sl n h (pc) (ls) (vI x :: st) := by
  obtain ⟨p, l, e, R, s, m, args, below, meth, c, D, cy, B, Q⟩ := X
  obtain ⟨hx, hb, hml, hown, hts, hK, hnm, hR1, hR2, hR3, hR4⟩ := C
  intro H locs lsA hH hL hl hz
  exact lv_istore_n hx hb dg hi (fl_has hl hz) (by rw [hml]; exact hn) rfl (fun ls' hl' => k H locs ls' hH hL (fl_has2 (v := vI x) hi2 hl').1 (fl_has2 (v := vI x) hi2 hl').2)
theorem fl_iinc {i : Nat} {x z : Int} (C : fc_C X own cc nL d nc ns nm) (dg : decode cc pc = .ok (.iinc i z, 3)) (hv : fc_get ls i = some (vI x)) (hn : i < nL) (hi2 : i = 1 ∨ i = 2 ∨ i = 3)
    (k : fl_W b X cs sl n h (pc + 3) (fc_sto ls i (vI (x + z))) (st)) : fl_W b X cs sl n h (pc) (ls) (st) := by
  obtain ⟨p, l, e, R, s, m, args, below, meth, c, D, cy, B, Q⟩ := X
  obtain ⟨hx, hb, hml, hown, hts, hK, hnm, hR1, hR2, hR3, hR4⟩ := C
  intro H locs lsA hH hL hl hz
  obtain ⟨k9, hk9⟩ := List.getElem?_of_mem (List.mem_cons_of_mem (0, Value.ref b) (fc_as_mem (b := B.size) hv))
  exact lv_iinc hx hb dg (fl_has hl hz) hk9 (v := Int32.ofInt (x + z)) (by rw [Int32.ofInt_add]) (by rw [hml]; exact hn) rfl (fun ls' hl' => k H locs ls' hH hL (fl_has2 (v := vI (x + z)) hi2 hl').1 (fl_has2 (v := vI (x + z)) hi2 hl').2)
theorem fl_ld {L : Nat} {xs : Nat → Int32} {j : Int} (X' : fc_X) (C : fc_C X' own cc nL d nc ns nm) (SC : fl_S X' b L xs) (d5 : decode cc pc = .ok (.iaload, 1)) (h0 : 0 ≤ j) (h1 : j < (L : Int)) (hL2 : L ≤ 2048) : match X' with
  | (p, l, e, R, s, m, args, below, meth, c, D, cy, B, Q) => ∀ (H : Heap) (locs : List Loc) (lsA : Array Slot) (rest : List Value), fc_HR D cy B n h H → W p l e R s m args below meth c H locs cs sl Q (F0 m (pc + 1) lsA (fc_v B.size (vI (xs j.toNat).toInt) :: rest)) → W p l e R s m args below meth c H locs cs sl Q (F0 m pc lsA (.int (Int32.ofInt j) :: .ref b :: rest)) := by
  obtain ⟨p, l, e, R, s, m, args, below, meth, c, D, cy, B, Q⟩ := X'
  obtain ⟨hx, hb, hml, hown, hts, hK, hnm, hR1, hR2, hR3, hR4⟩ := C
  obtain ⟨⟨scr, s1, s2, s3, s4, s5⟩, hbl⟩ := SC
  intro H locs lsA rest hH k
  obtain ⟨g1, g2, g3, g4⟩ := fc_ix h0 h1 (by omega)
  refine W.iald (v := .int (xs j.toNat)) hx hb (by rw [hH.2.1 b hbl]; exact s1) s2 s3 (by rw [s4]; exact g1) (by rw [g2]; exact s5 _ g3) rfl rfl d5 ?_
  have e9 : fc_v B.size (vI (xs j.toNat).toInt) = .int (xs j.toNat) := congrArg Value.int (Int32.ofInt_toInt _)
  rw [e9] at k
  exact k
/-- an argument out of the script -/
theorem fl_arg {L : Nat} {xs : Nat → Int32} {i z : Int} (C : fc_C X own cc nL d nc ns nm) (SC : fl_S X b L xs) (d1 : decode cc pc = .ok (.aload_n 0, 1)) (d2 : decode cc (pc + 1) = .ok (.iload_n 3, 1)) (d3 : decode cc (pc + 1 + 1) = .ok (.iconst z, 1)) (d4 : decode cc (pc + 1 + 1 + 1) = .ok (.iadd, 1)) (d5 : decode cc (pc + 1 + 1 + 1 + 1) = .ok (.iaload, 1)) (hi : fc_get ls 3 = some (vI i)) (h0 : 0 ≤ i + z) (h1 : i + z < (L : Int)) (hL2 : L ≤ 2048) (k : fl_W b X cs sl n h (pc + 5) ls (vI (xs (i + z).toNat).toInt :: st)) : fl_W b X cs sl n h pc ls st := by
  have ld := fl_ld (b := b) (n := n) (h := h) (cs := cs) (sl := sl) X C SC d5 h0 h1 hL2
  obtain ⟨p, l, e, R, s, m, args, below, meth, c, D, cy, B, Q⟩ := X
  obtain ⟨hx, hb, hml, hown, hts, hK, hnm, hR1, hR2, hR3, hR4⟩ := C
  intro H locs lsA hH hL hl hz
  refine lv_aload_n hx hb d1 rfl hz ?_
  refine lv_iload_n hx hb d2 rfl (hl.2.2 _ _ hi) ?_
  refine lv_iconst hx hb d3 rfl ?_
  refine lv_iadd hx hb d4 ?_
  rw [← Int32.ofInt_add]
  exact ld H locs lsA _ hH (k H locs lsA hH hL hl hz)
/-- the next number of the script -/
theorem fl_arg0 {L : Nat} {xs : Nat → Int32} {i : Int} (C : fc_C X own cc nL d nc ns nm) (SC : fl_S X b L xs) (d1 : decode cc pc = .ok (.aload_n 0, 1)) (d2 : decode cc (pc + 1) = .ok (.iload_n 3, 1)) (d5 : decode cc (pc + 1 + 1) = .ok (.iaload, 1)) (hi : fc_get ls 3 = some (vI i)) (h0 : 0 ≤ i) (h1 : i < (L : Int)) (hL2 : L ≤ 2048) (k : fl_W b X cs sl n h (pc + 3) ls (vI (xs i.toNat).toInt :: st)) : fl_W b X cs sl n h pc ls st := by
  have ld := fl_ld (b := b) (n := n) (h := h) (cs := cs) (sl := sl) X C SC d5 h0 h1 hL2
  obtain ⟨p, l, e, R, s, m, args, below, meth, c, D, cy, B, Q⟩ := X
  obtain ⟨hx, hb, hml, hown, hts, hK, hnm, hR1, hR2, hR3, hR4⟩ := C
  intro H locs lsA hH hL hl hz
  refine lv_aload_n hx hb d1 rfl hz ?_
  refine lv_iload_n hx hb d2 rfl (hl.2.2 _ _ hi) ?_
  exact ld H locs lsA _ hH (k H locs lsA hH hL hl hz)
/-- the script's length -/
theorem fl_len {L : Nat} {xs : Nat → Int32} (C : fc_C X own cc nL d nc ns nm) (SC : fl_S X b L xs) (d1 : decode cc pc = .ok (.aload_n 0, 1)) (d2 : decode cc (pc + 1) = .ok (.arraylength, 1)) (k : fl_W b X cs sl n h (pc + 2) ls (vI (L : Int) :: st)) : fl_W b X cs sl n h pc ls st := by
  obtain ⟨p, l, e, R, s, m, args, below, meth, c, D, cy, B, Q⟩ := X
  obtain ⟨hx, hb, hml, hown, hts, hK, hnm, hR1, hR2, hR3, hR4⟩ := C
  obtain ⟨⟨scr, s1, s2, s3, s4, s5⟩, hbl⟩ := SC
  intro H locs lsA hH hL hl hz
  refine lv_aload_n hx hb d1 rfl hz ?_
  refine W.alen (n := Int32.ofNat L) hx hb (by rw [hH.2.1 b hbl]; exact s1) s2 (by rw [s4] <;> rfl) rfl rfl d2 ?_
  have k1 := k H locs lsA hH hL hl hz
  have e9 : fc_v B.size (vI (L : Int)) = .int (Int32.ofNat L) := congrArg Value.int (Int32.ofInt_eq_ofNat)
  rw [List.map_cons, e9] at k1
  exact k1
/-- two equal ints -/
theorem fl_same {z off : Int} {tgt : Nat} (C : fc_C X own cc nL d nc ns nm) (dg : decode cc pc = .ok (.if_icmp .eq off, 3)) (ht : (pc : Int) + off = (tgt : Int)) (k : fl_W b X cs sl n h tgt ls st) : fl_W b X cs sl n h pc ls (vI z :: vI z :: st) := by
  obtain ⟨p, l, e, R, s, m, args, below, meth, c, D, cy, B, Q⟩ := X
  obtain ⟨hx, hb, hml, hown, hts, hK, hnm, hR1, hR2, hR3, hR4⟩ := C
  intro H locs lsA hH hL hl hz
  exact lv_icmp_eq hx hb dg ht (fun _ => k H locs lsA hH hL hl hz) (fun q => absurd rfl q)
/-- two equal longs -/
theorem fl_sameL {z off : Int} {tgt : Nat} (C : fc_C X own cc nL d nc ns nm) (d1 : decode cc pc = .ok (.lcmp, 1)) (dg : decode cc (pc + 1) = .ok (.ifCond .eq off, 3)) (ht : ((pc + 1 : Nat) : Int) + off = (tgt : Int)) (k : fl_W b X cs sl n h tgt ls st) : fl_W b X cs sl n h pc ls (vL z :: vL z :: st) := by
  obtain ⟨p, l, e, R, s, m, args, below, meth, c, D, cy, B, Q⟩ := X
  obtain ⟨hx, hb, hml, hown, hts, hK, hnm, hR1, hR2, hR3, hR4⟩ := C
  intro H locs lsA hH hL hl hz
  refine W.lcmp hx hb d1 ?_
  have e1 : lg_cmp (Int64.ofInt z) (Int64.ofInt z) = 0 := by
    unfold lg_cmp
    simp
  rw [e1]
  exact lv_if_eq hx hb dg ht (fun _ => k H locs lsA hH hL hl hz) (fun q => absurd rfl q)
end FL
section FLC
variable {b : Nat}
variable {X : fc_X} {own : String} {cc : ByteArray} {nL d nc ns : Nat} {nm : String} {cs sl n : Nat} {h : Nat → fc_AC} {pc : Nat} {ls : List (Option fc_AV)} {st st0 : List fc_AV}
variable {y : fc_Y} {np ix d' mc ms : Nat} {as : List fc_AV} {r : Option fc_AV} {n' : Nat} {h' : Nat → fc_AC}
theorem fl_callI {i : Nat} (C : fc_C X own cc nL d nc ns nm) (dg : decode cc pc = .ok (.invokespecial ix, 3)) (ml : fc_ML own ix y.1) (mi : fc_MI y np) (hrn : y.2.2.2 = none) (hnm9 : y.1.name = "<init>") (im : Cond.instanceMethod y.1 ∈ fc_tbl)
    (hM : fc_M y d' mc ms (vR i :: as) n h r n' h') (hd : d' < d) (hnp : as.length = np) (hst : fc_sum st ≤ 8) (hs : st0 = as.reverse ++ vR i :: st) (hcs : cs + mc ≤ nc) (hsl : sl + ms ≤ ns)
    (k : fl_W b X (cs + mc) (sl + ms) n' h' (pc + 3) ls (r.toList ++ st)) : fl_W b X cs sl n h pc ls st0 := by
  subst hs
  obtain ⟨p, l, e, R, s, m, args, below, meth, c9, D, cy, B, Q⟩ := X
  obtain ⟨hx, hb, hml, hown, hts, hK, hnm, hR1, hR2, hR3, hR4⟩ := C
  obtain ⟨hcode, hini, hy, hpar, hmax, hpl⟩ := mi
  obtain ⟨y1, y2, y3, y4⟩ := y
  have hrn : y4 = none := hrn
  subst hrn
  intro H locs lsA hH hL hl hz
  have hsig : ∀ sig, parseMethodDescriptor y1.desc = some sig → np = sig.parameters.length := fun sig h9 => by
    have hpar : (parseMethodDescriptor y1.desc).map (fun d => d.parameters.length) = some np := hpar
    rw [h9] at hpar; exact (Option.some.inj hpar).symm
  have hpay : ∀ w ∈ Cond.code y1 y2 y3 none :: fc_tbl, ∀ (a' : Array Value) (U : State), s.WarmedH U.vm → w.before a' U = true := fun w hw => by
    rcases List.mem_cons.mp hw with rfl | hw
    · exact fc_pay hts _ hcode
    · exact fc_pay hts w hw
  have hp : PreS s H (fun a U => a = ((vR i :: as).map (fc_v B.size)).toArray ∧ fc_HR D cy B n h U.heap ∧ fc_K D cy U) (.ref (B.size + i) :: as.map (fc_v B.size)) := ⟨fc_blind, fun U hU hW => ⟨rfl, by rw [hU]; exact hH, hK.moved hW.alike⟩⟩
  have hstk : (F0 m pc lsA ((as.reverse ++ vR i :: st).map (fc_v B.size))).stack = (as.map (fc_v B.size)).reverse ++ .ref (B.size + i) :: st.map (fc_v B.size) := by
    show (as.reverse ++ vR i :: st).map (fc_v B.size) = _
    rw [List.map_append, List.map_reverse]; rfl
  have hroom : 2 * (F0 m pc lsA ((as.reverse ++ vR i :: st).map (fc_v B.size))).monitorRoom + ((st.map (fc_v B.size)).map fun v => v.category).sum ≤ 8 := lv_room (by rw [fc_sum_eq]; exact hst)
  have hmax : y3 ≤ 45 := hmax
  have hrm1 : (fc_rm d' mc ms).frames + 1 ≤ R.frames := by show d' + 1 ≤ _; omega
  have hrm2 : 8 + (y3 + 11) + (fc_rm d' mc ms).locals ≤ R.locals := by show 8 + (y3 + 11) + 64 * d' ≤ _; omega
  have run : va_Run p l e R s m args below meth c9 H locs cs sl mc ms (F0 m pc lsA ((as.reverse ++ vR i :: st).map (fc_v B.size))) (st.map (fc_v B.size)) ((fun _ _ o t => o = .returned (r.map (fc_v B.size)) ∧ fc_HR D cy B n' h' t.heap) (Value.ref (B.size + i) :: as.map (fc_v B.size)).toArray) (fun q => B.size ≤ q) := by
    rcases ml with hw | ⟨host, hw⟩
    · exact va_runI ⟨hx, hb, hml, hown, hts⟩ (hM l D cy B) ⟨⟨rfl, rfl, hrm1, hrm2, hpay, List.mem_cons_self, hts _ hcode, hts _ hini, hy, hsig, hts _ hw⟩, hnm9, hts _ im⟩ hp rfl (by rw [List.length_map]; exact hnp) (hl.1.trans hml) hstk hroom dg ⟨by omega, by omega⟩
    · exact va_runIN ⟨hx, hb, hml, hown, hts⟩ (hM l D cy B) ⟨⟨⟨rfl, rfl, hrm1, hrm2, hpay, List.mem_cons_self⟩, hts _ hcode, hts _ hini, hy, hsig, hts _ hw⟩, hnm9, hts _ im⟩ hp rfl (by rw [List.length_map]; exact hnp) (hl.1.trans hml) hstk hroom dg ⟨by omega, by omega⟩
  intro T hT XX
  obtain ⟨v, st₀, t, T', L, h0, X', hL2, e1, e2, ⟨hv, hH2⟩, stp⟩ := run T hT XX
  cases hv
  obtain ⟨t2, a1, b1⟩ := k T'.heap (locs ++ L) lsA (by rw [e1]; exact hH2) (fun q hq => (List.mem_append.mp hq).elim (hL q) (hL2 q)) hl hz T' rfl X'
  refine ⟨t2, stp t2 ?_, b1⟩
  cases r <;> exact a1
end FLC
section FLD
variable {b : Nat} {X : fc_X} {own : String} {cc : ByteArray} {nL d nc ns : Nat} {nm : String} {cs sl : Nat} {A : Nat → Int → Int} {F : Nat → Nat → Int} {pc : Nat} {ls : List (Option fc_AV)} {st st0 : List fc_AV} {Post : Option fc_AV → (Nat → Int → Int) → (Nat → Nat → Int) → Prop}
variable {y : fc_Y} {np ix d' : Nat} {as : List fc_AV}
theorem fl_callVE {i c : Nat} {fs : List fc_AV} (C : fc_C X own cc nL d nc ns nm) (dg : decode cc pc = .ok (.invokevirtual ix, 3)) (ml : fc_ML own ix y.1) (mi : fc_MI y np) (im : Cond.instanceMethod y.1 ∈ fc_tbl) (sel : Cond.selects y.1.cls y.1 y.1 ∈ fc_tbl)
    (hM : fh_E y d' (vR i :: as) A F Post) (he : fc_S i (A i) (F i) = cO c fs) (hc : (fc_cl[c]?).map (fun q => q.1) = some y.1.cls) (hd : d' < d) (hnp : as.length = np) (hst : fc_sum st ≤ 8) (hcs : cs ≤ nc) (hsl : sl ≤ ns) (hs : st0 = as.reverse ++ vR i :: st)
    (k : ∀ (r : Option fc_AV) (A' : Nat → Int → Int) (F' : Nat → Nat → Int), Post r A' F' → fl_W b X cs sl 159 (fc_H A' F') (pc + 3) ls (r.toList ++ st)) : fl_W b X cs sl 159 (fc_H A F) pc ls st0 := by
  subst hs
  have hi : i < 159 := fc_S_lt he (fun q => by injection q with q; injection q with q1 q2; subst q1; cases hc)
  obtain ⟨p, l, e, R, s, m, args, below, meth, c9, D, cy, B, Q⟩ := X
  obtain ⟨hx, hb, hml, hown, hts, hK, hnm, hR1, hR2, hR3, hR4⟩ := C
  obtain ⟨hcode, hini, hy, hpar, hmax, hpl⟩ := mi
  intro H locs lsA hH hL hl hz
  have hcell := hH.2.2 i hi
  have he : fc_H A F i = cO c fs := he
  rw [he] at hcell
  obtain ⟨q, hq, cell, q1, q2, q3, q4⟩ := hcell
  rw [hq] at hc
  have hcn : q.1 = y.1.cls := Option.some.inj hc
  have hfc : s.vm.findClass y.1.cls = some cell.cls := by rw [← hcn, q2]; exact (hK.1 c _ hq).2.1
  have hsig : ∀ sig, parseMethodDescriptor y.1.desc = some sig → np = sig.parameters.length := fun sig h9 => by rw [h9] at hpar; exact (Option.some.inj hpar).symm
  have hpay : ∀ w ∈ Cond.code y.1 y.2.1 y.2.2.1 y.2.2.2 :: fc_tbl, ∀ (a' : Array Value) (U : State), s.WarmedH U.vm → w.before a' U = true := fun w hw => by
    rcases List.mem_cons.mp hw with rfl | hw
    · exact fc_pay hts _ hcode
    · exact fc_pay hts w hw
  have hp : PreV s H y.1.cls (B.size + i) (fun a U => a = ((vR i :: as).map (fc_v B.size)).toArray ∧ fc_HR D cy B 159 (fc_H A F) U.heap ∧ fc_K D cy U) (as.map (fc_v B.size)) := ⟨fc_blind, ⟨cell, q1, by rw [q3]; rfl, hfc⟩, fun U hU hW => ⟨rfl, by rw [hU]; exact hH, hK.moved hW.alike⟩⟩
  have hstk : (F0 m pc lsA ((as.reverse ++ vR i :: st).map (fc_v B.size))).stack = (as.map (fc_v B.size)).reverse ++ .ref (B.size + i) :: st.map (fc_v B.size) := by
    show (as.reverse ++ vR i :: st).map (fc_v B.size) = _
    rw [List.map_append, List.map_reverse]; rfl
  have hroom : 2 * (F0 m pc lsA ((as.reverse ++ vR i :: st).map (fc_v B.size))).monitorRoom + ((st.map (fc_v B.size)).map fun v => v.category).sum ≤ 8 := lv_room (by rw [fc_sum_eq]; exact hst)
  have hrm1 : (fc_rm d' 0 0).frames + 1 ≤ R.frames := by show d' + 1 ≤ _; omega
  have hrm2 : 8 + (y.2.2.1 + 11) + (fc_rm d' 0 0).locals ≤ R.locals := by show 8 + (y.2.2.1 + 11) + 64 * d' ≤ _; omega
  have run : va_Run p l e R s m args below meth c9 H locs cs sl 0 0 (F0 m pc lsA ((as.reverse ++ vR i :: st).map (fc_v B.size))) (st.map (fc_v B.size)) ((fun _ _ o t => ∃ (r : Option fc_AV) (A' : Nat → Int → Int) (F' : Nat → Nat → Int), Post r A' F' ∧ o = .returned (r.map (fc_v B.size)) ∧ fc_HR D cy B 159 (fc_H A' F') t.heap) (Value.ref (B.size + i) :: as.map (fc_v B.size)).toArray) (fun q => B.size ≤ q) := by
    rcases ml with hw | ⟨host, hw⟩
    · exact va_runV ⟨hx, hb, hml, hown, hts⟩ (hM l D cy B) ⟨⟨rfl, rfl, hrm1, hrm2, hpay, List.mem_cons_self, hts _ hcode, hts _ hini, hy, hsig, hts _ hw⟩, hts _ im, hts _ sel⟩ hp rfl (by rw [List.length_map]; exact hnp) (hl.1.trans hml) hstk hroom dg ⟨by omega, by omega⟩
    · exact va_runVN ⟨hx, hb, hml, hown, hts⟩ (hM l D cy B) ⟨⟨⟨rfl, rfl, hrm1, hrm2, hpay, List.mem_cons_self⟩, hts _ hcode, hts _ hini, hy, hsig, hts _ hw⟩, hts _ im, hts _ sel⟩ hp rfl (by rw [List.length_map]; exact hnp) (hl.1.trans hml) hstk hroom dg ⟨by omega, by omega⟩
  intro T hT XX
  obtain ⟨v, st₀, t, T', L, h0, X', hL2, e1, e2, ⟨r, A', F', hpost, hv, hH2⟩, stp⟩ := run T hT XX
  cases hv
  obtain ⟨t2, a1, b1⟩ := k r A' F' hpost T'.heap (locs ++ L) lsA (by rw [e1]; exact hH2) (fun q hq => (List.mem_append.mp hq).elim (hL q) (hL2 q)) hl hz T' rfl X'
  refine ⟨t2, stp t2 ?_, b1⟩
  cases r <;> exact a1
end FLD
