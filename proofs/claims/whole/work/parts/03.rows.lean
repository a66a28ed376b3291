/-! one row an instruction -/
section FCR
variable {X : fc_X} {own : String} {cc : ByteArray} {nL d nc ns : Nat} {nm : String} {cs sl n : Nat} {h : Nat → fc_AC} {pc : Nat} {ls : List (Option fc_AV)} {st : List fc_AV}

theorem fc_eq {ls' : List (Option fc_AV)} {st' : List fc_AV} (e1 : ls = ls') (e2 : st = st') (k : fc_W X cs sl n h pc ls' st') : fc_W X cs sl n h pc ls st := by
  subst e1; subst e2; exact k
theorem fc_heq {h' : Nat → fc_AC} (e1 : h = h') (k : fc_W X cs sl n h' pc ls st) : fc_W X cs sl n h pc ls st := by
  subst e1; exact k
theorem fc_hceq {h' : Nat → fc_AC} (e1 : ∀ i : Nat, i < n → fc_ceq (h i) (h' i)) (k : fc_W X cs sl n h' pc ls st) : fc_W X cs sl n h pc ls st := by
  obtain ⟨p, l, e, R, s, m, args, below, meth, c, D, cy, B, Q⟩ := X
  intro H locs lsA hH hL hl
  exact k H locs lsA (hH.ceq e1) hL hl
theorem fc_iconst {z : Int} (C : fc_C X own cc nL d nc ns nm) (dg : decode cc pc = .ok (.iconst z, 1))
    (k : fc_W X cs sl n h (pc + 1) (ls) (vI z :: st)) : fc_W X cs sl n h (pc) (ls) (st) := by
  obtain ⟨p, l, e, R, s, m, args, below, meth, c, D, cy, B, Q⟩ := X
  obtain ⟨hx, hb, hml, hown, hts, hK, hnm, hR1, hR2, hR3, hR4⟩ := C
  intro H locs lsA hH hL hl
  exact lv_iconst hx hb dg rfl (k H locs lsA hH hL hl)
theorem fc_bipush {z : Int} (C : fc_C X own cc nL d nc ns nm) (dg : decode cc pc = .ok (.bipush z, 2)) (hv : (Int8.ofInt z).toInt32 = Int32.ofInt z)
    (k : fc_W X cs sl n h (pc + 2) (ls) (vI z :: st)) : fc_W X cs sl n h (pc) (ls) (st) := by
  obtain ⟨p, l, e, R, s, m, args, below, meth, c, D, cy, B, Q⟩ := X
  obtain ⟨hx, hb, hml, hown, hts, hK, hnm, hR1, hR2, hR3, hR4⟩ := C
  intro H locs lsA hH hL hl
  exact lv_bipush hx hb dg hv (k H locs lsA hH hL hl)
theorem fc_sipush {z : Int} (C : fc_C X own cc nL d nc ns nm) (dg : decode cc pc = .ok (.sipush z, 3)) (hv : (Int16.ofInt z).toInt32 = Int32.ofInt z)
    (k : fc_W X cs sl n h (pc + 3) (ls) (vI z :: st)) : fc_W X cs sl n h (pc) (ls) (st) := by
  obtain ⟨p, l, e, R, s, m, args, below, meth, c, D, cy, B, Q⟩ := X
  obtain ⟨hx, hb, hml, hown, hts, hK, hnm, hR1, hR2, hR3, hR4⟩ := C
  intro H locs lsA hH hL hl
  exact lv_sipush hx hb dg hv (k H locs lsA hH hL hl)
theorem fc_lconst {f : Fin 2} {z : Int} (C : fc_C X own cc nL d nc ns nm) (dg : decode cc pc = .ok (.lconst f, 1)) (hv : Int64.ofNat (f : Nat) = Int64.ofInt z)
    (k : fc_W X cs sl n h (pc + 1) (ls) (vL z :: st)) : fc_W X cs sl n h (pc) (ls) (st) := by
  obtain ⟨p, l, e, R, s, m, args, below, meth, c, D, cy, B, Q⟩ := X
  obtain ⟨hx, hb, hml, hown, hts, hK, hnm, hR1, hR2, hR3, hR4⟩ := C
  intro H locs lsA hH hL hl
  exact lv_lconst hx hb dg hv (k H locs lsA hH hL hl)
theorem fc_ldc {z : Int} {ix : Nat} (C : fc_C X own cc nL d nc ns nm) (dg : decode cc pc = .ok (.ldc ix, 2)) (hw : Cond.constant own ix (Int32.ofInt z) ∈ fc_tbl)
    (k : fc_W X cs sl n h (pc + 2) (ls) (vI z :: st)) : fc_W X cs sl n h (pc) (ls) (st) := by
  obtain ⟨p, l, e, R, s, m, args, below, meth, c, D, cy, B, Q⟩ := X
  obtain ⟨hx, hb, hml, hown, hts, hK, hnm, hR1, hR2, hR3, hR4⟩ := C
  intro H locs lsA hH hL hl
  exact lv_ldc hx hb hown (hts _ hw) dg (k H locs lsA hH hL hl)
theorem fc_ldc_w {z : Int} {ix : Nat} (C : fc_C X own cc nL d nc ns nm) (dg : decode cc pc = .ok (.ldc_w ix, 3)) (hw : Cond.constant own ix (Int32.ofInt z) ∈ fc_tbl)
    (k : fc_W X cs sl n h (pc + 3) (ls) (vI z :: st)) : fc_W X cs sl n h (pc) (ls) (st) := by
  obtain ⟨p, l, e, R, s, m, args, below, meth, c, D, cy, B, Q⟩ := X
  obtain ⟨hx, hb, hml, hown, hts, hK, hnm, hR1, hR2, hR3, hR4⟩ := C
  intro H locs lsA hH hL hl
  exact lv_ldcw hx hb hown (hts _ hw) dg (k H locs lsA hH hL hl)
theorem fc_ldc2_w {z : Int} {ix : Nat} (C : fc_C X own cc nL d nc ns nm) (dg : decode cc pc = .ok (.ldc2_w ix, 3)) (hw : Cond.constantLong own ix (Int64.ofInt z) ∈ fc_tbl)
    (k : fc_W X cs sl n h (pc + 3) (ls) (vL z :: st)) : fc_W X cs sl n h (pc) (ls) (st) := by
  obtain ⟨p, l, e, R, s, m, args, below, meth, c, D, cy, B, Q⟩ := X
  obtain ⟨hx, hb, hml, hown, hts, hK, hnm, hR1, hR2, hR3, hR4⟩ := C
  intro H locs lsA hH hL hl
  exact lv_ldc2 hx hb hown (hts _ hw) dg (k H locs lsA hH hL hl)
theorem fc_iload_n {f : Fin 4} {i : Nat} {x : Int} (C : fc_C X own cc nL d nc ns nm) (dg : decode cc pc = .ok (.iload_n f, 1)) (hi : (f : Nat) = i) (hv : fc_get ls i = some (vI x))
    (k : fc_W X cs sl n h (pc + 1) (ls) (vI x :: st)) : fc_W X cs sl n h (pc) (ls) (st) := by
  obtain ⟨p, l, e, R, s, m, args, below, meth, c, D, cy, B, Q⟩ := X
  obtain ⟨hx, hb, hml, hown, hts, hK, hnm, hR1, hR2, hR3, hR4⟩ := C
  intro H locs lsA hH hL hl
  exact lv_iload_n hx hb dg hi (hl.2.2 _ _ hv) (k H locs lsA hH hL hl)
theorem fc_iload {i : Nat} {x : Int} (C : fc_C X own cc nL d nc ns nm) (dg : decode cc pc = .ok (.iload i, 2)) (hv : fc_get ls i = some (vI x))
    (k : fc_W X cs sl n h (pc + 2) (ls) (vI x :: st)) : fc_W X cs sl n h (pc) (ls) (st) := by
  obtain ⟨p, l, e, R, s, m, args, below, meth, c, D, cy, B, Q⟩ := X
  obtain ⟨hx, hb, hml, hown, hts, hK, hnm, hR1, hR2, hR3, hR4⟩ := C
  intro H locs lsA hH hL hl
  exact lv_iload hx hb dg (hl.2.2 _ _ hv) (k H locs lsA hH hL hl)
theorem fc_lload_n {f : Fin 4} {i : Nat} {x : Int} (C : fc_C X own cc nL d nc ns nm) (dg : decode cc pc = .ok (.lload_n f, 1)) (hi : (f : Nat) = i) (hv : fc_get ls i = some (vL x))
    (k : fc_W X cs sl n h (pc + 1) (ls) (vL x :: st)) : fc_W X cs sl n h (pc) (ls) (st) := by
  obtain ⟨p, l, e, R, s, m, args, below, meth, c, D, cy, B, Q⟩ := X
  obtain ⟨hx, hb, hml, hown, hts, hK, hnm, hR1, hR2, hR3, hR4⟩ := C
  intro H locs lsA hH hL hl
  exact lv_lload_n hx hb dg hi (hl.2.2 _ _ hv) (k H locs lsA hH hL hl)
theorem fc_lload {i : Nat} {x : Int} (C : fc_C X own cc nL d nc ns nm) (dg : decode cc pc = .ok (.lload i, 2)) (hv : fc_get ls i = some (vL x))
    (k : fc_W X cs sl n h (pc + 2) (ls) (vL x :: st)) : fc_W X cs sl n h (pc) (ls) (st) := by
  obtain ⟨p, l, e, R, s, m, args, below, meth, c, D, cy, B, Q⟩ := X
  obtain ⟨hx, hb, hml, hown, hts, hK, hnm, hR1, hR2, hR3, hR4⟩ := C
  intro H locs lsA hH hL hl
  exact lv_lload hx hb dg (hl.2.2 _ _ hv) (k H locs lsA hH hL hl)
theorem fc_aload_n {f : Fin 4} {i : Nat} {x : Nat} (C : fc_C X own cc nL d nc ns nm) (dg : decode cc pc = .ok (.aload_n f, 1)) (hi : (f : Nat) = i) (hv : fc_get ls i = some (vR x))
    (k : fc_W X cs sl n h (pc + 1) (ls) (vR x :: st)) : fc_W X cs sl n h (pc) (ls) (st) := by
  obtain ⟨p, l, e, R, s, m, args, below, meth, c, D, cy, B, Q⟩ := X
  obtain ⟨hx, hb, hml, hown, hts, hK, hnm, hR1, hR2, hR3, hR4⟩ := C
  intro H locs lsA hH hL hl
  exact lv_aload_n hx hb dg hi (hl.2.2 _ _ hv) (k H locs lsA hH hL hl)
theorem fc_aload {i : Nat} {x : Nat} (C : fc_C X own cc nL d nc ns nm) (dg : decode cc pc = .ok (.aload i, 2)) (hv : fc_get ls i = some (vR x))
    (k : fc_W X cs sl n h (pc + 2) (ls) (vR x :: st)) : fc_W X cs sl n h (pc) (ls) (st) := by
  obtain ⟨p, l, e, R, s, m, args, below, meth, c, D, cy, B, Q⟩ := X
  obtain ⟨hx, hb, hml, hown, hts, hK, hnm, hR1, hR2, hR3, hR4⟩ := C
  intro H locs lsA hH hL hl
  exact lv_aload hx hb dg (hl.2.2 _ _ hv) (k H locs lsA hH hL hl)
theorem fc_istore_n {f : Fin 4} {i : Nat} {x : Int} (C : fc_C X own cc nL d nc ns nm) (dg : decode cc pc = .ok (.istore_n f, 1)) (hi : (f : Nat) = i) (hn : i < nL)
    (k : fc_W X cs sl n h (pc + 1) (fc_sto ls i (vI x)) (st)) : fc_W X cs sl n h (pc) (ls) (vI x :: st) := by
  obtain ⟨p, l, e, R, s, m, args, below, meth, c, D, cy, B, Q⟩ := X
  obtain ⟨hx, hb, hml, hown, hts, hK, hnm, hR1, hR2, hR3, hR4⟩ := C
  intro H locs lsA hH hL hl
  exact lv_istore_n hx hb dg hi hl.as (by rw [hml]; exact hn) rfl (fun ls' hl' => k H locs ls' hH hL (fc_ls.sto1 (v := vI x) hl'))
theorem fc_istore {i : Nat} {x : Int} (C : fc_C X own cc nL d nc ns nm) (dg : decode cc pc = .ok (.istore i, 2)) (hn : i < nL)
    (k : fc_W X cs sl n h (pc + 2) (fc_sto ls i (vI x)) (st)) : fc_W X cs sl n h (pc) (ls) (vI x :: st) := by
  obtain ⟨p, l, e, R, s, m, args, below, meth, c, D, cy, B, Q⟩ := X
  obtain ⟨hx, hb, hml, hown, hts, hK, hnm, hR1, hR2, hR3, hR4⟩ := C
  intro H locs lsA hH hL hl
  exact lv_istore hx hb dg hl.as (by rw [hml]; exact hn) rfl (fun ls' hl' => k H locs ls' hH hL (fc_ls.sto1 (v := vI x) hl'))
theorem fc_lstore_n {f : Fin 4} {i : Nat} {x : Int} (C : fc_C X own cc nL d nc ns nm) (dg : decode cc pc = .ok (.lstore_n f, 1)) (hi : (f : Nat) = i) (hn : i + 1 < nL)
    (k : fc_W X cs sl n h (pc + 1) (fc_st2 ls i (vL x)) (st)) : fc_W X cs sl n h (pc) (ls) (vL x :: st) := by
  obtain ⟨p, l, e, R, s, m, args, below, meth, c, D, cy, B, Q⟩ := X
  obtain ⟨hx, hb, hml, hown, hts, hK, hnm, hR1, hR2, hR3, hR4⟩ := C
  intro H locs lsA hH hL hl
  exact lv_lstore_n hx hb dg hi hl.as (by rw [hml]; exact hn) rfl (fun ls' hl' => k H locs ls' hH hL (fc_ls.sto2 (v := vL x) hl'))
theorem fc_lstore {i : Nat} {x : Int} (C : fc_C X own cc nL d nc ns nm) (dg : decode cc pc = .ok (.lstore i, 2)) (hn : i + 1 < nL)
    (k : fc_W X cs sl n h (pc + 2) (fc_st2 ls i (vL x)) (st)) : fc_W X cs sl n h (pc) (ls) (vL x :: st) := by
  obtain ⟨p, l, e, R, s, m, args, below, meth, c, D, cy, B, Q⟩ := X
  obtain ⟨hx, hb, hml, hown, hts, hK, hnm, hR1, hR2, hR3, hR4⟩ := C
  intro H locs lsA hH hL hl
  exact lv_lstore hx hb dg hl.as (by rw [hml]; exact hn) rfl (fun ls' hl' => k H locs ls' hH hL (fc_ls.sto2 (v := vL x) hl'))
theorem fc_astore_n {f : Fin 4} {i : Nat} {x : Nat} (C : fc_C X own cc nL d nc ns nm) (dg : decode cc pc = .ok (.astore_n f, 1)) (hi : (f : Nat) = i) (hn : i < nL)
    (k : fc_W X cs sl n h (pc + 1) (fc_sto ls i (vR x)) (st)) : fc_W X cs sl n h (pc) (ls) (vR x :: st) := by
  obtain ⟨p, l, e, R, s, m, args, below, meth, c, D, cy, B, Q⟩ := X
  obtain ⟨hx, hb, hml, hown, hts, hK, hnm, hR1, hR2, hR3, hR4⟩ := C
  intro H locs lsA hH hL hl
  exact lv_astore_n hx hb dg hi hl.as (by rw [hml]; exact hn) rfl (fun ls' hl' => k H locs ls' hH hL (fc_ls.sto1 (v := vR x) hl'))
theorem fc_astore {i : Nat} {x : Nat} (C : fc_C X own cc nL d nc ns nm) (dg : decode cc pc = .ok (.astore i, 2)) (hn : i < nL)
    (k : fc_W X cs sl n h (pc + 2) (fc_sto ls i (vR x)) (st)) : fc_W X cs sl n h (pc) (ls) (vR x :: st) := by
  obtain ⟨p, l, e, R, s, m, args, below, meth, c, D, cy, B, Q⟩ := X
  obtain ⟨hx, hb, hml, hown, hts, hK, hnm, hR1, hR2, hR3, hR4⟩ := C
  intro H locs lsA hH hL hl
  exact lv_astore hx hb dg hl.as (by rw [hml]; exact hn) rfl (fun ls' hl' => k H locs ls' hH hL (fc_ls.sto1 (v := vR x) hl'))
theorem fc_iinc {i : Nat} {x z : Int} (C : fc_C X own cc nL d nc ns nm) (dg : decode cc pc = .ok (.iinc i z, 3)) (hv : fc_get ls i = some (vI x)) (hn : i < nL)
    (k : fc_W X cs sl n h (pc + 3) (fc_sto ls i (vI (x + z))) (st)) : fc_W X cs sl n h (pc) (ls) (st) := by
  obtain ⟨p, l, e, R, s, m, args, below, meth, c, D, cy, B, Q⟩ := X
  obtain ⟨hx, hb, hml, hown, hts, hK, hnm, hR1, hR2, hR3, hR4⟩ := C
  intro H locs lsA hH hL hl
  obtain ⟨k9, hk9⟩ := List.getElem?_of_mem (fc_as_mem (b := B.size) hv)
  exact lv_iinc hx hb dg hl.as hk9 (v := Int32.ofInt (x + z)) (by rw [Int32.ofInt_add]) (by rw [hml]; exact hn) rfl (fun ls' hl' => k H locs ls' hH hL (fc_ls.sto1 (v := vI (x + z)) hl'))
theorem fc_iadd {x y : Int} (C : fc_C X own cc nL d nc ns nm) (dg : decode cc pc = .ok (.iadd, 1))
    (k : fc_W X cs sl n h (pc + 1) (ls) (vI (x + y) :: st)) : fc_W X cs sl n h (pc) (ls) (vI y :: vI x :: st) := by
  obtain ⟨p, l, e, R, s, m, args, below, meth, c, D, cy, B, Q⟩ := X
  obtain ⟨hx, hb, hml, hown, hts, hK, hnm, hR1, hR2, hR3, hR4⟩ := C
  intro H locs lsA hH hL hl
  refine lv_iadd hx hb dg ?_
  rw [← Int32.ofInt_add]
  exact k H locs lsA hH hL hl
theorem fc_ladd {x y : Int} (C : fc_C X own cc nL d nc ns nm) (dg : decode cc pc = .ok (.ladd, 1))
    (k : fc_W X cs sl n h (pc + 1) (ls) (vL (x + y) :: st)) : fc_W X cs sl n h (pc) (ls) (vL y :: vL x :: st) := by
  obtain ⟨p, l, e, R, s, m, args, below, meth, c, D, cy, B, Q⟩ := X
  obtain ⟨hx, hb, hml, hown, hts, hK, hnm, hR1, hR2, hR3, hR4⟩ := C
  intro H locs lsA hH hL hl
  refine lv_ladd hx hb dg ?_
  rw [← Int64.ofInt_add]
  exact k H locs lsA hH hL hl
theorem fc_isub {x y : Int} (C : fc_C X own cc nL d nc ns nm) (dg : decode cc pc = .ok (.isub, 1))
    (k : fc_W X cs sl n h (pc + 1) (ls) (vI (x - y) :: st)) : fc_W X cs sl n h (pc) (ls) (vI y :: vI x :: st) := by
  obtain ⟨p, l, e, R, s, m, args, below, meth, c, D, cy, B, Q⟩ := X
  obtain ⟨hx, hb, hml, hown, hts, hK, hnm, hR1, hR2, hR3, hR4⟩ := C
  intro H locs lsA hH hL hl
  refine lv_isub hx hb dg ?_
  rw [← Int32.ofInt_sub]
  exact k H locs lsA hH hL hl
theorem fc_lsub {x y : Int} (C : fc_C X own cc nL d nc ns nm) (dg : decode cc pc = .ok (.lsub, 1))
    (k : fc_W X cs sl n h (pc + 1) (ls) (vL (x - y) :: st)) : fc_W X cs sl n h (pc) (ls) (vL y :: vL x :: st) := by
  obtain ⟨p, l, e, R, s, m, args, below, meth, c, D, cy, B, Q⟩ := X
  obtain ⟨hx, hb, hml, hown, hts, hK, hnm, hR1, hR2, hR3, hR4⟩ := C
  intro H locs lsA hH hL hl
  refine lv_lsub hx hb dg ?_
  rw [← Int64.ofInt_sub]
  exact k H locs lsA hH hL hl
theorem fc_imul {x y : Int} (C : fc_C X own cc nL d nc ns nm) (dg : decode cc pc = .ok (.imul, 1))
    (k : fc_W X cs sl n h (pc + 1) (ls) (vI (x * y) :: st)) : fc_W X cs sl n h (pc) (ls) (vI y :: vI x :: st) := by
  obtain ⟨p, l, e, R, s, m, args, below, meth, c, D, cy, B, Q⟩ := X
  obtain ⟨hx, hb, hml, hown, hts, hK, hnm, hR1, hR2, hR3, hR4⟩ := C
  intro H locs lsA hH hL hl
  refine lv_imul hx hb dg ?_
  rw [← Int32.ofInt_mul]
  exact k H locs lsA hH hL hl
theorem fc_lmul {x y : Int} (C : fc_C X own cc nL d nc ns nm) (dg : decode cc pc = .ok (.lmul, 1))
    (k : fc_W X cs sl n h (pc + 1) (ls) (vL (x * y) :: st)) : fc_W X cs sl n h (pc) (ls) (vL y :: vL x :: st) := by
  obtain ⟨p, l, e, R, s, m, args, below, meth, c, D, cy, B, Q⟩ := X
  obtain ⟨hx, hb, hml, hown, hts, hK, hnm, hR1, hR2, hR3, hR4⟩ := C
  intro H locs lsA hH hL hl
  refine lv_lmul hx hb dg ?_
  rw [← Int64.ofInt_mul]
  exact k H locs lsA hH hL hl
theorem fc_ineg {x : Int} (C : fc_C X own cc nL d nc ns nm) (dg : decode cc pc = .ok (.ineg, 1))
    (k : fc_W X cs sl n h (pc + 1) (ls) (vI (-x) :: st)) : fc_W X cs sl n h (pc) (ls) (vI x :: st) := by
  obtain ⟨p, l, e, R, s, m, args, below, meth, c, D, cy, B, Q⟩ := X
  obtain ⟨hx, hb, hml, hown, hts, hK, hnm, hR1, hR2, hR3, hR4⟩ := C
  intro H locs lsA hH hL hl
  refine lv_ineg hx hb dg ?_
  rw [← Int32.ofInt_neg]
  exact k H locs lsA hH hL hl
theorem fc_idiv {x y : Int} (C : fc_C X own cc nL d nc ns nm) (dg : decode cc pc = .ok (.idiv, 1)) (hx1 : fc_R x) (hy : fc_R y) (h0 : y ≠ 0)
    (k : fc_W X cs sl n h (pc + 1) (ls) (vI (x.tdiv y) :: st)) : fc_W X cs sl n h (pc) (ls) (vI y :: vI x :: st) := by
  obtain ⟨p, l, e, R, s, m, args, below, meth, c, D, cy, B, Q⟩ := X
  obtain ⟨hx, hb, hml, hown, hts, hK, hnm, hR1, hR2, hR3, hR4⟩ := C
  intro H locs lsA hH hL hl
  have hne : ¬ Int32.ofInt y = 0 := fun q => h0 (by have q1 := congrArg Int32.toInt q; rw [fc_to hy] at q1; simpa using q1)
  have e1 : Int32.ofInt x / Int32.ofInt y = Int32.ofInt (x.tdiv y) := (Int32.ofInt_tdiv hx1.1 (show x ≤ 2147483647 by have := hx1.2; omega) hy.1 (show y ≤ 2147483647 by have := hy.2; omega)).symm
  refine lv_idiv hx hb dg hne ?_
  rw [e1]
  exact k H locs lsA hH hL hl
theorem fc_irem {x y : Int} (C : fc_C X own cc nL d nc ns nm) (dg : decode cc pc = .ok (.irem, 1)) (hx1 : fc_R x) (hy : fc_R y) (h0 : y ≠ 0)
    (k : fc_W X cs sl n h (pc + 1) (ls) (vI (x.tmod y) :: st)) : fc_W X cs sl n h (pc) (ls) (vI y :: vI x :: st) := by
  obtain ⟨p, l, e, R, s, m, args, below, meth, c, D, cy, B, Q⟩ := X
  obtain ⟨hx, hb, hml, hown, hts, hK, hnm, hR1, hR2, hR3, hR4⟩ := C
  intro H locs lsA hH hL hl
  have hne : ¬ Int32.ofInt y = 0 := fun q => h0 (by have q1 := congrArg Int32.toInt q; rw [fc_to hy] at q1; simpa using q1)
  have e1 : Int32.ofInt x / Int32.ofInt y = Int32.ofInt (x.tdiv y) := (Int32.ofInt_tdiv hx1.1 (show x ≤ 2147483647 by have := hx1.2; omega) hy.1 (show y ≤ 2147483647 by have := hy.2; omega)).symm
  refine lv_irem hx hb dg hne ?_
  rw [e1, ← Int32.ofInt_mul, ← Int32.ofInt_sub, show x - x.tdiv y * y = x.tmod y by have := Int.mul_tdiv_add_tmod x y; rw [Int.mul_comm] at this; omega]
  exact k H locs lsA hH hL hl
theorem fc_lneg {x : Int} (C : fc_C X own cc nL d nc ns nm) (dg : decode cc pc = .ok (.lneg, 1))
    (k : fc_W X cs sl n h (pc + 1) (ls) (vL (-x) :: st)) : fc_W X cs sl n h (pc) (ls) (vL x :: st) := by
  obtain ⟨p, l, e, R, s, m, args, below, meth, c, D, cy, B, Q⟩ := X
  obtain ⟨hx, hb, hml, hown, hts, hK, hnm, hR1, hR2, hR3, hR4⟩ := C
  intro H locs lsA hH hL hl
  refine lv_lneg hx hb dg ?_
  rw [← Int64.ofInt_neg]
  exact k H locs lsA hH hL hl
theorem fc_ldiv {x y : Int} (C : fc_C X own cc nL d nc ns nm) (dg : decode cc pc = .ok (.ldiv, 1)) (hx1 : fc_RL x) (hy : fc_RL y) (h0 : y ≠ 0)
    (k : fc_W X cs sl n h (pc + 1) (ls) (vL (x.tdiv y) :: st)) : fc_W X cs sl n h (pc) (ls) (vL y :: vL x :: st) := by
  obtain ⟨p, l, e, R, s, m, args, below, meth, c, D, cy, B, Q⟩ := X
  obtain ⟨hx, hb, hml, hown, hts, hK, hnm, hR1, hR2, hR3, hR4⟩ := C
  intro H locs lsA hH hL hl
  have hne : ¬ Int64.ofInt y = 0 := fun q => h0 (by have q1 := congrArg Int64.toInt q; rw [fc_toL hy] at q1; simpa using q1)
  have e1 : Int64.ofInt x / Int64.ofInt y = Int64.ofInt (x.tdiv y) := (Int64.ofInt_tdiv hx1.1 (show x ≤ 9223372036854775807 by have := hx1.2; omega) hy.1 (show y ≤ 9223372036854775807 by have := hy.2; omega)).symm
  refine lv_ldiv hx hb dg hne ?_
  rw [e1]
  exact k H locs lsA hH hL hl
theorem fc_lrem {x y : Int} (C : fc_C X own cc nL d nc ns nm) (dg : decode cc pc = .ok (.lrem, 1)) (hx1 : fc_RL x) (hy : fc_RL y) (h0 : y ≠ 0)
    (k : fc_W X cs sl n h (pc + 1) (ls) (vL (x.tmod y) :: st)) : fc_W X cs sl n h (pc) (ls) (vL y :: vL x :: st) := by
  obtain ⟨p, l, e, R, s, m, args, below, meth, c, D, cy, B, Q⟩ := X
  obtain ⟨hx, hb, hml, hown, hts, hK, hnm, hR1, hR2, hR3, hR4⟩ := C
  intro H locs lsA hH hL hl
  have hne : ¬ Int64.ofInt y = 0 := fun q => h0 (by have q1 := congrArg Int64.toInt q; rw [fc_toL hy] at q1; simpa using q1)
  have e1 : Int64.ofInt x / Int64.ofInt y = Int64.ofInt (x.tdiv y) := (Int64.ofInt_tdiv hx1.1 (show x ≤ 9223372036854775807 by have := hx1.2; omega) hy.1 (show y ≤ 9223372036854775807 by have := hy.2; omega)).symm
  refine lv_lrem hx hb dg hne ?_
  rw [e1, ← Int64.ofInt_mul, ← Int64.ofInt_sub, show x - x.tdiv y * y = x.tmod y by have := Int.mul_tdiv_add_tmod x y; rw [Int.mul_comm] at this; omega]
  exact k H locs lsA hH hL hl
def fc_shl (x y : Int) : Int := (Int32.ofInt x <<< (Int32.ofInt y &&& 31)).toInt
def fc_shr (x y : Int) : Int := (Int32.ofInt x >>> (Int32.ofInt y &&& 31)).toInt
def fc_and (x y : Int) : Int := (Int32.ofInt x &&& Int32.ofInt y).toInt
def fc_or (x y : Int) : Int := (Int32.ofInt x ||| Int32.ofInt y).toInt
def fc_xor (x y : Int) : Int := (Int32.ofInt x ^^^ Int32.ofInt y).toInt
def fc_lxor (x y : Int) : Int := (Int64.ofInt x ^^^ Int64.ofInt y).toInt
def fc_ushr (x y : Int) : Int := ((Int32.ofInt x).toUInt32 >>> ((Int32.ofInt y).toUInt32 &&& Int32.toUInt32 31)).toInt32.toInt
def fc_cmp (x y : Int) : Int := if y < x then 1 else if x = y then 0 else -1
theorem fc_ishl {x y : Int} (C : fc_C X own cc nL d nc ns nm) (dg : decode cc pc = .ok (.ishl, 1))
    (k : fc_W X cs sl n h (pc + 1) (ls) (vI (fc_shl x y) :: st)) : fc_W X cs sl n h (pc) (ls) (vI y :: vI x :: st) := by
  obtain ⟨p, l, e, R, s, m, args, below, meth, c, D, cy, B, Q⟩ := X
  obtain ⟨hx, hb, hml, hown, hts, hK, hnm, hR1, hR2, hR3, hR4⟩ := C
  intro H locs lsA hH hL hl
  refine lv_ishl hx hb dg ?_
  have k1 := k H locs lsA hH hL hl
  have e : fc_v B.size (vI (fc_shl x y)) = .int _ := congrArg Value.int (Int32.ofInt_toInt _)
  rw [List.map_cons, e] at k1
  exact k1
theorem fc_ishr {x y : Int} (C : fc_C X own cc nL d nc ns nm) (dg : decode cc pc = .ok (.ishr, 1))
    (k : fc_W X cs sl n h (pc + 1) (ls) (vI (fc_shr x y) :: st)) : fc_W X cs sl n h (pc) (ls) (vI y :: vI x :: st) := by
  obtain ⟨p, l, e, R, s, m, args, below, meth, c, D, cy, B, Q⟩ := X
  obtain ⟨hx, hb, hml, hown, hts, hK, hnm, hR1, hR2, hR3, hR4⟩ := C
  intro H locs lsA hH hL hl
  refine lv_ishr hx hb dg ?_
  have k1 := k H locs lsA hH hL hl
  have e : fc_v B.size (vI (fc_shr x y)) = .int _ := congrArg Value.int (Int32.ofInt_toInt _)
  rw [List.map_cons, e] at k1
  exact k1
theorem fc_iand {x y : Int} (C : fc_C X own cc nL d nc ns nm) (dg : decode cc pc = .ok (.iand, 1))
    (k : fc_W X cs sl n h (pc + 1) (ls) (vI (fc_and x y) :: st)) : fc_W X cs sl n h (pc) (ls) (vI y :: vI x :: st) := by
  obtain ⟨p, l, e, R, s, m, args, below, meth, c, D, cy, B, Q⟩ := X
  obtain ⟨hx, hb, hml, hown, hts, hK, hnm, hR1, hR2, hR3, hR4⟩ := C
  intro H locs lsA hH hL hl
  refine lv_iand hx hb dg ?_
  have k1 := k H locs lsA hH hL hl
  have e : fc_v B.size (vI (fc_and x y)) = .int _ := congrArg Value.int (Int32.ofInt_toInt _)
  rw [List.map_cons, e] at k1
  exact k1
theorem fc_ior {x y : Int} (C : fc_C X own cc nL d nc ns nm) (dg : decode cc pc = .ok (.ior, 1))
    (k : fc_W X cs sl n h (pc + 1) (ls) (vI (fc_or x y) :: st)) : fc_W X cs sl n h (pc) (ls) (vI y :: vI x :: st) := by
  obtain ⟨p, l, e, R, s, m, args, below, meth, c, D, cy, B, Q⟩ := X
  obtain ⟨hx, hb, hml, hown, hts, hK, hnm, hR1, hR2, hR3, hR4⟩ := C
  intro H locs lsA hH hL hl
  refine lv_ior hx hb dg ?_
  have k1 := k H locs lsA hH hL hl
  have e : fc_v B.size (vI (fc_or x y)) = .int _ := congrArg Value.int (Int32.ofInt_toInt _)
  rw [List.map_cons, e] at k1
  exact k1
theorem fc_ixor {x y : Int} (C : fc_C X own cc nL d nc ns nm) (dg : decode cc pc = .ok (.ixor, 1))
    (k : fc_W X cs sl n h (pc + 1) (ls) (vI (fc_xor x y) :: st)) : fc_W X cs sl n h (pc) (ls) (vI y :: vI x :: st) := by
  obtain ⟨p, l, e, R, s, m, args, below, meth, c, D, cy, B, Q⟩ := X
  obtain ⟨hx, hb, hml, hown, hts, hK, hnm, hR1, hR2, hR3, hR4⟩ := C
  intro H locs lsA hH hL hl
  refine lv_ixor hx hb dg ?_
  have k1 := k H locs lsA hH hL hl
  have e : fc_v B.size (vI (fc_xor x y)) = .int _ := congrArg Value.int (Int32.ofInt_toInt _)
  rw [List.map_cons, e] at k1
  exact k1
theorem fc_iushr {x y : Int} (C : fc_C X own cc nL d nc ns nm) (dg : decode cc pc = .ok (.iushr, 1))
    (k : fc_W X cs sl n h (pc + 1) (ls) (vI (fc_ushr x y) :: st)) : fc_W X cs sl n h (pc) (ls) (vI y :: vI x :: st) := by
  obtain ⟨p, l, e, R, s, m, args, below, meth, c, D, cy, B, Q⟩ := X
  obtain ⟨hx, hb, hml, hown, hts, hK, hnm, hR1, hR2, hR3, hR4⟩ := C
  intro H locs lsA hH hL hl
  refine lv_iushr hx hb dg rfl ?_
  rw [← Int32.ofInt_toInt (((Int32.ofInt x).toUInt32 >>> ((Int32.ofInt y).toUInt32 &&& Int32.toUInt32 31)).toInt32)]
  exact k H locs lsA hH hL hl
theorem fc_lxor_ {x y : Int} (C : fc_C X own cc nL d nc ns nm) (dg : decode cc pc = .ok (.lxor, 1))
    (k : fc_W X cs sl n h (pc + 1) (ls) (vL (fc_lxor x y) :: st)) : fc_W X cs sl n h (pc) (ls) (vL y :: vL x :: st) := by
  obtain ⟨p, l, e, R, s, m, args, below, meth, c, D, cy, B, Q⟩ := X
  obtain ⟨hx, hb, hml, hown, hts, hK, hnm, hR1, hR2, hR3, hR4⟩ := C
  intro H locs lsA hH hL hl
  refine lv_lxor hx hb dg ?_
  have k1 := k H locs lsA hH hL hl
  have e : fc_v B.size (vL (fc_lxor x y)) = .long _ := congrArg Value.long (Int64.ofInt_toInt _)
  rw [List.map_cons, e] at k1
  exact k1
theorem fc_i2l {x : Int} (C : fc_C X own cc nL d nc ns nm) (dg : decode cc pc = .ok (.i2l, 1)) (hx1 : fc_R x)
    (k : fc_W X cs sl n h (pc + 1) (ls) (vL x :: st)) : fc_W X cs sl n h (pc) (ls) (vI x :: st) := by
  obtain ⟨p, l, e, R, s, m, args, below, meth, c, D, cy, B, Q⟩ := X
  obtain ⟨hx, hb, hml, hown, hts, hK, hnm, hR1, hR2, hR3, hR4⟩ := C
  intro H locs lsA hH hL hl
  exact lv_i2l hx hb dg (Int32.toInt64_ofInt hx1.1 (show x ≤ 2147483647 by have := hx1.2; omega)) (k H locs lsA hH hL hl)
theorem fc_l2i {x : Int} (C : fc_C X own cc nL d nc ns nm) (dg : decode cc pc = .ok (.l2i, 1))
    (k : fc_W X cs sl n h (pc + 1) (ls) (vI x :: st)) : fc_W X cs sl n h (pc) (ls) (vL x :: st) := by
  obtain ⟨p, l, e, R, s, m, args, below, meth, c, D, cy, B, Q⟩ := X
  obtain ⟨hx, hb, hml, hown, hts, hK, hnm, hR1, hR2, hR3, hR4⟩ := C
  intro H locs lsA hH hL hl
  exact lv_l2i hx hb dg Int64.toInt32_ofInt (k H locs lsA hH hL hl)
theorem fc_lcmp {x y : Int} (C : fc_C X own cc nL d nc ns nm) (dg : decode cc pc = .ok (.lcmp, 1)) (hx1 : fc_RL x) (hy : fc_RL y)
    (k : fc_W X cs sl n h (pc + 1) (ls) (vI (fc_cmp x y) :: st)) : fc_W X cs sl n h (pc) (ls) (vL y :: vL x :: st) := by
  obtain ⟨p, l, e, R, s, m, args, below, meth, c, D, cy, B, Q⟩ := X
  obtain ⟨hx, hb, hml, hown, hts, hK, hnm, hR1, hR2, hR3, hR4⟩ := C
  intro H locs lsA hH hL hl
  have e1 : lg_cmp (Int64.ofInt x) (Int64.ofInt y) = Int32.ofInt (fc_cmp x y) := by
    unfold lg_cmp fc_cmp
    simp only [gt_iff_lt, Int64.lt_iff_toInt_lt, ← Int64.toInt_inj, fc_toL hx1, fc_toL hy]
    repeat' split
    all_goals rfl
  refine W.lcmp hx hb dg ?_
  rw [e1]
  exact k H locs lsA hH hL hl
theorem fc_dup {v : fc_AV} (C : fc_C X own cc nL d nc ns nm) (dg : decode cc pc = .ok (.dup, 1)) (hc : fc_cat v = 1)
    (k : fc_W X cs sl n h (pc + 1) (ls) (v :: v :: st)) : fc_W X cs sl n h (pc) (ls) (v :: st) := by
  obtain ⟨p, l, e, R, s, m, args, below, meth, c, D, cy, B, Q⟩ := X
  obtain ⟨hx, hb, hml, hown, hts, hK, hnm, hR1, hR2, hR3, hR4⟩ := C
  intro H locs lsA hH hL hl
  exact lv_dup hx hb dg ((fc_v_cat _ _).trans hc) (k H locs lsA hH hL hl)
theorem fc_dup2 {v w : fc_AV} (C : fc_C X own cc nL d nc ns nm) (dg : decode cc pc = .ok (.dup2, 1)) (hc : fc_cat v = 1) (hc2 : fc_cat w = 1)
    (k : fc_W X cs sl n h (pc + 1) (ls) (v :: w :: v :: w :: st)) : fc_W X cs sl n h (pc) (ls) (v :: w :: st) := by
  obtain ⟨p, l, e, R, s, m, args, below, meth, c, D, cy, B, Q⟩ := X
  obtain ⟨hx, hb, hml, hown, hts, hK, hnm, hR1, hR2, hR3, hR4⟩ := C
  intro H locs lsA hH hL hl
  exact lv_dup2_11 hx hb dg ((fc_v_cat _ _).trans hc) ((fc_v_cat _ _).trans hc2) (k H locs lsA hH hL hl)
theorem fc_iff_eq {x y : Int} (hx : fc_R x) (hy : fc_R y) : Int32.ofInt x = Int32.ofInt y ↔ x = y := by
  rw [← Int32.toInt_inj, fc_to hx, fc_to hy]
theorem fc_iff_lt {x y : Int} (hx : fc_R x) (hy : fc_R y) : Int32.ofInt x < Int32.ofInt y ↔ x < y := by
  rw [Int32.lt_iff_toInt_lt, fc_to hx, fc_to hy]
theorem fc_iff_le {x y : Int} (hx : fc_R x) (hy : fc_R y) : Int32.ofInt x ≤ Int32.ofInt y ↔ x ≤ y := by
  rw [Int32.le_iff_toInt_le, fc_to hx, fc_to hy]
theorem fc_R0 : fc_R 0 := ⟨by decide, by decide⟩
theorem fc_icmp_eq {x y off : Int} {tgt : Nat} (C : fc_C X own cc nL d nc ns nm) (dg : decode cc pc = .ok (.if_icmp .eq off, 3)) (ht : (pc : Int) + off = (tgt : Int)) (hx1 : fc_R x) (hy : fc_R y)
    (kt : x = y → fc_W X cs sl n h (tgt) (ls) (st)) (kf : x ≠ y → fc_W X cs sl n h (pc + 3) (ls) (st)) : fc_W X cs sl n h (pc) (ls) (vI y :: vI x :: st) := by
  obtain ⟨p, l, e, R, s, m, args, below, meth, c, D, cy, B, Q⟩ := X
  obtain ⟨hx, hb, hml, hown, hts, hK, hnm, hR1, hR2, hR3, hR4⟩ := C
  intro H locs lsA hH hL hl
  exact lv_icmp_eq hx hb dg ht (fun q => kt ((fc_iff_eq hx1 hy).mp q) H locs lsA hH hL hl) (fun q => kf (fun z => q ((fc_iff_eq hx1 hy).mpr z)) H locs lsA hH hL hl)
theorem fc_if_eq {x off : Int} {tgt : Nat} (C : fc_C X own cc nL d nc ns nm) (dg : decode cc pc = .ok (.ifCond .eq off, 3)) (ht : (pc : Int) + off = (tgt : Int)) (hx1 : fc_R x)
    (kt : x = 0 → fc_W X cs sl n h (tgt) (ls) (st)) (kf : x ≠ 0 → fc_W X cs sl n h (pc + 3) (ls) (st)) : fc_W X cs sl n h (pc) (ls) (vI x :: st) := by
  obtain ⟨p, l, e, R, s, m, args, below, meth, c, D, cy, B, Q⟩ := X
  obtain ⟨hx, hb, hml, hown, hts, hK, hnm, hR1, hR2, hR3, hR4⟩ := C
  intro H locs lsA hH hL hl
  exact lv_if_eq hx hb dg ht (fun q => kt ((fc_iff_eq hx1 fc_R0).mp q) H locs lsA hH hL hl) (fun q => kf (fun z => q ((fc_iff_eq hx1 fc_R0).mpr z)) H locs lsA hH hL hl)
theorem fc_icmp_ne {x y off : Int} {tgt : Nat} (C : fc_C X own cc nL d nc ns nm) (dg : decode cc pc = .ok (.if_icmp .ne off, 3)) (ht : (pc : Int) + off = (tgt : Int)) (hx1 : fc_R x) (hy : fc_R y)
    (kt : x ≠ y → fc_W X cs sl n h (tgt) (ls) (st)) (kf : x = y → fc_W X cs sl n h (pc + 3) (ls) (st)) : fc_W X cs sl n h (pc) (ls) (vI y :: vI x :: st) := by
  obtain ⟨p, l, e, R, s, m, args, below, meth, c, D, cy, B, Q⟩ := X
  obtain ⟨hx, hb, hml, hown, hts, hK, hnm, hR1, hR2, hR3, hR4⟩ := C
  intro H locs lsA hH hL hl
  exact lv_icmp_ne hx hb dg ht (fun q => kt ((not_congr (fc_iff_eq hx1 hy)).mp q) H locs lsA hH hL hl) (fun q => kf (((fc_iff_eq hx1 hy)).mp q) H locs lsA hH hL hl)
theorem fc_if_ne {x off : Int} {tgt : Nat} (C : fc_C X own cc nL d nc ns nm) (dg : decode cc pc = .ok (.ifCond .ne off, 3)) (ht : (pc : Int) + off = (tgt : Int)) (hx1 : fc_R x)
    (kt : x ≠ 0 → fc_W X cs sl n h (tgt) (ls) (st)) (kf : x = 0 → fc_W X cs sl n h (pc + 3) (ls) (st)) : fc_W X cs sl n h (pc) (ls) (vI x :: st) := by
  obtain ⟨p, l, e, R, s, m, args, below, meth, c, D, cy, B, Q⟩ := X
  obtain ⟨hx, hb, hml, hown, hts, hK, hnm, hR1, hR2, hR3, hR4⟩ := C
  intro H locs lsA hH hL hl
  exact lv_if_ne hx hb dg ht (fun q => kt ((not_congr (fc_iff_eq hx1 fc_R0)).mp q) H locs lsA hH hL hl) (fun q => kf (((fc_iff_eq hx1 fc_R0)).mp q) H locs lsA hH hL hl)
theorem fc_icmp_lt {x y off : Int} {tgt : Nat} (C : fc_C X own cc nL d nc ns nm) (dg : decode cc pc = .ok (.if_icmp .lt off, 3)) (ht : (pc : Int) + off = (tgt : Int)) (hx1 : fc_R x) (hy : fc_R y)
    (kt : x < y → fc_W X cs sl n h (tgt) (ls) (st)) (kf : y ≤ x → fc_W X cs sl n h (pc + 3) (ls) (st)) : fc_W X cs sl n h (pc) (ls) (vI y :: vI x :: st) := by
  obtain ⟨p, l, e, R, s, m, args, below, meth, c, D, cy, B, Q⟩ := X
  obtain ⟨hx, hb, hml, hown, hts, hK, hnm, hR1, hR2, hR3, hR4⟩ := C
  intro H locs lsA hH hL hl
  exact lv_icmp_lt hx hb dg ht (fun q => kt ((fc_iff_lt hx1 hy).mp q) H locs lsA hH hL hl) (fun q => kf (Int.not_lt.mp (fun z => q ((fc_iff_lt hx1 hy).mpr z))) H locs lsA hH hL hl)
theorem fc_if_lt {x off : Int} {tgt : Nat} (C : fc_C X own cc nL d nc ns nm) (dg : decode cc pc = .ok (.ifCond .lt off, 3)) (ht : (pc : Int) + off = (tgt : Int)) (hx1 : fc_R x)
    (kt : x < 0 → fc_W X cs sl n h (tgt) (ls) (st)) (kf : 0 ≤ x → fc_W X cs sl n h (pc + 3) (ls) (st)) : fc_W X cs sl n h (pc) (ls) (vI x :: st) := by
  obtain ⟨p, l, e, R, s, m, args, below, meth, c, D, cy, B, Q⟩ := X
  obtain ⟨hx, hb, hml, hown, hts, hK, hnm, hR1, hR2, hR3, hR4⟩ := C
  intro H locs lsA hH hL hl
  exact lv_if_lt hx hb dg ht (fun q => kt ((fc_iff_lt hx1 fc_R0).mp q) H locs lsA hH hL hl) (fun q => kf (Int.not_lt.mp (fun z => q ((fc_iff_lt hx1 fc_R0).mpr z))) H locs lsA hH hL hl)
theorem fc_icmp_ge {x y off : Int} {tgt : Nat} (C : fc_C X own cc nL d nc ns nm) (dg : decode cc pc = .ok (.if_icmp .ge off, 3)) (ht : (pc : Int) + off = (tgt : Int)) (hx1 : fc_R x) (hy : fc_R y)
    (kt : y ≤ x → fc_W X cs sl n h (tgt) (ls) (st)) (kf : x < y → fc_W X cs sl n h (pc + 3) (ls) (st)) : fc_W X cs sl n h (pc) (ls) (vI y :: vI x :: st) := by
  obtain ⟨p, l, e, R, s, m, args, below, meth, c, D, cy, B, Q⟩ := X
  obtain ⟨hx, hb, hml, hown, hts, hK, hnm, hR1, hR2, hR3, hR4⟩ := C
  intro H locs lsA hH hL hl
  exact lv_icmp_ge hx hb dg ht (fun q => kt ((fc_iff_le hy hx1).mp q) H locs lsA hH hL hl) (fun q => kf (Int.not_le.mp (fun z => q ((fc_iff_le hy hx1).mpr z))) H locs lsA hH hL hl)
theorem fc_if_ge {x off : Int} {tgt : Nat} (C : fc_C X own cc nL d nc ns nm) (dg : decode cc pc = .ok (.ifCond .ge off, 3)) (ht : (pc : Int) + off = (tgt : Int)) (hx1 : fc_R x)
    (kt : 0 ≤ x → fc_W X cs sl n h (tgt) (ls) (st)) (kf : x < 0 → fc_W X cs sl n h (pc + 3) (ls) (st)) : fc_W X cs sl n h (pc) (ls) (vI x :: st) := by
  obtain ⟨p, l, e, R, s, m, args, below, meth, c, D, cy, B, Q⟩ := X
  obtain ⟨hx, hb, hml, hown, hts, hK, hnm, hR1, hR2, hR3, hR4⟩ := C
  intro H locs lsA hH hL hl
  exact lv_if_ge hx hb dg ht (fun q => kt ((fc_iff_le fc_R0 hx1).mp q) H locs lsA hH hL hl) (fun q => kf (Int.not_le.mp (fun z => q ((fc_iff_le fc_R0 hx1).mpr z))) H locs lsA hH hL hl)
theorem fc_icmp_gt {x y off : Int} {tgt : Nat} (C : fc_C X own cc nL d nc ns nm) (dg : decode cc pc = .ok (.if_icmp .gt off, 3)) (ht : (pc : Int) + off = (tgt : Int)) (hx1 : fc_R x) (hy : fc_R y)
    (kt : y < x → fc_W X cs sl n h (tgt) (ls) (st)) (kf : x ≤ y → fc_W X cs sl n h (pc + 3) (ls) (st)) : fc_W X cs sl n h (pc) (ls) (vI y :: vI x :: st) := by
  obtain ⟨p, l, e, R, s, m, args, below, meth, c, D, cy, B, Q⟩ := X
  obtain ⟨hx, hb, hml, hown, hts, hK, hnm, hR1, hR2, hR3, hR4⟩ := C
  intro H locs lsA hH hL hl
  exact lv_icmp_gt hx hb dg ht (fun q => kt ((fc_iff_lt hy hx1).mp q) H locs lsA hH hL hl) (fun q => kf (Int.not_lt.mp (fun z => q ((fc_iff_lt hy hx1).mpr z))) H locs lsA hH hL hl)
theorem fc_if_gt {x off : Int} {tgt : Nat} (C : fc_C X own cc nL d nc ns nm) (dg : decode cc pc = .ok (.ifCond .gt off, 3)) (ht : (pc : Int) + off = (tgt : Int)) (hx1 : fc_R x)
    (kt : 0 < x → fc_W X cs sl n h (tgt) (ls) (st)) (kf : x ≤ 0 → fc_W X cs sl n h (pc + 3) (ls) (st)) : fc_W X cs sl n h (pc) (ls) (vI x :: st) := by
  obtain ⟨p, l, e, R, s, m, args, below, meth, c, D, cy, B, Q⟩ := X
  obtain ⟨hx, hb, hml, hown, hts, hK, hnm, hR1, hR2, hR3, hR4⟩ := C
  intro H locs lsA hH hL hl
  exact lv_if_gt hx hb dg ht (fun q => kt ((fc_iff_lt fc_R0 hx1).mp q) H locs lsA hH hL hl) (fun q => kf (Int.not_lt.mp (fun z => q ((fc_iff_lt fc_R0 hx1).mpr z))) H locs lsA hH hL hl)
theorem fc_icmp_le {x y off : Int} {tgt : Nat} (C : fc_C X own cc nL d nc ns nm) (dg : decode cc pc = .ok (.if_icmp .le off, 3)) (ht : (pc : Int) + off = (tgt : Int)) (hx1 : fc_R x) (hy : fc_R y)
    (kt : x ≤ y → fc_W X cs sl n h (tgt) (ls) (st)) (kf : y < x → fc_W X cs sl n h (pc + 3) (ls) (st)) : fc_W X cs sl n h (pc) (ls) (vI y :: vI x :: st) := by
  obtain ⟨p, l, e, R, s, m, args, below, meth, c, D, cy, B, Q⟩ := X
  obtain ⟨hx, hb, hml, hown, hts, hK, hnm, hR1, hR2, hR3, hR4⟩ := C
  intro H locs lsA hH hL hl
  exact lv_icmp_le hx hb dg ht (fun q => kt ((fc_iff_le hx1 hy).mp q) H locs lsA hH hL hl) (fun q => kf (Int.not_le.mp (fun z => q ((fc_iff_le hx1 hy).mpr z))) H locs lsA hH hL hl)
theorem fc_if_le {x off : Int} {tgt : Nat} (C : fc_C X own cc nL d nc ns nm) (dg : decode cc pc = .ok (.ifCond .le off, 3)) (ht : (pc : Int) + off = (tgt : Int)) (hx1 : fc_R x)
    (kt : x ≤ 0 → fc_W X cs sl n h (tgt) (ls) (st)) (kf : 0 < x → fc_W X cs sl n h (pc + 3) (ls) (st)) : fc_W X cs sl n h (pc) (ls) (vI x :: st) := by
  obtain ⟨p, l, e, R, s, m, args, below, meth, c, D, cy, B, Q⟩ := X
  obtain ⟨hx, hb, hml, hown, hts, hK, hnm, hR1, hR2, hR3, hR4⟩ := C
  intro H locs lsA hH hL hl
  exact lv_if_le hx hb dg ht (fun q => kt ((fc_iff_le hx1 fc_R0).mp q) H locs lsA hH hL hl) (fun q => kf (Int.not_le.mp (fun z => q ((fc_iff_le hx1 fc_R0).mpr z))) H locs lsA hH hL hl)
theorem fc_goto {off : Int} {tgt : Nat} (C : fc_C X own cc nL d nc ns nm) (dg : decode cc pc = .ok (.goto off, 3)) (ht : (pc : Int) + off = (tgt : Int))
    (k : fc_W X cs sl n h (tgt) (ls) (st)) : fc_W X cs sl n h (pc) (ls) (st) := by
  obtain ⟨p, l, e, R, s, m, args, below, meth, c, D, cy, B, Q⟩ := X
  obtain ⟨hx, hb, hml, hown, hts, hK, hnm, hR1, hR2, hR3, hR4⟩ := C
  intro H locs lsA hH hL hl
  exact lv_goto hx hb dg ht (k H locs lsA hH hL hl)
theorem fc_lookup {dflt : Int} {ps : Array (Int × Int)} {len : Nat} {x off : Int} {tgt : Nat} (C : fc_C X own cc nL d nc ns nm) (dg : decode cc pc = .ok (.lookupswitch dflt ps, len)) (hx1 : fc_R x) (hp : (ps.toList.zip (ps.toList.drop 1)).all (fun (a, next) => a.1 < next.1) = true) (ho : Op.lookupswitch.offset ps.toList dflt x = off) (ht : (pc : Int) + off = (tgt : Int))
    (k : fc_W X cs sl n h (tgt) (ls) (st)) : fc_W X cs sl n h (pc) (ls) (vI x :: st) := by
  obtain ⟨p, l, e, R, s, m, args, below, meth, c, D, cy, B, Q⟩ := X
  obtain ⟨hx, hb, hml, hown, hts, hK, hnm, hR1, hR2, hR3, hR4⟩ := C
  intro H locs lsA hH hL hl
  exact lv_lookup hx hb dg hp (by rw [fc_to hx1]; exact ho) ht (k H locs lsA hH hL hl)
theorem fc_tableOut {dflt lo hi : Int} {offs : Array Int} {len : Nat} {x : Int} {tgt : Nat} (C : fc_C X own cc nL d nc ns nm) (dg : decode cc pc = .ok (.tableswitch dflt lo hi offs, len)) (hx1 : fc_R x) (ho : x < lo ∨ hi < x) (ht : (pc : Int) + dflt = (tgt : Int))
    (k : fc_W X cs sl n h (tgt) (ls) (st)) : fc_W X cs sl n h (pc) (ls) (vI x :: st) := by
  obtain ⟨p, l, e, R, s, m, args, below, meth, c, D, cy, B, Q⟩ := X
  obtain ⟨hx, hb, hml, hown, hts, hK, hnm, hR1, hR2, hR3, hR4⟩ := C
  intro H locs lsA hH hL hl
  exact lv_tableOut hx hb dg (by rw [fc_to hx1]; exact ho) ht (k H locs lsA hH hL hl)
theorem fc_tableIn {dflt lo hi : Int} {offs : Array Int} {len : Nat} {x off : Int} {tgt : Nat} (C : fc_C X own cc nL d nc ns nm) (dg : decode cc pc = .ok (.tableswitch dflt lo hi offs, len)) (hx1 : fc_R x) (h1 : lo ≤ x) (h2 : x ≤ hi) (ho : offs[(x - lo).toNat]? = some off) (ht : (pc : Int) + off = (tgt : Int))
    (k : fc_W X cs sl n h (tgt) (ls) (st)) : fc_W X cs sl n h (pc) (ls) (vI x :: st) := by
  obtain ⟨p, l, e, R, s, m, args, below, meth, c, D, cy, B, Q⟩ := X
  obtain ⟨hx, hb, hml, hown, hts, hK, hnm, hR1, hR2, hR3, hR4⟩ := C
  intro H locs lsA hH hL hl
  exact lv_tableIn hx hb dg (by rw [fc_to hx1]; omega) (by rw [fc_to hx1]; omega) (by rw [fc_to hx1]; exact ho) ht (k H locs lsA hH hL hl)
end FCR
