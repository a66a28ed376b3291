/-! rows that make cells -/
theorem fc_up_id {h : Nat → fc_AC} {i : Nat} {x : fc_AC} (e : h i = x) : fc_up h i x = h := by
  funext j
  unfold fc_up
  by_cases q : j = i
  · rw [if_pos q, q, e]
  · rw [if_neg q]
theorem fc_up_up {h : Nat → fc_AC} {i : Nat} {x y : fc_AC} : fc_up (fc_up h i x) i y = fc_up h i y := by
  funext j
  unfold fc_up
  by_cases q : j = i
  · rw [if_pos q, if_pos q]
  · rw [if_neg q, if_neg q, if_neg q]
theorem fc_up_cm {h : Nat → fc_AC} {i k : Nat} {x y : fc_AC} (e : i ≠ k) : fc_up (fc_up h i x) k y = fc_up (fc_up h k y) i x := by
  funext j
  unfold fc_up
  by_cases q : j = k
  · rw [if_pos q, if_neg (by omega), if_pos q]
  · rw [if_neg q]
    by_cases q2 : j = i
    · rw [if_pos q2, if_pos q2]
    · rw [if_neg q2, if_neg q2, if_neg q]
theorem fi_num {z : Int} {N : Nat} (hz : z = (N : Int)) (hN : N ≤ 100000) : ¬ Int32.ofInt z < 0 ∧ (Int32.ofInt z).toNatClampNeg = N := by
  have hR : fc_R z := ⟨by omega, by omega⟩
  refine ⟨fun q => ?_, ?_⟩
  · have : z < 0 := (fc_iff_lt hR fc_R0).mp q
    omega
  · show (Int32.ofInt z).toInt.toNat = N
    rw [fc_to hR]
    omega
theorem outerC_arr (c : ClassId) (N h0 : Nat) : ∀ i : Nat, Jvm.Free.Multi.outerC c N h0 i = arrV c N (fun j => if j < i then .ref (h0 + 1 + j) else .null)
  | 0 => by
    show ({ cls := c, slots := Array.replicate N .null, vm := .none } : Cell) = _
    rw [arrV_new]
    exact arrV_congr fun j _ => by rw [if_neg (by omega)]
  | i + 1 => by
    show (Jvm.Free.Multi.outerC c N h0 i).setSlot i (.ref (h0 + 1 + i)) = _
    rw [outerC_arr c N h0 i, arrV_store]
    refine arrV_congr fun j _ => ?_
    unfold updV
    by_cases q : j = i
    · rw [if_pos q, if_pos (by omega), q]
    · rw [if_neg q]
      show (if j < i then Value.ref (h0 + 1 + j) else Value.null) = _
      by_cases q2 : j < i
      · rw [if_pos q2, if_pos (by omega)]
      · rw [if_neg q2, if_neg (by omega)]
section MK
variable {X : fc_X} {own : String} {cc : ByteArray} {nL d nc ns : Nat} {nm : String} {cs sl n : Nat} {h : Nat → fc_AC} {pc : Nat} {ls : List (Option fc_AV)} {st : List fc_AV}
theorem fi_newaI {N : Nat} {z : Int} (C : fc_C X own cc nL d nc ns nm) (dg : decode cc pc = .ok (.newarray .int, 2)) (hw : Cond.arrayClass .int ∈ fc_tbl) (hz : z = (N : Int)) (hN : N ≤ 1000) (he : h n = cI N (fun _ => 0)) (hcs : cs + 1 ≤ nc) (hsl : sl + N ≤ ns) (k : fc_W X (cs + 1) (sl + N) (n + 1) h (pc + 2) ls (vR n :: st)) : fc_W X cs sl n h pc ls (vI z :: st) := by
  obtain ⟨p, l, e, R, s, m, args, below, meth, c, D, cy, B, Q⟩ := X
  obtain ⟨hx, hb, hml, hown, hts, hK, hnm, hR1, hR2, hR3, hR4⟩ := C
  intro H locs lsA hH hL hl
  obtain ⟨g1, g2⟩ := fi_num hz (by omega)
  refine va_newaK (N := N) hx hb (atype := .int) (hts _ hw) rfl dg rfl g1 g2 (by show N * 4 ≤ _; omega) (by omega) (by omega) hH.1 fun H1 cA e1 z1 o1 hAr hNm => ?_
  have hcy : cA = cy 0 := Option.some.inj (hNm.symm.trans (hK.2 0 _ rfl).2)
  subst hcy
  refine k H1 locs lsA ?_ hL hl
  have := hH.push (x := cI N (fun _ => 0)) (H1 := H1) e1 (by rw [z1, hH.1]) (fun q hq => o1 q (by rw [← hH.1]; exact hq))
  rw [fc_up_id he] at this
  exact this
theorem fi_newaJ {N : Nat} {z : Int} (C : fc_C X own cc nL d nc ns nm) (dg : decode cc pc = .ok (.newarray .long, 2)) (hw : Cond.arrayClass .long ∈ fc_tbl) (hz : z = (N : Int)) (hN : N ≤ 1000) (he : h n = cJ N (fun _ => 0)) (hcs : cs + 1 ≤ nc) (hsl : sl + N ≤ ns) (k : fc_W X (cs + 1) (sl + N) (n + 1) h (pc + 2) ls (vR n :: st)) : fc_W X cs sl n h pc ls (vI z :: st) := by
  obtain ⟨p, l, e, R, s, m, args, below, meth, c, D, cy, B, Q⟩ := X
  obtain ⟨hx, hb, hml, hown, hts, hK, hnm, hR1, hR2, hR3, hR4⟩ := C
  intro H locs lsA hH hL hl
  obtain ⟨g1, g2⟩ := fi_num hz (by omega)
  refine va_newaK (N := N) hx hb (atype := .long) (hts _ hw) rfl dg rfl g1 g2 (by show N * 8 ≤ _; omega) (by omega) (by omega) hH.1 fun H1 cA e1 z1 o1 hAr hNm => ?_
  have hcy : cA = cy 1 := Option.some.inj (hNm.symm.trans (hK.2 1 _ rfl).2)
  subst hcy
  refine k H1 locs lsA ?_ hL hl
  have := hH.push (x := cJ N (fun _ => 0)) (H1 := H1) e1 (by rw [z1, hH.1]) (fun q hq => o1 q (by rw [← hH.1]; exact hq))
  rw [fc_up_id he] at this
  exact this
theorem fi_new {ix N c : Nat} {Cn : String} {T : u_T} {ty0 : Nat → FieldType} {fs : List fc_AV} (C : fc_C X own cc nL d nc ns nm) (dg : decode cc pc = .ok (.new ix, 3)) (w1 : Cond.classLink own ix Cn ∈ fc_tbl) (w2 : Cond.instantiable Cn N ∈ fc_tbl) (w3 : Cond.initialized Cn ∈ fc_tbl) (hc : fc_cl[c]? = some (Cn, T, N)) (hin : ∀ w ∈ u_ws Cn T N, w ∈ fc_tbl) (hty : ∀ k, k < N → parseFieldDescriptor (T k).2.2.1 = some (ty0 k)) (hfs : ∀ b j : Nat, j < N → defaultValue (ty0 j) = vp_V (fs.map (fc_v b)) j) (hcs : cs + 1 ≤ nc) (hsl : sl + N ≤ ns) (k : fc_W X (cs + 1) (sl + N) (n + 1) (fc_up h n (cO c fs)) (pc + 3) ls (vR n :: st)) : fc_W X cs sl n h pc ls st := by
  obtain ⟨p, l, e, R, s, m, args, below, meth, c9, D, cy, B, Q⟩ := X
  obtain ⟨hx, hb, hml, hown, hts, hK, hnm, hR1, hR2, hR3, hR4⟩ := C
  intro H locs lsA hH hL hl
  have hKn := hK.1 c _ hc
  refine W.newcK hx hb hown (hts _ w1) (hts _ w2) (hts _ w3) rfl dg (by omega) (by omega) hKn.2.1 hH.1 fun H1 kC hkC e1 z1 o1 => ?_
  exact k H1 locs lsA (hH.push (x := cO c fs) ⟨_, hc, (u_born ty0 hts hin hKn hkC e1 hty).to (hfs B.size)⟩ (by rw [z1, hH.1]) (fun q hq => o1 q (by rw [← hH.1]; exact hq))) hL hl
theorem fi_anew {ix N : Nat} {z : Int} (C : fc_C X own cc nL d nc ns nm) (dg : decode cc pc = .ok (.anewarray ix, 3)) (w1 : Cond.classLink own ix RX3 ∈ fc_tbl) (w2 : Cond.arrayOver (.object RX3) ∈ fc_tbl) (hz : z = (N : Int)) (hN : N ≤ 1000) (hcs : cs + 1 ≤ nc) (hsl : sl + N ≤ ns) (k : fc_W X (cs + 1) (sl + N) (n + 1) (fc_up h n (cP 4 N (fun _ => none))) (pc + 3) ls (vR n :: st)) : fc_W X cs sl n h pc ls (vI z :: st) := by
  obtain ⟨p, l, e, R, s, m, args, below, meth, c, D, cy, B, Q⟩ := X
  obtain ⟨hx, hb, hml, hown, hts, hK, hnm, hR1, hR2, hR3, hR4⟩ := C
  intro H locs lsA hH hL hl
  obtain ⟨g1, g2⟩ := fi_num hz (by omega)
  refine W.anew hx hb hown (hts _ w1) (hts _ w2) rfl dg rfl g1 (by omega) (by omega) (by omega) fun cA kA comp h1 h2 h3 h4 => ?_
  obtain ⟨kA', comp', k1, k2, k3, k4⟩ : va_RA s (cy 4) (.object RX3) := (hK.2 4 _ rfl).2
  have hcy : cA = cy 4 := Option.some.inj (h1.symm.trans k4)
  subst hcy
  have e2 : (F0 m (pc + 3) lsA ((vR n :: st).map (fc_v B.size))) = { F0 m pc lsA ((vI z :: st).map (fc_v B.size)) with pc := pc + 3, stack := .ref H.size :: st.map (fc_v B.size) } := by
    rw [hH.1]; rfl
  rw [g2]
  have key := k (H.push { cls := cy 4, slots := Array.replicate N .null, vm := .none }) locs lsA (hH.push (x := cP 4 N (fun _ => none)) (by
    show (H.push _)[B.size + n]? = _
    rw [← hH.1, arrV_new]
    simp
    rfl) (by simp) (fun q hq => by rw [Array.getElem?_push, if_neg (Nat.ne_of_lt hq)])) hL hl
  rw [e2] at key
  exact key
theorem fi_aast {i a N : Nat} {j : Int} {g : Int → Option Nat} {fs : List fc_AV} (C : fc_C X own cc nL d nc ns nm) (dg : decode cc pc = .ok (.aastore, 1)) (hi : i < n) (he : h i = cP 4 N g) (ha : a < n) (hv : h a = cO 3 fs) (h0 : 0 ≤ j) (h1 : j < (N : Int)) (hN : N < 2147483648) (k : fc_W X cs sl n (fc_up h i (cP 4 N (fun q => if q = j then some a else g q))) (pc + 1) ls st) : fc_W X cs sl n h pc ls (vR a :: vI j :: vR i :: st) := by
  obtain ⟨p, l, e, R, s, m, args, below, meth, c, D, cy, B, Q⟩ := X
  obtain ⟨hx, hb, hml, hown, hts, hK, hnm, hR1, hR2, hR3, hR4⟩ := C
  intro H locs lsA hH hL hl
  obtain ⟨g1, g2, g3, g4⟩ := fc_ix h0 h1 hN
  have hcell := hH.2.2 i hi
  rw [he] at hcell
  have hcell : H[B.size + i]? = some (arrV (cy 4) N (fun j => va_rf ((g j).map (fun a => B.size + a)))) := hcell
  have hca := hH.2.2 a ha
  rw [hv] at hca
  obtain ⟨r, hr, cellV, q1, q2, q3, q4⟩ := hca
  have hcls := (hK.1 3 _ hr).2
  cases hr
  obtain ⟨kA', comp', k1, k2, k3, k4⟩ : va_RA s (cy 4) (.object RX3) := (hK.2 4 _ rfl).2
  have hcomp : comp' = D.1 3 := Option.some.inj (k3.symm.trans hcls.1)
  subst hcomp
  have hcls2 := hcls
  obtain ⟨kC, hkC, -⟩ := hcls2.2
  refine W.aast hx hb hcell (fun q h => by cases h) (fun h => by cases h) k1 k2 rfl hkC ⟨fun q => g1 (Or.inl q), by show _ < (arrV _ _ _).slots.size; rw [arrV_size, g2]; exact g3⟩ q1 (fun q h => by rw [q3] at h; cases h) (by rw [q2]; exact hkC) (by rw [q2]; exact va_assign hcls) rfl rfl dg fun H1 e1 z1 o1 => ?_
  refine k H1 _ lsA (hH.put ?_ z1 o1) ?_ hl
  · show H1[B.size + i]? = some (arrV (cy 4) N (fun q => va_rf ((if (q : Int) = j then some a else g q).map (fun a => B.size + a))))
    rw [e1, g2, arrV_store]
    refine congrArg some (arrV_congr fun q _ => ?_)
    unfold updV
    by_cases c : q = j.toNat
    · rw [if_pos c, if_pos (by omega)]; rfl
    · rw [if_neg c, if_neg (by omega)]
  · intro q hq
    rcases List.mem_append.mp hq with z | z
    · exact hL q z
    · simp at z; subst z; exact Nat.le_add_right _ _
theorem fi_multi {ix N M t : Nat} {ty : FieldType} {z w : Int} {x : fc_AC} (C : fc_C X own cc nL d nc ns nm) (dg : decode cc pc = .ok (.multianewarray ix 2, 4)) (w1 : Cond.classLink own ix ("[" ++ (FieldType.array ty).toString) ∈ fc_tbl) (w2 : Cond.arrayOver (.array ty) ∈ fc_tbl) (w3 : Cond.arrayClass ty ∈ fc_tbl) (hz : z = (N : Int)) (hw : w = (M : Int)) (hN : N ≤ 1000) (hM : M ≤ 1000) (hty : (ty = .int ∧ t = 0 ∧ x = cI M (fun _ => 0)) ∨ (ty = .long ∧ t = 1 ∧ x = cJ M (fun _ => 0))) (he : h n = cP (t + 2) N (fun j => some (n + 1 + 1 * j.toNat))) (hr : ∀ r : Nat, r < N → h (n + 1 + r) = x) (hcs : cs + (1 + N) ≤ nc) (hsl : sl + (N + N * M) ≤ ns) (k : fc_W X (cs + 1 + N) (sl + N + N * M) (n + 1 + N) h (pc + 4) ls (vR n :: st)) : fc_W X cs sl n h pc ls (vI w :: vI z :: st) := by
  obtain ⟨p, l, e, R, s, m, args, below, meth, c, D, cy, B, Q⟩ := X
  obtain ⟨hx, hb, hml, hown, hts, hK, hnm, hR1, hR2, hR3, hR4⟩ := C
  intro H locs lsA hH hL hl
  obtain ⟨g1, g2⟩ := fi_num hz (by omega)
  obtain ⟨g3, g4⟩ := fi_num hw (by omega)
  intro T hT XS
  have hcb : componentBytes ty ≤ 8 := by rcases hty with ⟨rfl, -⟩ | ⟨rfl, -⟩ <;> decide
  have hb2 : M * componentBytes ty ≤ 536870912 := Nat.le_trans (Nat.mul_le_mul hM hcb) (by decide)
  have hMN : N * M ≤ 1000 * 1000 := Nat.mul_le_mul hN hM
  obtain ⟨vm₁, cA, comp, hW, hfA, hfC, hO, hI, X1, step⟩ := XS.multianewarray2F hx hown (hts _ w1) (hts _ w2) (hts _ w3) (g := F0 m pc lsA ((vI w :: vI z :: st).map (fc_v B.size))) rfl (by rw [hb]; exact dg) (n := Int32.ofInt z) (k := Int32.ofInt w) rfl g1 g3 (by rw [g2]; omega) (by rw [g4]; exact hb2) (by rw [g4]; omega) (by rcases hty with ⟨rfl, -⟩ | ⟨rfl, -⟩ <;> rfl) (by rcases hty with ⟨rfl, -⟩ | ⟨rfl, -⟩ <;> rfl) (by rw [g2]; omega) (by rw [g2, g4]; omega)
  rw [g2, g4] at X1 step
  obtain ⟨f1, f2, f3, f4⟩ := Jvm.Free.Multi.fill_facts (T.setVm vm₁) cA comp N M (defaultValue ty) N
  have fo := fun (a : Nat) (ha : a < T.heap.size) => Jvm.Free.Multi.fill_old (T.setVm vm₁) cA comp N M (defaultValue ty) (a := a) ha N
  have fi := fun (j : Nat) (hj : j < N) => Jvm.Free.Multi.fill_inner (T.setVm vm₁) cA comp N M (defaultValue ty) N j hj
  have sz : T.heap.size = B.size + n := by rw [hT]; exact hH.1
  have szv : (T.setVm vm₁).heap.size = B.size + n := sz
  have hcA : cA = cy (t + 2) := by
    rcases hty with ⟨rfl, rfl, -⟩ | ⟨rfl, rfl, -⟩
    · exact Option.some.inj (hfA.symm.trans (hK.2 2 _ rfl).2)
    · exact Option.some.inj (hfA.symm.trans (hK.2 3 _ rfl).2)
  have hcC : comp = cy t := by
    rcases hty with ⟨rfl, rfl, -⟩ | ⟨rfl, rfl, -⟩
    · exact Option.some.inj (hfC.symm.trans (hK.2 0 _ rfl).2)
    · exact Option.some.inj (hfC.symm.trans (hK.2 1 _ rfl).2)
  obtain ⟨U, eU⟩ : ∃ U, U = Jvm.Free.Multi.fill (T.setVm vm₁) cA comp N M (defaultValue ty) N := ⟨_, rfl⟩
  rw [← eU] at f1 f2 fo fi X1 step
  rw [szv] at f1 f2 fi
  have hH' : fc_HR D cy B (n + 1 + N) h U.heap := by
    refine ⟨by rw [f1]; omega, fun q hq => ?_, fun i hi => ?_⟩
    · have := fo q (show q < T.heap.size by rw [sz]; omega)
      rw [show (T.setVm vm₁).heap = H from hT] at this
      rw [this]
      exact hH.2.1 q hq
    · by_cases c1 : i < n
      · have := fo (B.size + i) (show B.size + i < T.heap.size by rw [sz]; omega)
        rw [show (T.setVm vm₁).heap = H from hT] at this
        exact (hH.2.2 i c1).kept this
      · by_cases c2 : i = n
        · subst c2
          rw [he]
          show U.heap[B.size + i]? = some (arrV (cy (t + 2)) N (fun j => va_rf ((some (i + 1 + 1 * ((j : Int)).toNat)).map (fun a => B.size + a))))
          rw [f2, outerC_arr, hcA]
          refine congrArg some (arrV_congr fun j hj => ?_)
          rw [if_pos hj]
          exact congrArg Value.ref (show (B.size + i + 1 + j : Nat) = B.size + (i + 1 + 1 * j) by omega)
        · obtain ⟨r, er⟩ : ∃ r : Nat, i = n + 1 + r := ⟨i - (n + 1), by omega⟩
          subst er
          rw [hr r (by omega)]
          have f5 := fi r (by omega)
          rw [show B.size + n + 1 + r = B.size + (n + 1 + r) by omega] at f5
          have f6 : Jvm.Free.Multi.innerC comp M (defaultValue ty) = arrV comp M (fun _ => defaultValue ty) := arrV_new comp M _
          rw [f6, hcC] at f5
          rcases hty with ⟨rfl, rfl, rfl⟩ | ⟨rfl, rfl, rfl⟩
          · exact f5
          · exact f5
  obtain ⟨t2, a1, b1⟩ := k U.heap locs lsA hH' hL hl U rfl X1
  refine ⟨t2, step t2 ?_, b1⟩
  rw [sz]
  exact a1
end MK
