/-! contracts by a relation: the method answers some r and leaves some A', F' with Post r A' F' -/
def fc_TE (X : fc_X) (ret : Option FieldType) (Post : Option fc_AV → (Nat → Int → Int) → (Nat → Nat → Int) → Prop) : Prop := match X with
  | (p, l, e, R, s, m, args, below, meth, c, D, cy, B, Q) => meth.sig.returnType = ret ∧ meth.locks = false ∧ Q = MQ below (fun _ _ o t => ∃ (r : Option fc_AV) (A' : Nat → Int → Int) (F' : Nat → Nat → Int), Post r A' F' ∧ o = .returned (r.map (fc_v B.size)) ∧ fc_HR D cy B 159 (fc_H A' F') t.heap) args s 0 0 (fun q => B.size ≤ q)
def fh_E (y : fc_Y) (d : Nat) (as : List fc_AV) (A : Nat → Int → Int) (F : Nat → Nat → Int) (Post : Option fc_AV → (Nat → Int → Int) → (Nat → Nat → Int) → Prop) : Prop :=
  ∀ (l : Launch) (D : va_G) (cy : Nat → ClassId) (B : Heap), Met l y.1 (Cond.code y.1 y.2.1 y.2.2.1 y.2.2.2 :: fc_tbl) (fc_rm d 0 0) (fun a U => a = (as.map (fc_v B.size)).toArray ∧ fc_HR D cy B 159 (fc_H A F) U.heap ∧ fc_K D cy U) (fun _ _ o t => ∃ (r : Option fc_AV) (A' : Nat → Int → Int) (F' : Nat → Nat → Int), Post r A' F' ∧ o = .returned (r.map (fc_v B.size)) ∧ fc_HR D cy B 159 (fc_H A' F') t.heap) 0 0 (fun q => B.size ≤ q)
section FHE
variable {X : fc_X} {own : String} {cc : ByteArray} {nL d nc ns : Nat} {nm : String} {cs sl : Nat} {A : Nat → Int → Int} {F : Nat → Nat → Int} {pc : Nat} {ls : List (Option fc_AV)} {st st0 : List fc_AV} {Post : Option fc_AV → (Nat → Int → Int) → (Nat → Nat → Int) → Prop}
theorem fh_E.of {y : fc_Y} {np : Nat} {as : List fc_AV} (mi : fc_MI y np) (hlen : fc_len as ≤ y.2.2.1)
    (body : ∀ X : fc_X, fc_C X y.1.cls y.2.1 y.2.2.1 d 0 0 y.1.name → fc_TE X y.2.2.2 Post → fc_W X 0 0 159 (fc_H A F) 0 (fc_pd y.2.2.1 (fc_en as)) []) : fh_E y d as A F Post := by
  intro l D cy B
  refine fc_ofWF (cc := y.2.1) (maxL := y.2.2.1) (ret := y.2.2.2) mi.2.2.2.2.2 rfl ?_
  intro p e s m args below meth c s₁ Bd hml hv
  obtain ⟨rfl, hH, hK⟩ := hv
  have hts := atoms_spec (ws := Cond.code y.1 y.2.1 y.2.2.1 y.2.2.2 :: fc_tbl) Bd.pre
  have key := body (p, l, e, (headSpec (Cond.code y.1 y.2.1 y.2.2.1 y.2.2.2 :: fc_tbl) (fc_rm d 0 0)).room, s, m, (as.map (fc_v B.size)).toArray, below, meth, c, D, cy, B, MQ below (fun _ _ o t => ∃ (r : Option fc_AV) (A' : Nat → Int → Int) (F' : Nat → Nat → Int), Post r A' F' ∧ o = .returned (r.map (fc_v B.size)) ∧ fc_HR D cy B 159 (fc_H A' F') t.heap) (as.map (fc_v B.size)).toArray s 0 0 (fun q => B.size ≤ q)) ⟨Bd.exec, Bd.bytes, hml, findClass_of_methodNamed Bd.named, fun w hw => hts w (List.mem_cons_of_mem _ hw), hK, (name_of_methodNamed Bd.named Bd.method).1, Nat.le_refl _, Nat.le_refl _, Nat.le_refl _, Nat.le_refl _⟩ ⟨Bd.returns, Bd.notSynchronized, rfl⟩
  rw [lg_entry_eq]
  have hl := lv_entry (as.map (fc_v B.size)) (n := y.2.2.1) (by rw [fc_len_eq]; exact hlen)
  refine key s.heap [] _ hH (fun q hq => by cases hq) ⟨hl.1.trans hml.symm, hl.2.1, fun k v hk => ?_⟩
  have := fc_en_get B.size as 0 k v (fc_pd_get hk)
  rw [Nat.zero_add] at this
  exact hl.2.2 _ this
theorem fh_iretE {v : Int} {ty : FieldType} (C : fc_C X own cc nL d nc ns nm) (T : fc_TE X (some ty) Post) (dg : decode cc pc = .ok (.ireturn, 1)) (hty : ty = .int ∨ (ty = .boolean ∧ (v = 0 ∨ v = 1))) (hp : Post (some (vI v)) A F) : fc_W X 0 0 159 (fc_H A F) pc ls [vI v] := by
  obtain ⟨p, l, e, R, s, m, args, below, meth, c, D, cy, B, Q⟩ := X
  obtain ⟨hx, hb, hml, hown, hts, hK, hnm, hR1, hR2, hR3, hR4⟩ := C
  obtain ⟨hret, hlocks, hQ⟩ := T
  intro H locs lsA hH hL hl
  rw [hQ]
  rcases hty with rfl | ⟨rfl, hv⟩
  · exact W.iret (v := Int32.ofInt v) hx hb hret (fun t ht _ => ⟨_, _, _, hp, rfl, by rw [ht]; exact hH⟩) hL dg
  · exact W.zret (v := Int32.ofInt v) (ty := .boolean) hx hb hret (by rcases hv with rfl | rfl <;> rfl) (fun t ht _ => ⟨_, _, _, hp, rfl, by rw [ht]; exact hH⟩) hL dg
theorem fh_lretE {v : Int} (C : fc_C X own cc nL d nc ns nm) (T : fc_TE X (some .long) Post) (dg : decode cc pc = .ok (.lreturn, 1)) (hp : Post (some (vL v)) A F) : fc_W X 0 0 159 (fc_H A F) pc ls [vL v] := by
  obtain ⟨p, l, e, R, s, m, args, below, meth, c, D, cy, B, Q⟩ := X
  obtain ⟨hx, hb, hml, hown, hts, hK, hnm, hR1, hR2, hR3, hR4⟩ := C
  obtain ⟨hret, hlocks, hQ⟩ := T
  intro H locs lsA hH hL hl
  rw [hQ]
  exact W.lret (v := Int64.ofInt v) hx hb hret (fun t ht _ => ⟨_, _, _, hp, rfl, by rw [ht]; exact hH⟩) hL dg
theorem fh_vretE (C : fc_C X own cc nL d nc ns nm) (T : fc_TE X none Post) (dg : decode cc pc = .ok (.return_, 1)) (hp : Post none A F) : fc_W X 0 0 159 (fc_H A F) pc ls [] := by
  obtain ⟨p, l, e, R, s, m, args, below, meth, c, D, cy, B, Q⟩ := X
  obtain ⟨hx, hb, hml, hown, hts, hK, hnm, hR1, hR2, hR3, hR4⟩ := C
  obtain ⟨hret, hlocks, hQ⟩ := T
  intro H locs lsA hH hL hl
  rw [hQ]
  exact W.vret hx hb hret (fun t ht _ => ⟨_, _, _, hp, rfl, by rw [ht]; exact hH⟩) hL dg
variable {y : fc_Y} {np ix d' : Nat} {as : List fc_AV}
/-- a contract by a function is one by a relation -/
theorem fh_M.E {r : Option fc_AV} {A' : Nat → Int → Int} {F' : Nat → Nat → Int} (h : fh_M y d as A F r A' F') (hp : Post r A' F') : fh_E y d as A F Post := by
  intro l D cy B p e h1 h2 h3 s m args below h4 h5 h6 h7
  obtain ⟨k, o, a1, a2, a3, ⟨⟨b1, b2⟩, b3⟩⟩ := h l D cy B p e h1 h2 h3 s m args below h4 h5 h6 h7
  exact ⟨k, o, a1, a2, a3, ⟨⟨_, _, _, hp, b1, b2⟩, b3⟩⟩
theorem fh_E.mono {Post' : Option fc_AV → (Nat → Int → Int) → (Nat → Nat → Int) → Prop} (h : fh_E y d as A F Post) (hp : ∀ r A' F', Post r A' F' → Post' r A' F') : fh_E y d as A F Post' := by
  intro l D cy B p e h1 h2 h3 s m args below h4 h5 h6 h7
  obtain ⟨k, o, a1, a2, a3, ⟨⟨r, A', F', b0, b1, b2⟩, b3⟩⟩ := h l D cy B p e h1 h2 h3 s m args below h4 h5 h6 h7
  exact ⟨k, o, a1, a2, a3, ⟨⟨r, A', F', hp _ _ _ b0, b1, b2⟩, b3⟩⟩
theorem fh_callVE {i c : Nat} {fs : List fc_AV} (C : fc_C X own cc nL d nc ns nm) (dg : decode cc pc = .ok (.invokevirtual ix, 3)) (ml : fc_ML own ix y.1) (mi : fc_MI y np) (im : Cond.instanceMethod y.1 ∈ fc_tbl) (sel : Cond.selects y.1.cls y.1 y.1 ∈ fc_tbl)
    (hM : fh_E y d' (vR i :: as) A F Post) (he : fc_S i (A i) (F i) = cO c fs) (hc : (fc_cl[c]?).map (fun q => q.1) = some y.1.cls) (hd : d' < d) (hnp : as.length = np) (hst : fc_sum st ≤ 8) (hcs : cs ≤ nc) (hsl : sl ≤ ns) (hs : st0 = as.reverse ++ vR i :: st)
    (k : ∀ (r : Option fc_AV) (A' : Nat → Int → Int) (F' : Nat → Nat → Int), Post r A' F' → fc_W X cs sl 159 (fc_H A' F') (pc + 3) ls (r.toList ++ st)) : fc_W X cs sl 159 (fc_H A F) pc ls st0 := by
  subst hs
  have hi : i < 159 := fc_S_lt he (fun q => by injection q with q; injection q with q1 q2; subst q1; cases hc)
  obtain ⟨p, l, e, R, s, m, args, below, meth, c9, D, cy, B, Q⟩ := X
  obtain ⟨hx, hb, hml, hown, hts, hK, hnm, hR1, hR2, hR3, hR4⟩ := C
  obtain ⟨hcode, hini, hy, hpar, hmax, hpl⟩ := mi
  intro H locs lsA hH hL hl
  have hcell := hH.2.2 i hi
  have he : fc_H A F i = cO c fs := he
  rw [he] at hcell
  obtain ⟨q, hq, cell, q1, q2, q3, q4⟩ := hcell
  rw [hq] at hc
  have hcn : q.1 = y.1.cls := Option.some.inj hc
  have hfc : s.vm.findClass y.1.cls = some cell.cls := by rw [← hcn, q2]; exact (hK.1 c _ hq).2.1
  have hsig : ∀ sig, parseMethodDescriptor y.1.desc = some sig → np = sig.parameters.length := fun sig h9 => by rw [h9] at hpar; exact (Option.some.inj hpar).symm
  have hpay : ∀ w ∈ Cond.code y.1 y.2.1 y.2.2.1 y.2.2.2 :: fc_tbl, ∀ (a' : Array Value) (U : State), s.WarmedH U.vm → w.before a' U = true := fun w hw => by
    rcases List.mem_cons.mp hw with rfl | hw
    · exact fc_pay hts _ hcode
    · exact fc_pay hts w hw
  have hp : PreV s H y.1.cls (B.size + i) (fun a U => a = ((vR i :: as).map (fc_v B.size)).toArray ∧ fc_HR D cy B 159 (fc_H A F) U.heap ∧ fc_K D cy U) (as.map (fc_v B.size)) := ⟨fc_blind, ⟨cell, q1, by rw [q3]; rfl, hfc⟩, fun U hU hW => ⟨rfl, by rw [hU]; exact hH, hK.moved hW.alike⟩⟩
  have hstk : (F0 m pc lsA ((as.reverse ++ vR i :: st).map (fc_v B.size))).stack = (as.map (fc_v B.size)).reverse ++ .ref (B.size + i) :: st.map (fc_v B.size) := by
    show (as.reverse ++ vR i :: st).map (fc_v B.size) = _
    rw [List.map_append, List.map_reverse]; rfl
  have hroom : 2 * (F0 m pc lsA ((as.reverse ++ vR i :: st).map (fc_v B.size))).monitorRoom + ((st.map (fc_v B.size)).map fun v => v.category).sum ≤ 8 := lv_room (by rw [fc_sum_eq]; exact hst)
  have hrm1 : (fc_rm d' 0 0).frames + 1 ≤ R.frames := by show d' + 1 ≤ _; omega
  have hrm2 : 8 + (y.2.2.1 + 11) + (fc_rm d' 0 0).locals ≤ R.locals := by show 8 + (y.2.2.1 + 11) + 64 * d' ≤ _; omega
  have run : va_Run p l e R s m args below meth c9 H locs cs sl 0 0 (F0 m pc lsA ((as.reverse ++ vR i :: st).map (fc_v B.size))) (st.map (fc_v B.size)) ((fun _ _ o t => ∃ (r : Option fc_AV) (A' : Nat → Int → Int) (F' : Nat → Nat → Int), Post r A' F' ∧ o = .returned (r.map (fc_v B.size)) ∧ fc_HR D cy B 159 (fc_H A' F') t.heap) (Value.ref (B.size + i) :: as.map (fc_v B.size)).toArray) (fun q => B.size ≤ q) := by
    rcases ml with hw | ⟨host, hw⟩
    · exact va_runV ⟨hx, hb, hml, hown, hts⟩ (hM l D cy B) ⟨⟨rfl, rfl, hrm1, hrm2, hpay, List.mem_cons_self, hts _ hcode, hts _ hini, hy, hsig, hts _ hw⟩, hts _ im, hts _ sel⟩ hp rfl (by rw [List.length_map]; exact hnp) (hl.1.trans hml) hstk hroom dg ⟨by omega, by omega⟩
    · exact va_runVN ⟨hx, hb, hml, hown, hts⟩ (hM l D cy B) ⟨⟨⟨rfl, rfl, hrm1, hrm2, hpay, List.mem_cons_self⟩, hts _ hcode, hts _ hini, hy, hsig, hts _ hw⟩, hts _ im, hts _ sel⟩ hp rfl (by rw [List.length_map]; exact hnp) (hl.1.trans hml) hstk hroom dg ⟨by omega, by omega⟩
  intro T hT XX
  obtain ⟨v, st₀, t, T', L, h0, X', hL2, e1, e2, ⟨r, A', F', hpost, hv, hH2⟩, stp⟩ := run T hT XX
  cases hv
  obtain ⟨t2, a1, b1⟩ := k r A' F' hpost T'.heap (locs ++ L) lsA (by rw [e1]; exact hH2) (fun q hq => (List.mem_append.mp hq).elim (hL q) (hL2 q)) hl T' rfl X'
  refine ⟨t2, stp t2 ?_, b1⟩
  cases r <;> exact a1
end FHE
