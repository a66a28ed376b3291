/-! calls, and a method's contract out of its walk -/
def fc_MI (y : fc_Y) (np : Nat) : Prop := Cond.code y.1 y.2.1 y.2.2.1 y.2.2.2 ∈ fc_tbl ∧ Cond.initialized y.1.cls ∈ fc_tbl ∧ (y.1.cls ≠ "java/lang/invoke/MethodHandle" ∧ y.1.cls ≠ "java/lang/invoke/VarHandle") ∧ (parseMethodDescriptor y.1.desc).map (fun d => d.parameters.length) = some np ∧ y.2.2.1 ≤ 45 ∧ plainFor y.1 = true
def fc_ML (own : String) (ix : Nat) (y : MethodName) : Prop := Cond.methodLink own ix y ∈ fc_tbl ∨ ∃ host : String, Cond.methodLinkNest own ix y host ∈ fc_tbl
def fc_en : List fc_AV → List (Option fc_AV)
  | [] => []
  | .inl z :: t => some (.inl z) :: fc_en t
  | .inr (.inl z) :: t => some (.inr (.inl z)) :: none :: fc_en t
  | .inr (.inr o) :: t => some (.inr (.inr o)) :: fc_en t
def fc_pd : Nat → List (Option fc_AV) → List (Option fc_AV)
  | 0, l => l
  | n + 1, [] => none :: fc_pd n []
  | n + 1, x :: t => x :: fc_pd n t
theorem fc_pd_get : ∀ {n : Nat} {l : List (Option fc_AV)} {k : Nat} {v : fc_AV}, fc_get (fc_pd n l) k = some v → fc_get l k = some v
  | 0, _, _, _, h => h
  | n + 1, [], 0, v, h => by cases h
  | n + 1, [], k + 1, v, h => by have := fc_pd_get (n := n) (l := []) (k := k) h; cases this
  | n + 1, x :: t, 0, v, h => h
  | n + 1, x :: t, k + 1, v, h => fc_pd_get (n := n) (l := t) (k := k) h
theorem fc_en_get (b : Nat) : ∀ (as : List fc_AV) (i k : Nat) (v : fc_AV), fc_get (fc_en as) k = some v → (i + k, fc_v b v) ∈ lv_args i (as.map (fc_v b))
  | [], _, _, _, h => by cases h
  | .inl z :: t, i, 0, v, h => by cases h; exact List.mem_cons_self
  | .inl z :: t, i, k + 1, v, h => by
    refine List.mem_cons_of_mem _ ?_
    have := fc_en_get b t (i + 1) k v h
    rw [show i + (k + 1) = i + 1 + k by omega]
    exact this
  | .inr (.inl z) :: t, i, 0, v, h => by cases h; exact List.mem_cons_self
  | .inr (.inl z) :: t, i, 1, v, h => by cases h
  | .inr (.inl z) :: t, i, k + 2, v, h => by
    refine List.mem_cons_of_mem _ ?_
    have := fc_en_get b t (i + 2) k v h
    rw [show i + (k + 2) = i + 2 + k by omega]
    exact this
  | .inr (.inr none) :: t, i, 0, v, h => by cases h; exact List.mem_cons_self
  | .inr (.inr none) :: t, i, k + 1, v, h => by
    refine List.mem_cons_of_mem _ ?_
    have := fc_en_get b t (i + 1) k v h
    rw [show i + (k + 1) = i + 1 + k by omega]
    exact this
  | .inr (.inr (some o)) :: t, i, 0, v, h => by cases h; exact List.mem_cons_self
  | .inr (.inr (some o)) :: t, i, k + 1, v, h => by
    refine List.mem_cons_of_mem _ ?_
    have := fc_en_get b t (i + 1) k v h
    rw [show i + (k + 1) = i + 1 + k by omega]
    exact this
def fc_len : List fc_AV → Nat
  | [] => 0
  | v :: t => fc_cat v + fc_len t
theorem fc_len_eq (b : Nat) : ∀ as : List fc_AV, (lg_sl (as.map (fc_v b))).length = fc_len as
  | [] => rfl
  | v :: t => by
    have ih := fc_len_eq b t
    unfold lg_sl at ih ⊢
    rw [List.map_cons, List.flatMap_cons, List.length_append, ih, fc_v_cat]
    rcases v with z | z | o <;> simp [fc_cat, fc_len]
theorem fc_ofWF {l : Launch} {y : MethodName} {ws ws' : List Cond} {rm : Room} {Pc : Array Value → State → Prop} {Qc : Array Value → State → Outcome → State → Prop} {mc ms : Nat} {free : Addr → Prop} {cc : ByteArray} {maxL : Nat} {ret : Option FieldType}
    (hy : plainFor y = true) (hw : ws = Cond.code y cc maxL ret :: ws')
    (body : ∀ p e s m args below meth c s₁, BodyLoose p l y (headSpec ws rm) cc maxL ret e s m args below meth c s₁ → c.maxLocals = maxL → Pc args s →
      W p l e (headSpec ws rm).room s m args below meth c s.heap [] 0 0 (MQ below Qc args s mc ms free) (entryFrame m args maxL)) : Met l y ws rm Pc Qc mc ms free := by
  refine MetFree.of_bodySF (code := cc) (maxLocals := maxL) (ret := ret) hy ?_ ?_
  · intro args s m h hn
    obtain ⟨meth, c, h1, h2, h3, h4, h5, h6, -, -⟩ := Cond.code_spec hn (atoms_spec (ws := ws) h _ (by rw [hw]; exact List.mem_cons_self))
    exact ⟨meth, c, h1, h2, h3, h4, h5, h6⟩
  · intro p e s m args below meth c s₁ B hml hP _
    have hh0 : s₁.heap = s.heap := by rw [B.state]; rfl
    obtain ⟨t, a1, o, b1, b2, b3⟩ := body p e s m args below meth c s₁ B hml hP s₁ hh0 (Stand.of_body B)
    exact ⟨t, o, a1, b1, b2, ⟨b3.1, b3.2⟩⟩
theorem fc_M.of {y : fc_Y} {d nc ns np : Nat} {as : List fc_AV} {n : Nat} {h : Nat → fc_AC} {r : Option fc_AV} {n' : Nat} {h' : Nat → fc_AC} (mi : fc_MI y np) (hlen : fc_len as ≤ y.2.2.1)
    (body : ∀ X : fc_X, fc_C X y.1.cls y.2.1 y.2.2.1 d nc ns y.1.name → fc_T X y.2.2.2 r n' h' nc ns → fc_W X 0 0 n h 0 (fc_pd y.2.2.1 (fc_en as)) []) : fc_M y d nc ns as n h r n' h' := by
  intro l D cy B
  refine fc_ofWF (cc := y.2.1) (maxL := y.2.2.1) (ret := y.2.2.2) mi.2.2.2.2.2 rfl ?_
  intro p e s m args below meth c s₁ Bd hml hv
  obtain ⟨rfl, hH, hK⟩ := hv
  have hts := atoms_spec (ws := Cond.code y.1 y.2.1 y.2.2.1 y.2.2.2 :: fc_tbl) Bd.pre
  have key := body (p, l, e, (headSpec (Cond.code y.1 y.2.1 y.2.2.1 y.2.2.2 :: fc_tbl) (fc_rm d nc ns)).room, s, m, (as.map (fc_v B.size)).toArray, below, meth, c, D, cy, B, MQ below (fun _ _ o t => o = .returned (r.map (fc_v B.size)) ∧ fc_HR D cy B n' h' t.heap) (as.map (fc_v B.size)).toArray s nc ns (fun q => B.size ≤ q)) ⟨Bd.exec, Bd.bytes, hml, findClass_of_methodNamed Bd.named, fun w hw => hts w (List.mem_cons_of_mem _ hw), hK, (name_of_methodNamed Bd.named Bd.method).1, Nat.le_refl _, Nat.le_refl _, Nat.le_refl _, Nat.le_refl _⟩ ⟨Bd.returns, Bd.notSynchronized, rfl⟩
  rw [lg_entry_eq]
  have hl := lv_entry (as.map (fc_v B.size)) (n := y.2.2.1) (by rw [fc_len_eq]; exact hlen)
  refine key s.heap [] _ hH (fun q hq => by cases hq) ⟨hl.1.trans hml.symm, hl.2.1, fun k v hk => ?_⟩
  have := fc_en_get B.size as 0 k v (fc_pd_get hk)
  rw [Nat.zero_add] at this
  exact hl.2.2 _ this
theorem fc_blind {as : List fc_AV} {n : Nat} {h : Nat → fc_AC} {D : va_G} {cy : Nat → ClassId} {B : Heap} : FrameBlind (fun a U => a = (as.map (fc_v B.size)).toArray ∧ fc_HR D cy B n h U.heap ∧ fc_K D cy U) := fun a U g mk q => ⟨q.1, q.2.1, fc_K.moved (u := U) (U := U.calling g mk a) (Vm.Alike.refl U.vm) q.2.2⟩
def fc_sum : List fc_AV → Nat
  | [] => 0
  | v :: t => fc_cat v + fc_sum t
theorem fc_sum_eq (b : Nat) : ∀ st : List fc_AV, ((st.map (fc_v b)).map fun v => v.category).sum = fc_sum st
  | [] => rfl
  | v :: t => by
    have ih := fc_sum_eq b t
    simp only [List.map_cons, List.sum_cons, fc_sum, fc_v_cat, ih]
section FCC
variable {X : fc_X} {own : String} {cc : ByteArray} {nL d nc ns : Nat} {nm : String} {cs sl n : Nat} {h : Nat → fc_AC} {pc : Nat} {ls : List (Option fc_AV)} {st st0 : List fc_AV}
variable {y : fc_Y} {np ix d' mc ms : Nat} {as : List fc_AV} {r : Option fc_AV} {n' : Nat} {h' : Nat → fc_AC}
/-- a method of an object -/
theorem fc_callV {i c : Nat} {fs : List fc_AV} (C : fc_C X own cc nL d nc ns nm) (dg : decode cc pc = .ok (.invokevirtual ix, 3)) (ml : fc_ML own ix y.1) (mi : fc_MI y np) (im : Cond.instanceMethod y.1 ∈ fc_tbl) (sel : Cond.selects y.1.cls y.1 y.1 ∈ fc_tbl)
    (hM : fc_M y d' mc ms (vR i :: as) n h r n' h') (hi : i < n) (he : h i = cO c fs) (hc : (fc_cl[c]?).map (fun q => q.1) = some y.1.cls) (hd : d' < d) (hnp : as.length = np) (hst : fc_sum st ≤ 8) (hs : st0 = as.reverse ++ vR i :: st) (hcs : cs + mc ≤ nc) (hsl : sl + ms ≤ ns)
    (k : fc_W X (cs + mc) (sl + ms) n' h' (pc + 3) ls (r.toList ++ st)) : fc_W X cs sl n h pc ls st0 := by
  subst hs
  obtain ⟨p, l, e, R, s, m, args, below, meth, c9, D, cy, B, Q⟩ := X
  obtain ⟨hx, hb, hml, hown, hts, hK, hnm, hR1, hR2, hR3, hR4⟩ := C
  obtain ⟨hcode, hini, hy, hpar, hmax, hpl⟩ := mi
  intro H locs lsA hH hL hl
  have hcell := hH.2.2 i hi
  rw [he] at hcell
  obtain ⟨q, hq, cell, q1, q2, q3, q4⟩ := hcell
  rw [hq] at hc
  have hcn : q.1 = y.1.cls := Option.some.inj hc
  have hfc : s.vm.findClass y.1.cls = some cell.cls := by rw [← hcn, q2]; exact (hK.1 c _ hq).2.1
  have hsig : ∀ sig, parseMethodDescriptor y.1.desc = some sig → np = sig.parameters.length := fun sig h9 => by rw [h9] at hpar; exact (Option.some.inj hpar).symm
  have hpay : ∀ w ∈ Cond.code y.1 y.2.1 y.2.2.1 y.2.2.2 :: fc_tbl, ∀ (a' : Array Value) (U : State), s.WarmedH U.vm → w.before a' U = true := fun w hw => by
    rcases List.mem_cons.mp hw with rfl | hw
    · exact fc_pay hts _ hcode
    · exact fc_pay hts w hw
  have hp : PreV s H y.1.cls (B.size + i) (fun a U => a = ((vR i :: as).map (fc_v B.size)).toArray ∧ fc_HR D cy B n h U.heap ∧ fc_K D cy U) (as.map (fc_v B.size)) := ⟨fc_blind, ⟨cell, q1, by rw [q3]; rfl, hfc⟩, fun U hU hW => ⟨rfl, by rw [hU]; exact hH, hK.moved hW.alike⟩⟩
  have hstk : (F0 m pc lsA ((as.reverse ++ vR i :: st).map (fc_v B.size))).stack = (as.map (fc_v B.size)).reverse ++ .ref (B.size + i) :: st.map (fc_v B.size) := by
    show (as.reverse ++ vR i :: st).map (fc_v B.size) = _
    rw [List.map_append, List.map_reverse]; rfl
  have hroom : 2 * (F0 m pc lsA ((as.reverse ++ vR i :: st).map (fc_v B.size))).monitorRoom + ((st.map (fc_v B.size)).map fun v => v.category).sum ≤ 8 := lv_room (by rw [fc_sum_eq]; exact hst)
  have hrm1 : (fc_rm d' mc ms).frames + 1 ≤ R.frames := by show d' + 1 ≤ _; omega
  have hrm2 : 8 + (y.2.2.1 + 11) + (fc_rm d' mc ms).locals ≤ R.locals := by show 8 + (y.2.2.1 + 11) + 64 * d' ≤ _; omega
  have run : va_Run p l e R s m args below meth c9 H locs cs sl mc ms (F0 m pc lsA ((as.reverse ++ vR i :: st).map (fc_v B.size))) (st.map (fc_v B.size)) ((fun _ _ o t => o = .returned (r.map (fc_v B.size)) ∧ fc_HR D cy B n' h' t.heap) (Value.ref (B.size + i) :: as.map (fc_v B.size)).toArray) (fun q => B.size ≤ q) := by
    rcases ml with hw | ⟨host, hw⟩
    · exact va_runV ⟨hx, hb, hml, hown, hts⟩ (hM l D cy B) ⟨⟨rfl, rfl, hrm1, hrm2, hpay, List.mem_cons_self, hts _ hcode, hts _ hini, hy, hsig, hts _ hw⟩, hts _ im, hts _ sel⟩ hp rfl (by rw [List.length_map]; exact hnp) (hl.1.trans hml) hstk hroom dg ⟨by omega, by omega⟩
    · exact va_runVN ⟨hx, hb, hml, hown, hts⟩ (hM l D cy B) ⟨⟨⟨rfl, rfl, hrm1, hrm2, hpay, List.mem_cons_self⟩, hts _ hcode, hts _ hini, hy, hsig, hts _ hw⟩, hts _ im, hts _ sel⟩ hp rfl (by rw [List.length_map]; exact hnp) (hl.1.trans hml) hstk hroom dg ⟨by omega, by omega⟩
  intro T hT XX
  obtain ⟨v, st₀, t, T', L, h0, X', hL2, e1, e2, ⟨hv, hH2⟩, stp⟩ := run T hT XX
  cases hv
  obtain ⟨t2, a1, b1⟩ := k T'.heap (locs ++ L) lsA (by rw [e1]; exact hH2) (fun q hq => (List.mem_append.mp hq).elim (hL q) (hL2 q)) hl T' rfl X'
  refine ⟨t2, stp t2 ?_, b1⟩
  cases r <;> exact a1
/-- a static method -/
theorem fc_callS (C : fc_C X own cc nL d nc ns nm) (dg : decode cc pc = .ok (.invokestatic ix, 3)) (ml : fc_ML own ix y.1) (mi : fc_MI y np) (im : Cond.static y.1 ∈ fc_tbl)
    (hM : fc_M y d' mc ms as n h r n' h') (hd : d' < d) (hnp : as.length = np) (hst : fc_sum st ≤ 8) (hs : st0 = as.reverse ++ st) (hcs : cs + mc ≤ nc) (hsl : sl + ms ≤ ns)
    (k : fc_W X (cs + mc) (sl + ms) n' h' (pc + 3) ls (r.toList ++ st)) : fc_W X cs sl n h pc ls st0 := by
  subst hs
  obtain ⟨p, l, e, R, s, m, args, below, meth, c9, D, cy, B, Q⟩ := X
  obtain ⟨hx, hb, hml, hown, hts, hK, hnm, hR1, hR2, hR3, hR4⟩ := C
  obtain ⟨hcode, hini, hy, hpar, hmax, hpl⟩ := mi
  intro H locs lsA hH hL hl
  have hsig : ∀ sig, parseMethodDescriptor y.1.desc = some sig → np = sig.parameters.length := fun sig h9 => by rw [h9] at hpar; exact (Option.some.inj hpar).symm
  have hpay : ∀ w ∈ Cond.code y.1 y.2.1 y.2.2.1 y.2.2.2 :: fc_tbl, ∀ (a' : Array Value) (U : State), s.WarmedH U.vm → w.before a' U = true := fun w hw => by
    rcases List.mem_cons.mp hw with rfl | hw
    · exact fc_pay hts _ hcode
    · exact fc_pay hts w hw
  have hp : PreS s H (fun a U => a = (as.map (fc_v B.size)).toArray ∧ fc_HR D cy B n h U.heap ∧ fc_K D cy U) (as.map (fc_v B.size)) := ⟨fc_blind, fun U hU hW => ⟨rfl, by rw [hU]; exact hH, hK.moved hW.alike⟩⟩
  have hstk : (F0 m pc lsA ((as.reverse ++ st).map (fc_v B.size))).stack = (as.map (fc_v B.size)).reverse ++ st.map (fc_v B.size) := by
    show (as.reverse ++ st).map (fc_v B.size) = _
    rw [List.map_append, List.map_reverse]
  have hroom : 2 * (F0 m pc lsA ((as.reverse ++ st).map (fc_v B.size))).monitorRoom + ((st.map (fc_v B.size)).map fun v => v.category).sum ≤ 8 := lv_room (by rw [fc_sum_eq]; exact hst)
  have hrm1 : (fc_rm d' mc ms).frames + 1 ≤ R.frames := by show d' + 1 ≤ _; omega
  have hrm2 : 8 + (y.2.2.1 + 11) + (fc_rm d' mc ms).locals ≤ R.locals := by show 8 + (y.2.2.1 + 11) + 64 * d' ≤ _; omega
  have run : va_Run p l e R s m args below meth c9 H locs cs sl mc ms (F0 m pc lsA ((as.reverse ++ st).map (fc_v B.size))) (st.map (fc_v B.size)) ((fun _ _ o t => o = .returned (r.map (fc_v B.size)) ∧ fc_HR D cy B n' h' t.heap) (as.map (fc_v B.size)).toArray) (fun q => B.size ≤ q) := by
    rcases ml with hw | ⟨host, hw⟩
    · exact va_runS ⟨hx, hb, hml, hown, hts⟩ (hM l D cy B) ⟨⟨rfl, rfl, hrm1, hrm2, hpay, List.mem_cons_self, hts _ hcode, hts _ hini, hy, hsig, hts _ hw⟩, hts _ im⟩ hp rfl (by rw [List.length_map]; exact hnp) (hl.1.trans hml) hstk hroom dg ⟨by omega, by omega⟩
    · exact va_runSN ⟨hx, hb, hml, hown, hts⟩ (hM l D cy B) ⟨⟨⟨rfl, rfl, hrm1, hrm2, hpay, List.mem_cons_self⟩, hts _ hcode, hts _ hini, hy, hsig, hts _ hw⟩, hts _ im, trivial⟩ hp rfl (by rw [List.length_map]; exact hnp) (hl.1.trans hml) hstk hroom dg ⟨by omega, by omega⟩
  intro T hT XX
  obtain ⟨v, st₀, t, T', L, h0, X', hL2, e1, e2, ⟨hv, hH2⟩, stp⟩ := run T hT XX
  cases hv
  obtain ⟨t2, a1, b1⟩ := k T'.heap (locs ++ L) lsA (by rw [e1]; exact hH2) (fun q hq => (List.mem_append.mp hq).elim (hL q) (hL2 q)) hl T' rfl X'
  refine ⟨t2, stp t2 ?_, b1⟩
  cases r <;> exact a1
/-- a constructor -/
theorem fc_callI {i : Nat} (C : fc_C X own cc nL d nc ns nm) (dg : decode cc pc = .ok (.invokespecial ix, 3)) (ml : fc_ML own ix y.1) (mi : fc_MI y np) (hrn : y.2.2.2 = none) (hnm9 : y.1.name = "<init>") (im : Cond.instanceMethod y.1 ∈ fc_tbl)
    (hM : fc_M y d' mc ms (vR i :: as) n h r n' h') (hd : d' < d) (hnp : as.length = np) (hst : fc_sum st ≤ 8) (hs : st0 = as.reverse ++ vR i :: st) (hcs : cs + mc ≤ nc) (hsl : sl + ms ≤ ns)
    (k : fc_W X (cs + mc) (sl + ms) n' h' (pc + 3) ls (r.toList ++ st)) : fc_W X cs sl n h pc ls st0 := by
  subst hs
  obtain ⟨p, l, e, R, s, m, args, below, meth, c9, D, cy, B, Q⟩ := X
  obtain ⟨hx, hb, hml, hown, hts, hK, hnm, hR1, hR2, hR3, hR4⟩ := C
  obtain ⟨hcode, hini, hy, hpar, hmax, hpl⟩ := mi
  obtain ⟨y1, y2, y3, y4⟩ := y
  have hrn : y4 = none := hrn
  subst hrn
  intro H locs lsA hH hL hl
  have hsig : ∀ sig, parseMethodDescriptor y1.desc = some sig → np = sig.parameters.length := fun sig h9 => by
    have hpar : (parseMethodDescriptor y1.desc).map (fun d => d.parameters.length) = some np := hpar
    rw [h9] at hpar; exact (Option.some.inj hpar).symm
  have hpay : ∀ w ∈ Cond.code y1 y2 y3 none :: fc_tbl, ∀ (a' : Array Value) (U : State), s.WarmedH U.vm → w.before a' U = true := fun w hw => by
    rcases List.mem_cons.mp hw with rfl | hw
    · exact fc_pay hts _ hcode
    · exact fc_pay hts w hw
  have hp : PreS s H (fun a U => a = ((vR i :: as).map (fc_v B.size)).toArray ∧ fc_HR D cy B n h U.heap ∧ fc_K D cy U) (.ref (B.size + i) :: as.map (fc_v B.size)) := ⟨fc_blind, fun U hU hW => ⟨rfl, by rw [hU]; exact hH, hK.moved hW.alike⟩⟩
  have hstk : (F0 m pc lsA ((as.reverse ++ vR i :: st).map (fc_v B.size))).stack = (as.map (fc_v B.size)).reverse ++ .ref (B.size + i) :: st.map (fc_v B.size) := by
    show (as.reverse ++ vR i :: st).map (fc_v B.size) = _
    rw [List.map_append, List.map_reverse]; rfl
  have hroom : 2 * (F0 m pc lsA ((as.reverse ++ vR i :: st).map (fc_v B.size))).monitorRoom + ((st.map (fc_v B.size)).map fun v => v.category).sum ≤ 8 := lv_room (by rw [fc_sum_eq]; exact hst)
  have hmax : y3 ≤ 45 := hmax
  have hrm1 : (fc_rm d' mc ms).frames + 1 ≤ R.frames := by show d' + 1 ≤ _; omega
  have hrm2 : 8 + (y3 + 11) + (fc_rm d' mc ms).locals ≤ R.locals := by show 8 + (y3 + 11) + 64 * d' ≤ _; omega
  have run : va_Run p l e R s m args below meth c9 H locs cs sl mc ms (F0 m pc lsA ((as.reverse ++ vR i :: st).map (fc_v B.size))) (st.map (fc_v B.size)) ((fun _ _ o t => o = .returned (r.map (fc_v B.size)) ∧ fc_HR D cy B n' h' t.heap) (Value.ref (B.size + i) :: as.map (fc_v B.size)).toArray) (fun q => B.size ≤ q) := by
    rcases ml with hw | ⟨host, hw⟩
    · exact va_runI ⟨hx, hb, hml, hown, hts⟩ (hM l D cy B) ⟨⟨rfl, rfl, hrm1, hrm2, hpay, List.mem_cons_self, hts _ hcode, hts _ hini, hy, hsig, hts _ hw⟩, hnm9, hts _ im⟩ hp rfl (by rw [List.length_map]; exact hnp) (hl.1.trans hml) hstk hroom dg ⟨by omega, by omega⟩
    · exact va_runIN ⟨hx, hb, hml, hown, hts⟩ (hM l D cy B) ⟨⟨⟨rfl, rfl, hrm1, hrm2, hpay, List.mem_cons_self⟩, hts _ hcode, hts _ hini, hy, hsig, hts _ hw⟩, hnm9, hts _ im⟩ hp rfl (by rw [List.length_map]; exact hnp) (hl.1.trans hml) hstk hroom dg ⟨by omega, by omega⟩
  intro T hT XX
  obtain ⟨v, st₀, t, T', L, h0, X', hL2, e1, e2, ⟨hv, hH2⟩, stp⟩ := run T hT XX
  cases hv
  obtain ⟨t2, a1, b1⟩ := k T'.heap (locs ++ L) lsA (by rw [e1]; exact hH2) (fun q hq => (List.mem_append.mp hq).elim (hL q) (hL2 q)) hl T' rfl X'
  refine ⟨t2, stp t2 ?_, b1⟩
  cases r <;> exact a1
/-- Object's own constructor -/
theorem fc_objInit {i : Nat} (C : fc_C X own cc nL d nc ns nm) (dg : decode cc pc = .ok (.invokespecial ix, 3)) (hw : Cond.methodLink own ix objectInit ∈ fc_tbl) (hw2 : Cond.instanceMethod objectInit ∈ fc_tbl) (hw3 : Cond.code objectInit ⟨#[0xb1]⟩ 1 none ∈ fc_tbl) (hd : 0 < d) (hst : fc_sum st ≤ 8)
    (k : fc_W X cs sl n h (pc + 3) ls st) : fc_W X cs sl n h pc ls (vR i :: st) := by
  obtain ⟨p, l, e, R, s, m, args, below, meth, c, D, cy, B, Q⟩ := X
  obtain ⟨hx, hb, hml, hown, hts, hK, hnm, hR1, hR2, hR3, hR4⟩ := C
  intro H locs lsA hH hL hl
  refine W.objInit hx hb hown (hts _ hw) (hts _ hw2) (hts _ hw3) rfl hl.1 rfl dg (by omega) ?_ ?_
  · have := lv_room (m := m) (pc := pc) (ls := lsA) (rest := (vR i :: st).map (fc_v B.size)) (st := st.map (fc_v B.size)) (by rw [fc_sum_eq]; exact hst)
    omega
  · exact k H locs lsA hH hL hl
end FCC
