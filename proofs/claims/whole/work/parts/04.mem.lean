/-! the tables' words hold at every later state -/
def fc_AOA (t : FieldType) (U : State) : Prop := (Cond.arrayOver (.array t)).before #[] U = true
theorem fc_AOA.moved {t : FieldType} {u U : State} (hvm : u.vm.Alike U.vm) (h : fc_AOA t u) : fc_AOA t U := by
  obtain ⟨comp, c, k, h1, h2, h3, h4, h5⟩ := arrayOverA_spec h
  obtain ⟨k', hk', he⟩ := hvm.2.2 _ _ h3
  have hi : (U.vm.classes.findIdx? fun (x : Class) => match x.kind with | .array component _ => component == comp | _ => false) = some c := by
    rw [hvm.findIdx?_eq _ (fun _ => rfl)]; exact h2
  have hkind : k'.kind = .array comp (.array t) := by rw [he]; exact h4
  have f1 : U.vm.findClass (FieldType.array t).toString = some comp := by rw [hvm.findClass]; exact h1
  have f2 : U.vm.findClass ("[" ++ (FieldType.array t).toString) = some c := by rw [hvm.findClass]; exact h5
  unfold fc_AOA Cond.before Cond.holds
  simp only [Cond.value]
  rw [f1, Option.bind_some]
  refine (congrArg (fun o : Option Nat => (o.bind (fun c => (U.vm.classes[c]?).map fun (k : Class) => match k.kind with | .array _ ty => decide (ty = FieldType.array t) && decide (U.vm.findClass ("[" ++ (FieldType.array t).toString) = some c) | _ => false) == some true)) hi).trans ?_
  simp [hk', hkind, f2]
theorem fc_warm {w : Cond} (hw : fc_gw w = true) {args a' : Array Value} {s U : State} (hW : s.WarmedH U.vm) (h : w.before args s = true) : w.before a' U = true := by
  by_cases hg : goodWord w = true
  · exact word_at hW (good_of_word hg) h
  · have hg' : goodWord w = false := by simpa using hg
    unfold fc_gw at hw
    rw [hg', Bool.false_or] at hw
    split at hw
    · exact va_Nw.use rfl (va_Nw.warmF hW (va_tabs rfl rfl h))
    · exact va_Nw.use rfl (va_Nw.warmM hW (va_tabs rfl rfl h))
    · exact va_AO.use (va_AO.moved hW.alike (va_AO.of h))
    · exact fc_AOA.moved hW.alike h
    · cases hw
theorem fc_pay {args : Array Value} {s : State} (hts : ∀ w ∈ fc_tbl, w.before args s = true) : ∀ w ∈ fc_tbl, ∀ (a' : Array Value) (U : State), s.WarmedH U.vm → w.before a' U = true :=
  fun w hw a' U hW => fc_warm (List.mem_filter.mp hw).2 hW (hts w hw)

/-! fields, arrays, calls, returns -/
/-- field k of the class c, as the class own names it by its entry ix; ty its type, fin: final -/
def fc_FL (own : String) (ix c k : Nat) (ty : FieldType) (fin nest : Bool) : Prop :=
  ∃ (Cn : String) (T : u_T) (N : Nat) (ty0 : Nat → FieldType), fc_cl[c]? = some (Cn, T, N) ∧ (∀ w ∈ u_ws Cn T N, w ∈ fc_tbl) ∧ k < N ∧ (∀ k, k < N → parseFieldDescriptor (T k).2.2.1 = some (ty0 k)) ∧ (∀ a, a < N → ∀ b, b < N → a ≠ b → (T a).2.1 ≠ (T b).2.1) ∧ ty0 k = ty ∧ (T k).2.2.2 = fin ∧
    ((nest = false ∧ (T k).1 = own ∧ Cond.fieldLink own ix (T k).1 (T k).2.1 (T k).2.2.1 ∈ fc_tbl) ∨ (nest = true ∧ ∃ host : String, Cond.fieldLinkNest own ix (T k).1 (T k).2.1 (T k).2.2.1 host ∈ fc_tbl))
section FCM
variable {X : fc_X} {own : String} {cc : ByteArray} {nL d nc ns : Nat} {nm : String} {cs sl n : Nat} {h : Nat → fc_AC} {pc : Nat} {ls : List (Option fc_AV)} {st : List fc_AV}
theorem fc_map_get {b : Nat} {fs : List fc_AV} {k : Nat} {v : fc_AV} (hv : fs[k]? = some v) : vp_V (fs.map (fc_v b)) k = fc_v b v := by
  simp [vp_V, hv]
theorem fc_map_set {b : Nat} {fs : List fc_AV} {k : Nat} (v : fc_AV) (hk : k < fs.length) (j : Nat) : updV (vp_V (fs.map (fc_v b))) k (fc_v b v) j = vp_V ((fs.set k v).map (fc_v b)) j := by
  rw [vp_updV_set (by simpa using hk), List.map_set]
theorem fc_getf {i c k ix : Nat} {ty : FieldType} {fin nest : Bool} {fs : List fc_AV} {v : fc_AV} (C : fc_C X own cc nL d nc ns nm) (dg : decode cc pc = .ok (.getfield ix, 3)) (F : fc_FL own ix c k ty fin nest) (hi : i < n) (he : h i = cO c fs) (hv : fs[k]? = some v)
    (kk : fc_W X cs sl n h (pc + 3) ls (v :: st)) : fc_W X cs sl n h pc ls (vR i :: st) := by
  obtain ⟨p, l, e, R, s, m, args, below, meth, c9, D, cy, B, Q⟩ := X
  obtain ⟨hx, hb, hml, hown, hts, hK, hnm, hR1, hR2, hR3, hR4⟩ := C
  obtain ⟨Cn, T, N, ty0, hc, hin, hkN, hty, hnm2, hty2, hfin, hlink⟩ := F
  intro H locs lsA hH hL hl
  have hcell := hH.2.2 i hi
  rw [he] at hcell
  obtain ⟨r, hr, cell, q1, q2, q3, q4⟩ := hcell
  cases hc.symm.trans hr
  obtain ⟨hS, hfc, kC, hkC, hkind⟩ := hK.1 c _ hc
  obtain ⟨cf, kf, fi, f, hi9, hsl⟩ := hS k hkN
  have hst := (u_facts hfc hkC (u_lays hts hin hkN) hi9).1
  have hv9 : cell.slots[f.slot]? = some (fc_v B.size v) := by rw [hsl, q4 k hkN, fc_map_get hv]
  have kk9 := kk H locs lsA hH hL hl
  rcases hlink with ⟨-, -, hw⟩ | ⟨-, host, hw⟩
  · exact W.getf hx hb hown (hts _ hw) hi9 hst q1 (by rw [q3]; exact fun z => by cases z) hv9 rfl rfl dg kk9
  · exact va_Wgetf hx hb hown (hts _ hw) hi9 hst q1 (by rw [q3]; exact fun z => by cases z) hv9 rfl rfl dg kk9
def fc_fit (ty : FieldType) (v : fc_AV) : Prop := match v with
  | .inl _ => ty = .int
  | .inr (.inl _) => ty = .long
  | .inr (.inr _) => (∃ C, ty = .object C) ∨ ∃ t, ty = .array t
theorem fc_fit.ok {ty : FieldType} {v : fc_AV} (hf : fc_fit ty v) (b : Nat) : narrow ty (fc_v b v) = fc_v b v ∧ fits ty (fc_v b v) = true := by
  rcases v with z | z | o
  · cases hf; exact ⟨rfl, rfl⟩
  · cases hf; exact ⟨rfl, rfl⟩
  · rcases hf with ⟨C, rfl⟩ | ⟨t, rfl⟩ <;> cases o <;> exact ⟨rfl, rfl⟩
theorem fc_putf {i c k ix : Nat} {ty : FieldType} {fin nest : Bool} {fs : List fc_AV} {v : fc_AV} (C : fc_C X own cc nL d nc ns nm) (dg : decode cc pc = .ok (.putfield ix, 3)) (F : fc_FL own ix c k ty fin nest) (hi : i < n) (he : h i = cO c fs) (hk : k < fs.length) (hf : fc_fit ty v) (hfn : fin = false ∨ (fin = true ∧ nm = "<init>" ∧ nest = false))
    (kk : fc_W X cs sl n (fc_up h i (cO c (fs.set k v))) (pc + 3) ls st) : fc_W X cs sl n h pc ls (v :: vR i :: st) := by
  obtain ⟨p, l, e, R, s, m, args, below, meth, c9, D, cy, B, Q⟩ := X
  obtain ⟨hx, hb, hml, hown, hts, hK, hnm, hR1, hR2, hR3, hR4⟩ := C
  obtain ⟨Cn, T, N, ty0, hc, hin, hkN, hty, hnm2, hty2, hfin, hlink⟩ := F
  intro H locs lsA hH hL hl
  have hcell := hH.2.2 i hi
  rw [he] at hcell
  obtain ⟨r, hr, cell, q1, q2, q3, q4⟩ := hcell
  cases hc.symm.trans hr
  have hap := va_apart (own := own) hts hin ty0 hty hnm2 hK hc
  obtain ⟨hS, hfc, kC, hkC, hkind⟩ := hK.1 c _ hc
  obtain ⟨cf, kf, fi, f, hi9, hsl⟩ := hS k hkN
  have hst := (u_facts hfc hkC (u_lays hts hin hkN) hi9).1
  have hlay := hts _ (hin _ (u_in_lay hkN))
  obtain ⟨hn1, hn2⟩ := hf.ok B.size
  have hpd : parseFieldDescriptor (T k).2.2.1 = some ty := by rw [hty k hkN, hty2]
  have fin9 : ∀ H' : Heap, H'[B.size + i]? = some (cell.setSlot f.slot (fc_v B.size v)) → H'.size = H.size → (∀ q, q ≠ B.size + i → H'[q]? = H[q]?) → W p l e R s m args below meth c9 H' (locs ++ [⟨B.size + i, f.slot⟩]) cs sl Q (F0 m (pc + 3) lsA (st.map (fc_v B.size))) := by
    intro H' e1 e2 e3
    refine kk H' _ lsA (hH.put ⟨_, hc, ?_⟩ e2 e3) ?_ hl
    · rw [hsl] at e1
      exact t_OB.to (V := updV (vp_V (fs.map (fc_v B.size))) k (fc_v B.size v)) ⟨_, e1, q2, q3, t_set q4 hap hkN _⟩ (fun j _ => fc_map_set v hk j)
    · intro q hq
      rcases List.mem_append.mp hq with z | z
      · exact hL q z
      · simp at z; subst z; exact Nat.le_add_right _ _
  unfold u_lay at hlay
  rcases hfn with hf0 | ⟨hf1, hin2, hne⟩
  · rw [if_neg (by rw [hfin, hf0]; decide)] at hlay
    have h6 := u_store hfc hkC hkind hlay hi9 hpd hn1 hn2
    rcases hlink with ⟨-, -, hw⟩ | ⟨-, host, hw⟩
    · exact W.putK hx hb (f := f) ⟨hown, hts _ hw, ⟨_, _, _, hi9⟩, hst⟩ (by rw [q2]; exact h6) q1 q3 (by rw [hsl]; exact k2_hasslot (q4 k hkN)) rfl rfl dg fin9
    · exact va_WputK hx hb (f := f) hown (hts _ hw) hi9 hst (by rw [q2]; exact h6) q1 q3 (by rw [hsl]; exact k2_hasslot (q4 k hkN)) rfl rfl dg fin9
  · rw [if_pos (by rw [hfin, hf1])] at hlay
    have h6 := u_fits hfc hkC hkind (Or.inr hlay) hi9 hpd hn1 hn2
    rcases hlink with ⟨-, hdecl, hw⟩ | ⟨hne2, host, hw⟩
    · have hcf : m.cls = cf := by
        obtain ⟨_, _, c', _, _, _, -, -, hf', -, -, -, hown2, -⟩ := Cond.laysFinal_spec hlay
        have e1 : c' = cf := by have := hi9.symm.trans hf'; simp at this; exact this.1.symm
        rw [hdecl] at hown2
        rw [← e1]; exact Option.some.inj (hown.symm.trans hown2)
      exact W.putFinK hx hb hown (hts _ hw) hi9 hst hcf (hnm.trans hin2) (by rw [q2]; exact h6) q1 q3 (by rw [hsl]; exact k2_hasslot (q4 k hkN)) rfl rfl dg fin9
    · rw [hne] at hne2
      cases hne2

theorem fc_ix {i : Int} {N : Nat} (h0 : 0 ≤ i) (h1 : i < N) (hN : N < 2147483648) : ¬ (Int32.ofInt i < 0 ∨ N ≤ (Int32.ofInt i).toNatClampNeg) ∧ (Int32.ofInt i).toNatClampNeg = i.toNat ∧ i.toNat < N ∧ ((i.toNat : Nat) : Int) = i := by
  have hR : fc_R i := ⟨by omega, by omega⟩
  have e1 : (Int32.ofInt i).toNatClampNeg = i.toNat := by
    show (Int32.ofInt i).toInt.toNat = i.toNat
    rw [fc_to hR]
  refine ⟨?_, e1, by omega, by omega⟩
  rw [e1]
  rintro (q | q)
  · have : i < 0 := (fc_iff_lt hR fc_R0).mp q
    omega
  · omega
theorem fc_iaload {i : Nat} {j : Int} {N : Nat} {f : Int → Int} (C : fc_C X own cc nL d nc ns nm) (dg : decode cc pc = .ok (.iaload, 1)) (hi : i < n) (he : h i = cI N f) (h0 : 0 ≤ j) (h1 : j < N) (hN : N < 2147483648)
    (k : fc_W X cs sl n h (pc + 1) ls (vI (f j) :: st)) : fc_W X cs sl n h pc ls (vI j :: vR i :: st) := by
  obtain ⟨p, l, e, R, s, m, args, below, meth, c, D, cy, B, Q⟩ := X
  obtain ⟨hx, hb, hml, hown, hts, hK, hnm, hR1, hR2, hR3, hR4⟩ := C
  intro H locs lsA hH hL hl
  have hcell := hH.2.2 i hi
  rw [he] at hcell
  have hcell : H[B.size + i]? = some (arrV (cy 0) N (fun j => .int (Int32.ofInt (f j)))) := hcell
  obtain ⟨g1, g2, g3, g4⟩ := fc_ix h0 h1 hN
  refine W.iald (v := .int (Int32.ofInt (f j))) hx hb hcell ((hK.2 0 _ rfl).1 N _) (fun q => by cases q) (by rw [arrV_size]; exact g1) (by rw [g2, arrV_read _ _ g3, g4]) rfl rfl dg ?_
  exact k H locs lsA hH hL hl
theorem fc_laload {i : Nat} {j : Int} {N : Nat} {f : Int → Int} (C : fc_C X own cc nL d nc ns nm) (dg : decode cc pc = .ok (.laload, 1)) (hi : i < n) (he : h i = cJ N f) (h0 : 0 ≤ j) (h1 : j < N) (hN : N < 2147483648)
    (k : fc_W X cs sl n h (pc + 1) ls (vL (f j) :: st)) : fc_W X cs sl n h pc ls (vI j :: vR i :: st) := by
  obtain ⟨p, l, e, R, s, m, args, below, meth, c, D, cy, B, Q⟩ := X
  obtain ⟨hx, hb, hml, hown, hts, hK, hnm, hR1, hR2, hR3, hR4⟩ := C
  intro H locs lsA hH hL hl
  have hcell := hH.2.2 i hi
  rw [he] at hcell
  have hcell : H[B.size + i]? = some (arrV (cy 1) N (fun j => .long (Int64.ofInt (f j)))) := hcell
  obtain ⟨g1, g2, g3, g4⟩ := fc_ix h0 h1 hN
  refine W.lald (v := .long (Int64.ofInt (f j))) hx hb hcell ((hK.2 1 _ rfl).1 N _) (fun q => by cases q) (by rw [arrV_size]; exact g1) (by rw [g2, arrV_read _ _ g3, g4]) rfl rfl dg ?_
  exact k H locs lsA hH hL hl
theorem fc_aaload {i a kd : Nat} {j : Int} {N : Nat} {g : Int → Option Nat} (C : fc_C X own cc nL d nc ns nm) (dg : decode cc pc = .ok (.aaload, 1)) (hkd : kd = 2 ∨ kd = 3 ∨ kd = 4) (hi : i < n) (he : h i = cP kd N g) (h0 : 0 ≤ j) (h1 : j < N) (hN : N < 2147483648) (hg : g j = some a)
    (k : fc_W X cs sl n h (pc + 1) ls (vR a :: st)) : fc_W X cs sl n h pc ls (vI j :: vR i :: st) := by
  obtain ⟨p, l, e, R, s, m, args, below, meth, c, D, cy, B, Q⟩ := X
  obtain ⟨hx, hb, hml, hown, hts, hK, hnm, hR1, hR2, hR3, hR4⟩ := C
  intro H locs lsA hH hL hl
  have hcell := hH.2.2 i hi
  rw [he] at hcell
  have hcell : H[B.size + i]? = some (arrV (cy kd) N (fun j => va_rf ((g j).map (fun a => B.size + a)))) := hcell
  obtain ⟨g1, g2, g3, g4⟩ := fc_ix h0 h1 hN
  have harr : ∃ ty : FieldType, s.isArrayOf (arrV (cy kd) N (fun j => va_rf ((g j).map (fun a => B.size + a)))) ty ∧ ty.isReference = true := by
    rcases hkd with rfl | rfl | rfl
    · exact ⟨_, (hK.2 2 _ rfl).1 N _, rfl⟩
    · exact ⟨_, (hK.2 3 _ rfl).1 N _, rfl⟩
    · exact ⟨_, (hK.2 4 _ rfl).1 N _, rfl⟩
  obtain ⟨ty, a1, a2⟩ := harr
  refine W.aald (v := .ref (B.size + a)) hx hb hcell a1 a2 (fun q => by cases q) (by rw [arrV_size]; exact g1) (by rw [g2, arrV_read _ _ g3, g4, hg]; rfl) rfl rfl dg ?_
  exact k H locs lsA hH hL hl
def fc_set (f : Int → Int) (j v : Int) : Int → Int := fun i => if i = j then v else f i
theorem fc_iastore {i : Nat} {j v : Int} {N : Nat} {f : Int → Int} (C : fc_C X own cc nL d nc ns nm) (dg : decode cc pc = .ok (.iastore, 1)) (hi : i < n) (he : h i = cI N f) (h0 : 0 ≤ j) (h1 : j < N) (hN : N < 2147483648)
    (k : fc_W X cs sl n (fc_up h i (cI N (fc_set f j v))) (pc + 1) ls st) : fc_W X cs sl n h pc ls (vI v :: vI j :: vR i :: st) := by
  obtain ⟨p, l, e, R, s, m, args, below, meth, c, D, cy, B, Q⟩ := X
  obtain ⟨hx, hb, hml, hown, hts, hK, hnm, hR1, hR2, hR3, hR4⟩ := C
  intro H locs lsA hH hL hl
  have hcell := hH.2.2 i hi
  rw [he] at hcell
  have hcell : H[B.size + i]? = some (arrV (cy 0) N (fun j => .int (Int32.ofInt (f j)))) := hcell
  obtain ⟨g1, g2, g3, g4⟩ := fc_ix h0 h1 hN
  refine W.iast hx hb hcell ((hK.2 0 _ rfl).1 N _) (fun q => by cases q) (by rw [arrV_size]; exact g1) rfl rfl dg (fun H' e1 e2 e3 => ?_)
  refine k H' _ lsA (hH.put ?_ e2 e3) ?_ hl
  · show H'[B.size + i]? = some (arrV (cy 0) N (fun j9 => .int (Int32.ofInt (fc_set f j v j9))))
    rw [e1, g2, arrV_store]
    refine congrArg some (arrV_congr fun j9 _ => ?_)
    unfold updV fc_set
    by_cases q : j9 = j.toNat
    · rw [if_pos q, if_pos (by omega)]
    · rw [if_neg q, if_neg (by omega)]
  · intro q hq
    rcases List.mem_append.mp hq with z | z
    · exact hL q z
    · simp at z; subst z; exact Nat.le_add_right _ _
theorem fc_lastore {i : Nat} {j v : Int} {N : Nat} {f : Int → Int} (C : fc_C X own cc nL d nc ns nm) (dg : decode cc pc = .ok (.lastore, 1)) (hi : i < n) (he : h i = cJ N f) (h0 : 0 ≤ j) (h1 : j < N) (hN : N < 2147483648)
    (k : fc_W X cs sl n (fc_up h i (cJ N (fc_set f j v))) (pc + 1) ls st) : fc_W X cs sl n h pc ls (vL v :: vI j :: vR i :: st) := by
  obtain ⟨p, l, e, R, s, m, args, below, meth, c, D, cy, B, Q⟩ := X
  obtain ⟨hx, hb, hml, hown, hts, hK, hnm, hR1, hR2, hR3, hR4⟩ := C
  intro H locs lsA hH hL hl
  have hcell := hH.2.2 i hi
  rw [he] at hcell
  have hcell : H[B.size + i]? = some (arrV (cy 1) N (fun j => .long (Int64.ofInt (f j)))) := hcell
  obtain ⟨g1, g2, g3, g4⟩ := fc_ix h0 h1 hN
  refine W.last hx hb hcell ((hK.2 1 _ rfl).1 N _) (fun q => by cases q) (by rw [arrV_size]; exact g1) rfl rfl dg (fun H' e1 e2 e3 => ?_)
  refine k H' _ lsA (hH.put ?_ e2 e3) ?_ hl
  · show H'[B.size + i]? = some (arrV (cy 1) N (fun j9 => .long (Int64.ofInt (fc_set f j v j9))))
    rw [e1, g2, arrV_store]
    refine congrArg some (arrV_congr fun j9 _ => ?_)
    unfold updV fc_set
    by_cases q : j9 = j.toNat
    · rw [if_pos q, if_pos (by omega)]
    · rw [if_neg q, if_neg (by omega)]
  · intro q hq
    rcases List.mem_append.mp hq with z | z
    · exact hL q z
    · simp at z; subst z; exact Nat.le_add_right _ _
theorem fc_alenI {i : Nat} {N : Nat} {f : Int → Int} (C : fc_C X own cc nL d nc ns nm) (dg : decode cc pc = .ok (.arraylength, 1)) (hi : i < n) (he : h i = cI N f)
    (k : fc_W X cs sl n h (pc + 1) ls (vI (N : Int) :: st)) : fc_W X cs sl n h pc ls (vR i :: st) := by
  obtain ⟨p, l, e, R, s, m, args, below, meth, c, D, cy, B, Q⟩ := X
  obtain ⟨hx, hb, hml, hown, hts, hK, hnm, hR1, hR2, hR3, hR4⟩ := C
  intro H locs lsA hH hL hl
  have hcell := hH.2.2 i hi
  rw [he] at hcell
  have hcell : H[B.size + i]? = some (arrV (cy 0) N (fun j => .int (Int32.ofInt (f j)))) := hcell
  refine W.alen (n := Int32.ofInt (N : Int)) hx hb hcell ((hK.2 0 _ rfl).1 N _) (by rw [arrV_size]; rfl) rfl rfl dg ?_
  exact k H locs lsA hH hL hl
theorem fc_alenP {i kd : Nat} {N : Nat} {g : Int → Option Nat} (C : fc_C X own cc nL d nc ns nm) (dg : decode cc pc = .ok (.arraylength, 1)) (hkd : kd = 2 ∨ kd = 3 ∨ kd = 4) (hi : i < n) (he : h i = cP kd N g)
    (k : fc_W X cs sl n h (pc + 1) ls (vI (N : Int) :: st)) : fc_W X cs sl n h pc ls (vR i :: st) := by
  obtain ⟨p, l, e, R, s, m, args, below, meth, c, D, cy, B, Q⟩ := X
  obtain ⟨hx, hb, hml, hown, hts, hK, hnm, hR1, hR2, hR3, hR4⟩ := C
  intro H locs lsA hH hL hl
  have hcell := hH.2.2 i hi
  rw [he] at hcell
  have hcell : H[B.size + i]? = some (arrV (cy kd) N (fun j => va_rf ((g j).map (fun a => B.size + a)))) := hcell
  have harr : ∃ ty : FieldType, s.isArrayOf (arrV (cy kd) N (fun j => va_rf ((g j).map (fun a => B.size + a)))) ty := by
    rcases hkd with rfl | rfl | rfl
    · exact ⟨_, (hK.2 2 _ rfl).1 N _⟩
    · exact ⟨_, (hK.2 3 _ rfl).1 N _⟩
    · exact ⟨_, (hK.2 4 _ rfl).1 N _⟩
  obtain ⟨ty, a1⟩ := harr
  refine W.alen (n := Int32.ofInt (N : Int)) hx hb hcell a1 (by rw [arrV_size]; rfl) rfl rfl dg ?_
  exact k H locs lsA hH hL hl
/-! returns -/
variable {ret : Option FieldType} {r : Option fc_AV} {n' : Nat} {h' : Nat → fc_AC}
theorem fc_iret {v : Int} {ty : FieldType} (C : fc_C X own cc nL d nc ns nm) (T : fc_T X (some ty) r n' h' cs sl) (dg : decode cc pc = .ok (.ireturn, 1)) (hty : ty = .int ∨ (ty = .boolean ∧ (v = 0 ∨ v = 1))) (hr : r = some (vI v)) (hn : n = n') (hh : ∀ i : Nat, i < n → fc_ceq (h i) (h' i)) : fc_W X cs sl n h pc ls [vI v] := by
  obtain ⟨p, l, e, R, s, m, args, below, meth, c, D, cy, B, Q⟩ := X
  obtain ⟨hx, hb, hml, hown, hts, hK, hnm, hR1, hR2, hR3, hR4⟩ := C
  obtain ⟨hret, hlocks, hQ⟩ := T
  subst hn
  intro H locs lsA hH hL hl
  rw [hQ]
  rcases hty with rfl | ⟨rfl, hv⟩
  · exact W.iret (v := Int32.ofInt v) hx hb hret (fun t ht _ => ⟨by rw [hr]; rfl, by rw [ht]; exact hH.ceq hh⟩) hL dg
  · exact W.zret (v := Int32.ofInt v) (ty := .boolean) hx hb hret (by rcases hv with rfl | rfl <;> rfl) (fun t ht _ => ⟨by rw [hr]; rfl, by rw [ht]; exact hH.ceq hh⟩) hL dg
theorem fc_lret {v : Int} (C : fc_C X own cc nL d nc ns nm) (T : fc_T X (some .long) r n' h' cs sl) (dg : decode cc pc = .ok (.lreturn, 1)) (hr : r = some (vL v)) (hn : n = n') (hh : ∀ i : Nat, i < n → fc_ceq (h i) (h' i)) : fc_W X cs sl n h pc ls [vL v] := by
  obtain ⟨p, l, e, R, s, m, args, below, meth, c, D, cy, B, Q⟩ := X
  obtain ⟨hx, hb, hml, hown, hts, hK, hnm, hR1, hR2, hR3, hR4⟩ := C
  obtain ⟨hret, hlocks, hQ⟩ := T
  subst hn
  intro H locs lsA hH hL hl
  rw [hQ]
  exact W.lret (v := Int64.ofInt v) hx hb hret (fun t ht _ => ⟨by rw [hr]; rfl, by rw [ht]; exact hH.ceq hh⟩) hL dg
theorem fc_vret (C : fc_C X own cc nL d nc ns nm) (T : fc_T X none r n' h' cs sl) (dg : decode cc pc = .ok (.return_, 1)) (hr : r = none) (hn : n = n') (hh : ∀ i : Nat, i < n → fc_ceq (h i) (h' i)) : fc_W X cs sl n h pc ls [] := by
  obtain ⟨p, l, e, R, s, m, args, below, meth, c, D, cy, B, Q⟩ := X
  obtain ⟨hx, hb, hml, hown, hts, hK, hnm, hR1, hR2, hR3, hR4⟩ := C
  obtain ⟨hret, hlocks, hQ⟩ := T
  subst hn
  intro H locs lsA hH hL hl
  rw [hQ]
  exact W.vret hx hb hret (fun t ht _ => ⟨by rw [hr]; rfl, by rw [ht]; exact hH.ceq hh⟩) hL dg
theorem fc_aret {i : Nat} {Cn : String} (C : fc_C X own cc nL d nc ns nm) (T : fc_T X (some (.object Cn)) r n' h' cs sl) (dg : decode cc pc = .ok (.areturn, 1)) (hr : r = some (vR i)) (hn : n = n') (hh : ∀ i : Nat, i < n → fc_ceq (h i) (h' i)) : fc_W X cs sl n h pc ls [vR i] := by
  obtain ⟨p, l, e, R, s, m, args, below, meth, c, D, cy, B, Q⟩ := X
  obtain ⟨hx, hb, hml, hown, hts, hK, hnm, hR1, hR2, hR3, hR4⟩ := C
  obtain ⟨hret, hlocks, hQ⟩ := T
  subst hn
  intro H locs lsA hH hL hl
  rw [hQ]
  exact W.aret (v := .ref (B.size + i)) hx hb hret (Or.inl ⟨_, rfl⟩) (Or.inr ⟨_, rfl⟩) (fun t ht _ => ⟨by rw [hr]; rfl, by rw [ht]; exact hH.ceq hh⟩) hL dg
end FCM
