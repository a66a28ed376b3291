/-- the words of the tables that hold at every later state too -/
def fc_gw (w : Cond) : Bool := goodWord w || match w with
  | .fieldLinkNest _ _ _ _ _ _ => true
  | .methodLinkNest _ _ _ _ => true
  | .arrayOver (.object _) => true
  | .arrayOver (.array _) => true
  | _ => false
def fc_tbl : List Cond := lw_tbl.filter fc_gw
theorem fc_mem {i : Nat} {w : Cond} (h : tables_1[i]? = some w) (hg : fc_gw w = true) : w ∈ fc_tbl := List.mem_filter.mpr ⟨List.mem_append_right _ (List.mem_of_getElem? h), hg⟩
theorem fc_memS {i : Nat} {w : Cond} (h : (k2_sels lw_privs)[i]? = some w) (hg : fc_gw w = true) : w ∈ fc_tbl := List.mem_filter.mpr ⟨List.mem_append_left _ (List.mem_of_getElem? h), hg⟩
/-! MY OWN LAYER: a world of numbered cells with whole numbers (Int) in them, over the kit's W. A value: a number as an int, a number as a long, a cell's number, null. -/
abbrev fc_AV : Type := Int ⊕ Int ⊕ Option Nat
abbrev vI (z : Int) : fc_AV := Sum.inl z
abbrev vL (z : Int) : fc_AV := Sum.inr (Sum.inl z)
abbrev vR (i : Nat) : fc_AV := Sum.inr (Sum.inr (some i))
abbrev vN : fc_AV := Sum.inr (Sum.inr none)
def fc_v (b : Nat) : fc_AV → Value
  | .inl z => .int (Int32.ofInt z)
  | .inr (.inl z) => .long (Int64.ofInt z)
  | .inr (.inr (some i)) => .ref (b + i)
  | .inr (.inr none) => .null
def fc_cat : fc_AV → Nat
  | .inl _ => 1
  | .inr (.inl _) => 2
  | .inr (.inr _) => 1
theorem fc_v_cat (b : Nat) (v : fc_AV) : (fc_v b v).category = fc_cat v := by
  rcases v with z | z | o
  · rfl
  · rfl
  · cases o <;> rfl
/-- a cell: an array (kind, length, contents), or an object (its class's number, its fields). Kinds: 0 int, 1 long, 2 int[], 3 long[], 4 Position -/
abbrev fc_AC : Type := (Nat × Nat × ((Int → Int) ⊕ (Int → Option Nat))) ⊕ (Nat × List fc_AV)
abbrev cI (n : Nat) (f : Int → Int) : fc_AC := Sum.inl (0, n, Sum.inl f)
abbrev cJ (n : Nat) (f : Int → Int) : fc_AC := Sum.inl (1, n, Sum.inl f)
abbrev cP (k n : Nat) (g : Int → Option Nat) : fc_AC := Sum.inl (k, n, Sum.inr g)
abbrev cO (c : Nat) (fs : List fc_AV) : fc_AC := Sum.inr (c, fs)
abbrev fc_cl : List vw_C := [(RX0, TX0, 4), (RX1, TX1, 9), (RX2, TX2, 3), (RX3, TX3, 6), (RX4, TX4, 3), (RX5, TX5, 9), (RX6, TX6, 8), (RX7, TX7, 21)]
abbrev fc_tys (cy : Nat → ClassId) : List (ClassId × FieldType) := [(cy 0, .int), (cy 1, .long), (cy 2, .array .int), (cy 3, .array .long), (cy 4, .object RX3)]
def fc_K (D : va_G) (cy : Nat → ClassId) (U : State) : Prop := va_K D fc_cl (fc_tys cy) U
theorem fc_K.moved {D : va_G} {cy : Nat → ClassId} {u U : State} (hvm : u.vm.Alike U.vm) (h : fc_K D cy u) : fc_K D cy U := va_K.moved hvm h
def fc_cell (D : va_G) (cy : Nat → ClassId) (b i : Nat) (x : fc_AC) (H : Heap) : Prop := match x with
  | .inl (k, n, .inl f) => match k with
    | 0 => H[b + i]? = some (arrV (cy 0) n (fun j => .int (Int32.ofInt (f j))))
    | _ => H[b + i]? = some (arrV (cy 1) n (fun j => .long (Int64.ofInt (f j))))
  | .inl (k, n, .inr g) => H[b + i]? = some (arrV (cy k) n (fun j => va_rf ((g j).map (fun a => b + a))))
  | .inr (c, fs) => ∃ r : vw_C, fc_cl[c]? = some r ∧ t_OB (b + i) (D.1 c) r.2.2 (D.2 c) H (vp_V (fs.map (fc_v b)))
theorem fc_cell.kept {D : va_G} {cy : Nat → ClassId} {b i : Nat} {x : fc_AC} {H H1 : Heap} (h : fc_cell D cy b i x H) (hq : H1[b + i]? = H[b + i]?) : fc_cell D cy b i x H1 := by
  rcases x with ⟨k, n, f | g⟩ | ⟨c, fs⟩
  · cases k with
    | zero => exact hq.trans h
    | succ k => exact hq.trans h
  · exact hq.trans h
  · obtain ⟨r, h1, h2⟩ := h
    exact ⟨r, h1, h2.kept hq⟩
def fc_HR (D : va_G) (cy : Nat → ClassId) (B : Heap) (n : Nat) (h : Nat → fc_AC) (H : Heap) : Prop :=
  H.size = B.size + n ∧ (∀ q : Nat, q < B.size → H[q]? = B[q]?) ∧ ∀ i : Nat, i < n → fc_cell D cy B.size i (h i) H
def fc_up (h : Nat → fc_AC) (i : Nat) (x : fc_AC) : Nat → fc_AC := fun j => if j = i then x else h j
theorem fc_up_s (h : Nat → fc_AC) (i : Nat) (x : fc_AC) : fc_up h i x i = x := if_pos rfl
theorem fc_up_n (h : Nat → fc_AC) {i j : Nat} (x : fc_AC) (hj : j ≠ i) : fc_up h i x j = h j := if_neg hj
/-- one cell written -/
theorem fc_HR.put {D : va_G} {cy : Nat → ClassId} {B : Heap} {n : Nat} {h : Nat → fc_AC} {H H1 : Heap} (hH : fc_HR D cy B n h H) {i : Nat} {x : fc_AC} (hx : fc_cell D cy B.size i x H1) (hz : H1.size = H.size) (ho : ∀ q : Nat, q ≠ B.size + i → H1[q]? = H[q]?) : fc_HR D cy B n (fc_up h i x) H1 := by
  refine ⟨hz.trans hH.1, fun q hq => (ho q (by omega)).trans (hH.2.1 q hq), fun j hj => ?_⟩
  by_cases e : j = i
  · subst e
    rw [fc_up_s]
    exact hx
  · rw [fc_up_n _ _ e]
    exact (hH.2.2 j hj).kept (ho _ (by omega))
/-- one cell more -/
theorem fc_HR.push {D : va_G} {cy : Nat → ClassId} {B : Heap} {n : Nat} {h : Nat → fc_AC} {H H1 : Heap} (hH : fc_HR D cy B n h H) {x : fc_AC} (hx : fc_cell D cy B.size n x H1) (hz : H1.size = H.size + 1) (ho : ∀ q : Nat, q < H.size → H1[q]? = H[q]?) : fc_HR D cy B (n + 1) (fc_up h n x) H1 := by
  have h0 := hH.1
  refine ⟨by omega, fun q hq => (ho q (by omega)).trans (hH.2.1 q hq), fun j hj => ?_⟩
  by_cases e : j = n
  · subst e
    rw [fc_up_s]
    exact hx
  · rw [fc_up_n _ _ e]
    exact (hH.2.2 j (by omega)).kept (ho _ (by omega))
/-- two cells are as good as one another -/
def fc_ceq (x y : fc_AC) : Prop := match x, y with
  | .inl (k, n, .inl f), .inl (k', n', .inl f') => k = k' ∧ n = n' ∧ ∀ j : Nat, j < n → f j = f' j
  | .inl (k, n, .inr f), .inl (k', n', .inr f') => k = k' ∧ n = n' ∧ ∀ j : Nat, j < n → f j = f' j
  | x, y => x = y
theorem arrV_congr {c : ClassId} {n : Nat} {f g : Nat → Value} (h : ∀ j : Nat, j < n → f j = g j) : arrV c n f = arrV c n g := by
  unfold arrV
  congr 1
  apply Array.ext
  · simp
  · intro i h1 h2
    simp at h1 ⊢
    exact h i h1
theorem fc_ceq.cell {D : va_G} {cy : Nat → ClassId} {b i : Nat} {x y : fc_AC} {H : Heap} (e : fc_ceq x y) (h : fc_cell D cy b i x H) : fc_cell D cy b i y H := by
  rcases x with ⟨k, n, f | g⟩ | ⟨c, fs⟩ <;> rcases y with ⟨k', n', f' | g'⟩ | ⟨c', fs'⟩
  · obtain ⟨rfl, rfl, e3⟩ := e
    cases k with
    | zero => exact Eq.trans h (congrArg some (arrV_congr fun j hj => by rw [e3 j hj]))
    | succ k => exact Eq.trans h (congrArg some (arrV_congr fun j hj => by rw [e3 j hj]))
  · cases e
  · cases e
  · cases e
  · obtain ⟨rfl, rfl, e3⟩ := e
    exact Eq.trans h (congrArg some (arrV_congr fun j hj => by rw [e3 j hj]))
  · cases e
  · cases e
  · cases e
  · cases e
    exact h
theorem fc_HR.ceq {D : va_G} {cy : Nat → ClassId} {B : Heap} {n : Nat} {h h' : Nat → fc_AC} {H : Heap} (hH : fc_HR D cy B n h H) (e : ∀ i : Nat, i < n → fc_ceq (h i) (h' i)) : fc_HR D cy B n h' H :=
  ⟨hH.1, hH.2.1, fun i hi => (e i hi).cell (hH.2.2 i hi)⟩
/-! the locals, by their places -/
def fc_get : List (Option fc_AV) → Nat → Option fc_AV
  | [], _ => none
  | x :: _, 0 => x
  | _ :: t, k + 1 => fc_get t k
def fc_nl : Option fc_AV → Option fc_AV
  | some (.inl z) => some (.inl z)
  | some (.inr (.inl _)) => none
  | some (.inr (.inr o)) => some (.inr (.inr o))
  | none => none
def fc_kl : Nat → Option fc_AV → Option fc_AV
  | 0, x => fc_nl x
  | _ + 1, x => x
def fc_sto : List (Option fc_AV) → Nat → fc_AV → List (Option fc_AV)
  | [], _, _ => []
  | _ :: t, 0, v => some v :: t
  | x :: t, k + 1, v => fc_kl k x :: fc_sto t k v
def fc_clr : List (Option fc_AV) → List (Option fc_AV)
  | [] => []
  | _ :: t => none :: t
def fc_st2 : List (Option fc_AV) → Nat → fc_AV → List (Option fc_AV)
  | [], _, _ => []
  | _ :: t, 0, v => some v :: fc_clr t
  | x :: t, k + 1, v => fc_kl k x :: fc_st2 t k v
def fc_ls (b : Nat) (lsA : Array Slot) (nL : Nat) (ls : List (Option fc_AV)) : Prop := lsA.size = nL ∧ lv_wf lsA ∧ ∀ (k : Nat) (v : fc_AV), fc_get ls k = some v → lsA[k]? = some (.val (fc_v b v))
def fc_as (b : Nat) (ls : List (Option fc_AV)) : List (Nat × Value) := (List.range ls.length).filterMap fun k => (fc_get ls k).map fun v => (k, fc_v b v)
theorem fc_get_lt : ∀ {ls : List (Option fc_AV)} {k : Nat} {v : fc_AV}, fc_get ls k = some v → k < ls.length
  | [], _, _, h => by cases h
  | _ :: _, 0, _, _ => Nat.succ_pos _
  | _ :: t, k + 1, v, h => Nat.succ_lt_succ (fc_get_lt (ls := t) h)
theorem fc_as_mem {b : Nat} {ls : List (Option fc_AV)} {k : Nat} {v : fc_AV} (h : fc_get ls k = some v) : (k, fc_v b v) ∈ fc_as b ls := by
  refine List.mem_filterMap.mpr ⟨k, List.mem_range.mpr (fc_get_lt h), ?_⟩
  rw [h]
  rfl
theorem fc_ls.as {b : Nat} {lsA : Array Slot} {nL : Nat} {ls : List (Option fc_AV)} (h : fc_ls b lsA nL ls) : lv_has lsA nL (fc_as b ls) := by
  refine ⟨h.1, h.2.1, fun q hq => ?_⟩
  obtain ⟨k, -, hk⟩ := List.mem_filterMap.mp hq
  cases hv : fc_get ls k with
  | none => rw [hv] at hk; cases hk
  | some v =>
    rw [hv] at hk
    cases hk
    exact h.2.2 k v hv
theorem fc_kl_some {k : Nat} {x : Option fc_AV} {w : fc_AV} (h : fc_kl k x = some w) : x = some w ∧ ¬ (k = 0 ∧ fc_cat w = 2) := by
  cases k with
  | zero =>
    rcases x with _ | z | z | o
    · cases h
    · cases h; exact ⟨rfl, fun q => by cases q.2⟩
    · cases h
    · cases h; exact ⟨rfl, fun q => by cases q.2⟩
  | succ k => exact ⟨h, fun q => by cases q.1⟩
theorem fc_get_sto : ∀ {ls : List (Option fc_AV)} {i k : Nat} {v w : fc_AV}, fc_get (fc_sto ls i v) k = some w → (k = i ∧ w = v) ∨ (k ≠ i ∧ fc_get ls k = some w ∧ ¬ (k + 1 = i ∧ fc_cat w = 2))
  | [], _, _, _, _, h => by cases h
  | x :: t, 0, 0, v, w, h => by cases h; exact Or.inl ⟨rfl, rfl⟩
  | x :: t, 0, k + 1, v, w, h => Or.inr ⟨by omega, h, fun q => by omega⟩
  | x :: t, i + 1, 0, v, w, h => by
    obtain ⟨h1, h2⟩ := fc_kl_some (k := i) (x := x) (w := w) h
    exact Or.inr ⟨by omega, h1, fun q => h2 ⟨by omega, q.2⟩⟩
  | x :: t, i + 1, k + 1, v, w, h => by
    rcases fc_get_sto (ls := t) (i := i) (k := k) (v := v) (w := w) h with ⟨h1, h2⟩ | ⟨h1, h2, h3⟩
    · exact Or.inl ⟨by omega, h2⟩
    · exact Or.inr ⟨by omega, h2, fun q => h3 ⟨by omega, q.2⟩⟩
theorem fc_get_clr {t : List (Option fc_AV)} {k : Nat} {w : fc_AV} (h : fc_get (fc_clr t) k = some w) : k ≠ 0 ∧ fc_get t k = some w := by
  cases t with
  | nil => cases h
  | cons x t =>
    cases k with
    | zero => cases h
    | succ k => exact ⟨by omega, h⟩
theorem fc_get_st2 : ∀ {ls : List (Option fc_AV)} {i k : Nat} {v w : fc_AV}, fc_get (fc_st2 ls i v) k = some w → (k = i ∧ w = v) ∨ (k ≠ i ∧ k ≠ i + 1 ∧ fc_get ls k = some w ∧ ¬ (k + 1 = i ∧ fc_cat w = 2))
  | [], _, _, _, _, h => by cases h
  | x :: t, 0, 0, v, w, h => by cases h; exact Or.inl ⟨rfl, rfl⟩
  | x :: t, 0, k + 1, v, w, h => by
    obtain ⟨h1, h2⟩ := fc_get_clr (t := t) (k := k) (w := w) h
    exact Or.inr ⟨by omega, by omega, h2, fun q => by omega⟩
  | x :: t, i + 1, 0, v, w, h => by
    obtain ⟨h1, h2⟩ := fc_kl_some (k := i) (x := x) (w := w) h
    exact Or.inr ⟨by omega, by omega, h1, fun q => h2 ⟨by omega, q.2⟩⟩
  | x :: t, i + 1, k + 1, v, w, h => by
    rcases fc_get_st2 (ls := t) (i := i) (k := k) (v := v) (w := w) h with ⟨h1, h2⟩ | ⟨h1, h2, h3, h4⟩
    · exact Or.inl ⟨by omega, h2⟩
    · exact Or.inr ⟨by omega, by omega, h3, fun q => h4 ⟨by omega, q.2⟩⟩
theorem fc_ls.sto1 {b : Nat} {lsA : Array Slot} {nL i : Nat} {ls : List (Option fc_AV)} {v : fc_AV} (h : lv_has lsA nL ((i, fc_v b v) :: (fc_as b ls).filter (fun q => !(q.1 == i) && !(q.1 + 1 == i && q.2.category == 2)))) : fc_ls b lsA nL (fc_sto ls i v) := by
  refine ⟨h.1, h.2.1, fun k w hk => ?_⟩
  rcases fc_get_sto hk with ⟨rfl, rfl⟩ | ⟨h1, h2, h3⟩
  · exact h.2.2 _ List.mem_cons_self
  · refine h.2.2 (k, fc_v b w) (List.mem_cons_of_mem _ (List.mem_filter.mpr ⟨fc_as_mem h2, ?_⟩))
    simp only [fc_v_cat, Bool.and_eq_true, Bool.not_eq_true', beq_eq_false_iff_ne, ne_eq, Bool.and_eq_false_iff]
    refine ⟨h1, ?_⟩
    by_cases e : k + 1 = i
    · exact Or.inr fun q => h3 ⟨e, q⟩
    · exact Or.inl e
theorem fc_ls.sto2 {b : Nat} {lsA : Array Slot} {nL i : Nat} {ls : List (Option fc_AV)} {v : fc_AV} (h : lv_has lsA nL ((i, fc_v b v) :: (fc_as b ls).filter (fun q => !(q.1 == i) && (!(q.1 == i + 1) && !(q.1 + 1 == i && q.2.category == 2))))) : fc_ls b lsA nL (fc_st2 ls i v) := by
  refine ⟨h.1, h.2.1, fun k w hk => ?_⟩
  rcases fc_get_st2 hk with ⟨rfl, rfl⟩ | ⟨h1, h0, h2, h3⟩
  · exact h.2.2 _ List.mem_cons_self
  · refine h.2.2 (k, fc_v b w) (List.mem_cons_of_mem _ (List.mem_filter.mpr ⟨fc_as_mem h2, ?_⟩))
    simp only [fc_v_cat, Bool.and_eq_true, Bool.not_eq_true', beq_eq_false_iff_ne, ne_eq, Bool.and_eq_false_iff]
    refine ⟨h1, h0, ?_⟩
    by_cases e : k + 1 = i
    · exact Or.inr fun q => h3 ⟨e, q⟩
    · exact Or.inl e
/-! the judgement -/
abbrev fc_X : Type := Program × Launch × Env × Room × State × MethodId × Array Value × List Frame × Method × Code × va_G × (Nat → ClassId) × Heap × (State → Prop)
def fc_W (X : fc_X) (cs sl n : Nat) (h : Nat → fc_AC) (pc : Nat) (ls : List (Option fc_AV)) (st : List fc_AV) : Prop := match X with
  | (p, l, e, R, s, m, args, below, meth, c, D, cy, B, Q) => ∀ (H : Heap) (locs : List Loc) (lsA : Array Slot), fc_HR D cy B n h H → (∀ q ∈ locs, B.size ≤ q.base) → fc_ls B.size lsA c.maxLocals ls → W p l e R s m args below meth c H locs cs sl Q (F0 m pc lsA (st.map (fc_v B.size)))
def fc_C (X : fc_X) (own : String) (cc : ByteArray) (nL d nc ns : Nat) (nm : String) : Prop := match X with
  | (p, l, e, R, s, m, args, below, meth, c, D, cy, B, Q) => p.tables.exec = Jvm.exec ∧ c.code = cc ∧ c.maxLocals = nL ∧ s.vm.findClass own = some m.cls ∧ (∀ w ∈ fc_tbl, w.before args s = true) ∧ fc_K D cy s ∧ meth.name = nm ∧ d ≤ R.frames ∧ 64 * d ≤ R.locals ∧ nc ≤ R.cells ∧ ns ≤ R.slots
def fc_T (X : fc_X) (ret : Option FieldType) (r : Option fc_AV) (n : Nat) (h : Nat → fc_AC) (nc ns : Nat) : Prop := match X with
  | (p, l, e, R, s, m, args, below, meth, c, D, cy, B, Q) => meth.sig.returnType = ret ∧ meth.locks = false ∧ Q = MQ below (fun _ _ o t => o = .returned (r.map (fc_v B.size)) ∧ fc_HR D cy B n h t.heap) args s nc ns (fun q => B.size ≤ q)
abbrev fc_Y : Type := MethodName × ByteArray × Nat × Option FieldType
abbrev fc_rm (d nc ns : Nat) : Room := { frames := d, cells := nc, slots := ns, locals := 64 * d }
/-- a method's contract: at these arguments and cells it answers r and leaves those cells -/
def fc_M (y : fc_Y) (d nc ns : Nat) (as : List fc_AV) (n : Nat) (h : Nat → fc_AC) (r : Option fc_AV) (n' : Nat) (h' : Nat → fc_AC) : Prop :=
  ∀ (l : Launch) (D : va_G) (cy : Nat → ClassId) (B : Heap), Met l y.1 (Cond.code y.1 y.2.1 y.2.2.1 y.2.2.2 :: fc_tbl) (fc_rm d nc ns) (fun a U => a = (as.map (fc_v B.size)).toArray ∧ fc_HR D cy B n h U.heap ∧ fc_K D cy U) (fun _ _ o t => o = .returned (r.map (fc_v B.size)) ∧ fc_HR D cy B n' h' t.heap) nc ns (fun q => B.size ≤ q)
def fc_R (x : Int) : Prop := -2147483648 ≤ x ∧ x < 2147483648
def fc_RL (x : Int) : Prop := -9223372036854775808 ≤ x ∧ x < 9223372036854775808
theorem fc_to {x : Int} (h : fc_R x) : (Int32.ofInt x).toInt = x := Int32.toInt_ofInt_of_le h.1 h.2
theorem fc_toL {x : Int} (h : fc_RL x) : (Int64.ofInt x).toInt = x := Int64.toInt_ofInt_of_le h.1 h.2
