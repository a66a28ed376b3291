/-! the cells behind both constructors, by their numbers: 0 .. 142 the class's, 143 .. 158 the reference's. A i: what the array i holds; F i k: the number in field k of the object i -/
abbrev fc_E : Type := (Int → Int) → (Nat → Int) → fc_AC
def fc_eI (n : Nat) : fc_E := fun a _ => cI n a
def fc_eJ (n : Nat) : fc_E := fun a _ => cJ n a
def fc_eP (k n b s : Nat) : fc_E := fun _ _ => cP k n (fun j => some (b + s * j.toNat))
def fc_ePos (b : Nat) : List fc_E := [fun _ f => cO 3 [vI (f 0), vR (b + 1), vR (b + 7), vR (b + 8), vR (b + 9), vR (b + 10)], fc_eP 2 5 (b + 2) 1, fc_eI 5, fc_eI 5, fc_eI 5, fc_eI 5, fc_eI 5, fc_eI 5, fc_eI 5, fc_eI 3, fc_eP 2 3 (b + 11) 1, fc_eI 5, fc_eI 5, fc_eI 5]
def fc_tab : List fc_E := [fun _ _ => cO 6 [vR 1, vR 2, vR 3, vR 17, vR 36, vR 122, vR 139, vR 142], fc_eI 3, fun _ _ => cO 0 [vR 3, vR 17, vR 34, vR 35]] ++ ([fun _ f => cO 3 [vI (f 0), vR 4, vR 10, vR 11, vR 12, vR 13], fc_eP 2 5 5 1, fc_eI 5, fc_eI 5, fc_eI 5, fc_eI 5, fc_eI 5, fc_eI 5, fc_eI 5, fc_eI 3, fc_eP 2 3 14 1, fc_eI 5, fc_eI 5, fc_eI 5] ++ ([fun _ f => cO 1 [vR 18, vR 24, vR 30, vR 31, vR 32, vR 33, vI (f 6), vI (f 7), vL (f 8)], fc_eP 2 5 19 1, fc_eI 5, fc_eI 5, fc_eI 5, fc_eI 5, fc_eI 5, fc_eP 3 5 25 1, fc_eJ 5, fc_eJ 5, fc_eJ 5, fc_eJ 5, fc_eJ 5, fc_eJ 5, fc_eI 5, fc_eI 5, fc_eI 5, fc_eI 5, fc_eI 5] ++ ([fun _ f => cO 2 [vR 37, vI (f 1), vI (f 2)], fc_eP 4 6 38 14] ++ (fc_ePos 38 ++ (fc_ePos 52 ++ (fc_ePos 66 ++ (fc_ePos 80 ++ (fc_ePos 94 ++ (fc_ePos 108 ++ ([fun _ f => cO 4 [vR 123, vR 138, vI (f 2)], fc_eP 2 14 124 1, fc_eI 5, fc_eI 5, fc_eI 5, fc_eI 5, fc_eI 5, fc_eI 5, fc_eI 5, fc_eI 5, fc_eI 5, fc_eI 5, fc_eI 5, fc_eI 5, fc_eI 5, fc_eI 5, fc_eI 5, fun _ f => cO 5 [vR 140, vI (f 1), vR 141, vI (f 3), vI (f 4), vI (f 5), vI (f 6), vI (f 7), vI (f 8)], fc_eI 120, fc_eI 120, fc_eI 5] ++ ([fun _ f => cO 7 [vR 144, vR 145, vR 146, vI (f 3), vR 147, vR 148, vR 149, vR 150, vR 151, vR 152, vR 153, vR 154, vR 155, vR 156, vR 157, vI (f 15), vI (f 16), vI (f 17), vR 158, vI (f 19), vI (f 20)], fc_eI 54, fc_eI 270, fc_eI 54, fc_eI 3, fc_eJ 5, fc_eJ 5, fc_eJ 16, fc_eJ 5, fc_eJ 5, fc_eJ 5, fc_eJ 5, fc_eI 5, fc_eJ 5, fc_eI 120, fc_eI 5])))))))))))
def fc_S (i : Nat) (a : Int → Int) (f : Nat → Int) : fc_AC := (fc_tab.getD i (fun _ _ => cO 99 [])) a f
abbrev fc_H (A : Nat → Int → Int) (F : Nat → Nat → Int) : Nat → fc_AC := fun i => fc_S i (A i) (F i)
def fa_up (A : Nat → Int → Int) (i : Nat) (g : Int → Int) : Nat → Int → Int := fun j => if j = i then g else A j
def ff_up (F : Nat → Nat → Int) (i k : Nat) (z : Int) : Nat → Nat → Int := fun j q => if j = i then (if q = k then z else F j q) else F j q
theorem fa_s (A : Nat → Int → Int) (i : Nat) (g : Int → Int) : fa_up A i g i = g := if_pos rfl
theorem fa_n (A : Nat → Int → Int) {i j : Nat} (g : Int → Int) (h : j ≠ i) : fa_up A i g j = A j := if_neg h
theorem fc_S_lt {i : Nat} {a : Int → Int} {f : Nat → Int} {x : fc_AC} (h : fc_S i a f = x) (hx : x ≠ cO 99 []) : i < 159 := by
  rcases Nat.lt_or_ge i 159 with q | q
  · exact q
  · refine absurd ?_ hx
    rw [← h]
    unfold fc_S
    have e : fc_tab.length = 159 := by decide +kernel
    rw [List.getD_eq_getElem?_getD, List.getElem?_eq_none (by omega)]
    rfl
theorem fc_HA {A : Nat → Int → Int} {F : Nat → Nat → Int} {i : Nat} {g : Int → Int} {x : fc_AC} (hx : fc_S i g (F i) = x) : fc_up (fc_H A F) i x = fc_H (fa_up A i g) F := by
  funext j
  by_cases e : j = i
  · subst e
    show fc_up (fc_H A F) j x j = fc_S j (fa_up A j g j) (F j)
    rw [fc_up_s, fa_s, hx]
  · show fc_up (fc_H A F) i x j = fc_S j (fa_up A i g j) (F j)
    rw [fc_up_n _ _ e, fa_n _ _ e]
theorem fc_HF {A : Nat → Int → Int} {F : Nat → Nat → Int} {i k : Nat} {z : Int} {x : fc_AC} (hx : fc_S i (A i) (ff_up F i k z i) = x) : fc_up (fc_H A F) i x = fc_H A (ff_up F i k z) := by
  funext j
  by_cases e : j = i
  · subst e
    show fc_up (fc_H A F) j x j = fc_S j (A j) (ff_up F j k z j)
    rw [fc_up_s, hx]
  · show fc_up (fc_H A F) i x j = fc_S j (A j) (ff_up F i k z j)
    rw [fc_up_n _ _ e, show ff_up F i k z j = F j from funext fun q => if_neg e]
theorem fc_ceq.rf (x : fc_AC) : fc_ceq x x := by
  rcases x with ⟨k, n, f | g⟩ | ⟨c, fs⟩
  · exact ⟨rfl, rfl, fun _ _ => rfl⟩
  · exact ⟨rfl, rfl, fun _ _ => rfl⟩
  · rfl
theorem fh_rf {h : Nat → fc_AC} {n : Nat} : ∀ i : Nat, i < n → fc_ceq (h i) (h i) := fun _ _ => fc_ceq.rf _
def fh_M (y : fc_Y) (d : Nat) (as : List fc_AV) (A : Nat → Int → Int) (F : Nat → Nat → Int) (r : Option fc_AV) (A' : Nat → Int → Int) (F' : Nat → Nat → Int) : Prop := fc_M y d 0 0 as 159 (fc_H A F) r 159 (fc_H A' F')
section FH
variable {X : fc_X} {own : String} {cc : ByteArray} {nL d nc ns : Nat} {nm : String} {cs sl : Nat} {A : Nat → Int → Int} {F : Nat → Nat → Int} {pc : Nat} {ls : List (Option fc_AV)} {st st0 : List fc_AV}
theorem fh_M.of {y : fc_Y} {np : Nat} {as : List fc_AV} {r : Option fc_AV} {A' : Nat → Int → Int} {F' : Nat → Nat → Int} (mi : fc_MI y np) (hlen : fc_len as ≤ y.2.2.1)
    (body : ∀ X : fc_X, fc_C X y.1.cls y.2.1 y.2.2.1 d 0 0 y.1.name → fc_T X y.2.2.2 r 159 (fc_H A' F') 0 0 → fc_W X 0 0 159 (fc_H A F) 0 (fc_pd y.2.2.1 (fc_en as)) []) : fh_M y d as A F r A' F' := fc_M.of mi hlen body
theorem fh_getf {i c k ix : Nat} {ty : FieldType} {fin nest : Bool} {fs : List fc_AV} {v : fc_AV} (C : fc_C X own cc nL d nc ns nm) (dg : decode cc pc = .ok (.getfield ix, 3)) (L : fc_FL own ix c k ty fin nest) (he : fc_S i (A i) (F i) = cO c fs) (hv : fs[k]? = some v)
    (kk : fc_W X cs sl 159 (fc_H A F) (pc + 3) ls (v :: st)) : fc_W X cs sl 159 (fc_H A F) pc ls (vR i :: st) :=
  fc_getf C dg L (fc_S_lt he (fun q => by injection q with q; injection q with q1 q2; subst q2; cases hv)) he hv kk
theorem fh_putf {i c k ix : Nat} {ty : FieldType} {nest : Bool} {fs : List fc_AV} {v : fc_AV} (z : Int) (C : fc_C X own cc nL d nc ns nm) (dg : decode cc pc = .ok (.putfield ix, 3)) (L : fc_FL own ix c k ty false nest) (he : fc_S i (A i) (F i) = cO c fs) (hk : k < fs.length) (hf : fc_fit ty v) (hp : fc_S i (A i) (ff_up F i k z i) = cO c (fs.set k v))
    (kk : fc_W X cs sl 159 (fc_H A (ff_up F i k z)) (pc + 3) ls st) : fc_W X cs sl 159 (fc_H A F) pc ls (v :: vR i :: st) := by
  refine fc_putf C dg L (fc_S_lt he (fun q => by injection q with q; injection q with q1 q2; subst q2; cases hk)) he hk hf (Or.inl rfl) ?_
  rw [fc_HF hp]
  exact kk
theorem fh_iaload {i : Nat} {j : Int} {N : Nat} (C : fc_C X own cc nL d nc ns nm) (dg : decode cc pc = .ok (.iaload, 1)) (he : ∀ (a : Int → Int) (f : Nat → Int), fc_S i a f = cI N a) (h0 : 0 ≤ j) (h1 : j < (N : Int)) (hN : N < 2147483648)
    (k : fc_W X cs sl 159 (fc_H A F) (pc + 1) ls (vI (A i j) :: st)) : fc_W X cs sl 159 (fc_H A F) pc ls (vI j :: vR i :: st) :=
  fc_iaload C dg (fc_S_lt (he (A i) (F i)) (fun q => by cases q)) (he _ _) h0 h1 hN k
theorem fh_laload {i : Nat} {j : Int} {N : Nat} (C : fc_C X own cc nL d nc ns nm) (dg : decode cc pc = .ok (.laload, 1)) (he : ∀ (a : Int → Int) (f : Nat → Int), fc_S i a f = cJ N a) (h0 : 0 ≤ j) (h1 : j < (N : Int)) (hN : N < 2147483648)
    (k : fc_W X cs sl 159 (fc_H A F) (pc + 1) ls (vL (A i j) :: st)) : fc_W X cs sl 159 (fc_H A F) pc ls (vI j :: vR i :: st) :=
  fc_laload C dg (fc_S_lt (he (A i) (F i)) (fun q => by cases q)) (he _ _) h0 h1 hN k
theorem fh_aaload {i a kd : Nat} {j : Int} {N : Nat} {g : Int → Option Nat} (C : fc_C X own cc nL d nc ns nm) (dg : decode cc pc = .ok (.aaload, 1)) (hkd : kd = 2 ∨ kd = 3 ∨ kd = 4) (he : fc_S i (A i) (F i) = cP kd N g) (h0 : 0 ≤ j) (h1 : j < (N : Int)) (hN : N < 2147483648) (hg : g j = some a)
    (k : fc_W X cs sl 159 (fc_H A F) (pc + 1) ls (vR a :: st)) : fc_W X cs sl 159 (fc_H A F) pc ls (vI j :: vR i :: st) :=
  fc_aaload C dg hkd (fc_S_lt he (fun q => by cases q)) he h0 h1 hN hg k
theorem fh_iastore {i : Nat} {j v : Int} {N : Nat} (C : fc_C X own cc nL d nc ns nm) (dg : decode cc pc = .ok (.iastore, 1)) (he : ∀ (a : Int → Int) (f : Nat → Int), fc_S i a f = cI N a) (h0 : 0 ≤ j) (h1 : j < (N : Int)) (hN : N < 2147483648)
    (k : fc_W X cs sl 159 (fc_H (fa_up A i (fc_set (A i) j v)) F) (pc + 1) ls st) : fc_W X cs sl 159 (fc_H A F) pc ls (vI v :: vI j :: vR i :: st) := by
  refine fc_iastore C dg (fc_S_lt (he (A i) (F i)) (fun q => by cases q)) (he _ _) h0 h1 hN ?_
  rw [fc_HA (he (fc_set (A i) j v) (F i))]
  exact k
theorem fh_lastore {i : Nat} {j v : Int} {N : Nat} (C : fc_C X own cc nL d nc ns nm) (dg : decode cc pc = .ok (.lastore, 1)) (he : ∀ (a : Int → Int) (f : Nat → Int), fc_S i a f = cJ N a) (h0 : 0 ≤ j) (h1 : j < (N : Int)) (hN : N < 2147483648)
    (k : fc_W X cs sl 159 (fc_H (fa_up A i (fc_set (A i) j v)) F) (pc + 1) ls st) : fc_W X cs sl 159 (fc_H A F) pc ls (vL v :: vI j :: vR i :: st) := by
  refine fc_lastore C dg (fc_S_lt (he (A i) (F i)) (fun q => by cases q)) (he _ _) h0 h1 hN ?_
  rw [fc_HA (he (fc_set (A i) j v) (F i))]
  exact k
theorem fh_alenI {i : Nat} {N : Nat} (C : fc_C X own cc nL d nc ns nm) (dg : decode cc pc = .ok (.arraylength, 1)) (he : ∀ (a : Int → Int) (f : Nat → Int), fc_S i a f = cI N a)
    (k : fc_W X cs sl 159 (fc_H A F) (pc + 1) ls (vI (N : Int) :: st)) : fc_W X cs sl 159 (fc_H A F) pc ls (vR i :: st) :=
  fc_alenI C dg (fc_S_lt (he (A i) (F i)) (fun q => by cases q)) (he _ _) k
theorem fh_alenP {i kd : Nat} {N : Nat} {g : Int → Option Nat} (C : fc_C X own cc nL d nc ns nm) (dg : decode cc pc = .ok (.arraylength, 1)) (hkd : kd = 2 ∨ kd = 3 ∨ kd = 4) (he : fc_S i (A i) (F i) = cP kd N g)
    (k : fc_W X cs sl 159 (fc_H A F) (pc + 1) ls (vI (N : Int) :: st)) : fc_W X cs sl 159 (fc_H A F) pc ls (vR i :: st) :=
  fc_alenP C dg hkd (fc_S_lt he (fun q => by cases q)) he k
variable {y : fc_Y} {np ix d' : Nat} {as : List fc_AV} {A' : Nat → Int → Int} {F' : Nat → Nat → Int}
theorem fh_callV {i c : Nat} {fs : List fc_AV} {v : fc_AV} (C : fc_C X own cc nL d nc ns nm) (dg : decode cc pc = .ok (.invokevirtual ix, 3)) (ml : fc_ML own ix y.1) (mi : fc_MI y np) (im : Cond.instanceMethod y.1 ∈ fc_tbl) (sel : Cond.selects y.1.cls y.1 y.1 ∈ fc_tbl)
    (hM : fh_M y d' (vR i :: as) A F (some v) A' F') (he : fc_S i (A i) (F i) = cO c fs) (hc : (fc_cl[c]?).map (fun q => q.1) = some y.1.cls) (hd : d' < d) (hnp : as.length = np) (hst : fc_sum st ≤ 8) (hcs : cs ≤ nc) (hsl : sl ≤ ns) (hs : st0 = as.reverse ++ vR i :: st)
    (k : fc_W X cs sl 159 (fc_H A' F') (pc + 3) ls (v :: st)) : fc_W X cs sl 159 (fc_H A F) pc ls st0 :=
  fc_callV C dg ml mi im sel hM (fc_S_lt he (fun q => by injection q with q; injection q with q1 q2; subst q1; cases hc)) he hc hd hnp hst hs hcs hsl k
theorem fh_callVv {i c : Nat} {fs : List fc_AV} (C : fc_C X own cc nL d nc ns nm) (dg : decode cc pc = .ok (.invokevirtual ix, 3)) (ml : fc_ML own ix y.1) (mi : fc_MI y np) (im : Cond.instanceMethod y.1 ∈ fc_tbl) (sel : Cond.selects y.1.cls y.1 y.1 ∈ fc_tbl)
    (hM : fh_M y d' (vR i :: as) A F none A' F') (he : fc_S i (A i) (F i) = cO c fs) (hc : (fc_cl[c]?).map (fun q => q.1) = some y.1.cls) (hd : d' < d) (hnp : as.length = np) (hst : fc_sum st ≤ 8) (hcs : cs ≤ nc) (hsl : sl ≤ ns) (hs : st0 = as.reverse ++ vR i :: st)
    (k : fc_W X cs sl 159 (fc_H A' F') (pc + 3) ls st) : fc_W X cs sl 159 (fc_H A F) pc ls st0 :=
  fc_callV C dg ml mi im sel hM (fc_S_lt he (fun q => by injection q with q; injection q with q1 q2; subst q1; cases hc)) he hc hd hnp hst hs hcs hsl k
theorem fh_callS {v : fc_AV} (C : fc_C X own cc nL d nc ns nm) (dg : decode cc pc = .ok (.invokestatic ix, 3)) (ml : fc_ML own ix y.1) (mi : fc_MI y np) (im : Cond.static y.1 ∈ fc_tbl)
    (hM : fh_M y d' as A F (some v) A' F') (hd : d' < d) (hnp : as.length = np) (hst : fc_sum st ≤ 8) (hcs : cs ≤ nc) (hsl : sl ≤ ns) (hs : st0 = as.reverse ++ st)
    (k : fc_W X cs sl 159 (fc_H A' F') (pc + 3) ls (v :: st)) : fc_W X cs sl 159 (fc_H A F) pc ls st0 :=
  fc_callS C dg ml mi im hM hd hnp hst hs hcs hsl k
theorem fh_callSv (C : fc_C X own cc nL d nc ns nm) (dg : decode cc pc = .ok (.invokestatic ix, 3)) (ml : fc_ML own ix y.1) (mi : fc_MI y np) (im : Cond.static y.1 ∈ fc_tbl)
    (hM : fh_M y d' as A F none A' F') (hd : d' < d) (hnp : as.length = np) (hst : fc_sum st ≤ 8) (hcs : cs ≤ nc) (hsl : sl ≤ ns) (hs : st0 = as.reverse ++ st)
    (k : fc_W X cs sl 159 (fc_H A' F') (pc + 3) ls st) : fc_W X cs sl 159 (fc_H A F) pc ls st0 :=
  fc_callS C dg ml mi im hM hd hnp hst hs hcs hsl k
theorem fh_iret {r : Option fc_AV} {v : Int} (C : fc_C X own cc nL d nc ns nm) (T : fc_T X (some .int) r 159 (fc_H A' F') cs sl) (dg : decode cc pc = .ok (.ireturn, 1)) (hr : some (vI v) = r) (hh : fc_H A F = fc_H A' F') : fc_W X cs sl 159 (fc_H A F) pc ls [vI v] :=
  fc_iret C T dg (Or.inl rfl) hr.symm rfl (by rw [hh]; exact fh_rf)
theorem fh_zret {r : Option fc_AV} {v : Int} (C : fc_C X own cc nL d nc ns nm) (T : fc_T X (some .boolean) r 159 (fc_H A' F') cs sl) (dg : decode cc pc = .ok (.ireturn, 1)) (hb : v = 0 ∨ v = 1) (hr : some (vI v) = r) (hh : fc_H A F = fc_H A' F') : fc_W X cs sl 159 (fc_H A F) pc ls [vI v] :=
  fc_iret C T dg (Or.inr ⟨rfl, hb⟩) hr.symm rfl (by rw [hh]; exact fh_rf)
theorem fh_lret {r : Option fc_AV} {v : Int} (C : fc_C X own cc nL d nc ns nm) (T : fc_T X (some .long) r 159 (fc_H A' F') cs sl) (dg : decode cc pc = .ok (.lreturn, 1)) (hr : some (vL v) = r) (hh : fc_H A F = fc_H A' F') : fc_W X cs sl 159 (fc_H A F) pc ls [vL v] :=
  fc_lret C T dg hr.symm rfl (by rw [hh]; exact fh_rf)
theorem fh_vret (C : fc_C X own cc nL d nc ns nm) (T : fc_T X none none 159 (fc_H A' F') cs sl) (dg : decode cc pc = .ok (.return_, 1)) (hh : fc_H A F = fc_H A' F') : fc_W X cs sl 159 (fc_H A F) pc ls [] :=
  fc_vret C T dg rfl rfl (by rw [hh]; exact fh_rf)
theorem fh_aret {r : Option fc_AV} {i : Nat} {Cn : String} (C : fc_C X own cc nL d nc ns nm) (T : fc_T X (some (.object Cn)) r 159 (fc_H A' F') cs sl) (dg : decode cc pc = .ok (.areturn, 1)) (hr : some (vR i) = r) (hh : fc_H A F = fc_H A' F') : fc_W X cs sl 159 (fc_H A F) pc ls [vR i] :=
  fc_aret C T dg hr.symm rfl (by rw [hh]; exact fh_rf)
end FH
theorem fc_Rm {x : Int} (h : -2147483648 ≤ x ∧ x < 2147483648) : fc_R x := h
theorem fc_RLm {x : Int} (h : -9223372036854775808 ≤ x ∧ x < 9223372036854775808) : fc_RL x := h
