/-! arraycopy; the JDK's own methods; the class's static helpers -/
def fc_cpy (f g : Int → Int) (m : Int) : Int → Int := fun j => if 0 ≤ j ∧ j < m then f j else g j
section FCK
variable {X : fc_X} {own : String} {cc : ByteArray} {nL d nc ns : Nat} {nm : String} {cs sl n : Nat} {h : Nat → fc_AC} {pc : Nat} {ls : List (Option fc_AV)} {st : List fc_AV}
theorem fc_copy {i0 i1 N0 N1 ix : Nat} {f g : Int → Int} {m : Nat} (C : fc_C X own cc nL d nc ns nm) (dg : decode cc pc = .ok (.invokestatic ix, 3)) (hl0 : Cond.methodLink own ix arraycopyName ∈ fc_tbl) (hnat : Cond.native arraycopyName ∈ fc_tbl) (hstat : Cond.static arraycopyName ∈ fc_tbl) (hini : Cond.initialized "java/lang/System" ∈ fc_tbl)
    (hi0 : i0 < n) (hi1 : i1 < n) (he0 : h i0 = cI N0 f) (he1 : h i1 = cI N1 g) (hm0 : m ≤ N0) (hm1 : m ≤ N1) (hm : m < 2147483648) (hd : 0 < d) (hst : fc_sum st ≤ 8)
    (k : fc_W X cs sl n (fc_up h i1 (cI N1 (fc_cpy f g m))) (pc + 3) ls st) : fc_W X cs sl n h pc ls (vI m :: vI 0 :: vR i1 :: vI 0 :: vR i0 :: st) := by
  obtain ⟨p, l, e, R, s, mm, args, below, meth, c, D, cy, B, Q⟩ := X
  obtain ⟨hx, hb, hml, hown, hts, hK, hnm, hR1, hR2, hR3, hR4⟩ := C
  intro H locs lsA hH hL hl
  have hc0 := hH.2.2 i0 hi0
  rw [he0] at hc0
  have hc0 : H[B.size + i0]? = some (arrV (cy 0) N0 (fun j => .int (Int32.ofInt (f j)))) := hc0
  have hc1 := hH.2.2 i1 hi1
  rw [he1] at hc1
  have hc1 : H[B.size + i1]? = some (arrV (cy 0) N1 (fun j => .int (Int32.ofInt (g j)))) := hc1
  intro T hT XX
  obtain ⟨-, k0, hk0, cm0, hkk0⟩ := (hK.2 0 _ rfl).1 N0 (fun j => .int (Int32.ofInt (f j)))
  obtain ⟨-, k1, hk1, cm1, hkk1⟩ := (hK.2 0 _ rfl).1 N1 (fun j => .int (Int32.ofInt (g j)))
  have hz : ¬ Int32.ofInt 0 < 0 := by decide
  have hRm : fc_R (m : Int) := ⟨by omega, by omega⟩
  have hmn : ¬ Int32.ofInt (m : Int) < 0 := fun q => by have := (fc_iff_lt hRm fc_R0).mp q; omega
  have e0 : (Int32.ofInt 0).toNatClampNeg = 0 := by decide
  have em : (Int32.ofInt (m : Int)).toNatClampNeg = m := by
    show (Int32.ofInt (m : Int)).toInt.toNat = m
    rw [fc_to hRm]
    omega
  obtain ⟨vm', X', step⟩ := XX.arraycopy hx hown (hts _ hl0) (hts _ hnat) (hts _ hstat) (hts _ hini) (src := B.size + i0) (dst := B.size + i1) (cs := arrV (cy 0) N0 (fun j => .int (Int32.ofInt (f j)))) (cd := arrV (cy 0) N1 (fun j => .int (Int32.ofInt (g j)))) (srcPos := Int32.ofInt 0) (destPos := Int32.ofInt 0) (n := Int32.ofInt (m : Int)) (by rw [hT]; exact hc0) (by rw [hT]; exact hc1)
    (fun _ h => by cases h) (fun _ h => by cases h) (fun h => by cases h) (fun h => by cases h) hk0 hk1 hkk0 hkk1 (by rfl) hz hz hmn
    (by rw [fc_to fc_R0, fc_to hRm, arrV_size]; omega) (by rw [fc_to fc_R0, fc_to hRm, arrV_size]; omega)
    (fun vm₁ _ i hi => by
      rw [em] at hi
      have e9 : (arrV (cy 0) N0 (fun j => .int (Int32.ofInt (f j)))).slots.getD ((Int32.ofInt 0).toNatClampNeg + i) .null = .int (Int32.ofInt (f ((0 + i : Nat) : Int))) := by
        rw [e0, Array.getD_eq_getD_getElem?, arrV_read _ _ (by omega)]
        rfl
      refine ⟨?_, ?_⟩
      · rw [e9]
        rfl
      · rw [e9]
        exact trivial)
    (g := F0 mm pc lsA ((vI m :: vI 0 :: vR i1 :: vI 0 :: vR i0 :: st).map (fc_v B.size))) rfl hl.1 (rest := st.map (fc_v B.size)) rfl (by rw [hb]; exact dg) (by omega)
    (by
      have h9 : ((st.map (fc_v B.size)).map fun v => v.category).sum ≤ 8 := by rw [fc_sum_eq]; exact hst
      have h8 : nativeFrameWords "java/lang/System" "arraycopy" 5 = 7 := by decide
      show 2 * 0 + _ + _ ≤ _
      omega)
  have e1 : copied (arrV (cy 0) N0 (fun j => .int (Int32.ofInt (f j)))) (arrV (cy 0) N1 (fun j => .int (Int32.ofInt (g j)))) (Int32.ofInt 0) (Int32.ofInt 0) (Int32.ofInt (m : Int)) = arrV (cy 0) N1 (fun j => .int (va_cpy (fun j => Int32.ofInt (f j)) (fun j => Int32.ofInt (g j)) 0 0 m j)) := by
    have := va_copied (fun z : Int32 => Value.int z) (cy 0) (cy 0) (n0 := N0) (n1 := N1) (sp := (Int32.ofInt 0).toNatClampNeg) (dp := (Int32.ofInt 0).toNatClampNeg) (n := (Int32.ofInt (m : Int)).toNatClampNeg) (fun j => Int32.ofInt (f j)) (fun j => Int32.ofInt (g j)) (by rw [e0, em]; omega)
    rw [e0, em] at this
    unfold copied
    rw [e0, em]
    exact this
  have e2 : arrV (cy 0) N1 (fun j => .int (va_cpy (fun j => Int32.ofInt (f j)) (fun j => Int32.ofInt (g j)) 0 0 m j)) = arrV (cy 0) N1 (fun j => .int (Int32.ofInt (fc_cpy f g m j))) := by
    refine arrV_congr fun j _ => ?_
    unfold va_cpy fc_cpy
    by_cases q : j < m
    · rw [if_pos (by omega), if_pos (by omega), Nat.sub_zero, Nat.zero_add]
    · rw [if_neg (by omega), if_neg (by omega)]
  rw [e1, e2] at X' step
  have hlt : B.size + i1 < H.size := (Array.getElem?_eq_some_iff.mp hc1).1
  have oq : ∀ q : Nat, q ≠ B.size + i1 → (H.setIfInBounds (B.size + i1) (arrV (cy 0) N1 (fun j => .int (Int32.ofInt (fc_cpy f g m j)))))[q]? = H[q]? := fun q hq => by simp [Array.getElem?_setIfInBounds, Ne.symm hq]
  have hheap : ((T.setVm vm').setCell (B.size + i1) (arrV (cy 0) N1 (fun j => .int (Int32.ofInt (fc_cpy f g m j))))).heap = H.setIfInBounds (B.size + i1) (arrV (cy 0) N1 (fun j => .int (Int32.ofInt (fc_cpy f g m j)))) := by rw [← hT]; rfl
  obtain ⟨t, a1, b1⟩ := k _ _ lsA (hH.put (x := cI N1 (fc_cpy f g m)) (show (H.setIfInBounds (B.size + i1) _)[B.size + i1]? = some _ by simp [Array.getElem?_setIfInBounds, hlt]) (by simp) oq) (fun q hq => by
    rcases List.mem_append.mp hq with z | z
    · exact hL q z
    · obtain ⟨z9, -, hz9⟩ := List.mem_map.mp z
      rw [← hz9]
      exact Nat.le_add_right _ _) hl _ hheap X'
  exact ⟨t, step t a1, b1⟩
end FCK
section UTIL
variable {A : Nat → Int → Int} {F : Nat → Nat → Int}
theorem c_copyRow {i0 i1 : Nat} (h0 : ∀ (a : Int → Int) (f : Nat → Int), fc_S i0 a f = cI 5 a) (h1 : ∀ (a : Int → Int) (f : Nat → Int), fc_S i1 a f = cI 5 a) : fh_M mX6_copyRow 1 [vR i0, vR i1] A F none (fa_up A i1 (fc_cpy (A i0) (A i1) 5)) F := by
  refine fh_M.of mi_X6_copyRow (Nat.le_of_ble_eq_true rfl) ?_
  intro X C T
  refine fc_aload_n C dX6_copyRow_0 rfl rfl ?_
  refine fc_iconst C dX6_copyRow_1 ?_
  refine fc_aload_n C dX6_copyRow_2 rfl rfl ?_
  refine fc_iconst C dX6_copyRow_3 ?_
  refine fc_iconst C dX6_copyRow_4 ?_
  refine fc_copy (m := 5) C dX6_copyRow_5 (fc_mem (i := 236) (by decide +kernel) rfl) (fc_mem (i := 238) (by decide +kernel) rfl) (fc_mem (i := 237) (by decide +kernel) rfl) (fc_mem (i := 9) (by decide +kernel) rfl) (fc_S_lt (h0 (A i0) (F i0)) (fun q => by cases q)) (fc_S_lt (h1 (A i1) (F i1)) (fun q => by cases q)) (h0 _ _) (h1 _ _) (by decide) (by decide) (by decide) (by decide) (Nat.le_of_ble_eq_true rfl) ?_
  rw [fc_HA (h1 _ _)]
  exact fh_vret C T dX6_copyRow_8 rfl
theorem c_fill {i N : Nat} {v : Int} (h : ∀ (a : Int → Int) (f : Nat → Int), fc_S i a f = cI N a) (hN : N < 2147483647) : fh_M mJ7_fill_53178 0 [vR i, vI v] A F none (fa_up A i (fc_cpy (fun _ => v) (A i) N)) F := by
  refine fh_M.of mi_J7_fill_53178 (Nat.le_of_ble_eq_true rfl) ?_
  intro X C T
  have loop : ∀ (m : Nat) (k : Int), 0 ≤ k → k ≤ N → N - k < m → fc_W X 0 0 159 (fc_H (fa_up A i (fc_cpy (fun _ => v) (A i) k)) F) 5 [some (vR i), some (vI v), some (vI k), some (vI N)] [] := by
    intro m
    induction m with
    | zero => intro k h0 h1 h2; exfalso; omega
    | succ m ih =>
      intro k h0 h1 h2
      refine fc_iload_n C dJ7_fill_53178_5 rfl rfl ?_
      refine fc_iload_n C dJ7_fill_53178_6 rfl rfl ?_
      refine fc_icmp_ge (tgt := 20) C dJ7_fill_53178_7 (by decide) (fc_Rm (by omega)) (fc_Rm (by omega)) (fun c7 => ?_) (fun c7 => ?_)
      · have e : k = N := by omega
        subst e
        exact fh_vret C T dJ7_fill_53178_20 rfl
      · refine fc_aload_n C dJ7_fill_53178_10 rfl rfl ?_
        refine fc_iload_n C dJ7_fill_53178_11 rfl rfl ?_
        refine fc_iload_n C dJ7_fill_53178_12 rfl rfl ?_
        refine fh_iastore C dJ7_fill_53178_13 h (by omega) (by omega) (by omega) ?_
        refine fc_iinc C dJ7_fill_53178_14 rfl (by decide) ?_
        refine fc_goto (tgt := 5) C dJ7_fill_53178_17 (by decide) ?_
        refine fc_heq ?_ (ih (k + 1) (by omega) (by omega) (by omega))
        have e : fa_up (fa_up A i (fc_cpy (fun _ => v) (A i) k)) i (fc_set (fa_up A i (fc_cpy (fun _ => v) (A i) k) i) k v) = fa_up A i (fc_cpy (fun _ => v) (A i) (k + 1)) := by
          funext j
          by_cases ej : j = i
          · subst ej
            rw [fa_s, fa_s, fa_s]
            funext q
            unfold fc_set fc_cpy
            by_cases q1 : q = k
            · rw [if_pos q1, if_pos (by omega)]
            · rw [if_neg q1]
              by_cases q2 : 0 ≤ q ∧ q < k
              · rw [if_pos q2, if_pos (by omega)]
              · rw [if_neg q2, if_neg (by omega)]
          · rw [fa_n _ _ ej, fa_n _ _ ej, fa_n _ _ ej]
        rw [e]
  refine fc_iconst C dJ7_fill_53178_0 ?_
  refine fc_istore_n C dJ7_fill_53178_1 rfl (by decide) ?_
  refine fc_aload_n C dJ7_fill_53178_2 rfl rfl ?_
  refine fh_alenI C dJ7_fill_53178_3 h ?_
  refine fc_istore_n C dJ7_fill_53178_4 rfl (by decide) ?_
  refine fc_heq ?_ (loop (N + 1) 0 (by omega) (by omega) (by omega))
  have e : fa_up A i (fc_cpy (fun _ => v) (A i) 0) = A := by
    funext j
    by_cases ej : j = i
    · subst ej
      rw [fa_s]
      funext q
      unfold fc_cpy
      rw [if_neg (by omega)]
    · rw [fa_n _ _ ej]
  rw [e]
theorem c_iabs {x : Int} (h : fc_R x) : fh_M mJ9_abs_0f7a4 0 [vI x] A F (some (vI (x.natAbs : Int))) A F := by
  refine fh_M.of mi_J9_abs_0f7a4 (Nat.le_of_ble_eq_true rfl) ?_
  intro X C T
  refine fc_iload_n C dJ9_abs_0f7a4_0 rfl rfl ?_
  refine fc_if_ge (tgt := 9) C dJ9_abs_0f7a4_1 (by decide) (h) (fun c1 => ?_) (fun c1 => ?_)
  · refine fc_iload_n C dJ9_abs_0f7a4_9 rfl rfl ?_
    exact fh_iret C T dJ9_abs_0f7a4_10 (congrArg (fun z => some (vI z)) (by omega)) rfl
  · refine fc_iload_n C dJ9_abs_0f7a4_4 rfl rfl ?_
    refine fc_ineg C dJ9_abs_0f7a4_5 ?_
    refine fc_goto (tgt := 10) C dJ9_abs_0f7a4_6 (by decide) ?_
    exact fh_iret C T dJ9_abs_0f7a4_10 (congrArg (fun z => some (vI z)) (by omega)) rfl
theorem fc_cmp_lt {x y : Int} : fc_cmp x y < 0 ↔ x < y := by
  unfold fc_cmp
  repeat' split
  all_goals omega
theorem fc_cmp_eq {x y : Int} : fc_cmp x y = 0 ↔ x = y := by
  unfold fc_cmp
  repeat' split
  all_goals omega
theorem fc_cmp_gt {x y : Int} : 0 < fc_cmp x y ↔ y < x := by
  unfold fc_cmp
  repeat' split
  all_goals omega
theorem fc_cmp_R (x y : Int) : fc_R (fc_cmp x y) := by
  unfold fc_cmp
  repeat' split
  all_goals exact ⟨by decide, by decide⟩
theorem c_labs {x : Int} (h : fc_RL x) : fh_M mJ9_abs_067f4 0 [vL x] A F (some (vL (x.natAbs : Int))) A F := by
  refine fh_M.of mi_J9_abs_067f4 (Nat.le_of_ble_eq_true rfl) ?_
  intro X C T
  refine fc_lload_n C dJ9_abs_067f4_0 rfl rfl ?_
  refine fc_lconst (z := 0) C dJ9_abs_067f4_1 rfl ?_
  refine fc_lcmp C dJ9_abs_067f4_2 h (fc_RLm (by omega)) ?_
  refine fc_if_ge (tgt := 11) C dJ9_abs_067f4_3 (by decide) (fc_cmp_R _ _) (fun c3 => ?_) (fun c3 => ?_)
  · have c3' : ¬ x < 0 := fun q => by have := fc_cmp_lt.mpr q; omega
    refine fc_lload_n C dJ9_abs_067f4_11 rfl rfl ?_
    exact fh_lret C T dJ9_abs_067f4_12 (congrArg (fun z => some (vL z)) (by omega)) rfl
  · have c3' := fc_cmp_lt.mp c3
    refine fc_lload_n C dJ9_abs_067f4_6 rfl rfl ?_
    refine fc_lneg C dJ9_abs_067f4_7 ?_
    refine fc_goto (tgt := 12) C dJ9_abs_067f4_8 (by decide) ?_
    exact fh_lret C T dJ9_abs_067f4_12 (congrArg (fun z => some (vL z)) (by omega)) rfl
theorem fc_lxor_R (x y : Int) : fc_RL (fc_lxor x y) := ⟨Int64.le_toInt _, Int64.toInt_lt _⟩
theorem fc_lxor_neg {x y : Int} (hx : fc_RL x) (hy : fc_RL y) (h0 : 0 < y) : fc_lxor x y < 0 ↔ x < 0 := by
  have e1 : ∀ z : Int64, (z.toInt < 0) ↔ z.toBitVec.msb = true := fun z => by
    rw [BitVec.msb_eq_toInt, decide_eq_true_iff]
    rfl
  unfold fc_lxor
  rw [e1, Int64.toBitVec_xor, BitVec.msb_xor]
  have hx1 : (Int64.ofInt x).toBitVec.msb = true ↔ x < 0 := by rw [← e1, fc_toL hx]
  have hy1 : (Int64.ofInt y).toBitVec.msb = false := by
    rw [Bool.eq_false_iff]
    intro q
    have := (e1 _).mpr q
    rw [fc_toL hy] at this
    omega
  rw [hy1, Bool.xor_false]
  exact hx1
theorem c_floorDiv {x y : Int} (hx : fc_RL x) (hy : fc_RL y) (h0 : 0 < y) : fh_M mJ9_floorDiv_f86c9 0 [vL x, vL y] A F (some (vL (x / y))) A F := by
  have hdm := Int.mul_tdiv_add_tmod x y
  have hlt := Int.tmod_lt_of_pos x h0
  have hgt : -y < x.tmod y := by
    have := Int.neg_tmod x y
    have h9 := Int.tmod_lt_of_pos (-x) h0
    omega
  have hfl := Int.mul_ediv_add_emod x y
  have hf0 := Int.emod_nonneg x (show y ≠ 0 by omega)
  have hf1 := Int.emod_lt_of_pos x h0
  obtain ⟨hx1, hx2⟩ := id hx
  have hT0 : 0 ≤ x → x.tdiv y = x / y := fun q => Int.tdiv_eq_ediv_of_nonneg q
  have hTb : fc_RL (x.tdiv y) ∧ fc_RL (x.tdiv y * y) := by
    have hs : x.tdiv y * y = x - x.tmod y := by rw [Int.mul_comm]; omega
    have a1 : (x.tdiv y).natAbs ≤ x.natAbs := by rw [Int.natAbs_tdiv]; exact Nat.div_le_self _ _
    have a2 : x.tmod y * x ≥ 0 ∧ (x.tmod y).natAbs ≤ x.natAbs := by
      refine ⟨?_, ?_⟩
      · rcases Int.lt_or_le x 0 with q | q
        · have : x.tmod y ≤ 0 := by
            have h7 := Int.neg_tmod x y
            have h8 := Int.tmod_nonneg y (show 0 ≤ -x by omega)
            omega
          exact Int.mul_nonneg_of_nonpos_of_nonpos this (by omega)
        · exact Int.mul_nonneg (Int.tmod_nonneg y q) q
      · rw [Int.natAbs_tmod]; exact Nat.mod_le _ _
    refine ⟨⟨by omega, ?_⟩, ?_⟩
    · rcases Int.lt_or_le x 0 with q | q
      · have : x.tdiv y ≤ 0 := by
          have h7 := Int.neg_tdiv (a := x) (b := y)
          have h8 := Int.tdiv_nonneg (show 0 ≤ -x by omega) (show 0 ≤ y by omega)
          omega
        omega
      · omega
    · rw [hs]
      rcases Int.lt_or_le x 0 with q | q
      · have h7 := Int.neg_tmod x y
        have h8 := Int.tmod_nonneg y (show 0 ≤ -x by omega)
        exact ⟨by omega, by omega⟩
      · have h8 := Int.tmod_nonneg y q
        exact ⟨by omega, by omega⟩
  refine fh_M.of mi_J9_floorDiv_f86c9 (Nat.le_of_ble_eq_true rfl) ?_
  intro X C T
  refine fc_lload_n C dJ9_floorDiv_f86c9_0 rfl rfl ?_
  refine fc_lload_n C dJ9_floorDiv_f86c9_1 rfl rfl ?_
  refine fc_ldiv C dJ9_floorDiv_f86c9_2 hx hy (by omega) ?_
  refine fc_lstore C dJ9_floorDiv_f86c9_3 (by decide) ?_
  refine fc_lload_n C dJ9_floorDiv_f86c9_5 rfl rfl ?_
  refine fc_lload_n C dJ9_floorDiv_f86c9_6 rfl rfl ?_
  refine fc_lxor_ C dJ9_floorDiv_f86c9_7 ?_
  refine fc_lconst (z := 0) C dJ9_floorDiv_f86c9_8 rfl ?_
  refine fc_lcmp C dJ9_floorDiv_f86c9_9 (fc_lxor_R _ _) (fc_RLm (by omega)) ?_
  refine fc_if_ge (tgt := 27) C dJ9_floorDiv_f86c9_10 (by decide) (fc_cmp_R _ _) (fun c10 => ?_) (fun c10 => ?_)
  · have c1 : ¬ x < 0 := fun q => by have := fc_cmp_lt.mpr ((fc_lxor_neg hx hy h0).mpr q); omega
    refine fc_lload C dJ9_floorDiv_f86c9_27 rfl ?_
    exact fh_lret C T dJ9_floorDiv_f86c9_29 (by rw [hT0 (by omega)]) rfl
  · have c1 : x < 0 := (fc_lxor_neg hx hy h0).mp (fc_cmp_lt.mp c10)
    refine fc_lload C dJ9_floorDiv_f86c9_13 rfl ?_
    refine fc_lload_n C dJ9_floorDiv_f86c9_15 rfl rfl ?_
    refine fc_lmul C dJ9_floorDiv_f86c9_16 ?_
    refine fc_lload_n C dJ9_floorDiv_f86c9_17 rfl rfl ?_
    refine fc_lcmp C dJ9_floorDiv_f86c9_18 hTb.2 hx ?_
    refine fc_if_eq (tgt := 27) C dJ9_floorDiv_f86c9_19 (by decide) (fc_cmp_R _ _) (fun c19 => ?_) (fun c19 => ?_)
    · have c2 := fc_cmp_eq.mp c19
      refine fc_lload C dJ9_floorDiv_f86c9_27 rfl ?_
      refine fh_lret C T dJ9_floorDiv_f86c9_29 ?_ rfl
      rw [show x / y = x.tdiv y from ?_]
      have : y * (x / y) + x % y = y * x.tdiv y := by rw [hfl, Int.mul_comm, c2]
      exact (Int.ediv_eq_of_eq_mul_right (by omega) (by rw [Int.mul_comm]; exact c2.symm))
    · have c2 : x.tdiv y * y ≠ x := fun q => c19 (fc_cmp_eq.mpr q)
      refine fc_lload C dJ9_floorDiv_f86c9_22 rfl ?_
      refine fc_lconst (z := 1) C dJ9_floorDiv_f86c9_24 rfl ?_
      refine fc_lsub C dJ9_floorDiv_f86c9_25 ?_
      refine fh_lret C T dJ9_floorDiv_f86c9_26 ?_ rfl
      rw [show x / y = x.tdiv y - 1 from ?_]
      have h7 := Int.neg_tmod x y
      have h8 := Int.tmod_nonneg y (show 0 ≤ -x by omega)
      have h9 : x.tmod y ≠ 0 := fun q => c2 (by rw [Int.mul_comm]; omega)
      have e1 : x = (x.tmod y + y) + y * (x.tdiv y - 1) := by rw [Int.mul_sub, Int.mul_one]; omega
      rw [e1, Int.add_mul_ediv_left _ _ (by omega), Int.ediv_eq_zero_of_lt (by omega) (by omega)]
      have e2 : x.tmod y + y + y * (x.tdiv y - 1) = x := e1.symm
      rw [e2]
      omega
theorem c_imax {x y : Int} (hx : fc_R x) (hy : fc_R y) : fh_M mJ9_max_7cf53 0 [vI x, vI y] A F (some (vI (if x < y then y else x))) A F := by
  refine fh_M.of mi_J9_max_7cf53 (Nat.le_of_ble_eq_true rfl) ?_
  intro X C T
  refine fc_iload_n C dJ9_max_7cf53_0 rfl rfl ?_
  refine fc_iload_n C dJ9_max_7cf53_1 rfl rfl ?_
  refine fc_icmp_lt (tgt := 9) C dJ9_max_7cf53_2 (by decide) (hx) (hy) (fun c2 => ?_) (fun c2 => ?_)
  · refine fc_iload_n C dJ9_max_7cf53_9 rfl rfl ?_
    exact fh_iret C T dJ9_max_7cf53_10 (by rw [if_pos c2]) rfl
  · refine fc_iload_n C dJ9_max_7cf53_5 rfl rfl ?_
    refine fc_goto (tgt := 10) C dJ9_max_7cf53_6 (by decide) ?_
    exact fh_iret C T dJ9_max_7cf53_10 (by rw [if_neg (by omega)]) rfl
theorem c_imin {x y : Int} (hx : fc_R x) (hy : fc_R y) : fh_M mJ9_min_7cf53 0 [vI x, vI y] A F (some (vI (if y < x then y else x))) A F := by
  refine fh_M.of mi_J9_min_7cf53 (Nat.le_of_ble_eq_true rfl) ?_
  intro X C T
  refine fc_iload_n C dJ9_min_7cf53_0 rfl rfl ?_
  refine fc_iload_n C dJ9_min_7cf53_1 rfl rfl ?_
  refine fc_icmp_gt (tgt := 9) C dJ9_min_7cf53_2 (by decide) (hx) (hy) (fun c2 => ?_) (fun c2 => ?_)
  · refine fc_iload_n C dJ9_min_7cf53_9 rfl rfl ?_
    exact fh_iret C T dJ9_min_7cf53_10 (by rw [if_pos c2]) rfl
  · refine fc_iload_n C dJ9_min_7cf53_5 rfl rfl ?_
    refine fc_goto (tgt := 10) C dJ9_min_7cf53_6 (by decide) ?_
    exact fh_iret C T dJ9_min_7cf53_10 (by rw [if_neg (by omega)]) rfl
theorem c_degreeOf {i : Nat} {n : Int} (h : ∀ (a : Int → Int) (f : Nat → Int), fc_S i a f = cI 5 a) (h0 : 0 ≤ n) (h5 : n ≤ 5) : fh_M mX6_degreeOf 0 [vR i, vI n] A F (some (vI (fs_sum (A i) n.toNat))) A F := by
  refine fh_M.of mi_X6_degreeOf (Nat.le_of_ble_eq_true rfl) ?_
  intro X C T
  have loop : ∀ (m : Nat) (k : Int), 0 ≤ k → k ≤ n → n - k < m → fc_W X 0 0 159 (fc_H A F) 4 [some (vR i), some (vI n), some (vI (fs_sum (A i) k.toNat)), some (vI k)] [] := by
    intro m
    induction m with
    | zero => intro k h0 h1 h2; exfalso; omega
    | succ m ih =>
      intro k h0 h1 h2
      refine fc_iload_n C dX6_degreeOf_4 rfl rfl ?_
      refine fc_iload_n C dX6_degreeOf_5 rfl rfl ?_
      refine fc_icmp_ge (tgt := 21) C dX6_degreeOf_6 (by decide) (fc_Rm (by omega)) (fc_Rm (by omega)) (fun c6 => ?_) (fun c6 => ?_)
      · have e : k = n := by omega
        refine fc_iload_n C dX6_degreeOf_21 rfl rfl ?_
        exact fh_iret C T dX6_degreeOf_22 (by rw [e]) rfl
      · refine fc_iload_n C dX6_degreeOf_9 rfl rfl ?_
        refine fc_aload_n C dX6_degreeOf_10 rfl rfl ?_
        refine fc_iload_n C dX6_degreeOf_11 rfl rfl ?_
        refine fh_iaload C dX6_degreeOf_12 h (by omega) (by omega) (by decide) ?_
        refine fc_iadd C dX6_degreeOf_13 ?_
        refine fc_istore_n C dX6_degreeOf_14 rfl (by decide) ?_
        refine fc_iinc C dX6_degreeOf_15 rfl (by decide) ?_
        refine fc_goto (tgt := 4) C dX6_degreeOf_18 (by decide) ?_
        exact fc_eq (by rw [fs_step h0]; rfl) rfl (ih (k + 1) (by omega) (by omega) (by omega))
  refine fc_iconst C dX6_degreeOf_0 ?_
  refine fc_istore_n C dX6_degreeOf_1 rfl (by decide) ?_
  refine fc_iconst C dX6_degreeOf_2 ?_
  refine fc_istore_n C dX6_degreeOf_3 rfl (by decide) ?_
  exact loop 6 0 (by omega) (by omega) (by omega)
end UTIL
