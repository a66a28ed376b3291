/-! Position: the network that stands (cell 3): its number of points F 3 0, its lines A (5 + a) b, chips A 10, script A 11, kept rows A 12, A (14 + s) -/
/-- what is asked of the network that stands -/
def k_N (F : Nat → Nat → Int) : Prop := 2 ≤ F 3 0 ∧ F 3 0 ≤ 5
def k_L (A : Nat → Int → Int) : Prop := ∀ a b : Int, 0 ≤ a → a < 5 → 0 ≤ b → b < 5 → 0 ≤ A (5 + a.toNat) b ∧ A (5 + a.toNat) b ≤ 3
theorem fS_5 {p : Int} (h0 : 0 ≤ p) (h1 : p < 5) : ∀ (a : Int → Int) (f : Nat → Int), fc_S (5 + p.toNat) a f = cI 5 a := by
  have key : ∀ k : Fin 5, ∀ (a : Int → Int) (f : Nat → Int), fc_S (5 + ((k.val : Nat) : Int).toNat) a f = cI 5 a
    | ⟨0, _⟩ => fun _ _ => rfl
    | ⟨1, _⟩ => fun _ _ => rfl
    | ⟨2, _⟩ => fun _ _ => rfl
    | ⟨3, _⟩ => fun _ _ => rfl
    | ⟨4, _⟩ => fun _ _ => rfl
  exact fz_lt (P := fun p => ∀ (a : Int → Int) (f : Nat → Int), fc_S (5 + p.toNat) a f = cI 5 a) (N := 5) key h0 h1
theorem fg_5 (p : Int) : (some (3 + 2 + 1 * p.toNat) : Option Nat) = some (5 + p.toNat) := by rw [Nat.one_mul]
def k_li (A : Nat → Int → Int) (n set p : Int) : Int := fs_sum (fun o => if fb_t set o = 1 then A (5 + p.toNat) o else 0) n.toNat
def k_val (A : Nat → Int → Int) (n p : Int) : Int := fs_sum (fun o => A (5 + p.toNat) o) n.toNat
theorem k_li_bd {A : Nat → Int → Int} (hL : k_L A) {n set p : Int} (h0 : 0 ≤ n) (h1 : n ≤ 5) (h2 : 0 ≤ p) (h3 : p < 5) : 0 ≤ k_li A n set p ∧ k_li A n set p ≤ 15 := by
  have := fs_sum_bd (f := fun o => if fb_t set o = 1 then A (5 + p.toNat) o else 0) (lo := 0) (hi := 3) (n := n.toNat) (fun k q0 q1 => by
    have := hL p k h2 h3 q0 (by omega)
    skip
    split <;> omega)
  unfold k_li
  omega
theorem k_val_bd {A : Nat → Int → Int} (hL : k_L A) {n p : Int} (h0 : 0 ≤ n) (h1 : n ≤ 5) (h2 : 0 ≤ p) (h3 : p < 5) : 0 ≤ k_val A n p ∧ k_val A n p ≤ 15 := by
  have := fs_sum_bd (f := fun o => A (5 + p.toNat) o) (lo := 0) (hi := 3) (n := n.toNat) (fun k q0 q1 => by
    have := hL p k h2 h3 q0 (by omega)
    skip
    omega)
  unfold k_val
  omega
theorem k_li_all {A : Nat → Int → Int} {n p : Int} (h0 : 0 ≤ n) (h1 : n ≤ 5) : k_li A n (fb_all n) p = k_val A n p := by
  refine fs_sum_congr fun k q0 q1 => ?_
  skip
  rw [if_pos]
  rw [fb_all_t h0 (by omega) q0 (by omega), if_pos (by omega)]
section POS
variable {A : Nat → Int → Int} {F : Nat → Nat → Int}
theorem c_hasPoint (hn : k_N F) {p : Int} (hp : fc_R p) : fh_M mX3_hasPoint 0 [vR 3, vI p] A F (some (vI (if 0 ≤ p ∧ p < F 3 0 then 1 else 0))) A F := by
  obtain ⟨hn1, hn2⟩ := hn
  refine fh_M.of mi_X3_hasPoint (Nat.le_of_ble_eq_true rfl) ?_
  intro X C T
  refine fc_iload_n C dX3_hasPoint_0 rfl rfl ?_
  refine fc_if_lt (tgt := 16) C dX3_hasPoint_1 (by decide) hp (fun c1 => ?_) (fun c1 => ?_)
  · refine fc_iconst C dX3_hasPoint_16 ?_
    exact fh_zret C T dX3_hasPoint_17 (Or.inl rfl) (by rw [if_neg (by omega)]) rfl
  · refine fc_iload_n C dX3_hasPoint_4 rfl rfl ?_
    refine fc_aload_n C dX3_hasPoint_5 rfl rfl ?_
    refine fh_getf C dX3_hasPoint_6 fl_X3_9 rfl rfl ?_
    refine fc_icmp_ge (tgt := 16) C dX3_hasPoint_9 (by decide) hp (fc_Rm (by omega)) (fun c9 => ?_) (fun c9 => ?_)
    · refine fc_iconst C dX3_hasPoint_16 ?_
      exact fh_zret C T dX3_hasPoint_17 (Or.inl rfl) (by rw [if_neg (by omega)]) rfl
    · refine fc_iconst C dX3_hasPoint_12 ?_
      refine fc_goto (tgt := 17) C dX3_hasPoint_13 (by decide) ?_
      exact fh_zret C T dX3_hasPoint_17 (Or.inr rfl) (by rw [if_pos (by omega)]) rfl
theorem c_allPoints (hn : k_N F) : fh_M mX3_allPoints 0 [vR 3] A F (some (vI (fb_all (F 3 0)))) A F := by
  obtain ⟨hn1, hn2⟩ := hn
  refine fh_M.of mi_X3_allPoints (Nat.le_of_ble_eq_true rfl) ?_
  intro X C T
  refine fc_iconst C dX3_allPoints_0 ?_
  refine fc_aload_n C dX3_allPoints_1 rfl rfl ?_
  refine fh_getf C dX3_allPoints_2 fl_X3_9 rfl rfl ?_
  refine fc_ishl C dX3_allPoints_5 ?_
  refine fc_iconst C dX3_allPoints_6 ?_
  refine fc_isub C dX3_allPoints_7 ?_
  exact fh_iret C T dX3_allPoints_8 (by rw [fb_shl1 (by omega) (by omega)]; rfl) rfl
theorem c_linesInto (hn : k_N F) {set p : Int} (hs0 : 0 ≤ set) (hs1 : set < 32) (hp0 : 0 ≤ p) (hp1 : p < 5) : fh_M mX3_linesInto 0 [vR 3, vI set, vI p] A F (some (vI (k_li A (F 3 0) set p))) A F := by
  obtain ⟨hn1, hn2⟩ := hn
  refine fh_M.of mi_X3_linesInto (Nat.le_of_ble_eq_true rfl) ?_
  intro X C T
  have loop : ∀ (m : Nat) (k : Int), 0 ≤ k → k ≤ F 3 0 → F 3 0 - k < m → fc_W X 0 0 159 (fc_H A F) 5 [some (vR 3), some (vI set), some (vI p), some (vI (fs_sum (fun o => if fb_t set o = 1 then A (5 + p.toNat) o else 0) k.toNat)), some (vI k)] [] := by
    intro m
    induction m with
    | zero => intro k h0 h1 h2; exfalso; omega
    | succ m ih =>
      intro k h0 h1 h2
      refine fc_iload C dX3_linesInto_5 rfl ?_
      refine fc_aload_n C dX3_linesInto_7 rfl rfl ?_
      refine fh_getf C dX3_linesInto_8 fl_X3_9 rfl rfl ?_
      refine fc_icmp_ge (tgt := 42) C dX3_linesInto_11 (by decide) (fc_Rm (by omega)) (fc_Rm (by omega)) (fun c11 => ?_) (fun c11 => ?_)
      · have e : k = F 3 0 := by omega
        refine fc_iload_n C dX3_linesInto_42 rfl rfl ?_
        exact fh_iret C T dX3_linesInto_43 (by rw [e]; rfl) rfl
      · refine fc_iload_n C dX3_linesInto_14 rfl rfl ?_
        refine fc_iload C dX3_linesInto_15 rfl ?_
        refine fc_ishr C dX3_linesInto_17 ?_
        refine fc_iconst C dX3_linesInto_18 ?_
        refine fc_iand C dX3_linesInto_19 ?_
        refine fc_iconst C dX3_linesInto_20 ?_
        refine fc_eq (st' := [vI 1, vI (fb_t set k)]) rfl (by rw [fb_and hs0 hs1 h0 (by omega)]) ?_
        have hb := fb_01 set k
        refine fc_icmp_ne (tgt := 36) C dX3_linesInto_21 (by decide) (fc_Rm (by omega)) (fc_Rm (by omega)) (fun c21 => ?_) (fun c21 => ?_)
        · refine fc_iinc C dX3_linesInto_36 rfl (by decide) ?_
          refine fc_goto (tgt := 5) C dX3_linesInto_39 (by decide) ?_
          exact fc_eq (by rw [fs_step h0]; rw [if_neg c21, Int.add_zero]; rfl) rfl (ih (k + 1) (by omega) (by omega) (by omega))
        · refine fc_iload_n C dX3_linesInto_24 rfl rfl ?_
          refine fc_aload_n C dX3_linesInto_25 rfl rfl ?_
          refine fh_getf C dX3_linesInto_26 fl_X3_17 rfl rfl ?_
          refine fc_iload_n C dX3_linesInto_29 rfl rfl ?_
          refine fh_aaload C dX3_linesInto_30 (Or.inl rfl) rfl (by omega) (by omega) (by decide) (fg_5 p) ?_
          refine fc_iload C dX3_linesInto_31 rfl ?_
          refine fh_iaload C dX3_linesInto_33 (fS_5 hp0 hp1) (by omega) (by omega) (by decide) ?_
          refine fc_iadd C dX3_linesInto_34 ?_
          refine fc_istore_n C dX3_linesInto_35 rfl (by decide) ?_
          refine fc_iinc C dX3_linesInto_36 rfl (by decide) ?_
          refine fc_goto (tgt := 5) C dX3_linesInto_39 (by decide) ?_
          exact fc_eq (by rw [fs_step h0]; rw [if_pos c21]; rfl) rfl (ih (k + 1) (by omega) (by omega) (by omega))
  refine fc_iconst C dX3_linesInto_0 ?_
  refine fc_istore_n C dX3_linesInto_1 rfl (by decide) ?_
  refine fc_iconst C dX3_linesInto_2 ?_
  refine fc_istore C dX3_linesInto_3 (by decide) ?_
  exact loop 6 0 (by omega) (by omega) (by omega)
end POS
