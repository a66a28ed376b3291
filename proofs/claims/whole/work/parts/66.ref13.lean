/-! the reference: ranks, by trying all -/
def w_g (n : Int) (e : Int → Int) (o : Int) : Int := if o < n then e o else 0
def w_C (n : Int) (e : Int → Int) : Int := 2744 * w_g n e 1 + 196 * w_g n e 2 + 14 * w_g n e 3 + w_g n e 4
def w_s (n : Int) (e : Int → Int) : Int := w_g n e 1 + w_g n e 2 + w_g n e 3 + w_g n e 4
def w_V (n r : Int) (e : Int → Int) : Prop := 0 ≤ w_g n e 1 ∧ 0 ≤ w_g n e 2 ∧ 0 ≤ w_g n e 3 ∧ 0 ≤ w_g n e 4 ∧ w_s n e ≤ r ∧ e 0 = r - w_s n e
def w_p (e : Int → Int) (k : Int) : Int := if k ≤ 0 then 0 else if k = 1 then e 1 else if k = 2 then e 1 + e 2 else if k = 3 then e 1 + e 2 + e 3 else e 1 + e 2 + e 3 + e 4
theorem w_p_st {e : Int → Int} {k : Int} (h0 : 1 ≤ k) (h1 : k < 5) : w_p e k = w_p e (k - 1) + e k := by
  have : k = 1 ∨ k = 2 ∨ k = 3 ∨ k = 4 := by omega
  unfold w_p
  rcases this with rfl | rfl | rfl | rfl <;> simp
theorem w_p_cg {e f : Int → Int} {k : Int} (h : ∀ o : Int, 1 ≤ o → o ≤ k → e o = f o) (h5 : k < 5) : w_p e k = w_p f k := by
  unfold w_p
  by_cases c0 : k ≤ 0
  · rw [if_pos c0, if_pos c0]
  · rw [if_neg c0, if_neg c0]
    have : k = 1 ∨ k = 2 ∨ k = 3 ∨ k = 4 := by omega
    rcases this with rfl | rfl | rfl | rfl
    · simp [h 1 (by omega) (by omega)]
    · simp [h 1 (by omega) (by omega), h 2 (by omega) (by omega)]
    · simp [h 1 (by omega) (by omega), h 2 (by omega) (by omega), h 3 (by omega) (by omega)]
    · simp [h 1 (by omega) (by omega), h 2 (by omega) (by omega), h 3 (by omega) (by omega), h 4 (by omega) (by omega)]
theorem w_sum {n : Int} (hn : 2 ≤ n ∧ n ≤ 5) (e : Int → Int) : fs_sum e n.toNat = e 0 + w_s n e := by
  have : n = 2 ∨ n = 3 ∨ n = 4 ∨ n = 5 := by omega
  unfold w_s w_g
  rcases this with rfl | rfl | rfl | rfl
  · show 0 + e 0 + e 1 = _
    simp
  · show 0 + e 0 + e 1 + e 2 = _
    simp; omega
  · show 0 + e 0 + e 1 + e 2 + e 3 = _
    simp; omega
  · show 0 + e 0 + e 1 + e 2 + e 3 + e 4 = _
    simp; omega
theorem w_V_eff {n r : Int} (hn : 2 ≤ n ∧ n ≤ 5) {e : Int → Int} : z_eff n e r ↔ w_V n r e := by
  have hs := w_sum hn e
  unfold z_eff w_V
  have gi : ∀ o : Int, o < n → w_g n e o = e o := fun o h => if_pos h
  have go : ∀ o : Int, ¬ o < n → w_g n e o = 0 := fun o h => if_neg h
  constructor
  · rintro ⟨h1, h2⟩
    have nn : ∀ o : Int, 0 ≤ o → 0 ≤ w_g n e o := fun o o0 => by
      by_cases c : o < n
      · rw [gi o c]; exact h1 o o0 c
      · rw [go o c]; exact Int.le_refl _
    have h0 := h1 0 (by omega) (by omega)
    exact ⟨nn 1 (by omega), nn 2 (by omega), nn 3 (by omega), nn 4 (by omega), by omega, by omega⟩
  · rintro ⟨h1, h2, h3, h4, h5, h6⟩
    refine ⟨fun p p0 p1 => ?_, by omega⟩
    have : p = 0 ∨ p = 1 ∨ p = 2 ∨ p = 3 ∨ p = 4 := by omega
    rcases this with rfl | rfl | rfl | rfl | rfl
    · omega
    · rw [← gi 1 p1]; exact h1
    · rw [← gi 2 p1]; exact h2
    · rw [← gi 3 p1]; exact h3
    · rw [← gi 4 p1]; exact h4
theorem w_C_inj {n r : Int} (hn : 2 ≤ n ∧ n ≤ 5) (hr : r ≤ 13) {e f : Int → Int} (he : w_V n r e) (hf : w_V n r f) (h : w_C n e = w_C n f) : ∀ p : Int, 0 ≤ p → p < n → e p = f p := by
  obtain ⟨a1, a2, a3, a4, a5, a6⟩ := he
  obtain ⟨b1, b2, b3, b4, b5, b6⟩ := hf
  unfold w_C at h
  unfold w_s at a5 a6 b5 b6
  have e4 : w_g n e 4 = w_g n f 4 := by omega
  have e3 : w_g n e 3 = w_g n f 3 := by omega
  have e2 : w_g n e 2 = w_g n f 2 := by omega
  have e1 : w_g n e 1 = w_g n f 1 := by omega
  have gi : ∀ (e : Int → Int) (o : Int), o < n → w_g n e o = e o := fun e o h => if_pos h
  intro p p0 p1
  have : p = 0 ∨ p = 1 ∨ p = 2 ∨ p = 3 ∨ p = 4 := by omega
  rcases this with rfl | rfl | rfl | rfl | rfl
  · omega
  · rw [← gi e 1 p1, ← gi f 1 p1]; exact e1
  · rw [← gi e 2 p1, ← gi f 2 p1]; exact e2
  · rw [← gi e 3 p1, ← gi f 3 p1]; exact e3
  · rw [← gi e 4 p1, ← gi f 4 p1]; exact e4
/-- the last way -/
theorem w_end {n r : Int} (hn : 2 ≤ n ∧ n ≤ 5) (hr : 0 ≤ r ∧ r ≤ 13) {f : Int → Int} (hf : w_V n r f) (h : r ≤ f 1) {e : Int → Int} (he : w_V n r e) : w_C n e ≤ w_C n f := by
  obtain ⟨a1, a2, a3, a4, a5, a6⟩ := he
  obtain ⟨b1, b2, b3, b4, b5, b6⟩ := hf
  have g1 : w_g n f 1 = f 1 := if_pos (by omega)
  unfold w_C
  unfold w_s at a5 b5
  omega
/-- the next way -/
theorem w_next {n r p : Int} (hn : 2 ≤ n ∧ n ≤ 5) (hr : 0 ≤ r ∧ r ≤ 13) (hp : 1 ≤ p ∧ p < n) {f g : Int → Int} (hf : w_V n r f) (h1 : ∀ o : Int, 1 ≤ o → o < p → g o = f o) (h2 : g p = f p + 1) (h3 : ∀ o : Int, p < o → o < n → g o = 0) (h4 : g 0 = r - w_p f (p - 1) - g p) (h5 : w_p f p < r) (h6 : ∀ o : Int, p < o → o < n → r ≤ w_p f o) : w_V n r g ∧ w_C n f < w_C n g ∧ ∀ e : Int → Int, w_V n r e → w_C n e < w_C n g → w_C n e ≤ w_C n f := by
  obtain ⟨b1, b2, b3, b4, b5, b6⟩ := hf
  have gi : ∀ (e : Int → Int) (o : Int), o < n → w_g n e o = e o := fun e o h => if_pos h
  have go : ∀ (e : Int → Int) (o : Int), ¬ o < n → w_g n e o = 0 := fun e o h => if_neg h
  have hpn : p = 1 ∨ p = 2 ∨ p = 3 ∨ p = 4 := by omega
  have hnn : n = 2 ∨ n = 3 ∨ n = 4 ∨ n = 5 := by omega
  have key : ∀ (x1 x2 x3 x4 y1 y2 y3 y4 : Int), w_g n f 1 = x1 → w_g n f 2 = x2 → w_g n f 3 = x3 → w_g n f 4 = x4 → w_g n g 1 = y1 → w_g n g 2 = y2 → w_g n g 3 = y3 → w_g n g 4 = y4 → (0 ≤ y1 ∧ 0 ≤ y2 ∧ 0 ≤ y3 ∧ 0 ≤ y4 ∧ y1 + y2 + y3 + y4 ≤ r ∧ g 0 = r - (y1 + y2 + y3 + y4)) ∧ 2744 * x1 + 196 * x2 + 14 * x3 + x4 < 2744 * y1 + 196 * y2 + 14 * y3 + y4 ∧ (∀ z1 z2 z3 z4 : Int, 0 ≤ z1 → 0 ≤ z2 → 0 ≤ z3 → 0 ≤ z4 → z1 + z2 + z3 + z4 ≤ r → (n ≤ 4 → z4 = 0) → (n ≤ 3 → z3 = 0) → (n ≤ 2 → z2 = 0) → 2744 * z1 + 196 * z2 + 14 * z3 + z4 < 2744 * y1 + 196 * y2 + 14 * y3 + y4 → 2744 * z1 + 196 * z2 + 14 * z3 + z4 ≤ 2744 * x1 + 196 * x2 + 14 * x3 + x4) := by
    intro x1 x2 x3 x4 y1 y2 y3 y4 ex1 ex2 ex3 ex4 ey1 ey2 ey3 ey4
    unfold w_s at b5
    rcases hpn with rfl | rfl | rfl | rfl <;> rcases hnn with rfl | rfl | rfl | rfl
    all_goals first
      | (exfalso; omega)
      | (simp [w_g] at ex1 ex2 ex3 ex4 ey1 ey2 ey3 ey4 b1 b2 b3 b4 b5
         simp [w_p] at h4 h5
         have q1 := h1 1
         have q2 := h1 2
         have q3 := h1 3
         have t2 := h3 2
         have t3 := h3 3
         have t4 := h3 4
         have s2 := h6 2
         have s3 := h6 3
         have s4 := h6 4
         simp [w_p] at s2 s3 s4
         refine ⟨by omega, by omega, fun z1 z2 z3 z4 z10 z20 z30 z40 zs zn4 zn3 zn2 hz => by omega⟩)
  obtain ⟨k1, k2, k3⟩ := key _ _ _ _ _ _ _ _ rfl rfl rfl rfl rfl rfl rfl rfl
  refine ⟨k1, k2, fun e he hlt => ?_⟩
  obtain ⟨a1, a2, a3, a4, a5, a6⟩ := he
  exact k3 _ _ _ _ a1 a2 a3 a4 a5 (fun z => go e 4 (by omega)) (fun z => go e 3 (by omega)) (fun z => go e 2 (by omega)) hlt
section REF13
variable {A : Nat → Int → Int} {F : Nat → Nat → Int} {v : Int → Int} {ps : Int → Int → Int} {st : Int} {rf tx : Int → Int} {tl : Int}
theorem r_next (e : A 144 = v) (hn : 2 ≤ v 0 ∧ v 0 ≤ 5) {r : Int} (hr : 0 ≤ r ∧ r ≤ 13) (hV : w_V (v 0) r (A 155)) : fh_E mX7_next 1 [vR 143, vI r] A F (fun rr A' F' => F' = F ∧ (∀ j : Nat, j ≠ 155 → A' j = A j) ∧ ((rr = some (vI 1) ∧ w_V (v 0) r (A' 155) ∧ w_C (v 0) (A 155) < w_C (v 0) (A' 155) ∧ ∀ d : Int → Int, w_V (v 0) r d → w_C (v 0) d < w_C (v 0) (A' 155) → w_C (v 0) d ≤ w_C (v 0) (A 155)) ∨ (rr = some (vI 0) ∧ ∀ d : Int → Int, w_V (v 0) r d → w_C (v 0) d ≤ w_C (v 0) (A 155)))) := by
  have hVe := w_V_eff hn (r := r) (e := A 155) |>.2 hV
  have hnn := hVe.1
  have hle : ∀ o : Int, 0 ≤ o → o < v 0 → A 155 o ≤ 13 := fun o o0 o1 => by
    have := fs_sum_mem (f := A 155) (m := (v 0).toNat) (k := o) (fun j j0 j1 => hnn j j0 (by omega)) o0 (by omega)
    rw [hVe.2] at this
    omega
  have hpb : ∀ k : Int, 0 ≤ k → k < v 0 → 0 ≤ w_p (A 155) k ∧ w_p (A 155) k ≤ 60 := by
    have key : ∀ m : Nat, (m : Int) < v 0 → 0 ≤ w_p (A 155) m ∧ w_p (A 155) m ≤ 13 * m := by
      intro m
      induction m with
      | zero => intro _; exact ⟨by show 0 ≤ w_p (A 155) 0; unfold w_p; rw [if_pos (by omega)]; omega, by show w_p (A 155) 0 ≤ 0; unfold w_p; rw [if_pos (by omega)]; omega⟩
      | succ m ih =>
        intro hm
        have h1 := ih (by omega)
        have h2 := w_p_st (e := A 155) (k := ((m + 1 : Nat) : Int)) (by omega) (by omega)
        rw [show (((m + 1 : Nat) : Int)) - 1 = (m : Int) by omega] at h2
        have h3 := hnn ((m + 1 : Nat) : Int) (by omega) hm
        have h4 := hle ((m + 1 : Nat) : Int) (by omega) hm
        omega
    intro k k0 k1
    have := key k.toNat (by omega)
    rw [Int.toNat_of_nonneg k0] at this
    omega
  refine fh_E.of mi_X7_next (Nat.le_of_ble_eq_true rfl) ?_
  intro X C T
  have outer : ∀ (m : Nat) (p : Int) (A1 : Nat → Int → Int) (y3 y4 : Option fc_AV), 0 ≤ p → p < v 0 → p < m → (∀ o : Int, 0 ≤ o → o ≤ p → A1 155 o = A 155 o) → (∀ o : Int, p < o → o < v 0 → A1 155 o = 0) → (∀ o : Int, p < o → o < v 0 → r ≤ w_p (A 155) o) → (∀ j : Nat, j ≠ 155 → A1 j = A j) → fc_W X 0 0 159 (fc_H A1 F) 7 [some (vR 143), some (vI r), some (vI p), y3, y4] [] := by
    intro m
    induction m with
    | zero => intro p A1 y3 y4 z0 z1 z2; exfalso; omega
    | succ m ih =>
      intro p A1 y3 y4 z0 z1 z2 h1 h2 h3 frA
      refine fc_iload_n C dX7_next_7 rfl rfl ?_
      refine fc_if_le (tgt := 91) C dX7_next_8 (by decide) (fc_Rm (by omega)) (fun c8 => ?_) (fun c8 => ?_)
      · refine fc_iconst C dX7_next_91 ?_
        refine fh_iretE C T dX7_next_92 (Or.inr ⟨rfl, by omega⟩) ⟨rfl, frA, Or.inr ⟨rfl, fun d hd => w_end hn hr hV ?_ hd⟩⟩
        have := h3 1 (by omega) (by omega)
        unfold w_p at this
        rw [if_neg (by omega), if_pos rfl] at this
        exact this
      · have inner : ∀ (m2 : Nat) (k : Int), 1 ≤ k → k ≤ p → p - k < m2 → fc_W X 0 0 159 (fc_H A1 F) 16 [some (vR 143), some (vI r), some (vI p), some (vI (w_p (A 155) (k - 1))), some (vI k)] [] := by
          intro m2
          induction m2 with
          | zero => intro k q0 q1 q2; exfalso; omega
          | succ m2 ih2 =>
            intro k q0 q1 q2
            refine fc_iload C dX7_next_16 rfl ?_
            refine fc_iload_n C dX7_next_18 rfl rfl ?_
            refine fc_icmp_ge (tgt := 38) C dX7_next_19 (by decide) (fc_Rm (by omega)) (fc_Rm (by omega)) (fun c19 => ?_) (fun c19 => ?_)
            · have ek : k = p := by omega
              subst ek
              have hst := w_p_st (e := A 155) (k := k) (by omega) (by omega)
              have hpk := hpb k (by omega) z1
              have hpk1 := hpb (k - 1) (by omega) (by omega)
              have hak := h1 k (by omega) (by omega)
              have hnk := hnn k (by omega) z1
              have hlk := hle k (by omega) z1
              refine fc_iload_n C dX7_next_38 rfl rfl ?_
              refine fc_aload_n C dX7_next_39 rfl rfl ?_
              refine fh_getf C dX7_next_40 fl_X7_44 rfl rfl ?_
              refine fc_iload_n C dX7_next_43 rfl rfl ?_
              refine fh_iaload C dX7_next_44 (fun _ _ => rfl) (by omega) (by omega) (by decide) ?_
              refine fc_iadd C dX7_next_45 ?_
              refine fc_iload_n C dX7_next_46 rfl rfl ?_
              rw [hak]
              refine fc_icmp_ge (tgt := 78) C dX7_next_47 (by decide) (fc_Rm (by omega)) (fc_Rm (by omega)) (fun c47 => ?_) (fun c47 => ?_)
              · refine fc_aload_n C dX7_next_78 rfl rfl ?_
                refine fh_getf C dX7_next_79 fl_X7_44 rfl rfl ?_
                refine fc_iload_n C dX7_next_82 rfl rfl ?_
                refine fc_iconst C dX7_next_83 ?_
                refine fh_iastore C dX7_next_84 (fun _ _ => rfl) (by omega) (by omega) (by decide) ?_
                refine fc_iinc C dX7_next_85 rfl (by decide) ?_
                refine fc_goto (tgt := 7) C dX7_next_88 (by decide) ?_
                refine ih (k - 1) _ _ _ (by omega) (by omega) (by omega) (fun o o0 o1 => ?_) (fun o o0 o1 => ?_) (fun o o0 o1 => ?_) (fun j hj => by rw [fa_n _ _ hj]; exact frA j hj)
                · rw [fa_s]; unfold fc_set; rw [if_neg (by omega)]; exact h1 o o0 (by omega)
                · rw [fa_s]; unfold fc_set
                  by_cases c : o = k
                  · rw [if_pos c]
                  · rw [if_neg c]; exact h2 o (by omega) o1
                · by_cases c : o = k
                  · rw [c]; omega
                  · exact h3 o (by omega) o1
              · refine fc_aload_n C dX7_next_50 rfl rfl ?_
                refine fh_getf C dX7_next_51 fl_X7_44 rfl rfl ?_
                refine fc_iload_n C dX7_next_54 rfl rfl ?_
                refine fc_dup2 C dX7_next_55 rfl rfl ?_
                refine fh_iaload C dX7_next_56 (fun _ _ => rfl) (by omega) (by omega) (by decide) ?_
                refine fc_iconst C dX7_next_57 ?_
                refine fc_iadd C dX7_next_58 ?_
                refine fh_iastore C dX7_next_59 (fun _ _ => rfl) (by omega) (by omega) (by decide) ?_
                refine fc_aload_n C dX7_next_60 rfl rfl ?_
                refine fh_getf C dX7_next_61 fl_X7_44 rfl rfl ?_
                refine fc_iconst C dX7_next_64 ?_
                refine fc_iload_n C dX7_next_65 rfl rfl ?_
                refine fc_iload_n C dX7_next_66 rfl rfl ?_
                refine fc_isub C dX7_next_67 ?_
                refine fc_aload_n C dX7_next_68 rfl rfl ?_
                refine fh_getf C dX7_next_69 fl_X7_44 rfl rfl ?_
                refine fc_iload_n C dX7_next_72 rfl rfl ?_
                refine fh_iaload C dX7_next_73 (fun _ _ => rfl) (by omega) (by omega) (by decide) ?_
                refine fc_isub C dX7_next_74 ?_
                refine fh_iastore C dX7_next_75 (fun _ _ => rfl) (by omega) (by omega) (by decide) ?_
                refine fc_iconst C dX7_next_76 ?_
                have hG : ∃ G : Int → Int, G = fc_set (fc_set (A1 155) k (A1 155 k + 1)) 0 (r - w_p (A 155) (k - 1) - fc_set (A1 155) k (A1 155 k + 1) k) := ⟨_, rfl⟩
                obtain ⟨G, eG⟩ := hG
                have gk9 : fc_set (A1 155) k (A1 155 k + 1) k = A1 155 k + 1 := if_pos rfl
                have Ga : ∀ o : Int, G o = if o = 0 then r - w_p (A 155) (k - 1) - (A1 155 k + 1) else if o = k then A1 155 k + 1 else A1 155 o := fun o => by rw [eG, gk9]; rfl
                have hw := w_next (n := v 0) (r := r) (p := k) hn hr ⟨by omega, z1⟩ (f := A 155) (g := G) hV (fun o o0 o1 => by rw [Ga, if_neg (by omega), if_neg (by omega)]; exact h1 o (by omega) (by omega)) (by rw [Ga, if_neg (by omega), if_pos rfl, hak]) (fun o o0 o1 => by rw [Ga, if_neg (by omega), if_neg (by omega)]; exact h2 o o0 o1) (by rw [Ga, if_pos rfl, Ga, if_neg (by omega), if_pos rfl]) (by omega) h3
                refine fh_iretE C T dX7_next_77 (Or.inr ⟨rfl, by omega⟩) ⟨rfl, fun j hj => by rw [fa_n _ _ hj, fa_n _ _ hj]; exact frA j hj, Or.inl ⟨rfl, ?_⟩⟩
                rw [fa_s, fa_s, ← eG]
                exact hw
            · have hak := h1 k (by omega) (by omega)
              refine fc_iload_n C dX7_next_22 rfl rfl ?_
              refine fc_aload_n C dX7_next_23 rfl rfl ?_
              refine fh_getf C dX7_next_24 fl_X7_44 rfl rfl ?_
              refine fc_iload C dX7_next_27 rfl ?_
              refine fh_iaload C dX7_next_29 (fun _ _ => rfl) (by omega) (by omega) (by decide) ?_
              refine fc_iadd C dX7_next_30 ?_
              refine fc_istore_n C dX7_next_31 rfl (by decide) ?_
              refine fc_iinc C dX7_next_32 rfl (by decide) ?_
              refine fc_goto (tgt := 16) C dX7_next_35 (by decide) ?_
              have := ih2 (k + 1) (by omega) (by omega) (by omega)
              rw [show k + 1 - 1 = k by omega, w_p_st q0 (by omega)] at this
              refine fc_eq (st' := []) ?_ rfl this
              rw [← hak]
              rfl
        refine fc_iconst C dX7_next_11 ?_
        refine fc_istore_n C dX7_next_12 rfl (by decide) ?_
        refine fc_iconst C dX7_next_13 ?_
        refine fc_istore C dX7_next_14 (by decide) ?_
        exact inner 6 1 (by omega) (by omega) (by omega)
  refine fc_aload_n C dX7_next_0 rfl rfl ?_
  refine fh_callV (y := mX7_many) C dX7_next_1 ml_X7_60 mi_X7_many im_X7_many se_X7_many (r_many e) rfl rfl (by decide) rfl (Nat.le_of_ble_eq_true rfl) (Nat.zero_le _) (Nat.zero_le _) rfl ?_
  refine fc_iconst C dX7_next_4 ?_
  refine fc_isub C dX7_next_5 ?_
  refine fc_istore_n C dX7_next_6 rfl (by decide) ?_
  exact outer 6 (v 0 - 1) A none none (by omega) (by omega) (by omega) (fun _ _ _ => rfl) (fun o o0 o1 => by omega) (fun o o0 o1 => by omega) (fun _ _ => rfl)
theorem r_isWonWithout (e : A 144 = v) (hv : v_ok v) (hJ : s_J (v_L v) (v 0)) (ha : ∀ p : Int, 0 ≤ p → p < v 0 → -1100 ≤ A 154 p ∧ A 154 p ≤ 1100) (ho : ∀ p : Int, 0 ≤ p → p < v 0 → 0 ≤ A 155 p ∧ A 155 p ≤ 13) : fh_E mX7_isWonWithout 6 [vR 143] A F (fun r A' F' => r = some (vI (fc_ind (z_wn (v_L v) (v 0) (fun p => A 154 p - A 155 p)))) ∧ F' = F ∧ (∀ j : Nat, j ≠ 148 → j ≠ 149 → j ≠ 153 → A' j = A j)) := by
  have hn := hv.n
  refine fh_E.of mi_X7_isWonWithout (Nat.le_of_ble_eq_true rfl) ?_
  intro X C T
  have loop : ∀ (m : Nat) (k : Int) (A1 : Nat → Int → Int), 0 ≤ k → k ≤ v 0 → v 0 - k < m → (∀ p : Int, 0 ≤ p → p < k → A1 148 p = A 154 p - A 155 p) → (∀ j : Nat, j ≠ 148 → A1 j = A j) → fc_W X 0 0 159 (fc_H A1 F) 2 [some (vR 143), some (vI k)] [] := by
    intro m
    induction m with
    | zero => intro k A1 z0 z1 z2; exfalso; omega
    | succ m ih =>
      intro k A1 z0 z1 z2 h8 frA
      have e1 := (frA 144 (by omega)).trans e
      refine fc_iload_n C dX7_isWonWithout_2 rfl rfl ?_
      refine fc_aload_n C dX7_isWonWithout_3 rfl rfl ?_
      refine fh_callV (y := mX7_many) C dX7_isWonWithout_4 ml_X7_60 mi_X7_many im_X7_many se_X7_many (r_many e1) rfl rfl (by decide) rfl (Nat.le_of_ble_eq_true rfl) (Nat.zero_le _) (Nat.zero_le _) rfl ?_
      refine fc_icmp_ge (tgt := 36) C dX7_isWonWithout_7 (by decide) (fc_Rm (by omega)) (fc_Rm (by omega)) (fun c7 => ?_) (fun c7 => ?_)
      · refine fc_aload_n C dX7_isWonWithout_36 rfl rfl ?_
        refine fh_callVE (y := mX7_isWon) C dX7_isWonWithout_37 ml_X7_254 mi_X7_isWon im_X7_isWon se_X7_isWon (r_isWon e1 hv hJ (fun o o0 o1 => by rw [h8 o o0 (by omega)]; have := ha o o0 o1; have := ho o o0 o1; omega)) rfl rfl (by decide) rfl (Nat.le_of_ble_eq_true rfl) (Nat.zero_le _) (Nat.zero_le _) rfl ?_
        rintro r A2 F2 ⟨rfl, rfl, frB⟩
        refine fc_eq (st' := [vI (fc_ind (z_wn (v_L v) (v 0) (A1 148)))]) rfl rfl ?_
        refine fh_iretE C T dX7_isWonWithout_40 (Or.inr ⟨rfl, fc_ind_01 _⟩) ⟨?_, rfl, fun j j1 j2 j3 => by rw [frB j j1 j2 j3]; exact frA j j1⟩
        rw [fc_ind_congr (Q := z_wn (v_L v) (v 0) (fun p => A 154 p - A 155 p)) ⟨fun h => z_wn_cg (fun p p0 p1 => h8 p p0 (by omega)) h, fun h => z_wn_cg (fun p p0 p1 => (h8 p p0 (by omega)).symm) h⟩]
      · have h1 := ho k z0 (by omega)
        have f154 := frA 154 (by omega)
        have f155 := frA 155 (by omega)
        refine fc_aload_n C dX7_isWonWithout_10 rfl rfl ?_
        refine fh_getf C dX7_isWonWithout_11 fl_X7_22 rfl rfl ?_
        refine fc_iload_n C dX7_isWonWithout_14 rfl rfl ?_
        refine fc_aload_n C dX7_isWonWithout_15 rfl rfl ?_
        refine fh_getf C dX7_isWonWithout_16 fl_X7_41 rfl rfl ?_
        refine fc_iload_n C dX7_isWonWithout_19 rfl rfl ?_
        refine fh_laload C dX7_isWonWithout_20 (fun _ _ => rfl) (by omega) (by omega) (by decide) ?_
        refine fc_aload_n C dX7_isWonWithout_21 rfl rfl ?_
        refine fh_getf C dX7_isWonWithout_22 fl_X7_44 rfl rfl ?_
        refine fc_iload_n C dX7_isWonWithout_25 rfl rfl ?_
        refine fh_iaload C dX7_isWonWithout_26 (fun _ _ => rfl) (by omega) (by omega) (by decide) ?_
        refine fc_eq (st' := [vI (A 155 k), vL (A 154 k), vI k, vR 148]) rfl (by rw [f154, f155]) ?_
        refine fc_i2l C dX7_isWonWithout_27 (fc_Rm (by omega)) ?_
        refine fc_lsub C dX7_isWonWithout_28 ?_
        refine fh_lastore C dX7_isWonWithout_29 (fun _ _ => rfl) (by omega) (by omega) (by decide) ?_
        refine fc_iinc C dX7_isWonWithout_30 rfl (by decide) ?_
        refine fc_goto (tgt := 2) C dX7_isWonWithout_33 (by decide) ?_
        refine ih (k + 1) _ (by omega) (by omega) (by omega) (fun p p0 p1 => ?_) (fun j hj => by rw [fa_n _ _ hj]; exact frA j hj)
        rw [fa_s]
        unfold fc_set
        by_cases c : p = k
        · rw [if_pos c, c]
        · rw [if_neg c]; exact h8 p p0 (by omega)
  refine fc_iconst C dX7_isWonWithout_0 ?_
  refine fc_istore_n C dX7_isWonWithout_1 rfl (by decide) ?_
  exact loop 6 0 A (by omega) (by omega) (by omega) (fun p p0 p1 => by omega) (fun _ _ => rfl)
theorem r_isWonAnyhow (e : A 144 = v) (hv : v_ok v) (hJ : s_J (v_L v) (v 0)) {r : Int} (hr : 0 ≤ r ∧ r ≤ 13) (ha : ∀ p : Int, 0 ≤ p → p < v 0 → -1100 ≤ A 154 p ∧ A 154 p ≤ 1100) : fh_E mX7_isWonAnyhow 7 [vR 143, vI r] A F (fun rr A' F' => rr = some (vI (fc_ind (∀ d : Int → Int, z_eff (v 0) d r → z_wn (v_L v) (v 0) (fun p => A 154 p - d p)))) ∧ F' = F ∧ (∀ j : Nat, j ≠ 148 → j ≠ 149 → j ≠ 153 → j ≠ 155 → A' j = A j)) := by
  have hn := hv.n
  refine fh_E.of mi_X7_isWonAnyhow (Nat.le_of_ble_eq_true rfl) ?_
  intro X C T
  have offb : ∀ d : Int → Int, w_V (v 0) r d → ∀ p : Int, 0 ≤ p → p < v 0 → 0 ≤ d p ∧ d p ≤ 13 := fun d hd p p0 p1 => by
    have h1 := (w_V_eff hn).2 hd
    have := fs_sum_mem (f := d) (m := (v 0).toNat) (k := p) (fun j j0 j1 => h1.1 j j0 (by omega)) p0 (by omega)
    rw [h1.2] at this
    exact ⟨h1.1 p p0 p1, by omega⟩
  have cb : ∀ d : Int → Int, w_V (v 0) r d → 0 ≤ w_C (v 0) d ∧ w_C (v 0) d ≤ 40000 := fun d hd => by
    obtain ⟨a1, a2, a3, a4, a5, a6⟩ := hd
    unfold w_s at a5
    unfold w_C
    omega
  have main : ∀ (m : Nat) (A1 : Nat → Int → Int) (b : Int), 40000 - w_C (v 0) (A1 155) < m → w_V (v 0) r (A1 155) → b = fc_ind (z_wn (v_L v) (v 0) (fun p => A 154 p - A1 155 p)) → (∀ d : Int → Int, w_V (v 0) r d → w_C (v 0) d < w_C (v 0) (A1 155) → z_wn (v_L v) (v 0) (fun p => A 154 p - d p)) → (∀ j : Nat, j ≠ 148 → j ≠ 149 → j ≠ 153 → j ≠ 155 → A1 j = A j) → fc_W X 0 0 159 (fc_H A1 F) 36 [some (vR 143), some (vI r), some (vI b)] [] := by
    intro m
    induction m with
    | zero => intro A1 b z0 hV; have := cb _ hV; exfalso; omega
    | succ m ih =>
      intro A1 b z0 hV hb hw frA
      have hbR : fc_R b := by rw [hb]; exact fc_ind_R _
      have hb01 : b = 0 ∨ b = 1 := by rw [hb]; exact fc_ind_01 _
      have e1 := (frA 144 (by omega) (by omega) (by omega) (by omega)).trans e
      have eff : z_eff (v 0) (A1 155) r := (w_V_eff hn).2 hV
      have fin : ∀ A2 : Nat → Int → Int, b = fc_ind (∀ d : Int → Int, z_eff (v 0) d r → z_wn (v_L v) (v 0) (fun p => A 154 p - d p)) → (∀ j : Nat, j ≠ 148 → j ≠ 149 → j ≠ 153 → j ≠ 155 → A2 j = A j) → fc_W X 0 0 159 (fc_H A2 F) 56 [some (vR 143), some (vI r), some (vI b)] [] := by
        intro A2 hb2 fr2
        refine fc_iload_n C dX7_isWonAnyhow_56 rfl rfl ?_
        exact fh_iretE C T dX7_isWonAnyhow_57 (Or.inr ⟨rfl, hb01⟩) ⟨by rw [hb2], rfl, fr2⟩
      refine fc_iload_n C dX7_isWonAnyhow_36 rfl rfl ?_
      refine fc_if_eq (tgt := 56) C dX7_isWonAnyhow_37 (by decide) (hbR) (fun c37 => ?_) (fun c37 => ?_)
      · refine fin A1 ?_ frA
        rw [c37, fc_ind_f (fun h => fc_ind_0 (hb.symm.trans c37) (h _ eff))]
      · have hwon := fc_ind_ne (P := z_wn (v_L v) (v 0) (fun p => A 154 p - A1 155 p)) (by rw [← hb]; exact c37)
        refine fc_aload_n C dX7_isWonAnyhow_40 rfl rfl ?_
        refine fc_iload_n C dX7_isWonAnyhow_41 rfl rfl ?_
        refine fh_callVE (y := mX7_next) C dX7_isWonAnyhow_42 ml_X7_263 mi_X7_next im_X7_next se_X7_next (r_next e1 hn hr hV) rfl rfl (by decide) rfl (Nat.le_of_ble_eq_true rfl) (Nat.zero_le _) (Nat.zero_le _) rfl ?_
        rintro rr A2 F2 ⟨rfl, frB, hh⟩
        rcases hh with ⟨rfl, hV2, hlt, hnx⟩ | ⟨rfl, hall⟩
        · refine fc_eq (st' := [vI 1]) rfl rfl ?_
          refine fc_if_eq (tgt := 56) C dX7_isWonAnyhow_45 (by decide) (fc_Rm (by omega)) (fun c45 => ?_) (fun c45 => ?_)
          · exact absurd c45 (by decide)
          · have e2 := (frB 144 (by omega)).trans e1
            have f154 : A2 154 = A 154 := (frB 154 (by omega)).trans (frA 154 (by omega) (by omega) (by omega) (by omega))
            refine fc_aload_n C dX7_isWonAnyhow_48 rfl rfl ?_
            refine fh_callVE (y := mX7_isWonWithout) C dX7_isWonAnyhow_49 ml_X7_260 mi_X7_isWonWithout im_X7_isWonWithout se_X7_isWonWithout (r_isWonWithout e2 hv hJ (by rw [f154]; exact ha) (offb _ hV2)) rfl rfl (by decide) rfl (Nat.le_of_ble_eq_true rfl) (Nat.zero_le _) (Nat.zero_le _) rfl ?_
            rintro rr A3 F3 ⟨rfl, rfl, frC⟩
            refine fc_eq (st' := [vI (fc_ind (z_wn (v_L v) (v 0) (fun p => A2 154 p - A2 155 p)))]) rfl rfl ?_
            have f155 : A3 155 = A2 155 := frC 155 (by omega) (by omega) (by omega)
            refine fc_istore_n C dX7_isWonAnyhow_52 rfl (by decide) ?_
            refine fc_goto (tgt := 36) C dX7_isWonAnyhow_53 (by decide) ?_
            refine ih A3 _ (by rw [f155]; omega) (by rw [f155]; exact hV2) (by rw [f155, f154]) (fun d hd hdl => ?_) (fun j j1 j2 j3 j4 => by rw [frC j j1 j2 j3, frB j j4]; exact frA j j1 j2 j3 j4)
            rw [f155] at hdl
            have h9 := hnx d hd hdl
            by_cases c : w_C (v 0) d < w_C (v 0) (A1 155)
            · exact hw d hd c
            · have hinj := w_C_inj hn hr.2 hd hV (by omega)
              exact z_wn_cg (fun p p0 p1 => by show A 154 p - A1 155 p = A 154 p - d p; rw [hinj p p0 p1]) hwon
        · refine fc_eq (st' := [vI 0]) rfl rfl ?_
          refine fc_if_eq (tgt := 56) C dX7_isWonAnyhow_45 (by decide) (fc_Rm (by omega)) (fun c45 => ?_) (fun c45 => ?_)
          · refine fin A2 ?_ (fun j j1 j2 j3 j4 => by rw [frB j j4]; exact frA j j1 j2 j3 j4)
            have hb1 : b = 1 := by omega
            rw [hb1]
            refine (fc_ind_t (fun d hd => ?_)).symm
            have hdV := (w_V_eff hn).1 hd
            have h9 := hall d hdV
            by_cases c : w_C (v 0) d < w_C (v 0) (A1 155)
            · exact hw d hdV c
            · have hinj := w_C_inj hn hr.2 hdV hV (by omega)
              exact z_wn_cg (fun p p0 p1 => by show A 154 p - A1 155 p = A 154 p - d p; rw [hinj p p0 p1]) hwon
          · exact absurd rfl c45
  have lay : ∀ (m : Nat) (k : Int) (A1 : Nat → Int → Int), 0 ≤ k → k ≤ v 0 → v 0 - k < m → (∀ p : Int, 0 ≤ p → p < k → A1 155 p = if p = 0 then r else 0) → (∀ j : Nat, j ≠ 155 → A1 j = A j) → fc_W X 0 0 159 (fc_H A1 F) 2 [some (vR 143), some (vI r), some (vI k)] [] := by
    intro m
    induction m with
    | zero => intro k A1 z0 z1 z2; exfalso; omega
    | succ m ih =>
      intro k A1 z0 z1 z2 h5 frA
      have e1 := (frA 144 (by omega)).trans e
      refine fc_iload_n C dX7_isWonAnyhow_2 rfl rfl ?_
      refine fc_aload_n C dX7_isWonAnyhow_3 rfl rfl ?_
      refine fh_callV (y := mX7_many) C dX7_isWonAnyhow_4 ml_X7_60 mi_X7_many im_X7_many se_X7_many (r_many e1) rfl rfl (by decide) rfl (Nat.le_of_ble_eq_true rfl) (Nat.zero_le _) (Nat.zero_le _) rfl ?_
      refine fc_icmp_ge (tgt := 31) C dX7_isWonAnyhow_7 (by decide) (fc_Rm (by omega)) (fc_Rm (by omega)) (fun c7 => ?_) (fun c7 => ?_)
      · have hoff : ∀ p : Int, 0 ≤ p → p < v 0 → A1 155 p = if p = 0 then r else 0 := fun p p0 p1 => h5 p p0 (by omega)
        have hV : w_V (v 0) r (A1 155) := (w_V_eff hn).1 ⟨fun p p0 p1 => by rw [hoff p p0 p1]; split <;> omega, by rw [fs_sum_congr (g := fun p => if p = 0 then r else 0) (fun p p0 p1 => hoff p p0 (by omega)), fs_sum_one (by omega) (by omega)]⟩
        have hC0 : w_C (v 0) (A1 155) = 0 := by
          have g0 : ∀ o : Int, 1 ≤ o → w_g (v 0) (A1 155) o = 0 := fun o o0 => by
            unfold w_g
            split
            · rename_i c
              rw [hoff o (by omega) c, if_neg (by omega)]
            · rfl
          unfold w_C
          rw [g0 1 (by omega), g0 2 (by omega), g0 3 (by omega), g0 4 (by omega)]
          rfl
        have f154 : A1 154 = A 154 := frA 154 (by omega)
        refine fc_aload_n C dX7_isWonAnyhow_31 rfl rfl ?_
        refine fh_callVE (y := mX7_isWonWithout) C dX7_isWonAnyhow_32 ml_X7_260 mi_X7_isWonWithout im_X7_isWonWithout se_X7_isWonWithout (r_isWonWithout e1 hv hJ (by rw [f154]; exact ha) (offb _ hV)) rfl rfl (by decide) rfl (Nat.le_of_ble_eq_true rfl) (Nat.zero_le _) (Nat.zero_le _) rfl ?_
        rintro rr A3 F3 ⟨rfl, rfl, frC⟩
        refine fc_eq (st' := [vI (fc_ind (z_wn (v_L v) (v 0) (fun p => A1 154 p - A1 155 p)))]) rfl rfl ?_
        have f155 : A3 155 = A1 155 := frC 155 (by omega) (by omega) (by omega)
        refine fc_istore_n C dX7_isWonAnyhow_35 rfl (by decide) ?_
        refine main 40001 A3 _ (by rw [f155, hC0]; omega) (by rw [f155]; exact hV) (by rw [f155, f154]) (fun d hd hdl => ?_) (fun j j1 j2 j3 j4 => by rw [frC j j1 j2 j3]; exact frA j j4)
        rw [f155, hC0] at hdl
        have := cb d hd
        omega
      · have nxt : ∀ x : Int, x = (if k = 0 then r else 0) → fc_W X 0 0 159 (fc_H A1 F) 24 [some (vR 143), some (vI r), some (vI k)] [vI x, vI k, vR 155] := by
          intro x ex
          refine fh_iastore C dX7_isWonAnyhow_24 (fun _ _ => rfl) (by omega) (by omega) (by decide) ?_
          refine fc_iinc C dX7_isWonAnyhow_25 rfl (by decide) ?_
          refine fc_goto (tgt := 2) C dX7_isWonAnyhow_28 (by decide) ?_
          refine ih (k + 1) _ (by omega) (by omega) (by omega) (fun p p0 p1 => ?_) (fun j hj => by rw [fa_n _ _ hj]; exact frA j hj)
          rw [fa_s]
          unfold fc_set
          by_cases c : p = k
          · rw [if_pos c, ex, c]
          · rw [if_neg c]; exact h5 p p0 (by omega)
        refine fc_aload_n C dX7_isWonAnyhow_10 rfl rfl ?_
        refine fh_getf C dX7_isWonAnyhow_11 fl_X7_44 rfl rfl ?_
        refine fc_iload_n C dX7_isWonAnyhow_14 rfl rfl ?_
        refine fc_iload_n C dX7_isWonAnyhow_15 rfl rfl ?_
        refine fc_if_ne (tgt := 23) C dX7_isWonAnyhow_16 (by decide) (fc_Rm (by omega)) (fun c16 => ?_) (fun c16 => ?_)
        · refine fc_iconst C dX7_isWonAnyhow_23 ?_
          exact nxt 0 (by rw [if_neg c16])
        · refine fc_iload_n C dX7_isWonAnyhow_19 rfl rfl ?_
          refine fc_goto (tgt := 24) C dX7_isWonAnyhow_20 (by decide) ?_
          exact nxt r (by rw [if_pos (by omega)])
  refine fc_iconst C dX7_isWonAnyhow_0 ?_
  refine fc_istore_n C dX7_isWonAnyhow_1 rfl (by decide) ?_
  exact lay 6 0 A (by omega) (by omega) (by omega) (fun p p0 p1 => by omega) (fun _ _ => rfl)
def v_rq (v : Int → Int) (d : Int) : Int → Int := if d = 1 then v_dl v else v_c v
theorem r_rankOf (e : A 144 = v) (hv : v_ok v) (hJ : s_J (v_L v) (v 0)) {d : Int} (hd : d = 0 ∨ d = 1) (hdeg : fs_sum (v_rq v d) (v 0).toNat ≤ 12) : fh_E mX7_rankOf 8 [vR 143, vI d] A F (fun rr A' F' => (∃ k : Int, rr = some (vI k) ∧ z_rk (v_L v) (v 0) (v_rq v d) k) ∧ F' = F ∧ (∀ j : Nat, j ≠ 148 → j ≠ 149 → j ≠ 153 → j ≠ 154 → j ≠ 155 → A' j = A j)) := by
  have hn := hv.n
  have hg := hv.g
  have hqb : ∀ p : Int, 0 ≤ p → p < v 0 → -1100 ≤ v_rq v d p ∧ v_rq v d p ≤ 1100 := fun p p0 p1 => by
    have h1 := hv.2.2.2.1 p p0 (by omega)
    have h2 := s_val_bd hg (n := v 0) (p := p) (by omega) hn.2 p0 (by omega)
    unfold v_rq
    split
    · unfold v_dl; omega
    · unfold v_c; omega
  refine fh_E.of mi_X7_rankOf (Nat.le_of_ble_eq_true rfl) ?_
  intro X C T
  have main : ∀ (m : Nat) (r : Int) (A1 : Nat → Int → Int), 0 ≤ r → r ≤ 13 → 13 - r < m → (r = 0 ∨ ∀ f : Int → Int, z_eff (v 0) f (r - 1) → z_wn (v_L v) (v 0) (fun p => v_rq v d p - f p)) → (∀ p : Int, 0 ≤ p → p < v 0 → A1 154 p = v_rq v d p) → (∀ j : Nat, j ≠ 148 → j ≠ 149 → j ≠ 153 → j ≠ 154 → j ≠ 155 → A1 j = A j) → fc_W X 0 0 159 (fc_H A1 F) 51 [some (vR 143), some (vI d), some (vI r)] [] := by
    intro m
    induction m with
    | zero => intro r A1 z0 z1 z2; exfalso; omega
    | succ m ih =>
      intro r A1 z0 z1 z2 hprev h154 frA
      have e1 := (frA 144 (by omega) (by omega) (by omega) (by omega) (by omega)).trans e
      refine fc_aload_n C dX7_rankOf_51 rfl rfl ?_
      refine fc_iload_n C dX7_rankOf_52 rfl rfl ?_
      refine fh_callVE (y := mX7_isWonAnyhow) C dX7_rankOf_53 ml_X7_266 mi_X7_isWonAnyhow im_X7_isWonAnyhow se_X7_isWonAnyhow (r_isWonAnyhow e1 hv hJ ⟨z0, z1⟩ (fun p p0 p1 => by rw [h154 p p0 p1]; exact hqb p p0 p1)) rfl rfl (by decide) rfl (Nat.le_of_ble_eq_true rfl) (Nat.zero_le _) (Nat.zero_le _) rfl ?_
      rintro rr A2 F2 ⟨rfl, rfl, frB⟩
      refine fc_eq (st' := [vI (fc_ind (∀ d : Int → Int, z_eff (v 0) d r → z_wn (v_L v) (v 0) (fun p => A1 154 p - d p)))]) rfl rfl ?_
      have frC : ∀ j : Nat, j ≠ 148 → j ≠ 149 → j ≠ 153 → j ≠ 154 → j ≠ 155 → A2 j = A j := fun j j1 j2 j3 j4 j5 => by rw [frB j j1 j2 j3 j5]; exact frA j j1 j2 j3 j4 j5
      have cg : ∀ f : Int → Int, z_wn (v_L v) (v 0) (fun p => A1 154 p - f p) ↔ z_wn (v_L v) (v 0) (fun p => v_rq v d p - f p) := fun f => ⟨z_wn_cg (fun p p0 p1 => by show A1 154 p - f p = v_rq v d p - f p; rw [h154 p p0 p1]), z_wn_cg (fun p p0 p1 => by show v_rq v d p - f p = A1 154 p - f p; rw [h154 p p0 p1])⟩
      refine fc_if_eq (tgt := 65) C dX7_rankOf_56 (by decide) (fc_ind_R _) (fun c56 => ?_) (fun c56 => ?_)
      · have c56 := fc_ind_0 c56
        refine fc_iload_n C dX7_rankOf_65 rfl rfl ?_
        refine fc_iconst C dX7_rankOf_66 ?_
        refine fc_isub C dX7_rankOf_67 ?_
        refine fh_iretE C T dX7_rankOf_68 (Or.inl rfl) ⟨⟨r - 1, rfl, by omega, fun f hf => ?_, ?_⟩, rfl, frC⟩
        · rcases hprev with h | h
          · exfalso
            have := fs_sum_le (f := fun _ => 0) (g := f) (m := (v 0).toNat) (fun p p0 p1 => hf.1 p p0 (by omega))
            rw [fs_sum_zero, hf.2] at this
            omega
          · exact h f hf
        · apply Classical.byContradiction
          intro z
          apply c56
          intro f hf
          apply Classical.byContradiction
          intro z2
          exact z ⟨f, by rw [show r - 1 + 1 = r by omega]; exact hf, fun h => z2 ((cg f).2 h)⟩
      · have c56 := fc_ind_ne c56
        have hr13 : r < 13 := by
          apply Classical.byContradiction
          intro z
          have heff : z_eff (v 0) (fun p => if p = 0 then r else 0) r := ⟨fun p p0 p1 => by show 0 ≤ (if p = 0 then r else 0); split <;> omega, fs_sum_one (by omega) (by omega)⟩
          have := ((cg _).1 (c56 _ heff)).deg hg hn
          rw [fs_sum_sub, fs_sum_one (by omega) (by omega)] at this
          omega
        refine fc_iinc C dX7_rankOf_59 rfl (by decide) ?_
        refine fc_goto (tgt := 51) C dX7_rankOf_62 (by decide) ?_
        exact ih (r + 1) A2 (by omega) (by omega) (by omega) (Or.inr (fun f hf => (cg f).1 (c56 f (by rw [show r + 1 - 1 = r by omega] at hf; exact hf)))) (fun p p0 p1 => by rw [frB 154 (by omega) (by omega) (by omega) (by omega)]; exact h154 p p0 p1) frC
  have lay : ∀ (m : Nat) (k : Int) (A1 : Nat → Int → Int), 0 ≤ k → k ≤ v 0 → v 0 - k < m → (∀ p : Int, 0 ≤ p → p < k → A1 154 p = v_rq v d p) → (∀ j : Nat, j ≠ 154 → A1 j = A j) → fc_W X 0 0 159 (fc_H A1 F) 2 [some (vR 143), some (vI d), some (vI k)] [] := by
    intro m
    induction m with
    | zero => intro k A1 z0 z1 z2; exfalso; omega
    | succ m ih =>
      intro k A1 z0 z1 z2 h4 frA
      have e1 := (frA 144 (by omega)).trans e
      refine fc_iload_n C dX7_rankOf_2 rfl rfl ?_
      refine fc_aload_n C dX7_rankOf_3 rfl rfl ?_
      refine fh_callV (y := mX7_many) C dX7_rankOf_4 ml_X7_60 mi_X7_many im_X7_many se_X7_many (r_many e1) rfl rfl (by decide) rfl (Nat.le_of_ble_eq_true rfl) (Nat.zero_le _) (Nat.zero_le _) rfl ?_
      refine fc_icmp_ge (tgt := 49) C dX7_rankOf_7 (by decide) (fc_Rm (by omega)) (fc_Rm (by omega)) (fun c7 => ?_) (fun c7 => ?_)
      · refine fc_iconst C dX7_rankOf_49 ?_
        refine fc_istore_n C dX7_rankOf_50 rfl (by decide) ?_
        exact main 14 0 A1 (by omega) (by omega) (by omega) (Or.inl rfl) (fun p p0 p1 => h4 p p0 (by omega)) (fun j _ _ _ j4 _ => frA j j4)
      · have h1 := hv.2.2.2.1 k z0 (by omega)
        have h2 := s_val_bd hg (n := v 0) (p := k) (by omega) hn.2 z0 (by omega)
        have nxt : ∀ x : Int, x = v_rq v d k → fc_W X 0 0 159 (fc_H A1 F) 42 [some (vR 143), some (vI d), some (vI k)] [vL x, vI k, vR 154] := by
          intro x ex
          refine fh_lastore C dX7_rankOf_42 (fun _ _ => rfl) (by omega) (by omega) (by decide) ?_
          refine fc_iinc C dX7_rankOf_43 rfl (by decide) ?_
          refine fc_goto (tgt := 2) C dX7_rankOf_46 (by decide) ?_
          refine ih (k + 1) _ (by omega) (by omega) (by omega) (fun p p0 p1 => ?_) (fun j hj => by rw [fa_n _ _ hj]; exact frA j hj)
          rw [fa_s]
          unfold fc_set
          by_cases c : p = k
          · rw [if_pos c, ex, c]
          · rw [if_neg c]; exact h4 p p0 (by omega)
        refine fc_aload_n C dX7_rankOf_10 rfl rfl ?_
        refine fh_getf C dX7_rankOf_11 fl_X7_41 rfl rfl ?_
        refine fc_iload_n C dX7_rankOf_14 rfl rfl ?_
        refine fc_iload_n C dX7_rankOf_15 rfl rfl ?_
        refine fc_if_eq (tgt := 36) C dX7_rankOf_16 (by decide) (fc_Rm (by omega)) (fun c16 => ?_) (fun c16 => ?_)
        · refine fc_aload_n C dX7_rankOf_36 rfl rfl ?_
          refine fc_iload_n C dX7_rankOf_37 rfl rfl ?_
          refine fh_callV (y := mX7_chips) C dX7_rankOf_38 ml_X7_126 mi_X7_chips im_X7_chips se_X7_chips (r_chips e1 ⟨z0, by omega⟩) rfl rfl (by decide) rfl (Nat.le_of_ble_eq_true rfl) (Nat.zero_le _) (Nat.zero_le _) rfl ?_
          refine fc_i2l C dX7_rankOf_41 (fc_Rm (by omega)) ?_
          exact nxt _ (by unfold v_rq; rw [if_neg (by omega)]; rfl)
        · refine fc_aload_n C dX7_rankOf_19 rfl rfl ?_
          refine fc_iload_n C dX7_rankOf_20 rfl rfl ?_
          refine fh_callV (y := mX7_valence) C dX7_rankOf_21 ml_X7_72 mi_X7_valence im_X7_valence se_X7_valence (r_valence e1 hn ⟨z0, by omega⟩) rfl rfl (by decide) rfl (Nat.le_of_ble_eq_true rfl) (Nat.zero_le _) (Nat.zero_le _) rfl ?_
          refine fc_iconst C dX7_rankOf_24 ?_
          refine fc_isub C dX7_rankOf_25 ?_
          refine fc_aload_n C dX7_rankOf_26 rfl rfl ?_
          refine fc_iload_n C dX7_rankOf_27 rfl rfl ?_
          refine fh_callV (y := mX7_chips) C dX7_rankOf_28 ml_X7_126 mi_X7_chips im_X7_chips se_X7_chips (r_chips e1 ⟨z0, by omega⟩) rfl rfl (by decide) rfl (Nat.le_of_ble_eq_true rfl) (Nat.zero_le _) (Nat.zero_le _) rfl ?_
          refine fc_isub C dX7_rankOf_31 ?_
          refine fc_i2l C dX7_rankOf_32 (fc_Rm (by omega)) ?_
          refine fc_goto (tgt := 42) C dX7_rankOf_33 (by decide) ?_
          exact nxt _ (by unfold v_rq; rw [if_pos (by omega)]; rfl)
  refine fc_iconst C dX7_rankOf_0 ?_
  refine fc_istore_n C dX7_rankOf_1 rfl (by decide) ?_
  exact lay 6 0 A (by omega) (by omega) (by omega) (fun p p0 p1 => by omega) (fun _ _ => rfl)
theorem v_dl_deg (hv : v_ok v) : fs_sum (v_dl v) (v 0).toNat = 2 * s_lc (v_L v) (v 0) - 2 * v 0 - fs_sum (v_c v) (v 0).toNat := by
  have hn := hv.n
  have h1 := z_lines2 hv.g (v 0).toNat (by omega)
  have h2 : s_lc (v_L v) (v 0) = (fs_sum (fun p => fs_sum (v_L v p) (v 0).toNat) (v 0).toNat).tdiv 2 := rfl
  rw [h1, Int.mul_tdiv_cancel_left _ (by decide)] at h2
  have h3 : fs_sum (v_dl v) (v 0).toNat = fs_sum (fun p => s_val (v_L v) (v 0) p - 2) (v 0).toNat - fs_sum (v_c v) (v 0).toNat := fs_sum_sub
  have h4 : fs_sum (fun p => s_val (v_L v) (v 0) p - 2) (v 0).toNat = fs_sum (fun p => fs_sum (v_L v p) (v 0).toNat) (v 0).toNat - fs_sum (fun _ => 2) (v 0).toNat := fs_sum_sub
  rw [fs_sum_k] at h4
  omega
theorem r_rankNow (e : A 144 = v) (hv : v_ok v) {w : Int} (hw : 0 ≤ w ∧ w ≤ 3) (hx : x_rk v w = 0) : fh_E mX7_rankNow 9 [vR 143, vI w] A F (fun rr A' F' => (∃ a : Int, rr = some (vI a) ∧ a_rk v w a) ∧ F' = F ∧ (∀ j : Nat, j ≠ 148 → j ≠ 149 → j ≠ 153 → j ≠ 154 → j ≠ 155 → A' j = A j)) := by
  have hn := hv.n
  refine fh_E.of mi_X7_rankNow (Nat.le_of_ble_eq_true rfl) ?_
  intro X C T
  refine fc_iload_n C dX7_rankNow_0 rfl rfl ?_
  refine fc_if_ne (tgt := 15) C dX7_rankNow_1 (by decide) (fc_Rm (by omega)) (fun c1 => ?_) (fun c1 => ?_)
  · refine fc_iload_n C dX7_rankNow_15 rfl rfl ?_
    refine fc_iconst C dX7_rankNow_16 ?_
    refine fc_icmp_ne (tgt := 35) C dX7_rankNow_17 (by decide) (fc_Rm (by omega)) (fc_Rm (by omega)) (fun c17 => ?_) (fun c17 => ?_)
    · have hc : s_J (v_L v) (v 0) ∧ fs_sum (v_rr v w) (v 0).toNat ≤ 12 := by
        unfold x_rk at hx
        rw [if_pos hw, if_pos (by omega)] at hx
        apply Classical.byContradiction
        intro z
        rw [if_neg (by rw [fc_ind_f z]; decide)] at hx
        omega
      have fin : ∀ d : Int, (d = 0 ∨ d = 1) → v_rq v d = v_rr v w → fc_W X 0 0 159 (fc_H A F) 46 [some (vR 143), some (vI w)] [vI d, vR 143] := by
        intro d hd ed
        refine fh_callVE (y := mX7_rankOf) C dX7_rankNow_46 ml_X7_269 mi_X7_rankOf im_X7_rankOf se_X7_rankOf (r_rankOf e hv hc.1 hd (by rw [ed]; exact hc.2)) rfl rfl (by decide) rfl (Nat.le_of_ble_eq_true rfl) (Nat.zero_le _) (Nat.zero_le _) rfl ?_
        rintro rr A1 F1 ⟨⟨k, rfl, hk⟩, rfl, frA⟩
        refine fc_eq (st' := [vI k]) rfl rfl ?_
        refine fc_iconst C dX7_rankNow_49 ?_
        refine fc_iadd C dX7_rankNow_50 ?_
        rw [ed] at hk
        exact fh_iretE C T dX7_rankNow_51 (Or.inl rfl) ⟨⟨_, rfl, fun z => by omega, fun z => by omega, fun _ => ⟨k, hk, rfl⟩⟩, rfl, frA⟩
      refine fc_aload_n C dX7_rankNow_35 rfl rfl ?_
      refine fc_iload_n C dX7_rankNow_36 rfl rfl ?_
      refine fc_iconst C dX7_rankNow_37 ?_
      refine fc_icmp_ne (tgt := 45) C dX7_rankNow_38 (by decide) (fc_Rm (by omega)) (fc_Rm (by omega)) (fun c38 => ?_) (fun c38 => ?_)
      · refine fc_iconst C dX7_rankNow_45 ?_
        exact fin 0 (by omega) (by unfold v_rq v_rr; rw [if_neg (by omega), if_pos (by omega)])
      · refine fc_iconst C dX7_rankNow_41 ?_
        refine fc_goto (tgt := 46) C dX7_rankNow_42 (by decide) ?_
        exact fin 1 (by omega) (by unfold v_rq v_rr; rw [if_pos rfl, if_neg (by omega)])
    · refine fc_aload_n C dX7_rankNow_20 rfl rfl ?_
      refine fh_callV (y := mX7_allLines) C dX7_rankNow_21 ml_X7_115 mi_X7_allLines im_X7_allLines se_X7_allLines (r_allLines e hn hv.g) rfl rfl (by decide) rfl (Nat.le_of_ble_eq_true rfl) (Nat.zero_le _) (Nat.zero_le _) rfl ?_
      refine fc_aload_n C dX7_rankNow_24 rfl rfl ?_
      refine fh_callV (y := mX7_many) C dX7_rankNow_25 ml_X7_60 mi_X7_many im_X7_many se_X7_many (r_many e) rfl rfl (by decide) rfl (Nat.le_of_ble_eq_true rfl) (Nat.zero_le _) (Nat.zero_le _) rfl ?_
      refine fc_isub C dX7_rankNow_28 ?_
      refine fc_bipush C dX7_rankNow_29 (by decide) ?_
      refine fc_iadd C dX7_rankNow_31 ?_
      refine fc_goto (tgt := 51) C dX7_rankNow_32 (by decide) ?_
      exact fh_iretE C T dX7_rankNow_51 (Or.inl rfl) ⟨⟨_, rfl, fun z => by omega, fun z => by omega, fun z => by omega⟩, rfl, fun _ _ _ _ _ _ => rfl⟩
  · refine fc_aload_n C dX7_rankNow_4 rfl rfl ?_
    refine fh_callV (y := mX7_degree) C dX7_rankNow_5 ml_X7_257 mi_X7_degree im_X7_degree se_X7_degree (r_degree e hn) rfl rfl (by decide) rfl (Nat.le_of_ble_eq_true rfl) (Nat.zero_le _) (Nat.zero_le _) rfl ?_
    refine fc_sipush C dX7_rankNow_8 (by decide) ?_
    refine fc_iadd C dX7_rankNow_11 ?_
    refine fc_goto (tgt := 51) C dX7_rankNow_12 (by decide) ?_
    exact fh_iretE C T dX7_rankNow_51 (Or.inl rfl) ⟨⟨_, rfl, fun _ => rfl, fun z => by omega, fun z => by omega⟩, rfl, fun _ _ _ _ _ _ => rfl⟩
theorem q_rank (RC : m_RC A F v ps st rf tx tl) {w : Int} (hw : fc_R w) : fh_E mX7_rank 10 [vR 143, vI w] A F (fun r A' F' => ∃ a : Int, (x_rk v w = 0 → a_rk v w a) ∧ m_an A F (x_rk v w) a v ps st rf tx tl r A' F') := by
  obtain ⟨e, hv, -, -, -, hm⟩ := id RC
  have hn := hv.n
  have hdc := fs_sum5 (f := v_c v) (n := v 0) (B := 999) (by omega) (by omega) (fun p p0 p1 => hv.2.2.2.1 p p0 (by omega))
  have hdd := v_dl_deg hv
  have hlc := s_lc_bd hv.g (n := v 0) (by omega) hn.2
  have hlc2 : 0 ≤ s_lc (v_L v) (v 0) ∧ s_lc (v_L v) (v 0) ≤ 75 := by
    unfold s_lc
    rw [Int.tdiv_eq_ediv_of_nonneg hlc.1]
    omega
  refine fh_E.of mi_X7_rank (Nat.le_of_ble_eq_true rfl) ?_
  intro X C T
  refine fc_iload_n C dX7_rank_0 rfl rfl ?_
  refine fc_i2l C dX7_rank_1 hw ?_
  refine fc_lconst (z := 0) C dX7_rank_2 rfl ?_
  refine fc_ldc2_w C dX7_rank_3 kc_X7_93 ?_
  refine fh_callS (y := mX7_in) C dX7_rank_6 ml_X7_64 mi_X7_in st_X7_in (r_in hw.L (fc_RLm (by omega)) (fc_RLm (by omega))) (by decide) rfl (Nat.le_of_ble_eq_true rfl) (Nat.zero_le _) (Nat.zero_le _) rfl ?_
  refine fc_if_ne (tgt := 19) C dX7_rank_9 (by decide) (fc_ind_R _) (fun c9 => ?_) (fun c9 => ?_)
  · have c9 := fc_ind_ne c9
    -- whether the degree is too high
    have mid : ∀ b : Int, (b = 0 ∨ b = 1) → (2 ≤ w → (b = 1 ↔ 12 < fs_sum (v_rr v w) (v 0).toNat)) → fc_W X 0 0 159 (fc_H A F) 52 [some (vR 143), some (vI w), none] [vI b] := by
      intro b hb hb2
      have go : x_rk v w = 0 → fc_W X 0 0 159 (fc_H A F) 78 [some (vR 143), some (vI w), some (vI b)] [] := by
        intro hx
        refine fc_aload_n C dX7_rank_78 rfl rfl ?_
        refine fc_iload_n C dX7_rank_79 rfl rfl ?_
        refine fh_callVE (y := mX7_rankNow) C dX7_rank_80 ml_X7_276 mi_X7_rankNow im_X7_rankNow se_X7_rankNow (r_rankNow e hv c9 hx) rfl rfl (by decide) rfl (Nat.le_of_ble_eq_true rfl) (Nat.zero_le _) (Nat.zero_le _) rfl ?_
        rintro rr A1 F1 ⟨⟨a, rfl, ha⟩, rfl, frA⟩
        refine fc_eq (st' := [vI a]) rfl rfl ?_
        exact fh_iretE C T dX7_rank_83 (Or.inl rfl) ⟨a, fun _ => ha, m_an.red RC (fun j j1 j2 j3 _ j5 j6 _ => frA j j1 j2 j3 j5 j6) hx rfl⟩
      have no : 2 ≤ w → ¬ (s_J (v_L v) (v 0) ∧ fs_sum (v_rr v w) (v 0).toNat ≤ 12) → fc_W X 0 0 159 (fc_H A F) 69 [some (vR 143), some (vI w), some (vI b)] [] := by
        intro h2 h
        have e3 : x_rk v w = -3 := by
          unfold x_rk
          rw [if_pos c9, if_pos h2, if_neg (by rw [fc_ind_f h]; decide)]
        refine fc_aload_n C dX7_rank_69 rfl rfl ?_
        refine fc_bipush C dX7_rank_70 (by decide) ?_
        refine fh_callV (y := mX7_refuses) C dX7_rank_72 ml_X7_80 mi_X7_refuses im_X7_refuses se_X7_refuses (r_refuses (Or.inr (Or.inl rfl))) rfl rfl (by decide) rfl (Nat.le_of_ble_eq_true rfl) (Nat.zero_le _) (Nat.zero_le _) rfl ?_
        refine fc_goto (tgt := 83) C dX7_rank_75 (by decide) ?_
        exact fh_iretE C T dX7_rank_83 (Or.inl rfl) ⟨0, fun z => by rw [e3] at z; omega, m_an.no RC e3 (Or.inr (Or.inl rfl))⟩
      refine fc_istore_n C dX7_rank_52 rfl (by decide) ?_
      refine fc_iload_n C dX7_rank_53 rfl rfl ?_
      refine fc_iconst C dX7_rank_54 ?_
      refine fc_icmp_le (tgt := 78) C dX7_rank_55 (by decide) (fc_Rm (by omega)) (fc_Rm (by omega)) (fun c55 => ?_) (fun c55 => ?_)
      · exact go (by unfold x_rk; rw [if_pos c9, if_neg (by omega)])
      · refine fc_aload_n C dX7_rank_58 rfl rfl ?_
        refine fh_callV (y := mX7_isJoined) C dX7_rank_59 ml_X7_118 mi_X7_isJoined im_X7_isJoined se_X7_isJoined (r_isJoined e hn hv.g) rfl rfl (by decide) rfl (Nat.le_of_ble_eq_true rfl) (Nat.zero_le _) (Nat.zero_le _) rfl ?_
        refine fc_if_eq (tgt := 69) C dX7_rank_62 (by decide) (fc_ind_R _) (fun c62 => ?_) (fun c62 => ?_)
        · have c62 := fc_ind_0 c62
          exact no (by omega) (fun h => c62 h.1)
        · have hJ := fc_ind_ne c62
          have hb3 := hb2 (by omega)
          refine fc_iload_n C dX7_rank_65 rfl rfl ?_
          refine fc_if_eq (tgt := 78) C dX7_rank_66 (by decide) (fc_Rm (by omega)) (fun c66 => ?_) (fun c66 => ?_)
          · exact go (by unfold x_rk; rw [if_pos c9, if_pos (by omega), if_pos (fc_ind_t ⟨hJ, by omega⟩)])
          · exact no (by omega) (fun h => by have := hb3.1 (by omega); omega)
    have r2 : w = 2 → v_rr v w = v_c v := fun z => by unfold v_rr; rw [if_pos z]
    have r3 : w = 3 → v_rr v w = v_dl v := fun z => by unfold v_rr; rw [if_neg (by omega)]
    have thr : (w ≠ 2 ∨ fs_sum (v_c v) (v 0).toNat ≤ 12) → fc_W X 0 0 159 (fc_H A F) 33 [some (vR 143), some (vI w), none] [] := by
      intro h2
      refine fc_iload_n C dX7_rank_33 rfl rfl ?_
      refine fc_iconst C dX7_rank_34 ?_
      refine fc_icmp_ne (tgt := 51) C dX7_rank_35 (by decide) (fc_Rm (by omega)) (fc_Rm (by omega)) (fun c35 => ?_) (fun c35 => ?_)
      · refine fc_iconst C dX7_rank_51 ?_
        refine mid 0 (by omega) (fun z => ?_)
        have ew : w = 2 := by omega
        rw [r2 ew]
        omega
      · have ew : w = 3 := by omega
        refine fc_aload_n C dX7_rank_38 rfl rfl ?_
        refine fh_callV (y := mX7_dualDegree) C dX7_rank_39 ml_X7_273 mi_X7_dualDegree im_X7_dualDegree se_X7_dualDegree (r_dualDegree e hv) rfl rfl (by decide) rfl (Nat.le_of_ble_eq_true rfl) (Nat.zero_le _) (Nat.zero_le _) rfl ?_
        refine fc_bipush C dX7_rank_42 (by decide) ?_
        refine fc_icmp_le (tgt := 51) C dX7_rank_44 (by decide) (fc_Rm (by omega)) (fc_Rm (by omega)) (fun c44 => ?_) (fun c44 => ?_)
        · refine fc_iconst C dX7_rank_51 ?_
          exact mid 0 (by omega) (fun z => by rw [r3 ew, hdd]; omega)
        · refine fc_iconst C dX7_rank_47 ?_
          refine fc_goto (tgt := 52) C dX7_rank_48 (by decide) ?_
          exact mid 1 (by omega) (fun z => by rw [r3 ew, hdd]; omega)
    refine fc_iload_n C dX7_rank_19 rfl rfl ?_
    refine fc_iconst C dX7_rank_20 ?_
    refine fc_icmp_ne (tgt := 33) C dX7_rank_21 (by decide) (fc_Rm (by omega)) (fc_Rm (by omega)) (fun c21 => ?_) (fun c21 => ?_)
    · exact thr (Or.inl c21)
    · have ew : w = 2 := by omega
      refine fc_aload_n C dX7_rank_24 rfl rfl ?_
      refine fh_callV (y := mX7_degree) C dX7_rank_25 ml_X7_257 mi_X7_degree im_X7_degree se_X7_degree (r_degree e hn) rfl rfl (by decide) rfl (Nat.le_of_ble_eq_true rfl) (Nat.zero_le _) (Nat.zero_le _) rfl ?_
      refine fc_bipush C dX7_rank_28 (by decide) ?_
      refine fc_icmp_gt (tgt := 47) C dX7_rank_30 (by decide) (fc_Rm (by omega)) (fc_Rm (by omega)) (fun c30 => ?_) (fun c30 => ?_)
      · refine fc_iconst C dX7_rank_47 ?_
        refine fc_goto (tgt := 52) C dX7_rank_48 (by decide) ?_
        exact mid 1 (by omega) (fun z => by rw [r2 ew]; omega)
      · exact thr (Or.inr (by omega))
  · have c9 := fc_ind_0 c9
    refine fc_aload_n C dX7_rank_12 rfl rfl ?_
    refine fc_bipush C dX7_rank_13 (by decide) ?_
    refine fh_callV (y := mX7_refuses) C dX7_rank_15 ml_X7_80 mi_X7_refuses im_X7_refuses se_X7_refuses (r_refuses (Or.inl rfl)) rfl rfl (by decide) rfl (Nat.le_of_ble_eq_true rfl) (Nat.zero_le _) (Nat.zero_le _) rfl ?_
    exact fh_iretE C T dX7_rank_18 (Or.inl rfl) ⟨0, fun z => by rw [show x_rk v w = -2 from if_neg c9] at z; omega, m_an.no RC (if_neg c9) (Or.inl rfl)⟩
end REF13
