/-! what divides all minors of one size: kept by exchanges and by adding multiples -/
def u_i (s a : Int) : Prop := 0 ≤ a ∧ a < s
def u_D1 (d : Int) (U : Int → Int → Int) (s : Int) : Prop := ∀ a e : Int, u_i s a → u_i s e → d ∣ U a e
def u_D2 (d : Int) (U : Int → Int → Int) (s : Int) : Prop := ∀ a b e f : Int, u_i s a → u_i s b → u_i s e → u_i s f → d ∣ m2 U a b e f
def u_D3 (d : Int) (U : Int → Int → Int) (s : Int) : Prop := ∀ a b c e f g : Int, u_i s a → u_i s b → u_i s c → u_i s e → u_i s f → u_i s g → d ∣ m3 U a b c e f g
def u_D4 (d : Int) (U : Int → Int → Int) (s : Int) : Prop := ∀ a b c o e f g h : Int, u_i s a → u_i s b → u_i s c → u_i s o → u_i s e → u_i s f → u_i s g → u_i s h → d ∣ m4 U a b c o e f g h
def u_DD (U U' : Int → Int → Int) (s : Int) : Prop := ∀ d : Int, (u_D1 d U s → u_D1 d U' s) ∧ (u_D2 d U s → u_D2 d U' s) ∧ (u_D3 d U s → u_D3 d U' s) ∧ (u_D4 d U s → u_D4 d U' s)
def u_tr (U : Int → Int → Int) : Int → Int → Int := fun i j => U j i
theorem u_DD.rf {U : Int → Int → Int} {s : Int} : u_DD U U s := fun _ => ⟨id, id, id, id⟩
theorem u_DD.tr {U V W : Int → Int → Int} {s : Int} (h : u_DD U V s) (g : u_DD V W s) : u_DD U W s := fun d => ⟨fun x => (g d).1 ((h d).1 x), fun x => (g d).2.1 ((h d).2.1 x), fun x => (g d).2.2.1 ((h d).2.2.1 x), fun x => (g d).2.2.2 ((h d).2.2.2 x)⟩
theorem m2_tr {U : Int → Int → Int} {a b e f : Int} : m2 (u_tr U) a b e f = m2 U e f a b := by unfold m2 u_tr; grind
theorem m3_tr {U : Int → Int → Int} {a b c e f g : Int} : m3 (u_tr U) a b c e f g = m3 U e f g a b c := by unfold m3 m2 u_tr; grind
theorem m4_tr {U : Int → Int → Int} {a b c o e f g h : Int} : m4 (u_tr U) a b c o e f g h = m4 U e f g h a b c o := by unfold m4 m3 m2 u_tr; grind
theorem u_DD_tr {U : Int → Int → Int} {s : Int} : u_DD U (u_tr U) s := fun d => ⟨fun H a e ha he => H e a he ha, fun H a b e f ha hb he hf => by rw [m2_tr]; exact H e f a b he hf ha hb, fun H a b c e f g ha hb hc he hf hg => by rw [m3_tr]; exact H e f g a b c he hf hg ha hb hc, fun H a b c o e f g h ha hb hc ho he hf hg hh => by rw [m4_tr]; exact H e f g h a b c o he hf hg hh ha hb hc ho⟩
/-- equal entries -/
theorem u_DD_cg {U V : Int → Int → Int} {s : Int} (h : ∀ i j : Int, u_i s i → u_i s j → V i j = U i j) : u_DD U V s := fun d => ⟨fun H a e ha he => by rw [h a e ha he]; exact H a e ha he, fun H a b e f ha hb he hf => by
    have := H a b e f ha hb he hf
    unfold m2 at this ⊢
    rw [h a e ha he, h b f hb hf, h a f ha hf, h b e hb he]
    exact this, fun H a b c e f g ha hb hc he hf hg => by
    have := H a b c e f g ha hb hc he hf hg
    unfold m3 m2 at this ⊢
    rw [h a e ha he, h a f ha hf, h a g ha hg, h b e hb he, h b f hb hf, h b g hb hg, h c e hc he, h c f hc hf, h c g hc hg]
    exact this, fun H a b c o e f g l ha hb hc ho he hf hg hl => by
    have := H a b c o e f g l ha hb hc ho he hf hg hl
    unfold m4 m3 m2 at this ⊢
    rw [h a e ha he, h a f ha hf, h a g ha hg, h a l ha hl, h b e hb he, h b f hb hf, h b g hb hg, h b l hb hl, h c e hc he, h c f hc hf, h c g hc hg, h c l hc hl, h o e ho he, h o f ho hf, h o g ho hg, h o l ho hl]
    exact this⟩
/-- rows moved about -/
theorem u_DD_mv {U : Int → Int → Int} {s : Int} {p : Int → Int} (hp : ∀ i : Int, u_i s i → u_i s (p i)) : u_DD U (fun i j => U (p i) j) s := fun d => ⟨fun H a e ha he => H (p a) e (hp a ha) he, fun H a b e f ha hb he hf => H (p a) (p b) e f (hp a ha) (hp b hb) he hf, fun H a b c e f g ha hb hc he hf hg => H (p a) (p b) (p c) e f g (hp a ha) (hp b hb) (hp c hc) he hf hg, fun H a b c o e f g l ha hb hc ho he hf hg hl => H (p a) (p b) (p c) (p o) e f g l (hp a ha) (hp b hb) (hp c hc) (hp o ho) he hf hg hl⟩
theorem m2_row {U : Int → Int → Int} {k : Int} {l : Int → Int} {a b e f : Int} : m2 (fun i j => U i j + l i * U k j) a b e f = m2 U a b e f + l a * m2 U k b e f + l b * m2 U a k e f := by unfold m2; grind
theorem m3_row {U : Int → Int → Int} {k : Int} {l : Int → Int} {a b c e f g : Int} : m3 (fun i j => U i j + l i * U k j) a b c e f g = m3 U a b c e f g + l a * m3 U k b c e f g + l b * m3 U a k c e f g + l c * m3 U a b k e f g := by unfold m3 m2; grind
set_option maxHeartbeats 4000000 in
theorem m4_row {U : Int → Int → Int} {k : Int} {l : Int → Int} {a b c o e f g h : Int} : m4 (fun i j => U i j + l i * U k j) a b c o e f g h = m4 U a b c o e f g h + l a * m4 U k b c o e f g h + l b * m4 U a k c o e f g h + l c * m4 U a b k o e f g h + l o * m4 U a b c k e f g h := by unfold m4 m3 m2; grind
/-- multiples of row k added -/
theorem u_DD_row {U : Int → Int → Int} {s k : Int} (hk : u_i s k) (l : Int → Int) : u_DD U (fun i j => U i j + l i * U k j) s := fun d => ⟨fun H a e ha he => Int.dvd_add (H a e ha he) (Int.dvd_mul_of_dvd_right (H k e hk he)), fun H a b e f ha hb he hf => by
    rw [m2_row]
    exact Int.dvd_add (Int.dvd_add (H a b e f ha hb he hf) (Int.dvd_mul_of_dvd_right (H k b e f hk hb he hf))) (Int.dvd_mul_of_dvd_right (H a k e f ha hk he hf)), fun H a b c e f g ha hb hc he hf hg => by
    rw [m3_row]
    exact Int.dvd_add (Int.dvd_add (Int.dvd_add (H a b c e f g ha hb hc he hf hg) (Int.dvd_mul_of_dvd_right (H k b c e f g hk hb hc he hf hg))) (Int.dvd_mul_of_dvd_right (H a k c e f g ha hk hc he hf hg))) (Int.dvd_mul_of_dvd_right (H a b k e f g ha hb hk he hf hg)), fun H a b c o e f g h ha hb hc ho he hf hg hh => by
    rw [m4_row]
    exact Int.dvd_add (Int.dvd_add (Int.dvd_add (Int.dvd_add (H a b c o e f g h ha hb hc ho he hf hg hh) (Int.dvd_mul_of_dvd_right (H k b c o e f g h hk hb hc ho he hf hg hh))) (Int.dvd_mul_of_dvd_right (H a k c o e f g h ha hk hc ho he hf hg hh))) (Int.dvd_mul_of_dvd_right (H a b k o e f g h ha hb hk ho he hf hg hh))) (Int.dvd_mul_of_dvd_right (H a b c k e f g h ha hb hc hk he hf hg hh))⟩
theorem u_DD_col {U : Int → Int → Int} {s k : Int} (hk : u_i s k) (l : Int → Int) : u_DD U (fun i j => U i j + l j * U i k) s :=
  u_DD_tr.tr ((u_DD_row (U := u_tr U) hk l).tr (u_DD_tr (U := fun i j => u_tr U i j + l i * u_tr U k j)))
/-- both ways -/
def u_EE (U U' : Int → Int → Int) (s : Int) : Prop := u_DD U U' s ∧ u_DD U' U s
theorem u_EE.rf {U : Int → Int → Int} {s : Int} : u_EE U U s := ⟨u_DD.rf, u_DD.rf⟩
theorem u_EE.tr {U V W : Int → Int → Int} {s : Int} (h : u_EE U V s) (g : u_EE V W s) : u_EE U W s := ⟨h.1.tr g.1, g.2.tr h.2⟩
theorem u_EE_cg {U V : Int → Int → Int} {s : Int} (h : ∀ i j : Int, u_i s i → u_i s j → V i j = U i j) : u_EE U V s := ⟨u_DD_cg h, u_DD_cg (fun i j hi hj => (h i j hi hj).symm)⟩
theorem u_EE_row {U : Int → Int → Int} {s k : Int} (hk : u_i s k) {l : Int → Int} (h0 : l k = 0) : u_EE U (fun i j => U i j + l i * U k j) s := by
  refine ⟨u_DD_row hk l, (u_DD_row (U := fun i j => U i j + l i * U k j) hk (fun i => - l i)).tr (u_DD_cg (fun i j _ _ => ?_))⟩
  show U i j = U i j + l i * U k j + - l i * (U k j + l k * U k j)
  rw [h0]
  grind
theorem u_EE_col {U : Int → Int → Int} {s k : Int} (hk : u_i s k) {l : Int → Int} (h0 : l k = 0) : u_EE U (fun i j => U i j + l j * U i k) s := by
  refine ⟨u_DD_col hk l, (u_DD_col (U := fun i j => U i j + l j * U i k) hk (fun i => - l i)).tr (u_DD_cg (fun i j _ _ => ?_))⟩
  show U i j = U i j + l j * U i k + - l j * (U i k + l k * U i k)
  rw [h0]
  grind
theorem u_EE_mv {U : Int → Int → Int} {s : Int} {p : Int → Int} (hp : ∀ i : Int, u_i s i → u_i s (p i)) (hq : ∀ i : Int, p (p i) = i) : u_EE U (fun i j => U (p i) j) s :=
  ⟨u_DD_mv hp, (u_DD_mv (U := fun i j => U (p i) j) hp).tr (u_DD_cg (fun i j _ _ => by show U i j = U (p (p i)) j; rw [hq]))⟩
theorem u_EE_tr {U : Int → Int → Int} {s : Int} : u_EE U (u_tr U) s := ⟨u_DD_tr, u_DD_tr (U := u_tr U)⟩
def u_pm (a b i : Int) : Int := if i = a then b else if i = b then a else i
theorem u_pm_pm {a b i : Int} : u_pm a b (u_pm a b i) = i := by
  unfold u_pm
  repeat' split
  all_goals omega
theorem u_EE_sw {U : Int → Int → Int} {s k x y : Int} (hk : u_i s k) (hx : u_i s x) (hy : u_i s y) : u_EE U (u_sw U k x y) s := by
  have r : u_EE U (b_sw U k x) s := (u_EE_mv (U := U) (p := u_pm k x) (fun i hi => by unfold u_pm; split; exact hx; split; exact hk; exact hi) (fun i => u_pm_pm)).tr (u_EE_cg (fun i j _ _ => by
    unfold b_sw u_pm
    split
    · rfl
    · split <;> rfl))
  have c : ∀ V : Int → Int → Int, u_EE V (b_sc V k y) s := fun V => u_EE_tr.tr ((u_EE_mv (U := u_tr V) (p := u_pm k y) (fun i hi => by unfold u_pm; split; exact hy; split; exact hk; exact hi) (fun i => u_pm_pm)).tr (u_EE_tr.tr (u_EE_cg (fun i j _ _ => by
    show (if j = k then V i y else if j = y then V i k else V i j) = V i (if j = k then y else if j = y then k else j)
    split
    · rfl
    · split <;> rfl))))
  exact r.tr (c _)
/-- rows and columns before k: only the diagonal -/
def u_dg (U : Int → Int → Int) (s k : Int) : Prop := ∀ j i : Int, 0 ≤ j → j < k → u_i s i → i ≠ j → U i j = 0 ∧ U j i = 0
theorem u_EE_c {U : Int → Int → Int} {s k : Int} (hk : u_i s k) (hd : u_dg U s k) : u_EE U (u_c U k) s := by
  have r := u_EE_row (U := U) hk (l := fun i => if k < i then - u_e U k i else 0) (by show (if k < k then _ else _) = (0 : Int); rw [if_neg (by omega)])
  have c := u_EE_col (U := fun i j => U i j + (if k < i then - u_e U k i else 0) * U k j) hk (l := fun j => if k < j then - u_f U k j else 0) (by show (if k < k then _ else _) = (0 : Int); rw [if_neg (by omega)])
  refine r.tr (c.tr (u_EE_cg (fun i j hi hj => ?_)))
  show (if k ≤ i ∧ k ≤ j then u_z U k i j else U i j) = U i j + (if k < i then - u_e U k i else 0) * U k j + (if k < j then - u_f U k j else 0) * (U i k + (if k < i then - u_e U k i else 0) * U k k)
  have ee : k ≤ i → (if k < i then - u_e U k i else 0) = - u_e U k i := fun h => by
    split
    · rfl
    · unfold u_e; rw [if_pos (by omega)]; rfl
  have ff : k ≤ j → (if k < j then - u_f U k j else 0) = - u_f U k j := fun h => by
    split
    · rfl
    · unfold u_f; rw [if_pos (by omega)]; rfl
  by_cases c1 : k ≤ i
  · by_cases c2 : k ≤ j
    · rw [if_pos ⟨c1, c2⟩, ee c1, ff c2]
      unfold u_z u_y
      grind
    · rw [if_neg (fun h => c2 h.2), if_neg (show ¬ k < j by omega), (hd j k hj.1 (by omega) hk (by omega)).1, Int.mul_zero, Int.zero_mul, Int.add_zero, Int.add_zero]
  · rw [if_neg (fun h => c1 h.1), if_neg (show ¬ k < i by omega), (hd i k hi.1 (by omega) hk (by omega)).2, Int.zero_mul, Int.zero_mul, Int.add_zero, Int.add_zero, Int.mul_zero, Int.add_zero]
theorem u_EE_add {U : Int → Int → Int} {s k u : Int} (hk : u_i s k) (hu : u_i s u) (hku : k < u) (hd : u_dg U s k) : u_EE U (u_add U k u) s := by
  have r := u_EE_row (U := U) hu (l := fun i => if i = k then 1 else 0) (by show (if u = k then _ else _) = (0 : Int); rw [if_neg (by omega)])
  refine r.tr (u_EE_cg (fun i j hi hj => ?_))
  show (if i = k ∧ k ≤ j then U k j + U u j else U i j) = U i j + (if i = k then 1 else 0) * U u j
  by_cases c1 : i = k
  · by_cases c2 : k ≤ j
    · rw [if_pos ⟨c1, c2⟩, if_pos c1, Int.one_mul, c1]
    · rw [if_neg (fun h => c2 h.2), if_pos c1, Int.one_mul, (hd j u hj.1 (by omega) hu (by omega)).1, Int.add_zero]
  · rw [if_neg (fun h => c1 h.1), if_neg c1, Int.zero_mul, Int.add_zero]
