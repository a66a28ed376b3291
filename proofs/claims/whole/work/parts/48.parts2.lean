/-! public: parts -/
def pt_f (p : Nat → Int) : Nat → Int
  | 0 => 0
  | k + 1 => if 1 < p (k + 1) then pt_f p k + 1 else pt_f p k
/-- what parts answers when the m parts are p 1 .. p m, those of 1 left out -/
def pt_a (p : Nat → Int) (m : Nat) (i ans : Int) : Prop := (∃ k : Nat, k < m ∧ 1 < p (k + 1) ∧ pt_f p k = i ∧ ans = p (k + 1)) ∨ ((∀ k : Nat, k < m → ¬ (1 < p (k + 1) ∧ pt_f p k = i)) ∧ ans = if i = -1 then pt_f p m else -1)
theorem pt_f_s {p : Nat → Int} {k : Nat} : pt_f p (k + 1) = if 1 < p (k + 1) then pt_f p k + 1 else pt_f p k := rfl
theorem pt_f_mono {p : Nat → Int} {k : Nat} : ∀ d : Nat, pt_f p k ≤ pt_f p (k + d)
  | 0 => Int.le_refl _
  | d + 1 => by
    have ih := pt_f_mono (p := p) (k := k) d
    show _ ≤ pt_f p (k + d + 1)
    rw [pt_f_s]
    split <;> omega
theorem pt_f_bd {p : Nat → Int} : ∀ k : Nat, 0 ≤ pt_f p k ∧ pt_f p k ≤ k
  | 0 => by show 0 ≤ (0 : Int) ∧ (0 : Int) ≤ ((0 : Nat) : Int); omega
  | k + 1 => by
    have ih := pt_f_bd (p := p) k
    rw [pt_f_s]
    split <;> omega
theorem pt_f_congr {p p' : Nat → Int} : ∀ {k : Nat}, (∀ j : Nat, 1 ≤ j → j ≤ k → p j = p' j) → pt_f p k = pt_f p' k
  | 0, _ => rfl
  | k + 1, h => by
    rw [pt_f_s, pt_f_s, pt_f_congr (k := k) (fun j j0 j1 => h j j0 (by omega)), h (k + 1) (by omega) (by omega)]
theorem pt_a_uniq {p p' : Nat → Int} {m : Nat} (h : ∀ j : Nat, 1 ≤ j → j ≤ m → p j = p' j) {i a a' : Int} (H : pt_a p m i a) (H' : pt_a p' m i a') : a = a' := by
  have hf : ∀ k : Nat, k ≤ m → pt_f p k = pt_f p' k := fun k hk => pt_f_congr (fun j j0 j1 => h j j0 (by omega))
  rcases H with ⟨k, k1, k2, k3, k4⟩ | ⟨k1, k2⟩ <;> rcases H' with ⟨j, j1, j2, j3, j4⟩ | ⟨j1, j2⟩
  · have e : k = j := by
      have key : ∀ {k j : Nat}, k < j → j < m → 1 < p (k + 1) → pt_f p k = i → pt_f p j = i → False := by
        intro k j hl hm q1 q2 q3
        have := pt_f_mono (p := p) (k := k + 1) (j - (k + 1))
        rw [show k + 1 + (j - (k + 1)) = j by omega, pt_f_s, if_pos q1] at this
        omega
      rw [← hf j (by omega)] at j3
      rw [← h (j + 1) (by omega) (by omega)] at j2
      by_cases c1 : k < j
      · exact absurd (key c1 j1 k2 k3 j3) id
      · by_cases c2 : j < k
        · exact absurd (key c2 k1 j2 j3 k3) id
        · omega
    subst e
    rw [k4, j4, h (k + 1) (by omega) (by omega)]
  · exact absurd ⟨by rw [← h (k + 1) (by omega) (by omega)]; exact k2, by rw [← hf k (by omega)]; exact k3⟩ (j1 k k1)
  · exact absurd ⟨by rw [h (j + 1) (by omega) (by omega)]; exact j2, by rw [hf j (by omega)]; exact j3⟩ (k1 j j1)
  · rw [k2, j2, hf m (by omega)]
/-- G k: what divides all minors of k rows and columns, G 0 = 1 -/
def d_G (L : Int → Int → Int) (n : Int) (G : Nat → Nat) (m : Nat) : Prop := G 0 = 1 ∧ ∀ k : Nat, 1 ≤ k → k ≤ m → G k ≤ 2373046875 ∧ ∀ d : Nat, d ∣ G k ↔ ∀ R S : Int, d_vd n 0 k R → d_vd n 0 k S → (d : Int) ∣ d_mi (s_M L n) n R n.toNat S
def pt_p (G : Nat → Nat) : Nat → Int := fun k => if 0 < G (k - 1) then ((G k : Nat) : Int).tdiv (G (k - 1) : Nat) else 1
noncomputable def x_prt (v : Int → Int) (i : Int) : Int := if -1 ≤ i then x_J v else -2
/-- a number that just the common divisors of a finite row divide -/
theorem g_ex {f : Nat → Int} : ∀ m : Nat, ∃ g : Nat, ∀ d : Nat, d ∣ g ↔ ∀ j : Nat, j < m → (d : Int) ∣ f j
  | 0 => ⟨0, fun d => ⟨fun _ j hj => by omega, fun _ => Nat.dvd_zero d⟩⟩
  | m + 1 => by
    obtain ⟨g, hg⟩ := g_ex (f := f) m
    refine ⟨Int.gcd (g : Int) (f m), fun d => ?_⟩
    rw [ig_dvd, Int.natCast_dvd_natCast, hg d]
    constructor
    · intro h j hj
      by_cases e : j = m
      · rw [e]; exact h.2
      · exact h.1 j (by omega)
    · intro h
      exact ⟨fun j hj => h j (by omega), h m (by omega)⟩
theorem g_le {f : Nat → Int} {B : Nat} {g : Nat} {m : Nat} (hg : ∀ d : Nat, d ∣ g ↔ ∀ j : Nat, j < m → (d : Int) ∣ f j) (hb : ∀ j : Nat, j < m → (f j).natAbs ≤ B) : g ≤ B ∨ ∀ j : Nat, j < m → f j = 0 := by
  rcases Classical.em (∀ j : Nat, j < m → f j = 0) with h | h
  · exact Or.inr h
  · refine Or.inl ?_
    rcases Classical.not_forall.1 h with ⟨j, hj⟩
    rcases Classical.not_imp.1 hj with ⟨hjm, hj0⟩
    have h1 := (hg g).1 (Nat.dvd_refl g) j hjm
    have h2 := Nat.le_of_dvd (by omega) (Int.ofNat_dvd_left.1 h1)
    have := hb j hjm
    omega
theorem d_G1_ex {L : Int → Int → Int} {n : Int} (hg : g_ok L) (hn : 2 ≤ n ∧ n ≤ 5) (k : Nat) : ∃ g : Nat, g ≤ 2373046875 ∧ ∀ d : Nat, d ∣ g ↔ ∀ R S : Int, d_vd n 0 k R → d_vd n 0 k S → (d : Int) ∣ d_mi (s_M L n) n R n.toNat S := by
  obtain ⟨g, h⟩ := g_ex (f := fun j => if fc_ind (d_vd n 0 k ((j / 32 : Nat) : Int) ∧ d_vd n 0 k ((j % 32 : Nat) : Int)) = 1 then d_mi (s_M L n) n ((j / 32 : Nat) : Int) n.toNat ((j % 32 : Nat) : Int) else 0) 1024
  have key : ∀ d : Nat, d ∣ g ↔ ∀ R S : Int, d_vd n 0 k R → d_vd n 0 k S → (d : Int) ∣ d_mi (s_M L n) n R n.toNat S := fun d => by
    rw [h d]
    constructor
    · intro q R S hR hS
      have := q (32 * R.toNat + S.toNat) (by have := hR.1; have := hR.2.1; have := hS.1; have := hS.2.1; omega)
      have e1 : (((32 * R.toNat + S.toNat) / 32 : Nat) : Int) = R := by have := hR.1; have := hS.1; have := hS.2.1; omega
      have e2 : (((32 * R.toNat + S.toNat) % 32 : Nat) : Int) = S := by have := hR.1; have := hS.1; have := hS.2.1; omega
      rw [e1, e2, if_pos (fc_ind_t ⟨hR, hS⟩)] at this
      exact this
    · intro q j hj
      split
      · rename_i c
        have := fc_ind_1 c
        exact q _ _ this.1 this.2
      · exact Int.dvd_zero _
  by_cases hz : ∀ j : Nat, j < 1024 → (if fc_ind (d_vd n 0 k ((j / 32 : Nat) : Int) ∧ d_vd n 0 k ((j % 32 : Nat) : Int)) = 1 then d_mi (s_M L n) n ((j / 32 : Nat) : Int) n.toNat ((j % 32 : Nat) : Int) else 0) = 0
  · refine ⟨0, by omega, fun d => ⟨fun _ => (key d).1 ((h d).2 (fun j hj => by rw [hz j hj]; exact Int.dvd_zero _)), fun _ => Nat.dvd_zero d⟩⟩
  · refine ⟨g, ?_, key⟩
    have := g_le (B := 2373046875) h (fun j hj => by
      have hb := d_mi_bd (M := s_M L n) (R := ((j / 32 : Nat) : Int)) (n := n) (by omega) (s_M_bd hg hn) n.toNat ((j % 32 : Nat) : Int) (by omega)
      have := p75 hn
      split
      · omega
      · decide)
    exact this.resolve_right hz
theorem d_G_ex {L : Int → Int → Int} {n : Int} (hg : g_ok L) (hn : 2 ≤ n ∧ n ≤ 5) (m k : Nat) (G : Nat → Nat) (h : d_G L n G k) : ∃ G' : Nat → Nat, (k ≤ m → d_G L n G' m) ∧ ∀ j : Nat, j ≤ k → G' j = G j := by
  have hex := fun j => d_G1_ex (L := L) hg hn j
  refine ⟨fun j => if j ≤ k then G j else Classical.choose (hex j), fun _ => ⟨by show (if 0 ≤ k then G 0 else _) = 1; rw [if_pos (by omega)]; exact h.1, fun j j0 j1 => ?_⟩, fun j hj => if_pos hj⟩
  show (if j ≤ k then G j else Classical.choose (hex j)) ≤ _ ∧ ∀ d : Nat, d ∣ (if j ≤ k then G j else Classical.choose (hex j)) ↔ _
  by_cases c : j ≤ k
  · rw [if_pos c]; exact h.2 j j0 c
  · rw [if_neg c]; exact Classical.choose_spec (hex j)
section PARTS2
variable {A : Nat → Int → Int} {F : Nat → Nat → Int} {v : Int → Int} {ps : Int → Int → Int} {st : Int} {rf tx : Int → Int} {tl : Int}
theorem o_parts (RC : k_RC A F v ps st rf tx tl) {i : Int} (hi : fc_R i) : fh_E mX6_parts 8 [vR 0, vI i] A F (fun r A' F' => ∃ (G : Nat → Nat) (ans : Int), (x_prt v i = 0 → d_G (v_L v) (v 0) G (v 0 - 1).toNat ∧ pt_a (pt_p G) (v 0 - 1).toNat i ans) ∧ k_an A F (x_prt v i) ans v ps st rf tx tl r A' F') := by
  obtain ⟨E, hv, H, R⟩ := id RC
  have hn := hv.n
  refine fh_E.of mi_X6_parts (Nat.le_of_ble_eq_true rfl) ?_
  intro X C T
  refine fc_iload_n C dX6_parts_0 rfl rfl ?_
  refine fc_iconst C dX6_parts_1 ?_
  refine fc_icmp_ge (tgt := 12) C dX6_parts_2 (by decide) (hi) (fc_Rm (by omega)) (fun c2 => ?_) (fun c2 => ?_)
  · have hxx : x_prt v i = x_J v := if_pos c2
    refine fc_aload_n C dX6_parts_12 rfl rfl ?_
    refine fh_getf C dX6_parts_13 fl_X6_24 rfl rfl ?_
    refine fh_callV (y := mX3_isJoined) C dX6_parts_16 ml_X6_98 mi_X3_isJoined im_X3_isJoined se_X3_isJoined (c_isJoined (E.net hv) hv.g) rfl rfl (by decide) rfl (Nat.le_of_ble_eq_true rfl) (Nat.zero_le _) (Nat.zero_le _) rfl ?_
    refine fc_if_ne (tgt := 29) C dX6_parts_19 (by decide) (fc_ind_R _) (fun c19 => ?_) (fun c19 => ?_)
    · have c19 := fc_ind_ne c19
      refine fc_aload_n C dX6_parts_29 rfl rfl ?_
      refine fh_getf C dX6_parts_30 fl_X6_29 rfl rfl ?_
      refine fc_aload_n C dX6_parts_33 rfl rfl ?_
      refine fh_getf C dX6_parts_34 fl_X6_24 rfl rfl ?_
      refine fc_iconst C dX6_parts_37 ?_
      refine fh_callVE (y := mX1_take) C dX6_parts_38 ml_X6_155 mi_X1_take im_X1_take se_X1_take (c_take (E.net hv) (q := 0)) rfl rfl (by decide) rfl (Nat.le_of_ble_eq_true rfl) (Nat.zero_le _) (Nat.zero_le _) rfl ?_
      rintro r A1 F1 ⟨rfl, eF1, M1, fr1⟩
      refine fc_eq (st' := []) rfl rfl ?_
      have g := RC.gr (A' := A1) (F' := F1) (fun i a b c => ⟨fr1 i (by omega), by rw [eF1, ff_n (by omega), ff_n (by omega)]⟩)
      have e0 : F1 3 0 = v 0 := g.1.1.1
      have hx0 : x_prt v i = 0 := by rw [hxx]; exact x_J_0 c19
      have loop : ∀ (m : Nat) (k : Nat) (G : Nat → Nat) (y1 y2 y3 y4 : Option fc_AV), (k : Int) + 1 ≤ v 0 → v 0 - k < m → d_G (v_L v) (v 0) G k → G k ≤ 2373046875 → (∀ j : Nat, j < k → ¬ (1 < pt_p G (j + 1) ∧ pt_f (pt_p G) j = i)) → fc_W X 0 0 159 (fc_H A1 F1) 48 [some (vR 0), some (vI i), some (vI (pt_f (pt_p G) k)), some (vL ((G k : Nat) : Int)), none, some (vI ((k : Int) + 1)), y1, y2, y3, y4] [] := by
        intro m
        induction m with
        | zero => intro k G y1 y2 y3 y4 z0 z1; exfalso; omega
        | succ m ih =>
          intro k G y1 y2 y3 y4 z0 z1 hG hGb hno
          have hfb := pt_f_bd (p := pt_p G) k
          refine fc_iload C dX6_parts_48 rfl ?_
          refine fc_aload_n C dX6_parts_50 rfl rfl ?_
          refine fh_getf C dX6_parts_51 fl_X6_24 rfl rfl ?_
          refine fh_getf C dX6_parts_54 fl_X6_54 rfl rfl ?_
          refine fc_icmp_ge (tgt := 115) C dX6_parts_57 (by decide) (fc_Rm (by omega)) (fc_Rm (by omega)) (fun c57 => ?_) (fun c57 => ?_)
          · have ek : k = (v 0 - 1).toNat := by omega
            subst ek
            refine fc_iload_n C dX6_parts_115 rfl rfl ?_
            refine fc_iconst C dX6_parts_116 ?_
            refine fc_icmp_ne (tgt := 124) C dX6_parts_117 (by decide) (hi) (fc_Rm (by omega)) (fun c117 => ?_) (fun c117 => ?_)
            · refine fc_iconst C dX6_parts_124 ?_
              exact fh_iretE C T dX6_parts_125 (Or.inl rfl) ⟨G, -1, fun _ => ⟨hG, Or.inr ⟨hno, by rw [if_neg c117]⟩⟩, k_an.yes g.1 g.2 hx0 rfl⟩
            · refine fc_iload_n C dX6_parts_120 rfl rfl ?_
              refine fc_goto (tgt := 125) C dX6_parts_121 (by decide) ?_
              exact fh_iretE C T dX6_parts_125 (Or.inl rfl) ⟨G, pt_f (pt_p G) (v 0 - 1).toNat, fun _ => ⟨hG, Or.inr ⟨hno, by rw [if_pos (by omega)]⟩⟩, k_an.yes g.1 g.2 hx0 rfl⟩
          · refine fc_aload_n C dX6_parts_60 rfl rfl ?_
            refine fh_getf C dX6_parts_61 fl_X6_29 rfl rfl ?_
            refine fc_iload C dX6_parts_64 rfl ?_
            refine fh_callVE (y := mX1_commonDivisor) C dX6_parts_66 ml_X6_165 mi_X1_commonDivisor im_X1_commonDivisor se_X1_commonDivisor (c_commonDivisor M1 hv.g hn ⟨by omega, by omega⟩ (z := (k : Int) + 1) (fc_Rm (by omega))) rfl rfl (by decide) rfl (Nat.le_of_ble_eq_true rfl) (Nat.zero_le _) (Nat.zero_le _) rfl ?_
            rintro r A2 F2 ⟨rfl, rfl, d, rfl, db, hd⟩
            refine fc_eq (st' := [vL (d : Int)]) rfl rfl ?_
            -- G with d at k + 1
            have hG2 : ∃ G2 : Nat → Nat, (∀ j : Nat, j ≤ k → G2 j = G j) ∧ G2 (k + 1) = d := ⟨fun j => if j = k + 1 then d else G j, fun j hj => if_neg (by omega), if_pos rfl⟩
            obtain ⟨G2, h1, h2⟩ := hG2
            have hGG : d_G (v_L v) (v 0) G2 (k + 1) := by
              refine ⟨by rw [h1 0 (by omega)]; exact hG.1, fun j j0 j1 => ?_⟩
              by_cases e : j = k + 1
              · rw [e, h2, show ((k + 1 : Nat) : Int) = (k : Int) + 1 by omega]
                exact ⟨db, hd⟩
              · rw [h1 j (by omega)]
                exact hG.2 j j0 (by omega)
            have hpp : ∀ j : Nat, 1 ≤ j → j ≤ k → pt_p G2 j = pt_p G j := fun j j0 j1 => by
              unfold pt_p
              rw [h1 j j1, h1 (j - 1) (by omega)]
            have hff : ∀ j : Nat, j ≤ k → pt_f (pt_p G2) j = pt_f (pt_p G) j := fun j hj => pt_f_congr (fun l l0 l1 => hpp l l0 (by omega))
            have hno2 : ∀ j : Nat, j < k → ¬ (1 < pt_p G2 (j + 1) ∧ pt_f (pt_p G2) j = i) := fun j hj => by
              rw [hpp (j + 1) (by omega) (by omega), hff j (by omega)]
              exact hno j hj
            have hpk : pt_p G2 (k + 1) = if 0 < G k then ((d : Nat) : Int).tdiv (G k : Nat) else 1 := by
              show (if 0 < G2 (k + 1 - 1) then ((G2 (k + 1) : Nat) : Int).tdiv (G2 (k + 1 - 1) : Nat) else 1) = _
              rw [show k + 1 - 1 = k by omega, h1 k (by omega), h2]
            have hpb : 0 ≤ pt_p G2 (k + 1) ∧ pt_p G2 (k + 1) ≤ 2373046875 := by
              rw [hpk]
              split
              · rename_i c
                have a1 : 0 ≤ ((d : Nat) : Int).tdiv (G k : Nat) := Int.tdiv_nonneg (by omega) (by omega)
                have a2 : ((d : Nat) : Int).tdiv (G k : Nat) ≤ (d : Int) := by
                  rw [Int.tdiv_eq_ediv_of_nonneg (by omega)]
                  exact Int.ediv_le_self _ (by omega)
                omega
              · omega
            -- behind the part
            have nxt : fc_W X 0 0 159 (fc_H A2 F2) 85 [some (vR 0), some (vI i), some (vI (pt_f (pt_p G) k)), some (vL ((G k : Nat) : Int)), none, some (vI ((k : Int) + 1)), some (vL (d : Int)), none, y3, y4] [vL (pt_p G2 (k + 1))] := by
              have back : ∀ (u : Int), u = pt_f (pt_p G2) (k + 1) → ¬ (1 < pt_p G2 (k + 1) ∧ pt_f (pt_p G2) k = i) → fc_W X 0 0 159 (fc_H A2 F2) 109 [some (vR 0), some (vI i), some (vI u), some (vL (d : Int)), none, some (vI ((k : Int) + 1)), some (vL (d : Int)), none, some (vL (pt_p G2 (k + 1))), none] [] := by
                intro u hu hk
                refine fc_iinc C dX6_parts_109 rfl (by decide) ?_
                refine fc_goto (tgt := 48) C dX6_parts_112 (by decide) ?_
                have := ih (k + 1) G2 (some (vL (d : Int))) none (some (vL (pt_p G2 (k + 1)))) none (by omega) (by omega) hGG (by rw [h2]; exact db) (fun j hj => by
                  by_cases e : j = k
                  · rw [e]; exact hk
                  · exact hno2 j (by omega))
                rw [h2, ← hu] at this
                exact this
              refine fc_lstore C dX6_parts_85 (by decide) ?_
              refine fc_lload C dX6_parts_87 rfl ?_
              refine fc_lstore_n C dX6_parts_89 rfl (by decide) ?_
              refine fc_lload C dX6_parts_90 rfl ?_
              refine fc_lconst (z := 1) C dX6_parts_92 rfl ?_
              refine fc_lcmp C dX6_parts_93 (fc_RLm (by omega)) (fc_RLm (by omega)) ?_
              refine fc_if_le (tgt := 109) C dX6_parts_94 (by decide) (fc_cmp_R _ _) (fun c94 => ?_) (fun c94 => ?_)
              · have hle : ¬ 1 < pt_p G2 (k + 1) := fun z => by have := fc_cmp_gt.2 z; omega
                refine back _ ?_ (fun z => hle z.1)
                rw [pt_f_s, if_neg hle, hff k (by omega)]
              · have hgt := fc_cmp_gt.1 c94
                refine fc_iload_n C dX6_parts_97 rfl rfl ?_
                refine fc_iload_n C dX6_parts_98 rfl rfl ?_
                refine fc_icmp_ne (tgt := 106) C dX6_parts_99 (by decide) (fc_Rm (by omega)) (hi) (fun c99 => ?_) (fun c99 => ?_)
                · refine fc_iinc C dX6_parts_106 rfl (by decide) ?_
                  refine back _ ?_ (fun z => c99 (by rw [← hff k (by omega)]; exact z.2))
                  rw [pt_f_s, if_pos hgt, hff k (by omega)]
                · refine fc_lload C dX6_parts_102 rfl ?_
                  refine fc_l2i C dX6_parts_104 ?_
                  have c99 : pt_f (pt_p G) k = i := by omega
                  -- the rest of the divisors are not asked for
                  obtain ⟨G3, q1, q2⟩ := d_G_ex (L := v_L v) (n := v 0) hv.g hn (v 0 - 1).toNat (k + 1) G2 hGG
                  have qf : ∀ j : Nat, j ≤ k + 1 → 1 ≤ j → pt_p G3 j = pt_p G2 j := fun j hj j0 => by
                    unfold pt_p
                    rw [q2 j hj, q2 (j - 1) (by omega)]
                  refine fh_iretE C T dX6_parts_105 (Or.inl rfl) ⟨G3, pt_p G2 (k + 1), fun _ => ⟨q1 (by omega), Or.inl ⟨k, by omega, ?_, ?_, ?_⟩⟩, k_an.yes g.1 g.2 hx0 rfl⟩
                  · rw [qf (k + 1) (by omega) (by omega)]; exact hgt
                  · rw [pt_f_congr (p' := pt_p G2) (fun j j0 j1 => qf j (by omega) j0), hff k (by omega)]; exact c99
                  · rw [qf (k + 1) (by omega) (by omega)]
            refine fc_lstore C dX6_parts_69 (by decide) ?_
            refine fc_lload_n C dX6_parts_71 rfl rfl ?_
            refine fc_lconst (z := 0) C dX6_parts_72 rfl ?_
            refine fc_lcmp C dX6_parts_73 (fc_RLm (by omega)) (fc_RLm (by omega)) ?_
            refine fc_if_le (tgt := 84) C dX6_parts_74 (by decide) (fc_cmp_R _ _) (fun c74 => ?_) (fun c74 => ?_)
            · have hle : ¬ 0 < G k := fun z => by have := fc_cmp_gt.2 (show (0 : Int) < (G k : Int) by omega); omega
              refine fc_lconst (z := 1) C dX6_parts_84 rfl ?_
              refine fc_eq (st' := [vL (pt_p G2 (k + 1))]) rfl (by rw [hpk, if_neg hle]) nxt
            · have hgt : 0 < G k := by have := fc_cmp_gt.1 c74; omega
              refine fc_lload C dX6_parts_77 rfl ?_
              refine fc_lload_n C dX6_parts_79 rfl rfl ?_
              refine fc_ldiv C dX6_parts_80 (fc_RLm (by omega)) (fc_RLm (by omega)) (by omega) ?_
              refine fc_goto (tgt := 85) C dX6_parts_81 (by decide) ?_
              refine fc_eq (st' := [vL (pt_p G2 (k + 1))]) rfl (by rw [hpk, if_pos hgt]) nxt
      refine fc_iconst C dX6_parts_41 ?_
      refine fc_istore_n C dX6_parts_42 rfl (by decide) ?_
      refine fc_lconst (z := 1) C dX6_parts_43 rfl ?_
      refine fc_lstore_n C dX6_parts_44 rfl (by decide) ?_
      refine fc_iconst C dX6_parts_45 ?_
      refine fc_istore C dX6_parts_46 (by decide) ?_
      have := loop 6 0 (fun _ => 1) none none none none (by omega) (by omega) ⟨rfl, fun k k0 k1 => by omega⟩ (by decide) (fun j hj => by omega)
      exact this
    · have c19 := fc_ind_0 c19
      have e3 : x_prt v i = -3 := by rw [hxx]; exact x_J_3 c19
      refine fc_aload_n C dX6_parts_22 rfl rfl ?_
      refine fc_bipush C dX6_parts_23 (by decide) ?_
      refine fh_callV (y := mX6_refuse) C dX6_parts_25 ml_X6_80 mi_X6_refuse im_X6_refuse se_X6_refuse (c_refuse (Or.inr (Or.inl rfl))) rfl rfl (by decide) rfl (Nat.le_of_ble_eq_true rfl) (Nat.zero_le _) (Nat.zero_le _) rfl ?_
      exact fh_iretE C T dX6_parts_28 (Or.inl rfl) ⟨fun _ => 1, 0, fun q => by rw [e3] at q; omega, k_an.no RC e3 (Or.inr (Or.inl rfl))⟩
  · have e2 : x_prt v i = -2 := if_neg (by omega)
    refine fc_aload_n C dX6_parts_5 rfl rfl ?_
    refine fc_bipush C dX6_parts_6 (by decide) ?_
    refine fh_callV (y := mX6_refuse) C dX6_parts_8 ml_X6_80 mi_X6_refuse im_X6_refuse se_X6_refuse (c_refuse (Or.inl rfl)) rfl rfl (by decide) rfl (Nat.le_of_ble_eq_true rfl) (Nat.zero_le _) (Nat.zero_le _) rfl ?_
    exact fh_iretE C T dX6_parts_11 (Or.inl rfl) ⟨fun _ => 1, 0, fun q => by rw [e2] at q; omega, k_an.no RC e2 (Or.inl rfl)⟩
end PARTS2
