/-! the loop -/
section LOOP
variable {b L cs sl : Nat} {X : fc_X} {nm : String} {xs : Nat → Int32}
theorem l_loop (C : fc_C X RL cL_law 4 1000 600000 7302250 nm) (SC : fl_S X b L xs) (hL : L ≤ 2048) (hcs : cs ≤ 600000) (hsl : sl ≤ 7302250) (fin : ∀ (A : Nat → Int → Int) (F : Nat → Nat → Int) (ls : List (Option fc_AV)), fl_W b X cs sl 159 (fc_H A F) 926 ls []) : ∀ (q : Nat) (i t : Int) (A : Nat → Int → Int) (F : Nat → Nat → Int), 0 ≤ i → i ≤ 4096 → (L : Int) - i < q → 0 ≤ t → t ≤ i → j_I t A F → fl_W b X cs sl 159 (fc_H A F) 18 [none, some (vR 0), some (vR 143), some (vI i)] [] := by
  intro q
  induction q with
  | zero =>
    intro i t A F i0 i1 i2 t0 t1 J
    refine fl_iload_n (x := i) C dL_law_18 rfl rfl ?_
    refine fl_len C SC dL_law_19 dL_law_20 ?_
    refine fl_iconst C dL_law_21 ?_
    refine fl_isub C dL_law_22 ?_
    refine fl_icmp_gt (tgt := 926) C dL_law_23 rfl (fc_Rm (by omega)) (fc_Rm (by omega)) (fun _ => fin A F _) (fun q => ?_)
    exfalso
    omega
  | succ q ih =>
    intro i t A F i0 i1 i2 t0 t1 J
    refine fl_iload_n (x := i) C dL_law_18 rfl rfl ?_
    refine fl_len C SC dL_law_19 dL_law_20 ?_
    refine fl_iconst C dL_law_21 ?_
    refine fl_isub C dL_law_22 ?_
    refine fl_icmp_gt (tgt := 926) C dL_law_23 rfl (fc_Rm (by omega)) (fc_Rm (by omega)) (fun _ => fin A F _) (fun hle => ?_)
    have next : ∀ (s : Int) (A2 : Nat → Int → Int) (F2 : Nat → Nat → Int), 0 ≤ s → s ≤ i + 4 → j_I s A2 F2 → fl_W b X cs sl 159 (fc_H A2 F2) 920 [none, some (vR 0), some (vR 143), some (vI i)] [] := by
      intro s A2 F2 s0 s1 J2
      refine fl_iinc (x := i) C dL_law_920 rfl (by decide) (Or.inr (Or.inr rfl)) ?_
      refine fl_eq (ls' := [none, some (vR 0), some (vR 143), some (vI (i + 4))]) rfl rfl ?_
      refine fl_goto (tgt := 18) C dL_law_923 rfl ?_
      exact ih (i + 4) s A2 F2 (by omega) (by omega) (by omega) s0 s1 J2
    have nx := fun (A2 : Nat → Int → Int) (F2 : Nat → Nat → Int) (J2 : j_I (t + 1) A2 F2) => next (t + 1) A2 F2 (by omega) (by omega) J2
    refine fl_arg0 C SC dL_law_26 dL_law_27 dL_law_28 rfl i0 (by omega) hL ?_
    refine fl_bipush C dL_law_29 rfl ?_
    refine fl_iand C dL_law_31 ?_
    obtain ⟨y, ey⟩ : ∃ y, y = fc_and (xs i.toNat).toInt 63 := ⟨_, rfl⟩
    have hy : fc_R y := by rw [ey]; exact x_R _
    rw [← ey]
    clear ey
    by_cases out : y < 0 ∨ 32 < y
    · exact fl_tableOut (tgt := 920) C dL_law_32 hy out rfl (next t A F t0 (by omega) J)
    · have hyy : y = 0 ∨ y = 1 ∨ y = 2 ∨ y = 3 ∨ y = 4 ∨ y = 5 ∨ y = 6 ∨ y = 7 ∨ y = 8 ∨ y = 9 ∨ y = 10 ∨ y = 11 ∨ y = 12 ∨ y = 13 ∨ y = 14 ∨ y = 15 ∨ y = 16 ∨ y = 17 ∨ y = 18 ∨ y = 19 ∨ y = 20 ∨ y = 21 ∨ y = 22 ∨ y = 23 ∨ y = 24 ∨ y = 25 ∨ y = 26 ∨ y = 27 ∨ y = 28 ∨ y = 29 ∨ y = 30 ∨ y = 31 ∨ y = 32 := by omega
      rcases hyy with rfl | rfl | rfl | rfl | rfl | rfl | rfl | rfl | rfl | rfl | rfl | rfl | rfl | rfl | rfl | rfl | rfl | rfl | rfl | rfl | rfl | rfl | rfl | rfl | rfl | rfl | rfl | rfl | rfl | rfl | rfl | rfl | rfl
      · exact fl_tableIn (tgt := 180) C dL_law_32 hy (by decide) (by decide) rfl rfl (lc_0 C SC rfl rfl rfl i0 (by omega) hL hcs hsl t0 (by omega) J nx)
      · exact fl_tableIn (tgt := 203) C dL_law_32 hy (by decide) (by decide) rfl rfl (lc_1 C SC rfl rfl rfl i0 (by omega) hL hcs hsl t0 (by omega) J nx)
      · exact fl_tableIn (tgt := 246) C dL_law_32 hy (by decide) (by decide) rfl rfl (lc_2 C SC rfl rfl rfl i0 (by omega) hL hcs hsl t0 (by omega) J nx)
      · exact fl_tableIn (tgt := 269) C dL_law_32 hy (by decide) (by decide) rfl rfl (lc_3 C SC rfl rfl rfl i0 (by omega) hL hcs hsl t0 (by omega) J nx)
      · exact fl_tableIn (tgt := 302) C dL_law_32 hy (by decide) (by decide) rfl rfl (lc_4 C SC rfl rfl rfl i0 (by omega) hL hcs hsl t0 (by omega) J nx)
      · exact fl_tableIn (tgt := 315) C dL_law_32 hy (by decide) (by decide) rfl rfl (lc_5 C SC rfl rfl rfl i0 (by omega) hL hcs hsl t0 (by omega) J nx)
      · exact fl_tableIn (tgt := 348) C dL_law_32 hy (by decide) (by decide) rfl rfl (lc_6 C SC rfl rfl rfl i0 (by omega) hL hcs hsl t0 (by omega) J nx)
      · exact fl_tableIn (tgt := 381) C dL_law_32 hy (by decide) (by decide) rfl rfl (lc_7 C SC rfl rfl rfl i0 (by omega) hL hcs hsl t0 (by omega) J nx)
      · exact fl_tableIn (tgt := 404) C dL_law_32 hy (by decide) (by decide) rfl rfl (lc_8 C SC rfl rfl rfl i0 (by omega) hL hcs hsl t0 (by omega) J nx)
      · exact fl_tableIn (tgt := 427) C dL_law_32 hy (by decide) (by decide) rfl rfl (lc_9 C SC rfl rfl rfl i0 (by omega) hL hcs hsl t0 (by omega) J nx)
      · exact fl_tableIn (tgt := 450) C dL_law_32 hy (by decide) (by decide) rfl rfl (lc_10 C SC rfl rfl rfl i0 (by omega) hL hcs hsl t0 (by omega) J nx)
      · exact fl_tableIn (tgt := 463) C dL_law_32 hy (by decide) (by decide) rfl rfl (lc_11 C SC rfl rfl rfl i0 (by omega) hL hcs hsl t0 (by omega) J nx)
      · exact fl_tableIn (tgt := 486) C dL_law_32 hy (by decide) (by decide) rfl rfl (lc_12 C SC rfl rfl rfl i0 (by omega) hL hcs hsl t0 (by omega) J nx)
      · exact fl_tableIn (tgt := 519) C dL_law_32 hy (by decide) (by decide) rfl rfl (lc_13 C SC rfl rfl rfl i0 (by omega) hL hcs hsl t0 (by omega) J nx)
      · exact fl_tableIn (tgt := 532) C dL_law_32 hy (by decide) (by decide) rfl rfl (lc_14 C SC rfl rfl rfl i0 (by omega) hL hcs hsl t0 (by omega) J nx)
      · exact fl_tableIn (tgt := 555) C dL_law_32 hy (by decide) (by decide) rfl rfl (lc_15 C SC rfl rfl rfl i0 (by omega) hL hcs hsl t0 (by omega) J nx)
      · exact fl_tableIn (tgt := 568) C dL_law_32 hy (by decide) (by decide) rfl rfl (lc_16 C SC rfl rfl rfl i0 (by omega) hL hcs hsl t0 (by omega) J nx)
      · exact fl_tableIn (tgt := 591) C dL_law_32 hy (by decide) (by decide) rfl rfl (lc_17 C SC rfl rfl rfl i0 (by omega) hL hcs hsl t0 (by omega) J nx)
      · exact fl_tableIn (tgt := 614) C dL_law_32 hy (by decide) (by decide) rfl rfl (lc_18 C SC rfl rfl rfl i0 (by omega) hL hcs hsl t0 (by omega) J nx)
      · exact fl_tableIn (tgt := 637) C dL_law_32 hy (by decide) (by decide) rfl rfl (lc_19 C SC rfl rfl rfl i0 (by omega) hL hcs hsl t0 (by omega) J nx)
      · exact fl_tableIn (tgt := 650) C dL_law_32 hy (by decide) (by decide) rfl rfl (lc_20 C SC rfl rfl rfl i0 (by omega) hL hcs hsl t0 (by omega) J nx)
      · exact fl_tableIn (tgt := 673) C dL_law_32 hy (by decide) (by decide) rfl rfl (lc_21 C SC rfl rfl rfl i0 (by omega) hL hcs hsl t0 (by omega) J nx)
      · exact fl_tableIn (tgt := 696) C dL_law_32 hy (by decide) (by decide) rfl rfl (lc_22 C SC rfl rfl rfl i0 (by omega) hL hcs hsl t0 (by omega) J nx)
      · exact fl_tableIn (tgt := 729) C dL_law_32 hy (by decide) (by decide) rfl rfl (lc_23 C SC rfl rfl rfl i0 (by omega) hL hcs hsl t0 (by omega) J nx)
      · exact fl_tableIn (tgt := 742) C dL_law_32 hy (by decide) (by decide) rfl rfl (lc_24 C SC rfl rfl rfl i0 (by omega) hL hcs hsl t0 (by omega) J nx)
      · exact fl_tableIn (tgt := 765) C dL_law_32 hy (by decide) (by decide) rfl rfl (lc_25 C SC rfl rfl rfl i0 (by omega) hL hcs hsl t0 (by omega) J nx)
      · exact fl_tableIn (tgt := 788) C dL_law_32 hy (by decide) (by decide) rfl rfl (lc_26 C SC rfl rfl rfl i0 (by omega) hL hcs hsl t0 (by omega) J nx)
      · exact fl_tableIn (tgt := 821) C dL_law_32 hy (by decide) (by decide) rfl rfl (lc_27 C SC rfl rfl rfl i0 (by omega) hL hcs hsl t0 (by omega) J nx)
      · exact fl_tableIn (tgt := 844) C dL_law_32 hy (by decide) (by decide) rfl rfl (lc_28 C SC rfl rfl rfl i0 (by omega) hL hcs hsl t0 (by omega) J nx)
      · exact fl_tableIn (tgt := 857) C dL_law_32 hy (by decide) (by decide) rfl rfl (lc_29 C SC rfl rfl rfl i0 (by omega) hL hcs hsl t0 (by omega) J nx)
      · exact fl_tableIn (tgt := 870) C dL_law_32 hy (by decide) (by decide) rfl rfl (lc_30 C SC rfl rfl rfl i0 (by omega) hL hcs hsl t0 (by omega) J nx)
      · exact fl_tableIn (tgt := 883) C dL_law_32 hy (by decide) (by decide) rfl rfl (lc_31 C SC rfl rfl rfl i0 (by omega) hL hcs hsl t0 (by omega) J nx)
      · exact fl_tableIn (tgt := 906) C dL_law_32 hy (by decide) (by decide) rfl rfl (lc_32 C SC rfl rfl rfl i0 (by omega) hL hcs hsl t0 (by omega) J nx)
end LOOP
