/-! the constructors (written by geninit.py) -/
def i_F : Nat → Nat → Int := fun i k => if i = 17 then (if k = 6 then 2 else 0) else if i = 122 then -1 else if i = 139 then (if k = 7 then -1 else if k = 8 then 3 else 0) else if i = 36 then 0 else if i = 143 then 0 else 3
def i_A : Nat → Int → Int := fun i => if i = 144 then fc_set (fun _ => 0) 0 3 else fun _ => 0
theorem iz_L : Cond.initialized RL ∈ fc_tbl := fc_mem (i := 0) (by decide +kernel) rfl
theorem iz_X6 : Cond.initialized RX6 ∈ fc_tbl := fc_mem (i := 1) (by decide +kernel) rfl
theorem iz_X0 : Cond.initialized RX0 ∈ fc_tbl := fc_mem (i := 2) (by decide +kernel) rfl
theorem iz_X3 : Cond.initialized RX3 ∈ fc_tbl := fc_mem (i := 3) (by decide +kernel) rfl
theorem iz_X1 : Cond.initialized RX1 ∈ fc_tbl := fc_mem (i := 4) (by decide +kernel) rfl
theorem iz_X2 : Cond.initialized RX2 ∈ fc_tbl := fc_mem (i := 5) (by decide +kernel) rfl
theorem iz_X4 : Cond.initialized RX4 ∈ fc_tbl := fc_mem (i := 6) (by decide +kernel) rfl
theorem iz_X5 : Cond.initialized RX5 ∈ fc_tbl := fc_mem (i := 7) (by decide +kernel) rfl
theorem iz_X7 : Cond.initialized RX7 ∈ fc_tbl := fc_mem (i := 8) (by decide +kernel) rfl
theorem lk_L_7 : Cond.classLink RL 7 RX6 ∈ fc_tbl := fc_mem (i := 13) (by decide +kernel) rfl
theorem ns_X6 : Cond.instantiable RX6 8 ∈ fc_tbl := fc_mem (i := 14) (by decide +kernel) rfl
theorem lk_X6_13 : Cond.classLink RX6 13 RX0 ∈ fc_tbl := fc_mem (i := 21) (by decide +kernel) rfl
theorem ns_X0 : Cond.instantiable RX0 4 ∈ fc_tbl := fc_mem (i := 22) (by decide +kernel) rfl
theorem lk_X0_9 : Cond.classLink RX0 9 RX3 ∈ fc_tbl := fc_mem (i := 27) (by decide +kernel) rfl
theorem ns_X3 : Cond.instantiable RX3 6 ∈ fc_tbl := fc_mem (i := 28) (by decide +kernel) rfl
theorem lk_X3_15 : Cond.classLink RX3 15 ("[" ++ (FieldType.array .int).toString) ∈ fc_tbl := fc_mem (i := 33) (by decide +kernel) rfl
theorem lk_X0_18 : Cond.classLink RX0 18 RX1 ∈ fc_tbl := fc_mem (i := 65) (by decide +kernel) rfl
theorem ns_X1 : Cond.instantiable RX1 9 ∈ fc_tbl := fc_mem (i := 66) (by decide +kernel) rfl
theorem lk_X1_9 : Cond.classLink RX1 9 ("[" ++ (FieldType.array .int).toString) ∈ fc_tbl := fc_mem (i := 71) (by decide +kernel) rfl
theorem lk_X1_16 : Cond.classLink RX1 16 ("[" ++ (FieldType.array .long).toString) ∈ fc_tbl := fc_mem (i := 72) (by decide +kernel) rfl
theorem lk_X6_30 : Cond.classLink RX6 30 RX2 ∈ fc_tbl := fc_mem (i := 119) (by decide +kernel) rfl
theorem ns_X2 : Cond.instantiable RX2 3 ∈ fc_tbl := fc_mem (i := 120) (by decide +kernel) rfl
theorem lk_X2_9 : Cond.classLink RX2 9 RX3 ∈ fc_tbl := fc_mem (i := 125) (by decide +kernel) rfl
theorem lk_X6_37 : Cond.classLink RX6 37 RX4 ∈ fc_tbl := fc_mem (i := 139) (by decide +kernel) rfl
theorem ns_X4 : Cond.instantiable RX4 3 ∈ fc_tbl := fc_mem (i := 140) (by decide +kernel) rfl
theorem lk_X4_9 : Cond.classLink RX4 9 ("[" ++ (FieldType.array .int).toString) ∈ fc_tbl := fc_mem (i := 145) (by decide +kernel) rfl
theorem lk_X6_44 : Cond.classLink RX6 44 RX5 ∈ fc_tbl := fc_mem (i := 156) (by decide +kernel) rfl
theorem ns_X5 : Cond.instantiable RX5 9 ∈ fc_tbl := fc_mem (i := 157) (by decide +kernel) rfl
theorem lk_L_10 : Cond.classLink RL 10 RX7 ∈ fc_tbl := fc_mem (i := 745) (by decide +kernel) rfl
theorem ns_X7 : Cond.instantiable RX7 21 ∈ fc_tbl := fc_mem (i := 746) (by decide +kernel) rfl
theorem ao_i : Cond.arrayOver (.array .int) ∈ fc_tbl := fc_mem (i := 34) (by decide +kernel) rfl
theorem ao_j : Cond.arrayOver (.array .long) ∈ fc_tbl := fc_mem (i := 73) (by decide +kernel) rfl
theorem ao_p : Cond.arrayOver (.object RX3) ∈ fc_tbl := fc_mem (i := 126) (by decide +kernel) rfl
theorem ac_i : Cond.arrayClass .int ∈ fc_tbl := fc_mem (i := 64) (by decide +kernel) rfl
theorem ac_j : Cond.arrayClass .long ∈ fc_tbl := fc_mem (i := 103) (by decide +kernel) rfl
theorem oi_2 : Cond.instanceMethod objectInit ∈ fc_tbl := fc_mem (i := 19) (by decide +kernel) rfl
theorem oi_3 : Cond.code objectInit ⟨#[0xb1]⟩ 1 none ∈ fc_tbl := fc_mem (i := 20) (by decide +kernel) rfl
theorem oi_X6 : Cond.methodLink RX6 1 objectInit ∈ fc_tbl := fc_mem (i := 18) (by decide +kernel) rfl
theorem oi_X0 : Cond.methodLink RX0 3 objectInit ∈ fc_tbl := fc_mem (i := 26) (by decide +kernel) rfl
theorem oi_X3 : Cond.methodLink RX3 3 objectInit ∈ fc_tbl := fc_mem (i := 32) (by decide +kernel) rfl
theorem oi_X1 : Cond.methodLink RX1 3 objectInit ∈ fc_tbl := fc_mem (i := 70) (by decide +kernel) rfl
theorem oi_X2 : Cond.methodLink RX2 3 objectInit ∈ fc_tbl := fc_mem (i := 124) (by decide +kernel) rfl
theorem oi_X4 : Cond.methodLink RX4 3 objectInit ∈ fc_tbl := fc_mem (i := 144) (by decide +kernel) rfl
theorem oi_X5 : Cond.methodLink RX5 3 objectInit ∈ fc_tbl := fc_mem (i := 161) (by decide +kernel) rfl
theorem oi_X7 : Cond.methodLink RX7 1 objectInit ∈ fc_tbl := fc_mem (i := 750) (by decide +kernel) rfl
theorem df_X0 (b j : Nat) (hj : j < 4) : defaultValue (tyX0 j) = vp_V (List.map (fc_v b) [vN, vN, vN, vN]) j := by
  have hj : j = 0 ∨ j = 1 ∨ j = 2 ∨ j = 3 := by omega
  rcases hj with rfl | rfl | rfl | rfl <;> rfl
theorem df_X1 (b j : Nat) (hj : j < 9) : defaultValue (tyX1 j) = vp_V (List.map (fc_v b) [vN, vN, vN, vN, vN, vN, vI 0, vI 0, vL 0]) j := by
  have hj : j = 0 ∨ j = 1 ∨ j = 2 ∨ j = 3 ∨ j = 4 ∨ j = 5 ∨ j = 6 ∨ j = 7 ∨ j = 8 := by omega
  rcases hj with rfl | rfl | rfl | rfl | rfl | rfl | rfl | rfl | rfl <;> rfl
theorem df_X2 (b j : Nat) (hj : j < 3) : defaultValue (tyX2 j) = vp_V (List.map (fc_v b) [vN, vI 0, vI 0]) j := by
  have hj : j = 0 ∨ j = 1 ∨ j = 2 := by omega
  rcases hj with rfl | rfl | rfl <;> rfl
theorem df_X3 (b j : Nat) (hj : j < 6) : defaultValue (tyX3 j) = vp_V (List.map (fc_v b) [vI 0, vN, vN, vN, vN, vN]) j := by
  have hj : j = 0 ∨ j = 1 ∨ j = 2 ∨ j = 3 ∨ j = 4 ∨ j = 5 := by omega
  rcases hj with rfl | rfl | rfl | rfl | rfl | rfl <;> rfl
theorem df_X4 (b j : Nat) (hj : j < 3) : defaultValue (tyX4 j) = vp_V (List.map (fc_v b) [vN, vN, vI 0]) j := by
  have hj : j = 0 ∨ j = 1 ∨ j = 2 := by omega
  rcases hj with rfl | rfl | rfl <;> rfl
theorem df_X5 (b j : Nat) (hj : j < 9) : defaultValue (tyX5 j) = vp_V (List.map (fc_v b) [vN, vI 0, vN, vI 0, vI 0, vI 0, vI 0, vI 0, vI 0]) j := by
  have hj : j = 0 ∨ j = 1 ∨ j = 2 ∨ j = 3 ∨ j = 4 ∨ j = 5 ∨ j = 6 ∨ j = 7 ∨ j = 8 := by omega
  rcases hj with rfl | rfl | rfl | rfl | rfl | rfl | rfl | rfl | rfl <;> rfl
theorem df_X6 (b j : Nat) (hj : j < 8) : defaultValue (tyX6 j) = vp_V (List.map (fc_v b) [vN, vN, vN, vN, vN, vN, vN, vN]) j := by
  have hj : j = 0 ∨ j = 1 ∨ j = 2 ∨ j = 3 ∨ j = 4 ∨ j = 5 ∨ j = 6 ∨ j = 7 := by omega
  rcases hj with rfl | rfl | rfl | rfl | rfl | rfl | rfl | rfl <;> rfl
theorem df_X7 (b j : Nat) (hj : j < 21) : defaultValue (tyX7 j) = vp_V (List.map (fc_v b) [vN, vN, vN, vI 0, vN, vN, vN, vN, vN, vN, vN, vN, vN, vN, vN, vI 0, vI 0, vI 0, vN, vI 0, vI 0]) j := by
  have hj : j = 0 ∨ j = 1 ∨ j = 2 ∨ j = 3 ∨ j = 4 ∨ j = 5 ∨ j = 6 ∨ j = 7 ∨ j = 8 ∨ j = 9 ∨ j = 10 ∨ j = 11 ∨ j = 12 ∨ j = 13 ∨ j = 14 ∨ j = 15 ∨ j = 16 ∨ j = 17 ∨ j = 18 ∨ j = 19 ∨ j = 20 := by omega
  rcases hj with rfl | rfl | rfl | rfl | rfl | rfl | rfl | rfl | rfl | rfl | rfl | rfl | rfl | rfl | rfl | rfl | rfl | rfl | rfl | rfl | rfl <;> rfl
section INI
variable {X : fc_X} {own : String} {cc : ByteArray} {nL d nc ns : Nat} {nm : String} {cs sl n : Nat} {hh : Nat → fc_AC} {pc : Nat} {ls : List (Option fc_AV)} {st : List fc_AV}
theorem fi_putf {i c k ix : Nat} {ty : FieldType} {fin nest : Bool} {fs fs' : List fc_AV} {v : fc_AV} (C : fc_C X own cc nL d nc ns nm) (dg : decode cc pc = .ok (.putfield ix, 3)) (F : fc_FL own ix c k ty fin nest) (hi : i < n) (hk : k < fs.length) (hf : fc_fit ty v) (hfn : fin = false ∨ (fin = true ∧ nm = "<init>" ∧ nest = false)) (hs : fs.set k v = fs') (kk : fc_W X cs sl n (fc_up hh i (cO c fs')) (pc + 3) ls st) : fc_W X cs sl n (fc_up hh i (cO c fs)) pc ls (v :: vR i :: st) := by
  subst hs
  refine fc_putf C dg F hi (fc_up_s _ _ _) hk hf hfn ?_
  rw [fc_up_up]
  exact kk
end INI
set_option maxRecDepth 4000 in
theorem i_X3_3 {hh : Nat → fc_AC} (H : ∀ j : Nat, 3 ≤ j → j < 17 → hh j = fc_H i_A i_F j) : fc_M mX3_init 1 13 61 [vR 3] 4 (fc_up hh 3 (cO 3 [vI 0, vN, vN, vN, vN, vN])) none 17 hh := by
  refine fc_M.of mi_X3_init (Nat.le_of_ble_eq_true rfl) ?_
  intro X C T
  refine fc_aload_n (x := 3) C dX3_init_0 rfl rfl ?_
  refine fc_objInit C dX3_init_1 oi_X3 oi_2 oi_3 (by decide) (by decide) ?_
  refine fc_aload_n (x := 3) C dX3_init_4 rfl rfl ?_
  refine fc_iconst C dX3_init_5 ?_
  refine fi_putf (fs' := [vI 3, vN, vN, vN, vN, vN]) C dX3_init_6 fl_X3_9 (Nat.le_of_ble_eq_true rfl) (by decide) rfl (Or.inl rfl) rfl ?_
  refine fc_aload_n (x := 3) C dX3_init_9 rfl rfl ?_
  refine fc_iconst C dX3_init_10 ?_
  refine fc_iconst C dX3_init_11 ?_
  refine fi_multi (N := 5) (M := 5) (t := 0) (ty := .int) (x := cI 5 (fun _ => 0)) C dX3_init_12 lk_X3_15 ao_i ac_i rfl rfl (by decide) (by decide) (Or.inl ⟨rfl, rfl, rfl⟩) ((fc_up_n _ _ (by decide)).trans (H 4 (by decide) (by decide))) (fun r hr => ?_) (Nat.le_of_ble_eq_true rfl) (Nat.le_of_ble_eq_true rfl) ?_
  · have hr : r = 0 ∨ r = 1 ∨ r = 2 ∨ r = 3 ∨ r = 4 := by omega
    rcases hr with rfl | rfl | rfl | rfl | rfl <;> exact (fc_up_n _ _ (by decide)).trans (H _ (by decide) (by decide))
  refine fi_putf (fs' := [vI 3, vR 4, vN, vN, vN, vN]) C dX3_init_16 fl_X3_17 (Nat.le_of_ble_eq_true rfl) (by decide) (Or.inr ⟨_, rfl⟩) (Or.inr ⟨rfl, rfl, rfl⟩) rfl ?_
  refine fc_aload_n (x := 3) C dX3_init_19 rfl rfl ?_
  refine fc_iconst C dX3_init_20 ?_
  refine fi_newaI (N := 5) C dX3_init_21 ac_i rfl (by decide) ((fc_up_n _ _ (by decide)).trans (H 10 (by decide) (by decide))) (Nat.le_of_ble_eq_true rfl) (Nat.le_of_ble_eq_true rfl) ?_
  refine fi_putf (fs' := [vI 3, vR 4, vR 10, vN, vN, vN]) C dX3_init_23 fl_X3_20 (Nat.le_of_ble_eq_true rfl) (by decide) (Or.inr ⟨_, rfl⟩) (Or.inr ⟨rfl, rfl, rfl⟩) rfl ?_
  refine fc_aload_n (x := 3) C dX3_init_26 rfl rfl ?_
  refine fc_iconst C dX3_init_27 ?_
  refine fi_newaI (N := 5) C dX3_init_28 ac_i rfl (by decide) ((fc_up_n _ _ (by decide)).trans (H 11 (by decide) (by decide))) (Nat.le_of_ble_eq_true rfl) (Nat.le_of_ble_eq_true rfl) ?_
  refine fi_putf (fs' := [vI 3, vR 4, vR 10, vR 11, vN, vN]) C dX3_init_30 fl_X3_24 (Nat.le_of_ble_eq_true rfl) (by decide) (Or.inr ⟨_, rfl⟩) (Or.inr ⟨rfl, rfl, rfl⟩) rfl ?_
  refine fc_aload_n (x := 3) C dX3_init_33 rfl rfl ?_
  refine fc_iconst C dX3_init_34 ?_
  refine fi_newaI (N := 3) C dX3_init_35 ac_i rfl (by decide) ((fc_up_n _ _ (by decide)).trans (H 12 (by decide) (by decide))) (Nat.le_of_ble_eq_true rfl) (Nat.le_of_ble_eq_true rfl) ?_
  refine fi_putf (fs' := [vI 3, vR 4, vR 10, vR 11, vR 12, vN]) C dX3_init_37 fl_X3_27 (Nat.le_of_ble_eq_true rfl) (by decide) (Or.inr ⟨_, rfl⟩) (Or.inr ⟨rfl, rfl, rfl⟩) rfl ?_
  refine fc_aload_n (x := 3) C dX3_init_40 rfl rfl ?_
  refine fc_iconst C dX3_init_41 ?_
  refine fc_iconst C dX3_init_42 ?_
  refine fi_multi (N := 3) (M := 5) (t := 0) (ty := .int) (x := cI 5 (fun _ => 0)) C dX3_init_43 lk_X3_15 ao_i ac_i rfl rfl (by decide) (by decide) (Or.inl ⟨rfl, rfl, rfl⟩) ((fc_up_n _ _ (by decide)).trans (H 13 (by decide) (by decide))) (fun r hr => ?_) (Nat.le_of_ble_eq_true rfl) (Nat.le_of_ble_eq_true rfl) ?_
  · have hr : r = 0 ∨ r = 1 ∨ r = 2 := by omega
    rcases hr with rfl | rfl | rfl <;> exact (fc_up_n _ _ (by decide)).trans (H _ (by decide) (by decide))
  refine fi_putf (fs' := [vI 3, vR 4, vR 10, vR 11, vR 12, vR 13]) C dX3_init_47 fl_X3_30 (Nat.le_of_ble_eq_true rfl) (by decide) (Or.inr ⟨_, rfl⟩) (Or.inr ⟨rfl, rfl, rfl⟩) rfl ?_
  refine fc_heq (fc_up_id (H 3 (by decide) (by decide))) ?_
  exact fc_vret C T dX3_init_50 rfl rfl (fun _ _ => fc_ceq.rf _)
set_option maxRecDepth 4000 in
theorem i_X1_17 {hh : Nat → fc_AC} (H : ∀ j : Nat, 17 ≤ j → j < 34 → hh j = fc_H i_A i_F j) : fc_M mX1_init 1 16 80 [vR 17] 18 (fc_up hh 17 (cO 1 [vN, vN, vN, vN, vN, vN, vI 0, vI 0, vL 0])) none 34 hh := by
  refine fc_M.of mi_X1_init (Nat.le_of_ble_eq_true rfl) ?_
  intro X C T
  refine fc_aload_n (x := 17) C dX1_init_0 rfl rfl ?_
  refine fc_objInit C dX1_init_1 oi_X1 oi_2 oi_3 (by decide) (by decide) ?_
  refine fc_aload_n (x := 17) C dX1_init_4 rfl rfl ?_
  refine fc_iconst C dX1_init_5 ?_
  refine fc_iconst C dX1_init_6 ?_
  refine fi_multi (N := 5) (M := 5) (t := 0) (ty := .int) (x := cI 5 (fun _ => 0)) C dX1_init_7 lk_X1_9 ao_i ac_i rfl rfl (by decide) (by decide) (Or.inl ⟨rfl, rfl, rfl⟩) ((fc_up_n _ _ (by decide)).trans (H 18 (by decide) (by decide))) (fun r hr => ?_) (Nat.le_of_ble_eq_true rfl) (Nat.le_of_ble_eq_true rfl) ?_
  · have hr : r = 0 ∨ r = 1 ∨ r = 2 ∨ r = 3 ∨ r = 4 := by omega
    rcases hr with rfl | rfl | rfl | rfl | rfl <;> exact (fc_up_n _ _ (by decide)).trans (H _ (by decide) (by decide))
  refine fi_putf (fs' := [vR 18, vN, vN, vN, vN, vN, vI 0, vI 0, vL 0]) C dX1_init_11 fl_X1_11 (Nat.le_of_ble_eq_true rfl) (by decide) (Or.inr ⟨_, rfl⟩) (Or.inr ⟨rfl, rfl, rfl⟩) rfl ?_
  refine fc_aload_n (x := 17) C dX1_init_14 rfl rfl ?_
  refine fc_iconst C dX1_init_15 ?_
  refine fc_iconst C dX1_init_16 ?_
  refine fi_multi (N := 5) (M := 5) (t := 1) (ty := .long) (x := cJ 5 (fun _ => 0)) C dX1_init_17 lk_X1_16 ao_j ac_j rfl rfl (by decide) (by decide) (Or.inr ⟨rfl, rfl, rfl⟩) ((fc_up_n _ _ (by decide)).trans (H 24 (by decide) (by decide))) (fun r hr => ?_) (Nat.le_of_ble_eq_true rfl) (Nat.le_of_ble_eq_true rfl) ?_
  · have hr : r = 0 ∨ r = 1 ∨ r = 2 ∨ r = 3 ∨ r = 4 := by omega
    rcases hr with rfl | rfl | rfl | rfl | rfl <;> exact (fc_up_n _ _ (by decide)).trans (H _ (by decide) (by decide))
  refine fi_putf (fs' := [vR 18, vR 24, vN, vN, vN, vN, vI 0, vI 0, vL 0]) C dX1_init_21 fl_X1_18 (Nat.le_of_ble_eq_true rfl) (by decide) (Or.inr ⟨_, rfl⟩) (Or.inr ⟨rfl, rfl, rfl⟩) rfl ?_
  refine fc_aload_n (x := 17) C dX1_init_24 rfl rfl ?_
  refine fc_iconst C dX1_init_25 ?_
  refine fi_newaJ (N := 5) C dX1_init_26 ac_j rfl (by decide) ((fc_up_n _ _ (by decide)).trans (H 30 (by decide) (by decide))) (Nat.le_of_ble_eq_true rfl) (Nat.le_of_ble_eq_true rfl) ?_
  refine fi_putf (fs' := [vR 18, vR 24, vR 30, vN, vN, vN, vI 0, vI 0, vL 0]) C dX1_init_28 fl_X1_21 (Nat.le_of_ble_eq_true rfl) (by decide) (Or.inr ⟨_, rfl⟩) (Or.inr ⟨rfl, rfl, rfl⟩) rfl ?_
  refine fc_aload_n (x := 17) C dX1_init_31 rfl rfl ?_
  refine fc_iconst C dX1_init_32 ?_
  refine fi_newaI (N := 5) C dX1_init_33 ac_i rfl (by decide) ((fc_up_n _ _ (by decide)).trans (H 31 (by decide) (by decide))) (Nat.le_of_ble_eq_true rfl) (Nat.le_of_ble_eq_true rfl) ?_
  refine fi_putf (fs' := [vR 18, vR 24, vR 30, vR 31, vN, vN, vI 0, vI 0, vL 0]) C dX1_init_35 fl_X1_25 (Nat.le_of_ble_eq_true rfl) (by decide) (Or.inr ⟨_, rfl⟩) (Or.inr ⟨rfl, rfl, rfl⟩) rfl ?_
  refine fc_aload_n (x := 17) C dX1_init_38 rfl rfl ?_
  refine fc_iconst C dX1_init_39 ?_
  refine fi_newaI (N := 5) C dX1_init_40 ac_i rfl (by decide) ((fc_up_n _ _ (by decide)).trans (H 32 (by decide) (by decide))) (Nat.le_of_ble_eq_true rfl) (Nat.le_of_ble_eq_true rfl) ?_
  refine fi_putf (fs' := [vR 18, vR 24, vR 30, vR 31, vR 32, vN, vI 0, vI 0, vL 0]) C dX1_init_42 fl_X1_29 (Nat.le_of_ble_eq_true rfl) (by decide) (Or.inr ⟨_, rfl⟩) (Or.inr ⟨rfl, rfl, rfl⟩) rfl ?_
  refine fc_aload_n (x := 17) C dX1_init_45 rfl rfl ?_
  refine fc_iconst C dX1_init_46 ?_
  refine fi_newaI (N := 5) C dX1_init_47 ac_i rfl (by decide) ((fc_up_n _ _ (by decide)).trans (H 33 (by decide) (by decide))) (Nat.le_of_ble_eq_true rfl) (Nat.le_of_ble_eq_true rfl) ?_
  refine fi_putf (fs' := [vR 18, vR 24, vR 30, vR 31, vR 32, vR 33, vI 0, vI 0, vL 0]) C dX1_init_49 fl_X1_32 (Nat.le_of_ble_eq_true rfl) (by decide) (Or.inr ⟨_, rfl⟩) (Or.inr ⟨rfl, rfl, rfl⟩) rfl ?_
  refine fc_aload_n (x := 17) C dX1_init_52 rfl rfl ?_
  refine fc_iconst C dX1_init_53 ?_
  refine fi_putf (fs' := [vR 18, vR 24, vR 30, vR 31, vR 32, vR 33, vI 2, vI 0, vL 0]) C dX1_init_54 fl_X1_35 (Nat.le_of_ble_eq_true rfl) (by decide) rfl (Or.inl rfl) rfl ?_
  refine fc_aload_n (x := 17) C dX1_init_57 rfl rfl ?_
  refine fc_iconst C dX1_init_58 ?_
  refine fi_putf (fs' := [vR 18, vR 24, vR 30, vR 31, vR 32, vR 33, vI 2, vI 0, vL 0]) C dX1_init_59 fl_X1_39 (Nat.le_of_ble_eq_true rfl) (by decide) rfl (Or.inl rfl) rfl ?_
  refine fc_aload_n (x := 17) C dX1_init_62 rfl rfl ?_
  refine fc_lconst (z := 0) C dX1_init_63 rfl ?_
  refine fi_putf (fs' := [vR 18, vR 24, vR 30, vR 31, vR 32, vR 33, vI 2, vI 0, vL 0]) C dX1_init_64 fl_X1_42 (Nat.le_of_ble_eq_true rfl) (by decide) rfl (Or.inl rfl) rfl ?_
  refine fc_heq (fc_up_id (H 17 (by decide) (by decide))) ?_
  exact fc_vret C T dX1_init_67 rfl rfl (fun _ _ => fc_ceq.rf _)
set_option maxRecDepth 4000 in
theorem i_X0_2 {hh : Nat → fc_AC} (H : ∀ j : Nat, 2 ≤ j → j < 36 → hh j = fc_H i_A i_F j) : fc_M mX0_init 2 33 166 [vR 2] 3 (fc_up hh 2 (cO 0 [vN, vN, vN, vN])) none 36 hh := by
  refine fc_M.of mi_X0_init (Nat.le_of_ble_eq_true rfl) ?_
  intro X C T
  refine fc_aload_n (x := 2) C dX0_init_0 rfl rfl ?_
  refine fc_objInit C dX0_init_1 oi_X0 oi_2 oi_3 (by decide) (by decide) ?_
  refine fc_aload_n (x := 2) C dX0_init_4 rfl rfl ?_
  refine fi_new (c := 3) (fs := [vI 0, vN, vN, vN, vN, vN]) C dX0_init_5 lk_X0_9 ns_X3 iz_X3 rfl in_X3 tyX3_ok df_X3 (Nat.le_of_ble_eq_true rfl) (Nat.le_of_ble_eq_true rfl) ?_
  refine fc_dup C dX0_init_8 rfl ?_
  refine fc_callI (y := mX3_init) C dX0_init_9 ml_X0_11 mi_X3_init rfl rfl im_X3_init (i_X3_3 (fun j j0 j1 => (fc_up_n _ _ (by omega)).trans (H j (by omega) (by omega)))) (by decide) rfl (by decide) rfl (Nat.le_of_ble_eq_true rfl) (Nat.le_of_ble_eq_true rfl) ?_
  refine fc_eq (st' := [vR 3, vR 2]) rfl rfl ?_
  refine fi_putf (fs' := [vR 3, vN, vN, vN]) C dX0_init_12 fl_X0_12 (Nat.le_of_ble_eq_true rfl) (by decide) (Or.inl ⟨_, rfl⟩) (Or.inr ⟨rfl, rfl, rfl⟩) rfl ?_
  refine fc_aload_n (x := 2) C dX0_init_15 rfl rfl ?_
  refine fi_new (c := 1) (fs := [vN, vN, vN, vN, vN, vN, vI 0, vI 0, vL 0]) C dX0_init_16 lk_X0_18 ns_X1 iz_X1 rfl in_X1 tyX1_ok df_X1 (Nat.le_of_ble_eq_true rfl) (Nat.le_of_ble_eq_true rfl) ?_
  refine fc_dup C dX0_init_19 rfl ?_
  refine fc_callI (y := mX1_init) C dX0_init_20 ml_X0_20 mi_X1_init rfl rfl im_X1_init (i_X1_17 (fun j j0 j1 => (fc_up_n _ _ (by omega)).trans (H j (by omega) (by omega)))) (by decide) rfl (by decide) rfl (Nat.le_of_ble_eq_true rfl) (Nat.le_of_ble_eq_true rfl) ?_
  refine fc_eq (st' := [vR 17, vR 2]) rfl rfl ?_
  refine fi_putf (fs' := [vR 3, vR 17, vN, vN]) C dX0_init_23 fl_X0_21 (Nat.le_of_ble_eq_true rfl) (by decide) (Or.inl ⟨_, rfl⟩) (Or.inr ⟨rfl, rfl, rfl⟩) rfl ?_
  refine fc_aload_n (x := 2) C dX0_init_26 rfl rfl ?_
  refine fc_iconst C dX0_init_27 ?_
  refine fi_newaI (N := 5) C dX0_init_28 ac_i rfl (by decide) ((fc_up_n _ _ (by decide)).trans (H 34 (by decide) (by decide))) (Nat.le_of_ble_eq_true rfl) (Nat.le_of_ble_eq_true rfl) ?_
  refine fi_putf (fs' := [vR 3, vR 17, vR 34, vN]) C dX0_init_30 fl_X0_25 (Nat.le_of_ble_eq_true rfl) (by decide) (Or.inr ⟨_, rfl⟩) (Or.inr ⟨rfl, rfl, rfl⟩) rfl ?_
  refine fc_aload_n (x := 2) C dX0_init_33 rfl rfl ?_
  refine fc_iconst C dX0_init_34 ?_
  refine fi_newaI (N := 5) C dX0_init_35 ac_i rfl (by decide) ((fc_up_n _ _ (by decide)).trans (H 35 (by decide) (by decide))) (Nat.le_of_ble_eq_true rfl) (Nat.le_of_ble_eq_true rfl) ?_
  refine fi_putf (fs' := [vR 3, vR 17, vR 34, vR 35]) C dX0_init_37 fl_X0_29 (Nat.le_of_ble_eq_true rfl) (by decide) (Or.inr ⟨_, rfl⟩) (Or.inr ⟨rfl, rfl, rfl⟩) rfl ?_
  refine fc_heq (fc_up_id (H 2 (by decide) (by decide))) ?_
  exact fc_vret C T dX0_init_40 rfl rfl (fun _ _ => fc_ceq.rf _)
set_option maxRecDepth 4000 in
theorem i_X3_38 {hh : Nat → fc_AC} (H : ∀ j : Nat, 38 ≤ j → j < 52 → hh j = fc_H i_A i_F j) : fc_M mX3_init 1 13 61 [vR 38] 39 (fc_up hh 38 (cO 3 [vI 0, vN, vN, vN, vN, vN])) none 52 hh := by
  refine fc_M.of mi_X3_init (Nat.le_of_ble_eq_true rfl) ?_
  intro X C T
  refine fc_aload_n (x := 38) C dX3_init_0 rfl rfl ?_
  refine fc_objInit C dX3_init_1 oi_X3 oi_2 oi_3 (by decide) (by decide) ?_
  refine fc_aload_n (x := 38) C dX3_init_4 rfl rfl ?_
  refine fc_iconst C dX3_init_5 ?_
  refine fi_putf (fs' := [vI 3, vN, vN, vN, vN, vN]) C dX3_init_6 fl_X3_9 (Nat.le_of_ble_eq_true rfl) (by decide) rfl (Or.inl rfl) rfl ?_
  refine fc_aload_n (x := 38) C dX3_init_9 rfl rfl ?_
  refine fc_iconst C dX3_init_10 ?_
  refine fc_iconst C dX3_init_11 ?_
  refine fi_multi (N := 5) (M := 5) (t := 0) (ty := .int) (x := cI 5 (fun _ => 0)) C dX3_init_12 lk_X3_15 ao_i ac_i rfl rfl (by decide) (by decide) (Or.inl ⟨rfl, rfl, rfl⟩) ((fc_up_n _ _ (by decide)).trans (H 39 (by decide) (by decide))) (fun r hr => ?_) (Nat.le_of_ble_eq_true rfl) (Nat.le_of_ble_eq_true rfl) ?_
  · have hr : r = 0 ∨ r = 1 ∨ r = 2 ∨ r = 3 ∨ r = 4 := by omega
    rcases hr with rfl | rfl | rfl | rfl | rfl <;> exact (fc_up_n _ _ (by decide)).trans (H _ (by decide) (by decide))
  refine fi_putf (fs' := [vI 3, vR 39, vN, vN, vN, vN]) C dX3_init_16 fl_X3_17 (Nat.le_of_ble_eq_true rfl) (by decide) (Or.inr ⟨_, rfl⟩) (Or.inr ⟨rfl, rfl, rfl⟩) rfl ?_
  refine fc_aload_n (x := 38) C dX3_init_19 rfl rfl ?_
  refine fc_iconst C dX3_init_20 ?_
  refine fi_newaI (N := 5) C dX3_init_21 ac_i rfl (by decide) ((fc_up_n _ _ (by decide)).trans (H 45 (by decide) (by decide))) (Nat.le_of_ble_eq_true rfl) (Nat.le_of_ble_eq_true rfl) ?_
  refine fi_putf (fs' := [vI 3, vR 39, vR 45, vN, vN, vN]) C dX3_init_23 fl_X3_20 (Nat.le_of_ble_eq_true rfl) (by decide) (Or.inr ⟨_, rfl⟩) (Or.inr ⟨rfl, rfl, rfl⟩) rfl ?_
  refine fc_aload_n (x := 38) C dX3_init_26 rfl rfl ?_
  refine fc_iconst C dX3_init_27 ?_
  refine fi_newaI (N := 5) C dX3_init_28 ac_i rfl (by decide) ((fc_up_n _ _ (by decide)).trans (H 46 (by decide) (by decide))) (Nat.le_of_ble_eq_true rfl) (Nat.le_of_ble_eq_true rfl) ?_
  refine fi_putf (fs' := [vI 3, vR 39, vR 45, vR 46, vN, vN]) C dX3_init_30 fl_X3_24 (Nat.le_of_ble_eq_true rfl) (by decide) (Or.inr ⟨_, rfl⟩) (Or.inr ⟨rfl, rfl, rfl⟩) rfl ?_
  refine fc_aload_n (x := 38) C dX3_init_33 rfl rfl ?_
  refine fc_iconst C dX3_init_34 ?_
  refine fi_newaI (N := 3) C dX3_init_35 ac_i rfl (by decide) ((fc_up_n _ _ (by decide)).trans (H 47 (by decide) (by decide))) (Nat.le_of_ble_eq_true rfl) (Nat.le_of_ble_eq_true rfl) ?_
  refine fi_putf (fs' := [vI 3, vR 39, vR 45, vR 46, vR 47, vN]) C dX3_init_37 fl_X3_27 (Nat.le_of_ble_eq_true rfl) (by decide) (Or.inr ⟨_, rfl⟩) (Or.inr ⟨rfl, rfl, rfl⟩) rfl ?_
  refine fc_aload_n (x := 38) C dX3_init_40 rfl rfl ?_
  refine fc_iconst C dX3_init_41 ?_
  refine fc_iconst C dX3_init_42 ?_
  refine fi_multi (N := 3) (M := 5) (t := 0) (ty := .int) (x := cI 5 (fun _ => 0)) C dX3_init_43 lk_X3_15 ao_i ac_i rfl rfl (by decide) (by decide) (Or.inl ⟨rfl, rfl, rfl⟩) ((fc_up_n _ _ (by decide)).trans (H 48 (by decide) (by decide))) (fun r hr => ?_) (Nat.le_of_ble_eq_true rfl) (Nat.le_of_ble_eq_true rfl) ?_
  · have hr : r = 0 ∨ r = 1 ∨ r = 2 := by omega
    rcases hr with rfl | rfl | rfl <;> exact (fc_up_n _ _ (by decide)).trans (H _ (by decide) (by decide))
  refine fi_putf (fs' := [vI 3, vR 39, vR 45, vR 46, vR 47, vR 48]) C dX3_init_47 fl_X3_30 (Nat.le_of_ble_eq_true rfl) (by decide) (Or.inr ⟨_, rfl⟩) (Or.inr ⟨rfl, rfl, rfl⟩) rfl ?_
  refine fc_heq (fc_up_id (H 38 (by decide) (by decide))) ?_
  exact fc_vret C T dX3_init_50 rfl rfl (fun _ _ => fc_ceq.rf _)
set_option maxRecDepth 4000 in
theorem i_X3_52 {hh : Nat → fc_AC} (H : ∀ j : Nat, 52 ≤ j → j < 66 → hh j = fc_H i_A i_F j) : fc_M mX3_init 1 13 61 [vR 52] 53 (fc_up hh 52 (cO 3 [vI 0, vN, vN, vN, vN, vN])) none 66 hh := by
  refine fc_M.of mi_X3_init (Nat.le_of_ble_eq_true rfl) ?_
  intro X C T
  refine fc_aload_n (x := 52) C dX3_init_0 rfl rfl ?_
  refine fc_objInit C dX3_init_1 oi_X3 oi_2 oi_3 (by decide) (by decide) ?_
  refine fc_aload_n (x := 52) C dX3_init_4 rfl rfl ?_
  refine fc_iconst C dX3_init_5 ?_
  refine fi_putf (fs' := [vI 3, vN, vN, vN, vN, vN]) C dX3_init_6 fl_X3_9 (Nat.le_of_ble_eq_true rfl) (by decide) rfl (Or.inl rfl) rfl ?_
  refine fc_aload_n (x := 52) C dX3_init_9 rfl rfl ?_
  refine fc_iconst C dX3_init_10 ?_
  refine fc_iconst C dX3_init_11 ?_
  refine fi_multi (N := 5) (M := 5) (t := 0) (ty := .int) (x := cI 5 (fun _ => 0)) C dX3_init_12 lk_X3_15 ao_i ac_i rfl rfl (by decide) (by decide) (Or.inl ⟨rfl, rfl, rfl⟩) ((fc_up_n _ _ (by decide)).trans (H 53 (by decide) (by decide))) (fun r hr => ?_) (Nat.le_of_ble_eq_true rfl) (Nat.le_of_ble_eq_true rfl) ?_
  · have hr : r = 0 ∨ r = 1 ∨ r = 2 ∨ r = 3 ∨ r = 4 := by omega
    rcases hr with rfl | rfl | rfl | rfl | rfl <;> exact (fc_up_n _ _ (by decide)).trans (H _ (by decide) (by decide))
  refine fi_putf (fs' := [vI 3, vR 53, vN, vN, vN, vN]) C dX3_init_16 fl_X3_17 (Nat.le_of_ble_eq_true rfl) (by decide) (Or.inr ⟨_, rfl⟩) (Or.inr ⟨rfl, rfl, rfl⟩) rfl ?_
  refine fc_aload_n (x := 52) C dX3_init_19 rfl rfl ?_
  refine fc_iconst C dX3_init_20 ?_
  refine fi_newaI (N := 5) C dX3_init_21 ac_i rfl (by decide) ((fc_up_n _ _ (by decide)).trans (H 59 (by decide) (by decide))) (Nat.le_of_ble_eq_true rfl) (Nat.le_of_ble_eq_true rfl) ?_
  refine fi_putf (fs' := [vI 3, vR 53, vR 59, vN, vN, vN]) C dX3_init_23 fl_X3_20 (Nat.le_of_ble_eq_true rfl) (by decide) (Or.inr ⟨_, rfl⟩) (Or.inr ⟨rfl, rfl, rfl⟩) rfl ?_
  refine fc_aload_n (x := 52) C dX3_init_26 rfl rfl ?_
  refine fc_iconst C dX3_init_27 ?_
  refine fi_newaI (N := 5) C dX3_init_28 ac_i rfl (by decide) ((fc_up_n _ _ (by decide)).trans (H 60 (by decide) (by decide))) (Nat.le_of_ble_eq_true rfl) (Nat.le_of_ble_eq_true rfl) ?_
  refine fi_putf (fs' := [vI 3, vR 53, vR 59, vR 60, vN, vN]) C dX3_init_30 fl_X3_24 (Nat.le_of_ble_eq_true rfl) (by decide) (Or.inr ⟨_, rfl⟩) (Or.inr ⟨rfl, rfl, rfl⟩) rfl ?_
  refine fc_aload_n (x := 52) C dX3_init_33 rfl rfl ?_
  refine fc_iconst C dX3_init_34 ?_
  refine fi_newaI (N := 3) C dX3_init_35 ac_i rfl (by decide) ((fc_up_n _ _ (by decide)).trans (H 61 (by decide) (by decide))) (Nat.le_of_ble_eq_true rfl) (Nat.le_of_ble_eq_true rfl) ?_
  refine fi_putf (fs' := [vI 3, vR 53, vR 59, vR 60, vR 61, vN]) C dX3_init_37 fl_X3_27 (Nat.le_of_ble_eq_true rfl) (by decide) (Or.inr ⟨_, rfl⟩) (Or.inr ⟨rfl, rfl, rfl⟩) rfl ?_
  refine fc_aload_n (x := 52) C dX3_init_40 rfl rfl ?_
  refine fc_iconst C dX3_init_41 ?_
  refine fc_iconst C dX3_init_42 ?_
  refine fi_multi (N := 3) (M := 5) (t := 0) (ty := .int) (x := cI 5 (fun _ => 0)) C dX3_init_43 lk_X3_15 ao_i ac_i rfl rfl (by decide) (by decide) (Or.inl ⟨rfl, rfl, rfl⟩) ((fc_up_n _ _ (by decide)).trans (H 62 (by decide) (by decide))) (fun r hr => ?_) (Nat.le_of_ble_eq_true rfl) (Nat.le_of_ble_eq_true rfl) ?_
  · have hr : r = 0 ∨ r = 1 ∨ r = 2 := by omega
    rcases hr with rfl | rfl | rfl <;> exact (fc_up_n _ _ (by decide)).trans (H _ (by decide) (by decide))
  refine fi_putf (fs' := [vI 3, vR 53, vR 59, vR 60, vR 61, vR 62]) C dX3_init_47 fl_X3_30 (Nat.le_of_ble_eq_true rfl) (by decide) (Or.inr ⟨_, rfl⟩) (Or.inr ⟨rfl, rfl, rfl⟩) rfl ?_
  refine fc_heq (fc_up_id (H 52 (by decide) (by decide))) ?_
  exact fc_vret C T dX3_init_50 rfl rfl (fun _ _ => fc_ceq.rf _)
set_option maxRecDepth 4000 in
theorem i_X3_66 {hh : Nat → fc_AC} (H : ∀ j : Nat, 66 ≤ j → j < 80 → hh j = fc_H i_A i_F j) : fc_M mX3_init 1 13 61 [vR 66] 67 (fc_up hh 66 (cO 3 [vI 0, vN, vN, vN, vN, vN])) none 80 hh := by
  refine fc_M.of mi_X3_init (Nat.le_of_ble_eq_true rfl) ?_
  intro X C T
  refine fc_aload_n (x := 66) C dX3_init_0 rfl rfl ?_
  refine fc_objInit C dX3_init_1 oi_X3 oi_2 oi_3 (by decide) (by decide) ?_
  refine fc_aload_n (x := 66) C dX3_init_4 rfl rfl ?_
  refine fc_iconst C dX3_init_5 ?_
  refine fi_putf (fs' := [vI 3, vN, vN, vN, vN, vN]) C dX3_init_6 fl_X3_9 (Nat.le_of_ble_eq_true rfl) (by decide) rfl (Or.inl rfl) rfl ?_
  refine fc_aload_n (x := 66) C dX3_init_9 rfl rfl ?_
  refine fc_iconst C dX3_init_10 ?_
  refine fc_iconst C dX3_init_11 ?_
  refine fi_multi (N := 5) (M := 5) (t := 0) (ty := .int) (x := cI 5 (fun _ => 0)) C dX3_init_12 lk_X3_15 ao_i ac_i rfl rfl (by decide) (by decide) (Or.inl ⟨rfl, rfl, rfl⟩) ((fc_up_n _ _ (by decide)).trans (H 67 (by decide) (by decide))) (fun r hr => ?_) (Nat.le_of_ble_eq_true rfl) (Nat.le_of_ble_eq_true rfl) ?_
  · have hr : r = 0 ∨ r = 1 ∨ r = 2 ∨ r = 3 ∨ r = 4 := by omega
    rcases hr with rfl | rfl | rfl | rfl | rfl <;> exact (fc_up_n _ _ (by decide)).trans (H _ (by decide) (by decide))
  refine fi_putf (fs' := [vI 3, vR 67, vN, vN, vN, vN]) C dX3_init_16 fl_X3_17 (Nat.le_of_ble_eq_true rfl) (by decide) (Or.inr ⟨_, rfl⟩) (Or.inr ⟨rfl, rfl, rfl⟩) rfl ?_
  refine fc_aload_n (x := 66) C dX3_init_19 rfl rfl ?_
  refine fc_iconst C dX3_init_20 ?_
  refine fi_newaI (N := 5) C dX3_init_21 ac_i rfl (by decide) ((fc_up_n _ _ (by decide)).trans (H 73 (by decide) (by decide))) (Nat.le_of_ble_eq_true rfl) (Nat.le_of_ble_eq_true rfl) ?_
  refine fi_putf (fs' := [vI 3, vR 67, vR 73, vN, vN, vN]) C dX3_init_23 fl_X3_20 (Nat.le_of_ble_eq_true rfl) (by decide) (Or.inr ⟨_, rfl⟩) (Or.inr ⟨rfl, rfl, rfl⟩) rfl ?_
  refine fc_aload_n (x := 66) C dX3_init_26 rfl rfl ?_
  refine fc_iconst C dX3_init_27 ?_
  refine fi_newaI (N := 5) C dX3_init_28 ac_i rfl (by decide) ((fc_up_n _ _ (by decide)).trans (H 74 (by decide) (by decide))) (Nat.le_of_ble_eq_true rfl) (Nat.le_of_ble_eq_true rfl) ?_
  refine fi_putf (fs' := [vI 3, vR 67, vR 73, vR 74, vN, vN]) C dX3_init_30 fl_X3_24 (Nat.le_of_ble_eq_true rfl) (by decide) (Or.inr ⟨_, rfl⟩) (Or.inr ⟨rfl, rfl, rfl⟩) rfl ?_
  refine fc_aload_n (x := 66) C dX3_init_33 rfl rfl ?_
  refine fc_iconst C dX3_init_34 ?_
  refine fi_newaI (N := 3) C dX3_init_35 ac_i rfl (by decide) ((fc_up_n _ _ (by decide)).trans (H 75 (by decide) (by decide))) (Nat.le_of_ble_eq_true rfl) (Nat.le_of_ble_eq_true rfl) ?_
  refine fi_putf (fs' := [vI 3, vR 67, vR 73, vR 74, vR 75, vN]) C dX3_init_37 fl_X3_27 (Nat.le_of_ble_eq_true rfl) (by decide) (Or.inr ⟨_, rfl⟩) (Or.inr ⟨rfl, rfl, rfl⟩) rfl ?_
  refine fc_aload_n (x := 66) C dX3_init_40 rfl rfl ?_
  refine fc_iconst C dX3_init_41 ?_
  refine fc_iconst C dX3_init_42 ?_
  refine fi_multi (N := 3) (M := 5) (t := 0) (ty := .int) (x := cI 5 (fun _ => 0)) C dX3_init_43 lk_X3_15 ao_i ac_i rfl rfl (by decide) (by decide) (Or.inl ⟨rfl, rfl, rfl⟩) ((fc_up_n _ _ (by decide)).trans (H 76 (by decide) (by decide))) (fun r hr => ?_) (Nat.le_of_ble_eq_true rfl) (Nat.le_of_ble_eq_true rfl) ?_
  · have hr : r = 0 ∨ r = 1 ∨ r = 2 := by omega
    rcases hr with rfl | rfl | rfl <;> exact (fc_up_n _ _ (by decide)).trans (H _ (by decide) (by decide))
  refine fi_putf (fs' := [vI 3, vR 67, vR 73, vR 74, vR 75, vR 76]) C dX3_init_47 fl_X3_30 (Nat.le_of_ble_eq_true rfl) (by decide) (Or.inr ⟨_, rfl⟩) (Or.inr ⟨rfl, rfl, rfl⟩) rfl ?_
  refine fc_heq (fc_up_id (H 66 (by decide) (by decide))) ?_
  exact fc_vret C T dX3_init_50 rfl rfl (fun _ _ => fc_ceq.rf _)
set_option maxRecDepth 4000 in
theorem i_X3_80 {hh : Nat → fc_AC} (H : ∀ j : Nat, 80 ≤ j → j < 94 → hh j = fc_H i_A i_F j) : fc_M mX3_init 1 13 61 [vR 80] 81 (fc_up hh 80 (cO 3 [vI 0, vN, vN, vN, vN, vN])) none 94 hh := by
  refine fc_M.of mi_X3_init (Nat.le_of_ble_eq_true rfl) ?_
  intro X C T
  refine fc_aload_n (x := 80) C dX3_init_0 rfl rfl ?_
  refine fc_objInit C dX3_init_1 oi_X3 oi_2 oi_3 (by decide) (by decide) ?_
  refine fc_aload_n (x := 80) C dX3_init_4 rfl rfl ?_
  refine fc_iconst C dX3_init_5 ?_
  refine fi_putf (fs' := [vI 3, vN, vN, vN, vN, vN]) C dX3_init_6 fl_X3_9 (Nat.le_of_ble_eq_true rfl) (by decide) rfl (Or.inl rfl) rfl ?_
  refine fc_aload_n (x := 80) C dX3_init_9 rfl rfl ?_
  refine fc_iconst C dX3_init_10 ?_
  refine fc_iconst C dX3_init_11 ?_
  refine fi_multi (N := 5) (M := 5) (t := 0) (ty := .int) (x := cI 5 (fun _ => 0)) C dX3_init_12 lk_X3_15 ao_i ac_i rfl rfl (by decide) (by decide) (Or.inl ⟨rfl, rfl, rfl⟩) ((fc_up_n _ _ (by decide)).trans (H 81 (by decide) (by decide))) (fun r hr => ?_) (Nat.le_of_ble_eq_true rfl) (Nat.le_of_ble_eq_true rfl) ?_
  · have hr : r = 0 ∨ r = 1 ∨ r = 2 ∨ r = 3 ∨ r = 4 := by omega
    rcases hr with rfl | rfl | rfl | rfl | rfl <;> exact (fc_up_n _ _ (by decide)).trans (H _ (by decide) (by decide))
  refine fi_putf (fs' := [vI 3, vR 81, vN, vN, vN, vN]) C dX3_init_16 fl_X3_17 (Nat.le_of_ble_eq_true rfl) (by decide) (Or.inr ⟨_, rfl⟩) (Or.inr ⟨rfl, rfl, rfl⟩) rfl ?_
  refine fc_aload_n (x := 80) C dX3_init_19 rfl rfl ?_
  refine fc_iconst C dX3_init_20 ?_
  refine fi_newaI (N := 5) C dX3_init_21 ac_i rfl (by decide) ((fc_up_n _ _ (by decide)).trans (H 87 (by decide) (by decide))) (Nat.le_of_ble_eq_true rfl) (Nat.le_of_ble_eq_true rfl) ?_
  refine fi_putf (fs' := [vI 3, vR 81, vR 87, vN, vN, vN]) C dX3_init_23 fl_X3_20 (Nat.le_of_ble_eq_true rfl) (by decide) (Or.inr ⟨_, rfl⟩) (Or.inr ⟨rfl, rfl, rfl⟩) rfl ?_
  refine fc_aload_n (x := 80) C dX3_init_26 rfl rfl ?_
  refine fc_iconst C dX3_init_27 ?_
  refine fi_newaI (N := 5) C dX3_init_28 ac_i rfl (by decide) ((fc_up_n _ _ (by decide)).trans (H 88 (by decide) (by decide))) (Nat.le_of_ble_eq_true rfl) (Nat.le_of_ble_eq_true rfl) ?_
  refine fi_putf (fs' := [vI 3, vR 81, vR 87, vR 88, vN, vN]) C dX3_init_30 fl_X3_24 (Nat.le_of_ble_eq_true rfl) (by decide) (Or.inr ⟨_, rfl⟩) (Or.inr ⟨rfl, rfl, rfl⟩) rfl ?_
  refine fc_aload_n (x := 80) C dX3_init_33 rfl rfl ?_
  refine fc_iconst C dX3_init_34 ?_
  refine fi_newaI (N := 3) C dX3_init_35 ac_i rfl (by decide) ((fc_up_n _ _ (by decide)).trans (H 89 (by decide) (by decide))) (Nat.le_of_ble_eq_true rfl) (Nat.le_of_ble_eq_true rfl) ?_
  refine fi_putf (fs' := [vI 3, vR 81, vR 87, vR 88, vR 89, vN]) C dX3_init_37 fl_X3_27 (Nat.le_of_ble_eq_true rfl) (by decide) (Or.inr ⟨_, rfl⟩) (Or.inr ⟨rfl, rfl, rfl⟩) rfl ?_
  refine fc_aload_n (x := 80) C dX3_init_40 rfl rfl ?_
  refine fc_iconst C dX3_init_41 ?_
  refine fc_iconst C dX3_init_42 ?_
  refine fi_multi (N := 3) (M := 5) (t := 0) (ty := .int) (x := cI 5 (fun _ => 0)) C dX3_init_43 lk_X3_15 ao_i ac_i rfl rfl (by decide) (by decide) (Or.inl ⟨rfl, rfl, rfl⟩) ((fc_up_n _ _ (by decide)).trans (H 90 (by decide) (by decide))) (fun r hr => ?_) (Nat.le_of_ble_eq_true rfl) (Nat.le_of_ble_eq_true rfl) ?_
  · have hr : r = 0 ∨ r = 1 ∨ r = 2 := by omega
    rcases hr with rfl | rfl | rfl <;> exact (fc_up_n _ _ (by decide)).trans (H _ (by decide) (by decide))
  refine fi_putf (fs' := [vI 3, vR 81, vR 87, vR 88, vR 89, vR 90]) C dX3_init_47 fl_X3_30 (Nat.le_of_ble_eq_true rfl) (by decide) (Or.inr ⟨_, rfl⟩) (Or.inr ⟨rfl, rfl, rfl⟩) rfl ?_
  refine fc_heq (fc_up_id (H 80 (by decide) (by decide))) ?_
  exact fc_vret C T dX3_init_50 rfl rfl (fun _ _ => fc_ceq.rf _)
set_option maxRecDepth 4000 in
theorem i_X3_94 {hh : Nat → fc_AC} (H : ∀ j : Nat, 94 ≤ j → j < 108 → hh j = fc_H i_A i_F j) : fc_M mX3_init 1 13 61 [vR 94] 95 (fc_up hh 94 (cO 3 [vI 0, vN, vN, vN, vN, vN])) none 108 hh := by
  refine fc_M.of mi_X3_init (Nat.le_of_ble_eq_true rfl) ?_
  intro X C T
  refine fc_aload_n (x := 94) C dX3_init_0 rfl rfl ?_
  refine fc_objInit C dX3_init_1 oi_X3 oi_2 oi_3 (by decide) (by decide) ?_
  refine fc_aload_n (x := 94) C dX3_init_4 rfl rfl ?_
  refine fc_iconst C dX3_init_5 ?_
  refine fi_putf (fs' := [vI 3, vN, vN, vN, vN, vN]) C dX3_init_6 fl_X3_9 (Nat.le_of_ble_eq_true rfl) (by decide) rfl (Or.inl rfl) rfl ?_
  refine fc_aload_n (x := 94) C dX3_init_9 rfl rfl ?_
  refine fc_iconst C dX3_init_10 ?_
  refine fc_iconst C dX3_init_11 ?_
  refine fi_multi (N := 5) (M := 5) (t := 0) (ty := .int) (x := cI 5 (fun _ => 0)) C dX3_init_12 lk_X3_15 ao_i ac_i rfl rfl (by decide) (by decide) (Or.inl ⟨rfl, rfl, rfl⟩) ((fc_up_n _ _ (by decide)).trans (H 95 (by decide) (by decide))) (fun r hr => ?_) (Nat.le_of_ble_eq_true rfl) (Nat.le_of_ble_eq_true rfl) ?_
  · have hr : r = 0 ∨ r = 1 ∨ r = 2 ∨ r = 3 ∨ r = 4 := by omega
    rcases hr with rfl | rfl | rfl | rfl | rfl <;> exact (fc_up_n _ _ (by decide)).trans (H _ (by decide) (by decide))
  refine fi_putf (fs' := [vI 3, vR 95, vN, vN, vN, vN]) C dX3_init_16 fl_X3_17 (Nat.le_of_ble_eq_true rfl) (by decide) (Or.inr ⟨_, rfl⟩) (Or.inr ⟨rfl, rfl, rfl⟩) rfl ?_
  refine fc_aload_n (x := 94) C dX3_init_19 rfl rfl ?_
  refine fc_iconst C dX3_init_20 ?_
  refine fi_newaI (N := 5) C dX3_init_21 ac_i rfl (by decide) ((fc_up_n _ _ (by decide)).trans (H 101 (by decide) (by decide))) (Nat.le_of_ble_eq_true rfl) (Nat.le_of_ble_eq_true rfl) ?_
  refine fi_putf (fs' := [vI 3, vR 95, vR 101, vN, vN, vN]) C dX3_init_23 fl_X3_20 (Nat.le_of_ble_eq_true rfl) (by decide) (Or.inr ⟨_, rfl⟩) (Or.inr ⟨rfl, rfl, rfl⟩) rfl ?_
  refine fc_aload_n (x := 94) C dX3_init_26 rfl rfl ?_
  refine fc_iconst C dX3_init_27 ?_
  refine fi_newaI (N := 5) C dX3_init_28 ac_i rfl (by decide) ((fc_up_n _ _ (by decide)).trans (H 102 (by decide) (by decide))) (Nat.le_of_ble_eq_true rfl) (Nat.le_of_ble_eq_true rfl) ?_
  refine fi_putf (fs' := [vI 3, vR 95, vR 101, vR 102, vN, vN]) C dX3_init_30 fl_X3_24 (Nat.le_of_ble_eq_true rfl) (by decide) (Or.inr ⟨_, rfl⟩) (Or.inr ⟨rfl, rfl, rfl⟩) rfl ?_
  refine fc_aload_n (x := 94) C dX3_init_33 rfl rfl ?_
  refine fc_iconst C dX3_init_34 ?_
  refine fi_newaI (N := 3) C dX3_init_35 ac_i rfl (by decide) ((fc_up_n _ _ (by decide)).trans (H 103 (by decide) (by decide))) (Nat.le_of_ble_eq_true rfl) (Nat.le_of_ble_eq_true rfl) ?_
  refine fi_putf (fs' := [vI 3, vR 95, vR 101, vR 102, vR 103, vN]) C dX3_init_37 fl_X3_27 (Nat.le_of_ble_eq_true rfl) (by decide) (Or.inr ⟨_, rfl⟩) (Or.inr ⟨rfl, rfl, rfl⟩) rfl ?_
  refine fc_aload_n (x := 94) C dX3_init_40 rfl rfl ?_
  refine fc_iconst C dX3_init_41 ?_
  refine fc_iconst C dX3_init_42 ?_
  refine fi_multi (N := 3) (M := 5) (t := 0) (ty := .int) (x := cI 5 (fun _ => 0)) C dX3_init_43 lk_X3_15 ao_i ac_i rfl rfl (by decide) (by decide) (Or.inl ⟨rfl, rfl, rfl⟩) ((fc_up_n _ _ (by decide)).trans (H 104 (by decide) (by decide))) (fun r hr => ?_) (Nat.le_of_ble_eq_true rfl) (Nat.le_of_ble_eq_true rfl) ?_
  · have hr : r = 0 ∨ r = 1 ∨ r = 2 := by omega
    rcases hr with rfl | rfl | rfl <;> exact (fc_up_n _ _ (by decide)).trans (H _ (by decide) (by decide))
  refine fi_putf (fs' := [vI 3, vR 95, vR 101, vR 102, vR 103, vR 104]) C dX3_init_47 fl_X3_30 (Nat.le_of_ble_eq_true rfl) (by decide) (Or.inr ⟨_, rfl⟩) (Or.inr ⟨rfl, rfl, rfl⟩) rfl ?_
  refine fc_heq (fc_up_id (H 94 (by decide) (by decide))) ?_
  exact fc_vret C T dX3_init_50 rfl rfl (fun _ _ => fc_ceq.rf _)
set_option maxRecDepth 4000 in
theorem i_X3_108 {hh : Nat → fc_AC} (H : ∀ j : Nat, 108 ≤ j → j < 122 → hh j = fc_H i_A i_F j) : fc_M mX3_init 1 13 61 [vR 108] 109 (fc_up hh 108 (cO 3 [vI 0, vN, vN, vN, vN, vN])) none 122 hh := by
  refine fc_M.of mi_X3_init (Nat.le_of_ble_eq_true rfl) ?_
  intro X C T
  refine fc_aload_n (x := 108) C dX3_init_0 rfl rfl ?_
  refine fc_objInit C dX3_init_1 oi_X3 oi_2 oi_3 (by decide) (by decide) ?_
  refine fc_aload_n (x := 108) C dX3_init_4 rfl rfl ?_
  refine fc_iconst C dX3_init_5 ?_
  refine fi_putf (fs' := [vI 3, vN, vN, vN, vN, vN]) C dX3_init_6 fl_X3_9 (Nat.le_of_ble_eq_true rfl) (by decide) rfl (Or.inl rfl) rfl ?_
  refine fc_aload_n (x := 108) C dX3_init_9 rfl rfl ?_
  refine fc_iconst C dX3_init_10 ?_
  refine fc_iconst C dX3_init_11 ?_
  refine fi_multi (N := 5) (M := 5) (t := 0) (ty := .int) (x := cI 5 (fun _ => 0)) C dX3_init_12 lk_X3_15 ao_i ac_i rfl rfl (by decide) (by decide) (Or.inl ⟨rfl, rfl, rfl⟩) ((fc_up_n _ _ (by decide)).trans (H 109 (by decide) (by decide))) (fun r hr => ?_) (Nat.le_of_ble_eq_true rfl) (Nat.le_of_ble_eq_true rfl) ?_
  · have hr : r = 0 ∨ r = 1 ∨ r = 2 ∨ r = 3 ∨ r = 4 := by omega
    rcases hr with rfl | rfl | rfl | rfl | rfl <;> exact (fc_up_n _ _ (by decide)).trans (H _ (by decide) (by decide))
  refine fi_putf (fs' := [vI 3, vR 109, vN, vN, vN, vN]) C dX3_init_16 fl_X3_17 (Nat.le_of_ble_eq_true rfl) (by decide) (Or.inr ⟨_, rfl⟩) (Or.inr ⟨rfl, rfl, rfl⟩) rfl ?_
  refine fc_aload_n (x := 108) C dX3_init_19 rfl rfl ?_
  refine fc_iconst C dX3_init_20 ?_
  refine fi_newaI (N := 5) C dX3_init_21 ac_i rfl (by decide) ((fc_up_n _ _ (by decide)).trans (H 115 (by decide) (by decide))) (Nat.le_of_ble_eq_true rfl) (Nat.le_of_ble_eq_true rfl) ?_
  refine fi_putf (fs' := [vI 3, vR 109, vR 115, vN, vN, vN]) C dX3_init_23 fl_X3_20 (Nat.le_of_ble_eq_true rfl) (by decide) (Or.inr ⟨_, rfl⟩) (Or.inr ⟨rfl, rfl, rfl⟩) rfl ?_
  refine fc_aload_n (x := 108) C dX3_init_26 rfl rfl ?_
  refine fc_iconst C dX3_init_27 ?_
  refine fi_newaI (N := 5) C dX3_init_28 ac_i rfl (by decide) ((fc_up_n _ _ (by decide)).trans (H 116 (by decide) (by decide))) (Nat.le_of_ble_eq_true rfl) (Nat.le_of_ble_eq_true rfl) ?_
  refine fi_putf (fs' := [vI 3, vR 109, vR 115, vR 116, vN, vN]) C dX3_init_30 fl_X3_24 (Nat.le_of_ble_eq_true rfl) (by decide) (Or.inr ⟨_, rfl⟩) (Or.inr ⟨rfl, rfl, rfl⟩) rfl ?_
  refine fc_aload_n (x := 108) C dX3_init_33 rfl rfl ?_
  refine fc_iconst C dX3_init_34 ?_
  refine fi_newaI (N := 3) C dX3_init_35 ac_i rfl (by decide) ((fc_up_n _ _ (by decide)).trans (H 117 (by decide) (by decide))) (Nat.le_of_ble_eq_true rfl) (Nat.le_of_ble_eq_true rfl) ?_
  refine fi_putf (fs' := [vI 3, vR 109, vR 115, vR 116, vR 117, vN]) C dX3_init_37 fl_X3_27 (Nat.le_of_ble_eq_true rfl) (by decide) (Or.inr ⟨_, rfl⟩) (Or.inr ⟨rfl, rfl, rfl⟩) rfl ?_
  refine fc_aload_n (x := 108) C dX3_init_40 rfl rfl ?_
  refine fc_iconst C dX3_init_41 ?_
  refine fc_iconst C dX3_init_42 ?_
  refine fi_multi (N := 3) (M := 5) (t := 0) (ty := .int) (x := cI 5 (fun _ => 0)) C dX3_init_43 lk_X3_15 ao_i ac_i rfl rfl (by decide) (by decide) (Or.inl ⟨rfl, rfl, rfl⟩) ((fc_up_n _ _ (by decide)).trans (H 118 (by decide) (by decide))) (fun r hr => ?_) (Nat.le_of_ble_eq_true rfl) (Nat.le_of_ble_eq_true rfl) ?_
  · have hr : r = 0 ∨ r = 1 ∨ r = 2 := by omega
    rcases hr with rfl | rfl | rfl <;> exact (fc_up_n _ _ (by decide)).trans (H _ (by decide) (by decide))
  refine fi_putf (fs' := [vI 3, vR 109, vR 115, vR 116, vR 117, vR 118]) C dX3_init_47 fl_X3_30 (Nat.le_of_ble_eq_true rfl) (by decide) (Or.inr ⟨_, rfl⟩) (Or.inr ⟨rfl, rfl, rfl⟩) rfl ?_
  refine fc_heq (fc_up_id (H 108 (by decide) (by decide))) ?_
  exact fc_vret C T dX3_init_50 rfl rfl (fun _ _ => fc_ceq.rf _)
set_option maxRecDepth 4000 in
theorem i_X2_36 {hh : Nat → fc_AC} (H : ∀ j : Nat, 36 ≤ j → j < 122 → hh j = fc_H i_A i_F j) : fc_M mX2_init 2 85 408 [vR 36] 37 (fc_up hh 36 (cO 2 [vN, vI 0, vI 0])) none 122 hh := by
  refine fc_M.of mi_X2_init (Nat.le_of_ble_eq_true rfl) ?_
  intro X C T
  refine fc_eq (ls' := [some (vR 36), none]) rfl rfl ?_
  refine fc_hceq (h' := fc_up (fc_up hh 37 (cP 4 6 (fun _ => none))) 36 (cO 2 [vN, vI 0, vI 0])) (fun i hi => ?_) ?_
  · by_cases e : i = 36
    · subst e
      rw [fc_up_s, fc_up_s]
      exact fc_ceq.rf _
    · rw [fc_up_n _ _ e, fc_up_n _ _ e, fc_up_n _ _ (by omega)]
      exact fc_ceq.rf _
  refine fc_aload_n (x := 36) C dX2_init_0 rfl rfl ?_
  refine fc_objInit C dX2_init_1 oi_X2 oi_2 oi_3 (by decide) (by decide) ?_
  refine fc_aload_n (x := 36) C dX2_init_4 rfl rfl ?_
  refine fc_bipush C dX2_init_5 rfl ?_
  refine fi_anew (N := 6) C dX2_init_7 lk_X2_9 ao_p rfl (by decide) (Nat.le_of_ble_eq_true rfl) (Nat.le_of_ble_eq_true rfl) ?_
  refine fc_heq (fc_up_id ((fc_up_n _ _ (by decide)).trans (fc_up_s _ _ _))) ?_
  refine fi_putf (fs' := [vR 37, vI 0, vI 0]) C dX2_init_10 fl_X2_11 (Nat.le_of_ble_eq_true rfl) (by decide) (Or.inr ⟨_, rfl⟩) (Or.inr ⟨rfl, rfl, rfl⟩) rfl ?_
  refine fc_aload_n (x := 36) C dX2_init_13 rfl rfl ?_
  refine fc_iconst C dX2_init_14 ?_
  refine fi_putf (fs' := [vR 37, vI 0, vI 0]) C dX2_init_15 fl_X2_17 (Nat.le_of_ble_eq_true rfl) (by decide) rfl (Or.inl rfl) rfl ?_
  refine fc_aload_n (x := 36) C dX2_init_18 rfl rfl ?_
  refine fc_iconst C dX2_init_19 ?_
  refine fi_putf (fs' := [vR 37, vI 0, vI 0]) C dX2_init_20 fl_X2_21 (Nat.le_of_ble_eq_true rfl) (by decide) rfl (Or.inl rfl) rfl ?_
  refine fc_heq (fc_up_id ((fc_up_n _ _ (by decide)).trans (H 36 (by decide) (by decide)))) ?_
  refine fc_iconst C dX2_init_23 ?_
  refine fc_istore_n C dX2_init_24 rfl (by decide) ?_
  refine fc_eq (ls' := [some (vR 36), some (vI 0)]) rfl rfl ?_
  refine fc_iload_n (x := 0) C dX2_init_25 rfl rfl ?_
  refine fc_aload_n (x := 36) C dX2_init_26 rfl rfl ?_
  refine fc_getf (v := vR 37) C dX2_init_27 fl_X2_11 (Nat.le_of_ble_eq_true rfl) ((fc_up_n _ _ (by decide)).trans (H 36 (by decide) (by decide))) rfl ?_
  refine fc_alenP C dX2_init_30 (Or.inr (Or.inr rfl)) (Nat.le_of_ble_eq_true rfl) (fc_up_s _ _ _) ?_
  refine fc_icmp_ge (tgt := 53) C dX2_init_31 rfl (fc_Rm (by decide)) (fc_Rm (by decide)) (fun q => absurd q (by decide)) (fun _ => ?_)
  refine fc_aload_n (x := 36) C dX2_init_34 rfl rfl ?_
  refine fc_getf (v := vR 37) C dX2_init_35 fl_X2_11 (Nat.le_of_ble_eq_true rfl) ((fc_up_n _ _ (by decide)).trans (H 36 (by decide) (by decide))) rfl ?_
  refine fc_iload_n (x := 0) C dX2_init_38 rfl rfl ?_
  refine fi_new (c := 3) (fs := [vI 0, vN, vN, vN, vN, vN]) C dX2_init_39 lk_X2_9 ns_X3 iz_X3 rfl in_X3 tyX3_ok df_X3 (Nat.le_of_ble_eq_true rfl) (Nat.le_of_ble_eq_true rfl) ?_
  refine fc_dup C dX2_init_42 rfl ?_
  refine fc_callI (y := mX3_init) C dX2_init_43 ml_X2_24 mi_X3_init rfl rfl im_X3_init (i_X3_38 (fun j j0 j1 => (fc_up_n _ _ (by omega)).trans (H j (by omega) (by omega)))) (by decide) rfl (by decide) rfl (Nat.le_of_ble_eq_true rfl) (Nat.le_of_ble_eq_true rfl) ?_
  refine fc_eq (st' := [vR 38, vI 0, vR 37]) rfl rfl ?_
  refine fi_aast C dX2_init_46 (Nat.le_of_ble_eq_true rfl) (fc_up_s _ _ _) (Nat.le_of_ble_eq_true rfl) ((fc_up_n _ _ (by decide)).trans (H 38 (by decide) (by decide))) (by decide) (by decide) (by decide) ?_
  refine fc_heq fc_up_up ?_
  refine fc_iinc (x := 0) C dX2_init_47 rfl (by decide) ?_
  refine fc_eq (ls' := [some (vR 36), some (vI 1)]) rfl rfl ?_
  refine fc_goto (tgt := 25) C dX2_init_50 rfl ?_
  refine fc_iload_n (x := 1) C dX2_init_25 rfl rfl ?_
  refine fc_aload_n (x := 36) C dX2_init_26 rfl rfl ?_
  refine fc_getf (v := vR 37) C dX2_init_27 fl_X2_11 (Nat.le_of_ble_eq_true rfl) ((fc_up_n _ _ (by decide)).trans (H 36 (by decide) (by decide))) rfl ?_
  refine fc_alenP C dX2_init_30 (Or.inr (Or.inr rfl)) (Nat.le_of_ble_eq_true rfl) (fc_up_s _ _ _) ?_
  refine fc_icmp_ge (tgt := 53) C dX2_init_31 rfl (fc_Rm (by decide)) (fc_Rm (by decide)) (fun q => absurd q (by decide)) (fun _ => ?_)
  refine fc_aload_n (x := 36) C dX2_init_34 rfl rfl ?_
  refine fc_getf (v := vR 37) C dX2_init_35 fl_X2_11 (Nat.le_of_ble_eq_true rfl) ((fc_up_n _ _ (by decide)).trans (H 36 (by decide) (by decide))) rfl ?_
  refine fc_iload_n (x := 1) C dX2_init_38 rfl rfl ?_
  refine fi_new (c := 3) (fs := [vI 0, vN, vN, vN, vN, vN]) C dX2_init_39 lk_X2_9 ns_X3 iz_X3 rfl in_X3 tyX3_ok df_X3 (Nat.le_of_ble_eq_true rfl) (Nat.le_of_ble_eq_true rfl) ?_
  refine fc_dup C dX2_init_42 rfl ?_
  refine fc_callI (y := mX3_init) C dX2_init_43 ml_X2_24 mi_X3_init rfl rfl im_X3_init (i_X3_52 (fun j j0 j1 => (fc_up_n _ _ (by omega)).trans (H j (by omega) (by omega)))) (by decide) rfl (by decide) rfl (Nat.le_of_ble_eq_true rfl) (Nat.le_of_ble_eq_true rfl) ?_
  refine fc_eq (st' := [vR 52, vI 1, vR 37]) rfl rfl ?_
  refine fi_aast C dX2_init_46 (Nat.le_of_ble_eq_true rfl) (fc_up_s _ _ _) (Nat.le_of_ble_eq_true rfl) ((fc_up_n _ _ (by decide)).trans (H 52 (by decide) (by decide))) (by decide) (by decide) (by decide) ?_
  refine fc_heq fc_up_up ?_
  refine fc_iinc (x := 1) C dX2_init_47 rfl (by decide) ?_
  refine fc_eq (ls' := [some (vR 36), some (vI 2)]) rfl rfl ?_
  refine fc_goto (tgt := 25) C dX2_init_50 rfl ?_
  refine fc_iload_n (x := 2) C dX2_init_25 rfl rfl ?_
  refine fc_aload_n (x := 36) C dX2_init_26 rfl rfl ?_
  refine fc_getf (v := vR 37) C dX2_init_27 fl_X2_11 (Nat.le_of_ble_eq_true rfl) ((fc_up_n _ _ (by decide)).trans (H 36 (by decide) (by decide))) rfl ?_
  refine fc_alenP C dX2_init_30 (Or.inr (Or.inr rfl)) (Nat.le_of_ble_eq_true rfl) (fc_up_s _ _ _) ?_
  refine fc_icmp_ge (tgt := 53) C dX2_init_31 rfl (fc_Rm (by decide)) (fc_Rm (by decide)) (fun q => absurd q (by decide)) (fun _ => ?_)
  refine fc_aload_n (x := 36) C dX2_init_34 rfl rfl ?_
  refine fc_getf (v := vR 37) C dX2_init_35 fl_X2_11 (Nat.le_of_ble_eq_true rfl) ((fc_up_n _ _ (by decide)).trans (H 36 (by decide) (by decide))) rfl ?_
  refine fc_iload_n (x := 2) C dX2_init_38 rfl rfl ?_
  refine fi_new (c := 3) (fs := [vI 0, vN, vN, vN, vN, vN]) C dX2_init_39 lk_X2_9 ns_X3 iz_X3 rfl in_X3 tyX3_ok df_X3 (Nat.le_of_ble_eq_true rfl) (Nat.le_of_ble_eq_true rfl) ?_
  refine fc_dup C dX2_init_42 rfl ?_
  refine fc_callI (y := mX3_init) C dX2_init_43 ml_X2_24 mi_X3_init rfl rfl im_X3_init (i_X3_66 (fun j j0 j1 => (fc_up_n _ _ (by omega)).trans (H j (by omega) (by omega)))) (by decide) rfl (by decide) rfl (Nat.le_of_ble_eq_true rfl) (Nat.le_of_ble_eq_true rfl) ?_
  refine fc_eq (st' := [vR 66, vI 2, vR 37]) rfl rfl ?_
  refine fi_aast C dX2_init_46 (Nat.le_of_ble_eq_true rfl) (fc_up_s _ _ _) (Nat.le_of_ble_eq_true rfl) ((fc_up_n _ _ (by decide)).trans (H 66 (by decide) (by decide))) (by decide) (by decide) (by decide) ?_
  refine fc_heq fc_up_up ?_
  refine fc_iinc (x := 2) C dX2_init_47 rfl (by decide) ?_
  refine fc_eq (ls' := [some (vR 36), some (vI 3)]) rfl rfl ?_
  refine fc_goto (tgt := 25) C dX2_init_50 rfl ?_
  refine fc_iload_n (x := 3) C dX2_init_25 rfl rfl ?_
  refine fc_aload_n (x := 36) C dX2_init_26 rfl rfl ?_
  refine fc_getf (v := vR 37) C dX2_init_27 fl_X2_11 (Nat.le_of_ble_eq_true rfl) ((fc_up_n _ _ (by decide)).trans (H 36 (by decide) (by decide))) rfl ?_
  refine fc_alenP C dX2_init_30 (Or.inr (Or.inr rfl)) (Nat.le_of_ble_eq_true rfl) (fc_up_s _ _ _) ?_
  refine fc_icmp_ge (tgt := 53) C dX2_init_31 rfl (fc_Rm (by decide)) (fc_Rm (by decide)) (fun q => absurd q (by decide)) (fun _ => ?_)
  refine fc_aload_n (x := 36) C dX2_init_34 rfl rfl ?_
  refine fc_getf (v := vR 37) C dX2_init_35 fl_X2_11 (Nat.le_of_ble_eq_true rfl) ((fc_up_n _ _ (by decide)).trans (H 36 (by decide) (by decide))) rfl ?_
  refine fc_iload_n (x := 3) C dX2_init_38 rfl rfl ?_
  refine fi_new (c := 3) (fs := [vI 0, vN, vN, vN, vN, vN]) C dX2_init_39 lk_X2_9 ns_X3 iz_X3 rfl in_X3 tyX3_ok df_X3 (Nat.le_of_ble_eq_true rfl) (Nat.le_of_ble_eq_true rfl) ?_
  refine fc_dup C dX2_init_42 rfl ?_
  refine fc_callI (y := mX3_init) C dX2_init_43 ml_X2_24 mi_X3_init rfl rfl im_X3_init (i_X3_80 (fun j j0 j1 => (fc_up_n _ _ (by omega)).trans (H j (by omega) (by omega)))) (by decide) rfl (by decide) rfl (Nat.le_of_ble_eq_true rfl) (Nat.le_of_ble_eq_true rfl) ?_
  refine fc_eq (st' := [vR 80, vI 3, vR 37]) rfl rfl ?_
  refine fi_aast C dX2_init_46 (Nat.le_of_ble_eq_true rfl) (fc_up_s _ _ _) (Nat.le_of_ble_eq_true rfl) ((fc_up_n _ _ (by decide)).trans (H 80 (by decide) (by decide))) (by decide) (by decide) (by decide) ?_
  refine fc_heq fc_up_up ?_
  refine fc_iinc (x := 3) C dX2_init_47 rfl (by decide) ?_
  refine fc_eq (ls' := [some (vR 36), some (vI 4)]) rfl rfl ?_
  refine fc_goto (tgt := 25) C dX2_init_50 rfl ?_
  refine fc_iload_n (x := 4) C dX2_init_25 rfl rfl ?_
  refine fc_aload_n (x := 36) C dX2_init_26 rfl rfl ?_
  refine fc_getf (v := vR 37) C dX2_init_27 fl_X2_11 (Nat.le_of_ble_eq_true rfl) ((fc_up_n _ _ (by decide)).trans (H 36 (by decide) (by decide))) rfl ?_
  refine fc_alenP C dX2_init_30 (Or.inr (Or.inr rfl)) (Nat.le_of_ble_eq_true rfl) (fc_up_s _ _ _) ?_
  refine fc_icmp_ge (tgt := 53) C dX2_init_31 rfl (fc_Rm (by decide)) (fc_Rm (by decide)) (fun q => absurd q (by decide)) (fun _ => ?_)
  refine fc_aload_n (x := 36) C dX2_init_34 rfl rfl ?_
  refine fc_getf (v := vR 37) C dX2_init_35 fl_X2_11 (Nat.le_of_ble_eq_true rfl) ((fc_up_n _ _ (by decide)).trans (H 36 (by decide) (by decide))) rfl ?_
  refine fc_iload_n (x := 4) C dX2_init_38 rfl rfl ?_
  refine fi_new (c := 3) (fs := [vI 0, vN, vN, vN, vN, vN]) C dX2_init_39 lk_X2_9 ns_X3 iz_X3 rfl in_X3 tyX3_ok df_X3 (Nat.le_of_ble_eq_true rfl) (Nat.le_of_ble_eq_true rfl) ?_
  refine fc_dup C dX2_init_42 rfl ?_
  refine fc_callI (y := mX3_init) C dX2_init_43 ml_X2_24 mi_X3_init rfl rfl im_X3_init (i_X3_94 (fun j j0 j1 => (fc_up_n _ _ (by omega)).trans (H j (by omega) (by omega)))) (by decide) rfl (by decide) rfl (Nat.le_of_ble_eq_true rfl) (Nat.le_of_ble_eq_true rfl) ?_
  refine fc_eq (st' := [vR 94, vI 4, vR 37]) rfl rfl ?_
  refine fi_aast C dX2_init_46 (Nat.le_of_ble_eq_true rfl) (fc_up_s _ _ _) (Nat.le_of_ble_eq_true rfl) ((fc_up_n _ _ (by decide)).trans (H 94 (by decide) (by decide))) (by decide) (by decide) (by decide) ?_
  refine fc_heq fc_up_up ?_
  refine fc_iinc (x := 4) C dX2_init_47 rfl (by decide) ?_
  refine fc_eq (ls' := [some (vR 36), some (vI 5)]) rfl rfl ?_
  refine fc_goto (tgt := 25) C dX2_init_50 rfl ?_
  refine fc_iload_n (x := 5) C dX2_init_25 rfl rfl ?_
  refine fc_aload_n (x := 36) C dX2_init_26 rfl rfl ?_
  refine fc_getf (v := vR 37) C dX2_init_27 fl_X2_11 (Nat.le_of_ble_eq_true rfl) ((fc_up_n _ _ (by decide)).trans (H 36 (by decide) (by decide))) rfl ?_
  refine fc_alenP C dX2_init_30 (Or.inr (Or.inr rfl)) (Nat.le_of_ble_eq_true rfl) (fc_up_s _ _ _) ?_
  refine fc_icmp_ge (tgt := 53) C dX2_init_31 rfl (fc_Rm (by decide)) (fc_Rm (by decide)) (fun q => absurd q (by decide)) (fun _ => ?_)
  refine fc_aload_n (x := 36) C dX2_init_34 rfl rfl ?_
  refine fc_getf (v := vR 37) C dX2_init_35 fl_X2_11 (Nat.le_of_ble_eq_true rfl) ((fc_up_n _ _ (by decide)).trans (H 36 (by decide) (by decide))) rfl ?_
  refine fc_iload_n (x := 5) C dX2_init_38 rfl rfl ?_
  refine fi_new (c := 3) (fs := [vI 0, vN, vN, vN, vN, vN]) C dX2_init_39 lk_X2_9 ns_X3 iz_X3 rfl in_X3 tyX3_ok df_X3 (Nat.le_of_ble_eq_true rfl) (Nat.le_of_ble_eq_true rfl) ?_
  refine fc_dup C dX2_init_42 rfl ?_
  refine fc_callI (y := mX3_init) C dX2_init_43 ml_X2_24 mi_X3_init rfl rfl im_X3_init (i_X3_108 (fun j j0 j1 => (fc_up_n _ _ (by omega)).trans (H j (by omega) (by omega)))) (by decide) rfl (by decide) rfl (Nat.le_of_ble_eq_true rfl) (Nat.le_of_ble_eq_true rfl) ?_
  refine fc_eq (st' := [vR 108, vI 5, vR 37]) rfl rfl ?_
  refine fi_aast C dX2_init_46 (Nat.le_of_ble_eq_true rfl) (fc_up_s _ _ _) (Nat.le_of_ble_eq_true rfl) ((fc_up_n _ _ (by decide)).trans (H 108 (by decide) (by decide))) (by decide) (by decide) (by decide) ?_
  refine fc_heq fc_up_up ?_
  refine fc_iinc (x := 5) C dX2_init_47 rfl (by decide) ?_
  refine fc_eq (ls' := [some (vR 36), some (vI 6)]) rfl rfl ?_
  refine fc_goto (tgt := 25) C dX2_init_50 rfl ?_
  refine fc_iload_n (x := 6) C dX2_init_25 rfl rfl ?_
  refine fc_aload_n (x := 36) C dX2_init_26 rfl rfl ?_
  refine fc_getf (v := vR 37) C dX2_init_27 fl_X2_11 (Nat.le_of_ble_eq_true rfl) ((fc_up_n _ _ (by decide)).trans (H 36 (by decide) (by decide))) rfl ?_
  refine fc_alenP C dX2_init_30 (Or.inr (Or.inr rfl)) (Nat.le_of_ble_eq_true rfl) (fc_up_s _ _ _) ?_
  refine fc_icmp_ge (tgt := 53) C dX2_init_31 rfl (fc_Rm (by decide)) (fc_Rm (by decide)) (fun _ => ?_) (fun q => absurd q (by decide))
  refine fc_hceq (h' := hh) (fun i hi => ?_) ?_
  · by_cases e : i = 37
    · subst e
      rw [fc_up_s, H 37 (by decide) (by decide)]
      refine ⟨rfl, rfl, fun j hj => ?_⟩
      have hj : j = 0 ∨ j = 1 ∨ j = 2 ∨ j = 3 ∨ j = 4 ∨ j = 5 := by omega
      rcases hj with rfl | rfl | rfl | rfl | rfl | rfl <;> rfl
    · rw [fc_up_n _ _ e]
      exact fc_ceq.rf _
  exact fc_vret C T dX2_init_53 rfl rfl (fun _ _ => fc_ceq.rf _)
set_option maxRecDepth 4000 in
theorem i_X4_122 {hh : Nat → fc_AC} (H : ∀ j : Nat, 122 ≤ j → j < 139 → hh j = fc_H i_A i_F j) : fc_M mX4_init 1 16 89 [vR 122] 123 (fc_up hh 122 (cO 4 [vN, vN, vI 0])) none 139 hh := by
  refine fc_M.of mi_X4_init (Nat.le_of_ble_eq_true rfl) ?_
  intro X C T
  refine fc_aload_n (x := 122) C dX4_init_0 rfl rfl ?_
  refine fc_objInit C dX4_init_1 oi_X4 oi_2 oi_3 (by decide) (by decide) ?_
  refine fc_aload_n (x := 122) C dX4_init_4 rfl rfl ?_
  refine fc_bipush C dX4_init_5 rfl ?_
  refine fc_iconst C dX4_init_7 ?_
  refine fi_multi (N := 14) (M := 5) (t := 0) (ty := .int) (x := cI 5 (fun _ => 0)) C dX4_init_8 lk_X4_9 ao_i ac_i rfl rfl (by decide) (by decide) (Or.inl ⟨rfl, rfl, rfl⟩) ((fc_up_n _ _ (by decide)).trans (H 123 (by decide) (by decide))) (fun r hr => ?_) (Nat.le_of_ble_eq_true rfl) (Nat.le_of_ble_eq_true rfl) ?_
  · have hr : r = 0 ∨ r = 1 ∨ r = 2 ∨ r = 3 ∨ r = 4 ∨ r = 5 ∨ r = 6 ∨ r = 7 ∨ r = 8 ∨ r = 9 ∨ r = 10 ∨ r = 11 ∨ r = 12 ∨ r = 13 := by omega
    rcases hr with rfl | rfl | rfl | rfl | rfl | rfl | rfl | rfl | rfl | rfl | rfl | rfl | rfl | rfl <;> exact (fc_up_n _ _ (by decide)).trans (H _ (by decide) (by decide))
  refine fi_putf (fs' := [vR 123, vN, vI 0]) C dX4_init_12 fl_X4_11 (Nat.le_of_ble_eq_true rfl) (by decide) (Or.inr ⟨_, rfl⟩) (Or.inr ⟨rfl, rfl, rfl⟩) rfl ?_
  refine fc_aload_n (x := 122) C dX4_init_15 rfl rfl ?_
  refine fc_iconst C dX4_init_16 ?_
  refine fi_newaI (N := 5) C dX4_init_17 ac_i rfl (by decide) ((fc_up_n _ _ (by decide)).trans (H 138 (by decide) (by decide))) (Nat.le_of_ble_eq_true rfl) (Nat.le_of_ble_eq_true rfl) ?_
  refine fi_putf (fs' := [vR 123, vR 138, vI 0]) C dX4_init_19 fl_X4_16 (Nat.le_of_ble_eq_true rfl) (by decide) (Or.inr ⟨_, rfl⟩) (Or.inr ⟨rfl, rfl, rfl⟩) rfl ?_
  refine fc_aload_n (x := 122) C dX4_init_22 rfl rfl ?_
  refine fc_iconst C dX4_init_23 ?_
  refine fi_putf (fs' := [vR 123, vR 138, vI (-1)]) C dX4_init_24 fl_X4_20 (Nat.le_of_ble_eq_true rfl) (by decide) rfl (Or.inl rfl) rfl ?_
  refine fc_heq (fc_up_id (H 122 (by decide) (by decide))) ?_
  exact fc_vret C T dX4_init_27 rfl rfl (fun _ _ => fc_ceq.rf _)
set_option maxRecDepth 4000 in
theorem i_X5_139 {hh : Nat → fc_AC} (H : ∀ j : Nat, 139 ≤ j → j < 142 → hh j = fc_H i_A i_F j) : fc_M mX5_init 1 2 240 [vR 139] 140 (fc_up hh 139 (cO 5 [vN, vI 0, vN, vI 0, vI 0, vI 0, vI 0, vI 0, vI 0])) none 142 hh := by
  refine fc_M.of mi_X5_init (Nat.le_of_ble_eq_true rfl) ?_
  intro X C T
  refine fc_aload_n (x := 139) C dX5_init_0 rfl rfl ?_
  refine fc_objInit C dX5_init_1 oi_X5 oi_2 oi_3 (by decide) (by decide) ?_
  refine fc_aload_n (x := 139) C dX5_init_4 rfl rfl ?_
  refine fc_bipush C dX5_init_5 rfl ?_
  refine fi_newaI (N := 120) C dX5_init_7 ac_i rfl (by decide) ((fc_up_n _ _ (by decide)).trans (H 140 (by decide) (by decide))) (Nat.le_of_ble_eq_true rfl) (Nat.le_of_ble_eq_true rfl) ?_
  refine fi_putf (fs' := [vR 140, vI 0, vN, vI 0, vI 0, vI 0, vI 0, vI 0, vI 0]) C dX5_init_9 fl_X5_9 (Nat.le_of_ble_eq_true rfl) (by decide) (Or.inr ⟨_, rfl⟩) (Or.inr ⟨rfl, rfl, rfl⟩) rfl ?_
  refine fc_aload_n (x := 139) C dX5_init_12 rfl rfl ?_
  refine fc_iconst C dX5_init_13 ?_
  refine fi_putf (fs' := [vR 140, vI 0, vN, vI 0, vI 0, vI 0, vI 0, vI 0, vI 0]) C dX5_init_14 fl_X5_15 (Nat.le_of_ble_eq_true rfl) (by decide) rfl (Or.inl rfl) rfl ?_
  refine fc_aload_n (x := 139) C dX5_init_17 rfl rfl ?_
  refine fc_bipush C dX5_init_18 rfl ?_
  refine fi_newaI (N := 120) C dX5_init_20 ac_i rfl (by decide) ((fc_up_n _ _ (by decide)).trans (H 141 (by decide) (by decide))) (Nat.le_of_ble_eq_true rfl) (Nat.le_of_ble_eq_true rfl) ?_
  refine fi_putf (fs' := [vR 140, vI 0, vR 141, vI 0, vI 0, vI 0, vI 0, vI 0, vI 0]) C dX5_init_22 fl_X5_19 (Nat.le_of_ble_eq_true rfl) (by decide) (Or.inr ⟨_, rfl⟩) (Or.inr ⟨rfl, rfl, rfl⟩) rfl ?_
  refine fc_aload_n (x := 139) C dX5_init_25 rfl rfl ?_
  refine fc_iconst C dX5_init_26 ?_
  refine fi_putf (fs' := [vR 140, vI 0, vR 141, vI 0, vI 0, vI 0, vI 0, vI 0, vI 0]) C dX5_init_27 fl_X5_22 (Nat.le_of_ble_eq_true rfl) (by decide) rfl (Or.inl rfl) rfl ?_
  refine fc_aload_n (x := 139) C dX5_init_30 rfl rfl ?_
  refine fc_iconst C dX5_init_31 ?_
  refine fi_putf (fs' := [vR 140, vI 0, vR 141, vI 0, vI 0, vI 0, vI 0, vI 0, vI 0]) C dX5_init_32 fl_X5_25 (Nat.le_of_ble_eq_true rfl) (by decide) rfl (Or.inl rfl) rfl ?_
  refine fc_aload_n (x := 139) C dX5_init_35 rfl rfl ?_
  refine fc_iconst C dX5_init_36 ?_
  refine fi_putf (fs' := [vR 140, vI 0, vR 141, vI 0, vI 0, vI 0, vI 0, vI 0, vI 0]) C dX5_init_37 fl_X5_28 (Nat.le_of_ble_eq_true rfl) (by decide) rfl (Or.inl rfl) rfl ?_
  refine fc_aload_n (x := 139) C dX5_init_40 rfl rfl ?_
  refine fc_iconst C dX5_init_41 ?_
  refine fi_putf (fs' := [vR 140, vI 0, vR 141, vI 0, vI 0, vI 0, vI 0, vI 0, vI 0]) C dX5_init_42 fl_X5_31 (Nat.le_of_ble_eq_true rfl) (by decide) rfl (Or.inl rfl) rfl ?_
  refine fc_aload_n (x := 139) C dX5_init_45 rfl rfl ?_
  refine fc_iconst C dX5_init_46 ?_
  refine fi_putf (fs' := [vR 140, vI 0, vR 141, vI 0, vI 0, vI 0, vI 0, vI (-1), vI 0]) C dX5_init_47 fl_X5_34 (Nat.le_of_ble_eq_true rfl) (by decide) rfl (Or.inl rfl) rfl ?_
  refine fc_aload_n (x := 139) C dX5_init_50 rfl rfl ?_
  refine fc_iconst C dX5_init_51 ?_
  refine fi_putf (fs' := [vR 140, vI 0, vR 141, vI 0, vI 0, vI 0, vI 0, vI (-1), vI 3]) C dX5_init_52 fl_X5_37 (Nat.le_of_ble_eq_true rfl) (by decide) rfl (Or.inl rfl) rfl ?_
  refine fc_heq (fc_up_id (H 139 (by decide) (by decide))) ?_
  exact fc_vret C T dX5_init_55 rfl rfl (fun _ _ => fc_ceq.rf _)
set_option maxRecDepth 4000 in
theorem i_X6_0 {hh : Nat → fc_AC} (H : ∀ j : Nat, 0 ≤ j → j < 143 → hh j = fc_H i_A i_F j) : fc_M mX6_init 3 142 930 [vR 0] 1 (fc_up hh 0 (cO 6 [vN, vN, vN, vN, vN, vN, vN, vN])) none 143 hh := by
  refine fc_M.of mi_X6_init (Nat.le_of_ble_eq_true rfl) ?_
  intro X C T
  refine fc_aload_n (x := 0) C dX6_init_0 rfl rfl ?_
  refine fc_objInit C dX6_init_1 oi_X6 oi_2 oi_3 (by decide) (by decide) ?_
  refine fc_aload_n (x := 0) C dX6_init_4 rfl rfl ?_
  refine fc_iconst C dX6_init_5 ?_
  refine fi_newaI (N := 3) C dX6_init_6 ac_i rfl (by decide) ((fc_up_n _ _ (by decide)).trans (H 1 (by decide) (by decide))) (Nat.le_of_ble_eq_true rfl) (Nat.le_of_ble_eq_true rfl) ?_
  refine fi_putf (fs' := [vR 1, vN, vN, vN, vN, vN, vN, vN]) C dX6_init_8 fl_X6_7 (Nat.le_of_ble_eq_true rfl) (by decide) (Or.inr ⟨_, rfl⟩) (Or.inr ⟨rfl, rfl, rfl⟩) rfl ?_
  refine fc_aload_n (x := 0) C dX6_init_11 rfl rfl ?_
  refine fi_new (c := 0) (fs := [vN, vN, vN, vN]) C dX6_init_12 lk_X6_13 ns_X0 iz_X0 rfl in_X0 tyX0_ok df_X0 (Nat.le_of_ble_eq_true rfl) (Nat.le_of_ble_eq_true rfl) ?_
  refine fc_dup C dX6_init_15 rfl ?_
  refine fc_callI (y := mX0_init) C dX6_init_16 ml_X6_15 mi_X0_init rfl rfl im_X0_init (i_X0_2 (fun j j0 j1 => (fc_up_n _ _ (by omega)).trans (H j (by omega) (by omega)))) (by decide) rfl (by decide) rfl (Nat.le_of_ble_eq_true rfl) (Nat.le_of_ble_eq_true rfl) ?_
  refine fc_eq (st' := [vR 2, vR 0]) rfl rfl ?_
  refine fi_putf (fs' := [vR 1, vR 2, vN, vN, vN, vN, vN, vN]) C dX6_init_19 fl_X6_16 (Nat.le_of_ble_eq_true rfl) (by decide) (Or.inl ⟨_, rfl⟩) (Or.inr ⟨rfl, rfl, rfl⟩) rfl ?_
  refine fc_aload_n (x := 0) C dX6_init_22 rfl rfl ?_
  refine fc_aload_n (x := 0) C dX6_init_23 rfl rfl ?_
  refine fc_getf (v := vR 2) C dX6_init_24 fl_X6_16 (Nat.le_of_ble_eq_true rfl) (fc_up_s _ _ _) rfl ?_
  refine fc_getf (v := vR 3) C dX6_init_27 fl_X6_20 (Nat.le_of_ble_eq_true rfl) ((fc_up_n _ _ (by decide)).trans (H 2 (by decide) (by decide))) rfl ?_
  refine fi_putf (fs' := [vR 1, vR 2, vR 3, vN, vN, vN, vN, vN]) C dX6_init_30 fl_X6_24 (Nat.le_of_ble_eq_true rfl) (by decide) (Or.inl ⟨_, rfl⟩) (Or.inr ⟨rfl, rfl, rfl⟩) rfl ?_
  refine fc_aload_n (x := 0) C dX6_init_33 rfl rfl ?_
  refine fc_aload_n (x := 0) C dX6_init_34 rfl rfl ?_
  refine fc_getf (v := vR 2) C dX6_init_35 fl_X6_16 (Nat.le_of_ble_eq_true rfl) (fc_up_s _ _ _) rfl ?_
  refine fc_getf (v := vR 17) C dX6_init_38 fl_X6_25 (Nat.le_of_ble_eq_true rfl) ((fc_up_n _ _ (by decide)).trans (H 2 (by decide) (by decide))) rfl ?_
  refine fi_putf (fs' := [vR 1, vR 2, vR 3, vR 17, vN, vN, vN, vN]) C dX6_init_41 fl_X6_29 (Nat.le_of_ble_eq_true rfl) (by decide) (Or.inl ⟨_, rfl⟩) (Or.inr ⟨rfl, rfl, rfl⟩) rfl ?_
  refine fc_aload_n (x := 0) C dX6_init_44 rfl rfl ?_
  refine fi_new (c := 2) (fs := [vN, vI 0, vI 0]) C dX6_init_45 lk_X6_30 ns_X2 iz_X2 rfl in_X2 tyX2_ok df_X2 (Nat.le_of_ble_eq_true rfl) (Nat.le_of_ble_eq_true rfl) ?_
  refine fc_dup C dX6_init_48 rfl ?_
  refine fc_callI (y := mX2_init) C dX6_init_49 ml_X6_32 mi_X2_init rfl rfl im_X2_init (i_X2_36 (fun j j0 j1 => (fc_up_n _ _ (by omega)).trans (H j (by omega) (by omega)))) (by decide) rfl (by decide) rfl (Nat.le_of_ble_eq_true rfl) (Nat.le_of_ble_eq_true rfl) ?_
  refine fc_eq (st' := [vR 36, vR 0]) rfl rfl ?_
  refine fi_putf (fs' := [vR 1, vR 2, vR 3, vR 17, vR 36, vN, vN, vN]) C dX6_init_52 fl_X6_33 (Nat.le_of_ble_eq_true rfl) (by decide) (Or.inl ⟨_, rfl⟩) (Or.inr ⟨rfl, rfl, rfl⟩) rfl ?_
  refine fc_aload_n (x := 0) C dX6_init_55 rfl rfl ?_
  refine fi_new (c := 4) (fs := [vN, vN, vI 0]) C dX6_init_56 lk_X6_37 ns_X4 iz_X4 rfl in_X4 tyX4_ok df_X4 (Nat.le_of_ble_eq_true rfl) (Nat.le_of_ble_eq_true rfl) ?_
  refine fc_dup C dX6_init_59 rfl ?_
  refine fc_callI (y := mX4_init) C dX6_init_60 ml_X6_39 mi_X4_init rfl rfl im_X4_init (i_X4_122 (fun j j0 j1 => (fc_up_n _ _ (by omega)).trans (H j (by omega) (by omega)))) (by decide) rfl (by decide) rfl (Nat.le_of_ble_eq_true rfl) (Nat.le_of_ble_eq_true rfl) ?_
  refine fc_eq (st' := [vR 122, vR 0]) rfl rfl ?_
  refine fi_putf (fs' := [vR 1, vR 2, vR 3, vR 17, vR 36, vR 122, vN, vN]) C dX6_init_63 fl_X6_40 (Nat.le_of_ble_eq_true rfl) (by decide) (Or.inl ⟨_, rfl⟩) (Or.inr ⟨rfl, rfl, rfl⟩) rfl ?_
  refine fc_aload_n (x := 0) C dX6_init_66 rfl rfl ?_
  refine fi_new (c := 5) (fs := [vN, vI 0, vN, vI 0, vI 0, vI 0, vI 0, vI 0, vI 0]) C dX6_init_67 lk_X6_44 ns_X5 iz_X5 rfl in_X5 tyX5_ok df_X5 (Nat.le_of_ble_eq_true rfl) (Nat.le_of_ble_eq_true rfl) ?_
  refine fc_dup C dX6_init_70 rfl ?_
  refine fc_callI (y := mX5_init) C dX6_init_71 ml_X6_46 mi_X5_init rfl rfl im_X5_init (i_X5_139 (fun j j0 j1 => (fc_up_n _ _ (by omega)).trans (H j (by omega) (by omega)))) (by decide) rfl (by decide) rfl (Nat.le_of_ble_eq_true rfl) (Nat.le_of_ble_eq_true rfl) ?_
  refine fc_eq (st' := [vR 139, vR 0]) rfl rfl ?_
  refine fi_putf (fs' := [vR 1, vR 2, vR 3, vR 17, vR 36, vR 122, vR 139, vN]) C dX6_init_74 fl_X6_47 (Nat.le_of_ble_eq_true rfl) (by decide) (Or.inl ⟨_, rfl⟩) (Or.inr ⟨rfl, rfl, rfl⟩) rfl ?_
  refine fc_aload_n (x := 0) C dX6_init_77 rfl rfl ?_
  refine fc_iconst C dX6_init_78 ?_
  refine fi_newaI (N := 5) C dX6_init_79 ac_i rfl (by decide) ((fc_up_n _ _ (by decide)).trans (H 142 (by decide) (by decide))) (Nat.le_of_ble_eq_true rfl) (Nat.le_of_ble_eq_true rfl) ?_
  refine fi_putf (fs' := [vR 1, vR 2, vR 3, vR 17, vR 36, vR 122, vR 139, vR 142]) C dX6_init_81 fl_X6_51 (Nat.le_of_ble_eq_true rfl) (by decide) (Or.inr ⟨_, rfl⟩) (Or.inr ⟨rfl, rfl, rfl⟩) rfl ?_
  refine fc_heq (fc_up_id (H 0 (by decide) (by decide))) ?_
  exact fc_vret C T dX6_init_84 rfl rfl (fun _ _ => fc_ceq.rf _)
set_option maxRecDepth 4000 in
theorem i_X7_143 {hh : Nat → fc_AC} (H : ∀ j : Nat, 143 ≤ j → j < 159 → hh j = fc_H i_A i_F j) : fc_M mX7_init 1 15 562 [vR 143] 144 (fc_up hh 143 (cO 7 [vN, vN, vN, vI 0, vN, vN, vN, vN, vN, vN, vN, vN, vN, vN, vN, vI 0, vI 0, vI 0, vN, vI 0, vI 0])) none 159 hh := by
  refine fc_M.of mi_X7_init (Nat.le_of_ble_eq_true rfl) ?_
  intro X C T
  refine fc_hceq (h' := fc_up (fc_up hh 144 (cI 54 (fun _ => 0))) 143 (cO 7 [vN, vN, vN, vI 0, vN, vN, vN, vN, vN, vN, vN, vN, vN, vN, vN, vI 0, vI 0, vI 0, vN, vI 0, vI 0])) (fun i hi => ?_) ?_
  · by_cases e : i = 143
    · subst e
      rw [fc_up_s, fc_up_s]
      exact fc_ceq.rf _
    · rw [fc_up_n _ _ e, fc_up_n _ _ e, fc_up_n _ _ (by omega)]
      exact fc_ceq.rf _
  refine fc_aload_n (x := 143) C dX7_init_0 rfl rfl ?_
  refine fc_objInit C dX7_init_1 oi_X7 oi_2 oi_3 (by decide) (by decide) ?_
  refine fc_aload_n (x := 143) C dX7_init_4 rfl rfl ?_
  refine fc_bipush C dX7_init_5 rfl ?_
  refine fi_newaI (N := 54) C dX7_init_7 ac_i rfl (by decide) ((fc_up_n _ _ (by decide)).trans (fc_up_s _ _ _)) (Nat.le_of_ble_eq_true rfl) (Nat.le_of_ble_eq_true rfl) ?_
  refine fi_putf (fs' := [vR 144, vN, vN, vI 0, vN, vN, vN, vN, vN, vN, vN, vN, vN, vN, vN, vI 0, vI 0, vI 0, vN, vI 0, vI 0]) C dX7_init_9 fl_X7_7 (Nat.le_of_ble_eq_true rfl) (by decide) (Or.inr ⟨_, rfl⟩) (Or.inr ⟨rfl, rfl, rfl⟩) rfl ?_
  refine fc_aload_n (x := 143) C dX7_init_12 rfl rfl ?_
  refine fc_sipush C dX7_init_13 rfl ?_
  refine fi_newaI (N := 270) C dX7_init_16 ac_i rfl (by decide) ((fc_up_n _ _ (by decide)).trans ((fc_up_n _ _ (by decide)).trans (H 145 (by decide) (by decide)))) (Nat.le_of_ble_eq_true rfl) (Nat.le_of_ble_eq_true rfl) ?_
  refine fi_putf (fs' := [vR 144, vR 145, vN, vI 0, vN, vN, vN, vN, vN, vN, vN, vN, vN, vN, vN, vI 0, vI 0, vI 0, vN, vI 0, vI 0]) C dX7_init_18 fl_X7_13 (Nat.le_of_ble_eq_true rfl) (by decide) (Or.inr ⟨_, rfl⟩) (Or.inr ⟨rfl, rfl, rfl⟩) rfl ?_
  refine fc_aload_n (x := 143) C dX7_init_21 rfl rfl ?_
  refine fc_bipush C dX7_init_22 rfl ?_
  refine fi_newaI (N := 54) C dX7_init_24 ac_i rfl (by decide) ((fc_up_n _ _ (by decide)).trans ((fc_up_n _ _ (by decide)).trans (H 146 (by decide) (by decide)))) (Nat.le_of_ble_eq_true rfl) (Nat.le_of_ble_eq_true rfl) ?_
  refine fi_putf (fs' := [vR 144, vR 145, vR 146, vI 0, vN, vN, vN, vN, vN, vN, vN, vN, vN, vN, vN, vI 0, vI 0, vI 0, vN, vI 0, vI 0]) C dX7_init_26 fl_X7_16 (Nat.le_of_ble_eq_true rfl) (by decide) (Or.inr ⟨_, rfl⟩) (Or.inr ⟨rfl, rfl, rfl⟩) rfl ?_
  refine fc_aload_n (x := 143) C dX7_init_29 rfl rfl ?_
  refine fc_iconst C dX7_init_30 ?_
  refine fi_newaI (N := 3) C dX7_init_31 ac_i rfl (by decide) ((fc_up_n _ _ (by decide)).trans ((fc_up_n _ _ (by decide)).trans (H 147 (by decide) (by decide)))) (Nat.le_of_ble_eq_true rfl) (Nat.le_of_ble_eq_true rfl) ?_
  refine fi_putf (fs' := [vR 144, vR 145, vR 146, vI 0, vR 147, vN, vN, vN, vN, vN, vN, vN, vN, vN, vN, vI 0, vI 0, vI 0, vN, vI 0, vI 0]) C dX7_init_33 fl_X7_19 (Nat.le_of_ble_eq_true rfl) (by decide) (Or.inr ⟨_, rfl⟩) (Or.inr ⟨rfl, rfl, rfl⟩) rfl ?_
  refine fc_aload_n (x := 143) C dX7_init_36 rfl rfl ?_
  refine fc_iconst C dX7_init_37 ?_
  refine fi_newaJ (N := 5) C dX7_init_38 ac_j rfl (by decide) ((fc_up_n _ _ (by decide)).trans ((fc_up_n _ _ (by decide)).trans (H 148 (by decide) (by decide)))) (Nat.le_of_ble_eq_true rfl) (Nat.le_of_ble_eq_true rfl) ?_
  refine fi_putf (fs' := [vR 144, vR 145, vR 146, vI 0, vR 147, vR 148, vN, vN, vN, vN, vN, vN, vN, vN, vN, vI 0, vI 0, vI 0, vN, vI 0, vI 0]) C dX7_init_40 fl_X7_22 (Nat.le_of_ble_eq_true rfl) (by decide) (Or.inr ⟨_, rfl⟩) (Or.inr ⟨rfl, rfl, rfl⟩) rfl ?_
  refine fc_aload_n (x := 143) C dX7_init_43 rfl rfl ?_
  refine fc_iconst C dX7_init_44 ?_
  refine fi_newaJ (N := 5) C dX7_init_45 ac_j rfl (by decide) ((fc_up_n _ _ (by decide)).trans ((fc_up_n _ _ (by decide)).trans (H 149 (by decide) (by decide)))) (Nat.le_of_ble_eq_true rfl) (Nat.le_of_ble_eq_true rfl) ?_
  refine fi_putf (fs' := [vR 144, vR 145, vR 146, vI 0, vR 147, vR 148, vR 149, vN, vN, vN, vN, vN, vN, vN, vN, vI 0, vI 0, vI 0, vN, vI 0, vI 0]) C dX7_init_47 fl_X7_26 (Nat.le_of_ble_eq_true rfl) (by decide) (Or.inr ⟨_, rfl⟩) (Or.inr ⟨rfl, rfl, rfl⟩) rfl ?_
  refine fc_aload_n (x := 143) C dX7_init_50 rfl rfl ?_
  refine fc_bipush C dX7_init_51 rfl ?_
  refine fi_newaJ (N := 16) C dX7_init_53 ac_j rfl (by decide) ((fc_up_n _ _ (by decide)).trans ((fc_up_n _ _ (by decide)).trans (H 150 (by decide) (by decide)))) (Nat.le_of_ble_eq_true rfl) (Nat.le_of_ble_eq_true rfl) ?_
  refine fi_putf (fs' := [vR 144, vR 145, vR 146, vI 0, vR 147, vR 148, vR 149, vR 150, vN, vN, vN, vN, vN, vN, vN, vI 0, vI 0, vI 0, vN, vI 0, vI 0]) C dX7_init_55 fl_X7_29 (Nat.le_of_ble_eq_true rfl) (by decide) (Or.inr ⟨_, rfl⟩) (Or.inr ⟨rfl, rfl, rfl⟩) rfl ?_
  refine fc_aload_n (x := 143) C dX7_init_58 rfl rfl ?_
  refine fc_iconst C dX7_init_59 ?_
  refine fi_newaJ (N := 5) C dX7_init_60 ac_j rfl (by decide) ((fc_up_n _ _ (by decide)).trans ((fc_up_n _ _ (by decide)).trans (H 151 (by decide) (by decide)))) (Nat.le_of_ble_eq_true rfl) (Nat.le_of_ble_eq_true rfl) ?_
  refine fi_putf (fs' := [vR 144, vR 145, vR 146, vI 0, vR 147, vR 148, vR 149, vR 150, vR 151, vN, vN, vN, vN, vN, vN, vI 0, vI 0, vI 0, vN, vI 0, vI 0]) C dX7_init_62 fl_X7_32 (Nat.le_of_ble_eq_true rfl) (by decide) (Or.inr ⟨_, rfl⟩) (Or.inr ⟨rfl, rfl, rfl⟩) rfl ?_
  refine fc_aload_n (x := 143) C dX7_init_65 rfl rfl ?_
  refine fc_iconst C dX7_init_66 ?_
  refine fi_newaJ (N := 5) C dX7_init_67 ac_j rfl (by decide) ((fc_up_n _ _ (by decide)).trans ((fc_up_n _ _ (by decide)).trans (H 152 (by decide) (by decide)))) (Nat.le_of_ble_eq_true rfl) (Nat.le_of_ble_eq_true rfl) ?_
  refine fi_putf (fs' := [vR 144, vR 145, vR 146, vI 0, vR 147, vR 148, vR 149, vR 150, vR 151, vR 152, vN, vN, vN, vN, vN, vI 0, vI 0, vI 0, vN, vI 0, vI 0]) C dX7_init_69 fl_X7_35 (Nat.le_of_ble_eq_true rfl) (by decide) (Or.inr ⟨_, rfl⟩) (Or.inr ⟨rfl, rfl, rfl⟩) rfl ?_
  refine fc_aload_n (x := 143) C dX7_init_72 rfl rfl ?_
  refine fc_iconst C dX7_init_73 ?_
  refine fi_newaJ (N := 5) C dX7_init_74 ac_j rfl (by decide) ((fc_up_n _ _ (by decide)).trans ((fc_up_n _ _ (by decide)).trans (H 153 (by decide) (by decide)))) (Nat.le_of_ble_eq_true rfl) (Nat.le_of_ble_eq_true rfl) ?_
  refine fi_putf (fs' := [vR 144, vR 145, vR 146, vI 0, vR 147, vR 148, vR 149, vR 150, vR 151, vR 152, vR 153, vN, vN, vN, vN, vI 0, vI 0, vI 0, vN, vI 0, vI 0]) C dX7_init_76 fl_X7_38 (Nat.le_of_ble_eq_true rfl) (by decide) (Or.inr ⟨_, rfl⟩) (Or.inr ⟨rfl, rfl, rfl⟩) rfl ?_
  refine fc_aload_n (x := 143) C dX7_init_79 rfl rfl ?_
  refine fc_iconst C dX7_init_80 ?_
  refine fi_newaJ (N := 5) C dX7_init_81 ac_j rfl (by decide) ((fc_up_n _ _ (by decide)).trans ((fc_up_n _ _ (by decide)).trans (H 154 (by decide) (by decide)))) (Nat.le_of_ble_eq_true rfl) (Nat.le_of_ble_eq_true rfl) ?_
  refine fi_putf (fs' := [vR 144, vR 145, vR 146, vI 0, vR 147, vR 148, vR 149, vR 150, vR 151, vR 152, vR 153, vR 154, vN, vN, vN, vI 0, vI 0, vI 0, vN, vI 0, vI 0]) C dX7_init_83 fl_X7_41 (Nat.le_of_ble_eq_true rfl) (by decide) (Or.inr ⟨_, rfl⟩) (Or.inr ⟨rfl, rfl, rfl⟩) rfl ?_
  refine fc_aload_n (x := 143) C dX7_init_86 rfl rfl ?_
  refine fc_iconst C dX7_init_87 ?_
  refine fi_newaI (N := 5) C dX7_init_88 ac_i rfl (by decide) ((fc_up_n _ _ (by decide)).trans ((fc_up_n _ _ (by decide)).trans (H 155 (by decide) (by decide)))) (Nat.le_of_ble_eq_true rfl) (Nat.le_of_ble_eq_true rfl) ?_
  refine fi_putf (fs' := [vR 144, vR 145, vR 146, vI 0, vR 147, vR 148, vR 149, vR 150, vR 151, vR 152, vR 153, vR 154, vR 155, vN, vN, vI 0, vI 0, vI 0, vN, vI 0, vI 0]) C dX7_init_90 fl_X7_44 (Nat.le_of_ble_eq_true rfl) (by decide) (Or.inr ⟨_, rfl⟩) (Or.inr ⟨rfl, rfl, rfl⟩) rfl ?_
  refine fc_aload_n (x := 143) C dX7_init_93 rfl rfl ?_
  refine fc_iconst C dX7_init_94 ?_
  refine fi_newaJ (N := 5) C dX7_init_95 ac_j rfl (by decide) ((fc_up_n _ _ (by decide)).trans ((fc_up_n _ _ (by decide)).trans (H 156 (by decide) (by decide)))) (Nat.le_of_ble_eq_true rfl) (Nat.le_of_ble_eq_true rfl) ?_
  refine fi_putf (fs' := [vR 144, vR 145, vR 146, vI 0, vR 147, vR 148, vR 149, vR 150, vR 151, vR 152, vR 153, vR 154, vR 155, vR 156, vN, vI 0, vI 0, vI 0, vN, vI 0, vI 0]) C dX7_init_97 fl_X7_47 (Nat.le_of_ble_eq_true rfl) (by decide) (Or.inr ⟨_, rfl⟩) (Or.inr ⟨rfl, rfl, rfl⟩) rfl ?_
  refine fc_aload_n (x := 143) C dX7_init_100 rfl rfl ?_
  refine fc_bipush C dX7_init_101 rfl ?_
  refine fi_newaI (N := 120) C dX7_init_103 ac_i rfl (by decide) ((fc_up_n _ _ (by decide)).trans ((fc_up_n _ _ (by decide)).trans (H 157 (by decide) (by decide)))) (Nat.le_of_ble_eq_true rfl) (Nat.le_of_ble_eq_true rfl) ?_
  refine fi_putf (fs' := [vR 144, vR 145, vR 146, vI 0, vR 147, vR 148, vR 149, vR 150, vR 151, vR 152, vR 153, vR 154, vR 155, vR 156, vR 157, vI 0, vI 0, vI 0, vN, vI 0, vI 0]) C dX7_init_105 fl_X7_50 (Nat.le_of_ble_eq_true rfl) (by decide) (Or.inr ⟨_, rfl⟩) (Or.inr ⟨rfl, rfl, rfl⟩) rfl ?_
  refine fc_aload_n (x := 143) C dX7_init_108 rfl rfl ?_
  refine fc_iconst C dX7_init_109 ?_
  refine fi_newaI (N := 5) C dX7_init_110 ac_i rfl (by decide) ((fc_up_n _ _ (by decide)).trans ((fc_up_n _ _ (by decide)).trans (H 158 (by decide) (by decide)))) (Nat.le_of_ble_eq_true rfl) (Nat.le_of_ble_eq_true rfl) ?_
  refine fi_putf (fs' := [vR 144, vR 145, vR 146, vI 0, vR 147, vR 148, vR 149, vR 150, vR 151, vR 152, vR 153, vR 154, vR 155, vR 156, vR 157, vI 0, vI 0, vI 0, vR 158, vI 0, vI 0]) C dX7_init_112 fl_X7_53 (Nat.le_of_ble_eq_true rfl) (by decide) (Or.inr ⟨_, rfl⟩) (Or.inr ⟨rfl, rfl, rfl⟩) rfl ?_
  refine fc_aload_n (x := 143) C dX7_init_115 rfl rfl ?_
  refine fc_getf (v := vR 144) C dX7_init_116 fl_X7_7 (Nat.le_of_ble_eq_true rfl) (fc_up_s _ _ _) rfl ?_
  refine fc_iconst C dX7_init_119 ?_
  refine fc_iconst C dX7_init_120 ?_
  refine fc_heq (fc_up_id ((fc_up_n _ _ (by decide)).trans (H 143 (by decide) (by decide)))) ?_
  refine fc_iastore C dX7_init_121 (Nat.le_of_ble_eq_true rfl) (fc_up_s _ _ _) (by decide) (by decide) (by decide) ?_
  refine fc_heq (fc_up_up.trans (fc_up_id (H 144 (by decide) (by decide)))) ?_
  exact fc_vret C T dX7_init_122 rfl rfl (fun _ _ => fc_ceq.rf _)
