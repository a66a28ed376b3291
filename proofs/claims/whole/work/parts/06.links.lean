/-! the tables' words by their places: what each class names by its entries (written by wip/whole/genlinks.py) -/
theorem in_X0 : ∀ w ∈ u_ws RX0 TX0 4, w ∈ fc_tbl := by
  intro w hw
  obtain ⟨k, hk, rfl⟩ := List.mem_map.mp hw
  clear hw
  revert k
  exact List.forall_mem_cons.mpr ⟨fc_mem (i := 110) (by decide +kernel) rfl, List.forall_mem_cons.mpr ⟨fc_mem (i := 112) (by decide +kernel) rfl, List.forall_mem_cons.mpr ⟨fc_mem (i := 114) (by decide +kernel) rfl, List.forall_mem_cons.mpr ⟨fc_mem (i := 116) (by decide +kernel) rfl, fun _ h => absurd h List.not_mem_nil⟩⟩⟩⟩
theorem in_X1 : ∀ w ∈ u_ws RX1 TX1 9, w ∈ fc_tbl := by
  intro w hw
  obtain ⟨k, hk, rfl⟩ := List.mem_map.mp hw
  clear hw
  revert k
  exact List.forall_mem_cons.mpr ⟨fc_mem (i := 84) (by decide +kernel) rfl, List.forall_mem_cons.mpr ⟨fc_mem (i := 86) (by decide +kernel) rfl, List.forall_mem_cons.mpr ⟨fc_mem (i := 88) (by decide +kernel) rfl, List.forall_mem_cons.mpr ⟨fc_mem (i := 90) (by decide +kernel) rfl, List.forall_mem_cons.mpr ⟨fc_mem (i := 92) (by decide +kernel) rfl, List.forall_mem_cons.mpr ⟨fc_mem (i := 94) (by decide +kernel) rfl, List.forall_mem_cons.mpr ⟨fc_mem (i := 96) (by decide +kernel) rfl, List.forall_mem_cons.mpr ⟨fc_mem (i := 98) (by decide +kernel) rfl, List.forall_mem_cons.mpr ⟨fc_mem (i := 100) (by decide +kernel) rfl, fun _ h => absurd h List.not_mem_nil⟩⟩⟩⟩⟩⟩⟩⟩⟩
theorem in_X2 : ∀ w ∈ u_ws RX2 TX2 3, w ∈ fc_tbl := by
  intro w hw
  obtain ⟨k, hk, rfl⟩ := List.mem_map.mp hw
  clear hw
  revert k
  exact List.forall_mem_cons.mpr ⟨fc_mem (i := 132) (by decide +kernel) rfl, List.forall_mem_cons.mpr ⟨fc_mem (i := 134) (by decide +kernel) rfl, List.forall_mem_cons.mpr ⟨fc_mem (i := 136) (by decide +kernel) rfl, fun _ h => absurd h List.not_mem_nil⟩⟩⟩
theorem in_X3 : ∀ w ∈ u_ws RX3 TX3 6, w ∈ fc_tbl := by
  intro w hw
  obtain ⟨k, hk, rfl⟩ := List.mem_map.mp hw
  clear hw
  revert k
  exact List.forall_mem_cons.mpr ⟨fc_mem (i := 51) (by decide +kernel) rfl, List.forall_mem_cons.mpr ⟨fc_mem (i := 53) (by decide +kernel) rfl, List.forall_mem_cons.mpr ⟨fc_mem (i := 55) (by decide +kernel) rfl, List.forall_mem_cons.mpr ⟨fc_mem (i := 57) (by decide +kernel) rfl, List.forall_mem_cons.mpr ⟨fc_mem (i := 59) (by decide +kernel) rfl, List.forall_mem_cons.mpr ⟨fc_mem (i := 61) (by decide +kernel) rfl, fun _ h => absurd h List.not_mem_nil⟩⟩⟩⟩⟩⟩
theorem in_X4 : ∀ w ∈ u_ws RX4 TX4 3, w ∈ fc_tbl := by
  intro w hw
  obtain ⟨k, hk, rfl⟩ := List.mem_map.mp hw
  clear hw
  revert k
  exact List.forall_mem_cons.mpr ⟨fc_mem (i := 149) (by decide +kernel) rfl, List.forall_mem_cons.mpr ⟨fc_mem (i := 151) (by decide +kernel) rfl, List.forall_mem_cons.mpr ⟨fc_mem (i := 153) (by decide +kernel) rfl, fun _ h => absurd h List.not_mem_nil⟩⟩⟩
theorem in_X5 : ∀ w ∈ u_ws RX5 TX5 9, w ∈ fc_tbl := by
  intro w hw
  obtain ⟨k, hk, rfl⟩ := List.mem_map.mp hw
  clear hw
  revert k
  exact List.forall_mem_cons.mpr ⟨fc_mem (i := 173) (by decide +kernel) rfl, List.forall_mem_cons.mpr ⟨fc_mem (i := 175) (by decide +kernel) rfl, List.forall_mem_cons.mpr ⟨fc_mem (i := 177) (by decide +kernel) rfl, List.forall_mem_cons.mpr ⟨fc_mem (i := 179) (by decide +kernel) rfl, List.forall_mem_cons.mpr ⟨fc_mem (i := 181) (by decide +kernel) rfl, List.forall_mem_cons.mpr ⟨fc_mem (i := 183) (by decide +kernel) rfl, List.forall_mem_cons.mpr ⟨fc_mem (i := 185) (by decide +kernel) rfl, List.forall_mem_cons.mpr ⟨fc_mem (i := 187) (by decide +kernel) rfl, List.forall_mem_cons.mpr ⟨fc_mem (i := 189) (by decide +kernel) rfl, fun _ h => absurd h List.not_mem_nil⟩⟩⟩⟩⟩⟩⟩⟩⟩
theorem in_X6 : ∀ w ∈ u_ws RX6 TX6 8, w ∈ fc_tbl := by
  intro w hw
  obtain ⟨k, hk, rfl⟩ := List.mem_map.mp hw
  clear hw
  revert k
  exact List.forall_mem_cons.mpr ⟨fc_mem (i := 200) (by decide +kernel) rfl, List.forall_mem_cons.mpr ⟨fc_mem (i := 202) (by decide +kernel) rfl, List.forall_mem_cons.mpr ⟨fc_mem (i := 204) (by decide +kernel) rfl, List.forall_mem_cons.mpr ⟨fc_mem (i := 206) (by decide +kernel) rfl, List.forall_mem_cons.mpr ⟨fc_mem (i := 208) (by decide +kernel) rfl, List.forall_mem_cons.mpr ⟨fc_mem (i := 210) (by decide +kernel) rfl, List.forall_mem_cons.mpr ⟨fc_mem (i := 212) (by decide +kernel) rfl, List.forall_mem_cons.mpr ⟨fc_mem (i := 214) (by decide +kernel) rfl, fun _ h => absurd h List.not_mem_nil⟩⟩⟩⟩⟩⟩⟩⟩
theorem in_X7 : ∀ w ∈ u_ws RX7 TX7 21, w ∈ fc_tbl := by
  intro w hw
  obtain ⟨k, hk, rfl⟩ := List.mem_map.mp hw
  clear hw
  revert k
  exact List.forall_mem_cons.mpr ⟨fc_mem (i := 772) (by decide +kernel) rfl, List.forall_mem_cons.mpr ⟨fc_mem (i := 774) (by decide +kernel) rfl, List.forall_mem_cons.mpr ⟨fc_mem (i := 776) (by decide +kernel) rfl, List.forall_mem_cons.mpr ⟨fc_mem (i := 778) (by decide +kernel) rfl, List.forall_mem_cons.mpr ⟨fc_mem (i := 780) (by decide +kernel) rfl, List.forall_mem_cons.mpr ⟨fc_mem (i := 782) (by decide +kernel) rfl, List.forall_mem_cons.mpr ⟨fc_mem (i := 784) (by decide +kernel) rfl, List.forall_mem_cons.mpr ⟨fc_mem (i := 786) (by decide +kernel) rfl, List.forall_mem_cons.mpr ⟨fc_mem (i := 788) (by decide +kernel) rfl, List.forall_mem_cons.mpr ⟨fc_mem (i := 790) (by decide +kernel) rfl, List.forall_mem_cons.mpr ⟨fc_mem (i := 792) (by decide +kernel) rfl, List.forall_mem_cons.mpr ⟨fc_mem (i := 794) (by decide +kernel) rfl, List.forall_mem_cons.mpr ⟨fc_mem (i := 796) (by decide +kernel) rfl, List.forall_mem_cons.mpr ⟨fc_mem (i := 798) (by decide +kernel) rfl, List.forall_mem_cons.mpr ⟨fc_mem (i := 800) (by decide +kernel) rfl, List.forall_mem_cons.mpr ⟨fc_mem (i := 802) (by decide +kernel) rfl, List.forall_mem_cons.mpr ⟨fc_mem (i := 804) (by decide +kernel) rfl, List.forall_mem_cons.mpr ⟨fc_mem (i := 806) (by decide +kernel) rfl, List.forall_mem_cons.mpr ⟨fc_mem (i := 808) (by decide +kernel) rfl, List.forall_mem_cons.mpr ⟨fc_mem (i := 810) (by decide +kernel) rfl, List.forall_mem_cons.mpr ⟨fc_mem (i := 812) (by decide +kernel) rfl, fun _ h => absurd h List.not_mem_nil⟩⟩⟩⟩⟩⟩⟩⟩⟩⟩⟩⟩⟩⟩⟩⟩⟩⟩⟩⟩⟩
theorem ml_L_9 : fc_ML RL 9 yX6_init := Or.inl (fc_mem (i := 15) (by decide +kernel) rfl)
theorem ml_X6_15 : fc_ML RX6 15 yX0_init := Or.inr ⟨"FiredChips", fc_mem (i := 23) (by decide +kernel) rfl⟩
theorem ml_X0_11 : fc_ML RX0 11 yX3_init := Or.inr ⟨"FiredChips", fc_mem (i := 29) (by decide +kernel) rfl⟩
theorem fl_X3_9 : fc_FL RX3 9 3 0 (.int) false false := ⟨RX3, TX3, 6, tyX3, rfl, in_X3, by decide, tyX3_ok, nmX3, rfl, rfl, Or.inl ⟨rfl, rfl, fc_mem (i := 35) (by decide +kernel) rfl⟩⟩
theorem fl_X1_46 : fc_FL RX1 46 3 0 (.int) false true := ⟨RX3, TX3, 6, tyX3, rfl, in_X3, by decide, tyX3_ok, nmX3, rfl, rfl, Or.inr ⟨rfl, "FiredChips", fc_mem (i := 36) (by decide +kernel) rfl⟩⟩
theorem fl_X6_54 : fc_FL RX6 54 3 0 (.int) false true := ⟨RX3, TX3, 6, tyX3, rfl, in_X3, by decide, tyX3_ok, nmX3, rfl, rfl, Or.inr ⟨rfl, "FiredChips", fc_mem (i := 37) (by decide +kernel) rfl⟩⟩
theorem fl_X0_74 : fc_FL RX0 74 3 0 (.int) false true := ⟨RX3, TX3, 6, tyX3, rfl, in_X3, by decide, tyX3_ok, nmX3, rfl, rfl, Or.inr ⟨rfl, "FiredChips", fc_mem (i := 38) (by decide +kernel) rfl⟩⟩
theorem fl_X3_17 : fc_FL RX3 17 3 1 (.array (.array .int)) true false := ⟨RX3, TX3, 6, tyX3, rfl, in_X3, by decide, tyX3_ok, nmX3, rfl, rfl, Or.inl ⟨rfl, rfl, fc_mem (i := 39) (by decide +kernel) rfl⟩⟩
theorem fl_X1_53 : fc_FL RX1 53 3 1 (.array (.array .int)) true true := ⟨RX3, TX3, 6, tyX3, rfl, in_X3, by decide, tyX3_ok, nmX3, rfl, rfl, Or.inr ⟨rfl, "FiredChips", fc_mem (i := 40) (by decide +kernel) rfl⟩⟩
theorem fl_X3_20 : fc_FL RX3 20 3 2 (.array .int) true false := ⟨RX3, TX3, 6, tyX3, rfl, in_X3, by decide, tyX3_ok, nmX3, rfl, rfl, Or.inl ⟨rfl, rfl, fc_mem (i := 41) (by decide +kernel) rfl⟩⟩
theorem fl_X0_52 : fc_FL RX0 52 3 2 (.array .int) true true := ⟨RX3, TX3, 6, tyX3, rfl, in_X3, by decide, tyX3_ok, nmX3, rfl, rfl, Or.inr ⟨rfl, "FiredChips", fc_mem (i := 42) (by decide +kernel) rfl⟩⟩
theorem fl_X6_114 : fc_FL RX6 114 3 2 (.array .int) true true := ⟨RX3, TX3, 6, tyX3, rfl, in_X3, by decide, tyX3_ok, nmX3, rfl, rfl, Or.inr ⟨rfl, "FiredChips", fc_mem (i := 43) (by decide +kernel) rfl⟩⟩
theorem fl_X3_24 : fc_FL RX3 24 3 3 (.array .int) true false := ⟨RX3, TX3, 6, tyX3, rfl, in_X3, by decide, tyX3_ok, nmX3, rfl, rfl, Or.inl ⟨rfl, rfl, fc_mem (i := 44) (by decide +kernel) rfl⟩⟩
theorem fl_X0_98 : fc_FL RX0 98 3 3 (.array .int) true true := ⟨RX3, TX3, 6, tyX3, rfl, in_X3, by decide, tyX3_ok, nmX3, rfl, rfl, Or.inr ⟨rfl, "FiredChips", fc_mem (i := 45) (by decide +kernel) rfl⟩⟩
theorem fl_X6_140 : fc_FL RX6 140 3 3 (.array .int) true true := ⟨RX3, TX3, 6, tyX3, rfl, in_X3, by decide, tyX3_ok, nmX3, rfl, rfl, Or.inr ⟨rfl, "FiredChips", fc_mem (i := 46) (by decide +kernel) rfl⟩⟩
theorem fl_X3_27 : fc_FL RX3 27 3 4 (.array .int) true false := ⟨RX3, TX3, 6, tyX3, rfl, in_X3, by decide, tyX3_ok, nmX3, rfl, rfl, Or.inl ⟨rfl, rfl, fc_mem (i := 47) (by decide +kernel) rfl⟩⟩
theorem fl_X6_287 : fc_FL RX6 287 3 4 (.array .int) true true := ⟨RX3, TX3, 6, tyX3, rfl, in_X3, by decide, tyX3_ok, nmX3, rfl, rfl, Or.inr ⟨rfl, "FiredChips", fc_mem (i := 48) (by decide +kernel) rfl⟩⟩
theorem fl_X3_30 : fc_FL RX3 30 3 5 (.array (.array .int)) true false := ⟨RX3, TX3, 6, tyX3, rfl, in_X3, by decide, tyX3_ok, nmX3, rfl, rfl, Or.inl ⟨rfl, rfl, fc_mem (i := 49) (by decide +kernel) rfl⟩⟩
theorem fl_X6_290 : fc_FL RX6 290 3 5 (.array (.array .int)) true true := ⟨RX3, TX3, 6, tyX3, rfl, in_X3, by decide, tyX3_ok, nmX3, rfl, rfl, Or.inr ⟨rfl, "FiredChips", fc_mem (i := 50) (by decide +kernel) rfl⟩⟩
theorem ml_X0_20 : fc_ML RX0 20 yX1_init := Or.inr ⟨"FiredChips", fc_mem (i := 67) (by decide +kernel) rfl⟩
theorem fl_X1_11 : fc_FL RX1 11 1 0 (.array (.array .int)) true false := ⟨RX1, TX1, 9, tyX1, rfl, in_X1, by decide, tyX1_ok, nmX1, rfl, rfl, Or.inl ⟨rfl, rfl, fc_mem (i := 74) (by decide +kernel) rfl⟩⟩
theorem fl_X1_18 : fc_FL RX1 18 1 1 (.array (.array .long)) true false := ⟨RX1, TX1, 9, tyX1, rfl, in_X1, by decide, tyX1_ok, nmX1, rfl, rfl, Or.inl ⟨rfl, rfl, fc_mem (i := 75) (by decide +kernel) rfl⟩⟩
theorem fl_X1_21 : fc_FL RX1 21 1 2 (.array .long) true false := ⟨RX1, TX1, 9, tyX1, rfl, in_X1, by decide, tyX1_ok, nmX1, rfl, rfl, Or.inl ⟨rfl, rfl, fc_mem (i := 76) (by decide +kernel) rfl⟩⟩
theorem fl_X1_25 : fc_FL RX1 25 1 3 (.array .int) true false := ⟨RX1, TX1, 9, tyX1, rfl, in_X1, by decide, tyX1_ok, nmX1, rfl, rfl, Or.inl ⟨rfl, rfl, fc_mem (i := 77) (by decide +kernel) rfl⟩⟩
theorem fl_X1_29 : fc_FL RX1 29 1 4 (.array .int) true false := ⟨RX1, TX1, 9, tyX1, rfl, in_X1, by decide, tyX1_ok, nmX1, rfl, rfl, Or.inl ⟨rfl, rfl, fc_mem (i := 78) (by decide +kernel) rfl⟩⟩
theorem fl_X1_32 : fc_FL RX1 32 1 5 (.array .int) true false := ⟨RX1, TX1, 9, tyX1, rfl, in_X1, by decide, tyX1_ok, nmX1, rfl, rfl, Or.inl ⟨rfl, rfl, fc_mem (i := 79) (by decide +kernel) rfl⟩⟩
theorem fl_X1_35 : fc_FL RX1 35 1 6 (.int) false false := ⟨RX1, TX1, 9, tyX1, rfl, in_X1, by decide, tyX1_ok, nmX1, rfl, rfl, Or.inl ⟨rfl, rfl, fc_mem (i := 80) (by decide +kernel) rfl⟩⟩
theorem fl_X4_24 : fc_FL RX4 24 1 6 (.int) false true := ⟨RX1, TX1, 9, tyX1, rfl, in_X1, by decide, tyX1_ok, nmX1, rfl, rfl, Or.inr ⟨rfl, "FiredChips", fc_mem (i := 81) (by decide +kernel) rfl⟩⟩
theorem fl_X1_39 : fc_FL RX1 39 1 7 (.int) false false := ⟨RX1, TX1, 9, tyX1, rfl, in_X1, by decide, tyX1_ok, nmX1, rfl, rfl, Or.inl ⟨rfl, rfl, fc_mem (i := 82) (by decide +kernel) rfl⟩⟩
theorem fl_X1_42 : fc_FL RX1 42 1 8 (.long) false false := ⟨RX1, TX1, 9, tyX1, rfl, in_X1, by decide, tyX1_ok, nmX1, rfl, rfl, Or.inl ⟨rfl, rfl, fc_mem (i := 83) (by decide +kernel) rfl⟩⟩
theorem fl_X0_12 : fc_FL RX0 12 0 0 (.object "FiredChips$Position") true false := ⟨RX0, TX0, 4, tyX0, rfl, in_X0, by decide, tyX0_ok, nmX0, rfl, rfl, Or.inl ⟨rfl, rfl, fc_mem (i := 104) (by decide +kernel) rfl⟩⟩
theorem fl_X6_20 : fc_FL RX6 20 0 0 (.object "FiredChips$Position") true true := ⟨RX0, TX0, 4, tyX0, rfl, in_X0, by decide, tyX0_ok, nmX0, rfl, rfl, Or.inr ⟨rfl, "FiredChips", fc_mem (i := 105) (by decide +kernel) rfl⟩⟩
theorem fl_X0_21 : fc_FL RX0 21 0 1 (.object "FiredChips$Grounded") true false := ⟨RX0, TX0, 4, tyX0, rfl, in_X0, by decide, tyX0_ok, nmX0, rfl, rfl, Or.inl ⟨rfl, rfl, fc_mem (i := 106) (by decide +kernel) rfl⟩⟩
theorem fl_X6_25 : fc_FL RX6 25 0 1 (.object "FiredChips$Grounded") true true := ⟨RX0, TX0, 4, tyX0, rfl, in_X0, by decide, tyX0_ok, nmX0, rfl, rfl, Or.inr ⟨rfl, "FiredChips", fc_mem (i := 107) (by decide +kernel) rfl⟩⟩
theorem fl_X0_25 : fc_FL RX0 25 0 2 (.array .int) true false := ⟨RX0, TX0, 4, tyX0, rfl, in_X0, by decide, tyX0_ok, nmX0, rfl, rfl, Or.inl ⟨rfl, rfl, fc_mem (i := 108) (by decide +kernel) rfl⟩⟩
theorem fl_X0_29 : fc_FL RX0 29 0 3 (.array .int) true false := ⟨RX0, TX0, 4, tyX0, rfl, in_X0, by decide, tyX0_ok, nmX0, rfl, rfl, Or.inl ⟨rfl, rfl, fc_mem (i := 109) (by decide +kernel) rfl⟩⟩
theorem ml_X6_32 : fc_ML RX6 32 yX2_init := Or.inl (fc_mem (i := 121) (by decide +kernel) rfl)
theorem ml_X2_24 : fc_ML RX2 24 yX3_init := Or.inr ⟨"FiredChips", fc_mem (i := 127) (by decide +kernel) rfl⟩
theorem fl_X2_11 : fc_FL RX2 11 2 0 (.array (.object "FiredChips$Position")) true false := ⟨RX2, TX2, 3, tyX2, rfl, in_X2, by decide, tyX2_ok, nmX2, rfl, rfl, Or.inl ⟨rfl, rfl, fc_mem (i := 128) (by decide +kernel) rfl⟩⟩
theorem fl_X2_17 : fc_FL RX2 17 2 1 (.int) false false := ⟨RX2, TX2, 3, tyX2, rfl, in_X2, by decide, tyX2_ok, nmX2, rfl, rfl, Or.inl ⟨rfl, rfl, fc_mem (i := 129) (by decide +kernel) rfl⟩⟩
theorem fl_X2_21 : fc_FL RX2 21 2 2 (.int) false false := ⟨RX2, TX2, 3, tyX2, rfl, in_X2, by decide, tyX2_ok, nmX2, rfl, rfl, Or.inl ⟨rfl, rfl, fc_mem (i := 130) (by decide +kernel) rfl⟩⟩
theorem fl_X6_253 : fc_FL RX6 253 2 2 (.int) false true := ⟨RX2, TX2, 3, tyX2, rfl, in_X2, by decide, tyX2_ok, nmX2, rfl, rfl, Or.inr ⟨rfl, "FiredChips", fc_mem (i := 131) (by decide +kernel) rfl⟩⟩
theorem ml_X6_39 : fc_ML RX6 39 yX4_init := Or.inr ⟨"FiredChips", fc_mem (i := 141) (by decide +kernel) rfl⟩
theorem fl_X4_11 : fc_FL RX4 11 4 0 (.array (.array .int)) true false := ⟨RX4, TX4, 3, tyX4, rfl, in_X4, by decide, tyX4_ok, nmX4, rfl, rfl, Or.inl ⟨rfl, rfl, fc_mem (i := 146) (by decide +kernel) rfl⟩⟩
theorem fl_X4_16 : fc_FL RX4 16 4 1 (.array .int) true false := ⟨RX4, TX4, 3, tyX4, rfl, in_X4, by decide, tyX4_ok, nmX4, rfl, rfl, Or.inl ⟨rfl, rfl, fc_mem (i := 147) (by decide +kernel) rfl⟩⟩
theorem fl_X4_20 : fc_FL RX4 20 4 2 (.int) false false := ⟨RX4, TX4, 3, tyX4, rfl, in_X4, by decide, tyX4_ok, nmX4, rfl, rfl, Or.inl ⟨rfl, rfl, fc_mem (i := 148) (by decide +kernel) rfl⟩⟩
theorem ml_X6_46 : fc_ML RX6 46 yX5_init := Or.inr ⟨"FiredChips", fc_mem (i := 158) (by decide +kernel) rfl⟩
theorem fl_X5_9 : fc_FL RX5 9 5 0 (.array .int) true false := ⟨RX5, TX5, 9, tyX5, rfl, in_X5, by decide, tyX5_ok, nmX5, rfl, rfl, Or.inl ⟨rfl, rfl, fc_mem (i := 162) (by decide +kernel) rfl⟩⟩
theorem fl_X5_15 : fc_FL RX5 15 5 1 (.int) false false := ⟨RX5, TX5, 9, tyX5, rfl, in_X5, by decide, tyX5_ok, nmX5, rfl, rfl, Or.inl ⟨rfl, rfl, fc_mem (i := 163) (by decide +kernel) rfl⟩⟩
theorem fl_X6_232 : fc_FL RX6 232 5 1 (.int) false true := ⟨RX5, TX5, 9, tyX5, rfl, in_X5, by decide, tyX5_ok, nmX5, rfl, rfl, Or.inr ⟨rfl, "FiredChips", fc_mem (i := 164) (by decide +kernel) rfl⟩⟩
theorem fl_X5_19 : fc_FL RX5 19 5 2 (.array .int) true false := ⟨RX5, TX5, 9, tyX5, rfl, in_X5, by decide, tyX5_ok, nmX5, rfl, rfl, Or.inl ⟨rfl, rfl, fc_mem (i := 165) (by decide +kernel) rfl⟩⟩
theorem fl_X5_22 : fc_FL RX5 22 5 3 (.int) false false := ⟨RX5, TX5, 9, tyX5, rfl, in_X5, by decide, tyX5_ok, nmX5, rfl, rfl, Or.inl ⟨rfl, rfl, fc_mem (i := 166) (by decide +kernel) rfl⟩⟩
theorem fl_X5_25 : fc_FL RX5 25 5 4 (.int) false false := ⟨RX5, TX5, 9, tyX5, rfl, in_X5, by decide, tyX5_ok, nmX5, rfl, rfl, Or.inl ⟨rfl, rfl, fc_mem (i := 167) (by decide +kernel) rfl⟩⟩
theorem fl_X5_28 : fc_FL RX5 28 5 5 (.int) false false := ⟨RX5, TX5, 9, tyX5, rfl, in_X5, by decide, tyX5_ok, nmX5, rfl, rfl, Or.inl ⟨rfl, rfl, fc_mem (i := 168) (by decide +kernel) rfl⟩⟩
theorem fl_X6_250 : fc_FL RX6 250 5 5 (.int) false true := ⟨RX5, TX5, 9, tyX5, rfl, in_X5, by decide, tyX5_ok, nmX5, rfl, rfl, Or.inr ⟨rfl, "FiredChips", fc_mem (i := 169) (by decide +kernel) rfl⟩⟩
theorem fl_X5_31 : fc_FL RX5 31 5 6 (.int) false false := ⟨RX5, TX5, 9, tyX5, rfl, in_X5, by decide, tyX5_ok, nmX5, rfl, rfl, Or.inl ⟨rfl, rfl, fc_mem (i := 170) (by decide +kernel) rfl⟩⟩
theorem fl_X5_34 : fc_FL RX5 34 5 7 (.int) false false := ⟨RX5, TX5, 9, tyX5, rfl, in_X5, by decide, tyX5_ok, nmX5, rfl, rfl, Or.inl ⟨rfl, rfl, fc_mem (i := 171) (by decide +kernel) rfl⟩⟩
theorem fl_X5_37 : fc_FL RX5 37 5 8 (.int) false false := ⟨RX5, TX5, 9, tyX5, rfl, in_X5, by decide, tyX5_ok, nmX5, rfl, rfl, Or.inl ⟨rfl, rfl, fc_mem (i := 172) (by decide +kernel) rfl⟩⟩
theorem fl_X6_7 : fc_FL RX6 7 6 0 (.array .int) true false := ⟨RX6, TX6, 8, tyX6, rfl, in_X6, by decide, tyX6_ok, nmX6, rfl, rfl, Or.inl ⟨rfl, rfl, fc_mem (i := 192) (by decide +kernel) rfl⟩⟩
theorem fl_X6_16 : fc_FL RX6 16 6 1 (.object "FiredChips$Acts") true false := ⟨RX6, TX6, 8, tyX6, rfl, in_X6, by decide, tyX6_ok, nmX6, rfl, rfl, Or.inl ⟨rfl, rfl, fc_mem (i := 193) (by decide +kernel) rfl⟩⟩
theorem fl_X6_24 : fc_FL RX6 24 6 2 (.object "FiredChips$Position") true false := ⟨RX6, TX6, 8, tyX6, rfl, in_X6, by decide, tyX6_ok, nmX6, rfl, rfl, Or.inl ⟨rfl, rfl, fc_mem (i := 194) (by decide +kernel) rfl⟩⟩
theorem fl_X6_29 : fc_FL RX6 29 6 3 (.object "FiredChips$Grounded") true false := ⟨RX6, TX6, 8, tyX6, rfl, in_X6, by decide, tyX6_ok, nmX6, rfl, rfl, Or.inl ⟨rfl, rfl, fc_mem (i := 195) (by decide +kernel) rfl⟩⟩
theorem fl_X6_33 : fc_FL RX6 33 6 4 (.object "FiredChips$History") true false := ⟨RX6, TX6, 8, tyX6, rfl, in_X6, by decide, tyX6_ok, nmX6, rfl, rfl, Or.inl ⟨rfl, rfl, fc_mem (i := 196) (by decide +kernel) rfl⟩⟩
theorem fl_X6_40 : fc_FL RX6 40 6 5 (.object "FiredChips$RankSearch") true false := ⟨RX6, TX6, 8, tyX6, rfl, in_X6, by decide, tyX6_ok, nmX6, rfl, rfl, Or.inl ⟨rfl, rfl, fc_mem (i := 197) (by decide +kernel) rfl⟩⟩
theorem fl_X6_47 : fc_FL RX6 47 6 6 (.object "FiredChips$Text") true false := ⟨RX6, TX6, 8, tyX6, rfl, in_X6, by decide, tyX6_ok, nmX6, rfl, rfl, Or.inl ⟨rfl, rfl, fc_mem (i := 198) (by decide +kernel) rfl⟩⟩
theorem fl_X6_51 : fc_FL RX6 51 6 7 (.array .int) true false := ⟨RX6, TX6, 8, tyX6, rfl, in_X6, by decide, tyX6_ok, nmX6, rfl, rfl, Or.inl ⟨rfl, rfl, fc_mem (i := 199) (by decide +kernel) rfl⟩⟩
theorem ml_L_13 : fc_ML RL 13 yX6_points := Or.inl (fc_mem (i := 217) (by decide +kernel) rfl)
theorem ml_X6_60 : fc_ML RX6 60 yX2_hold := Or.inl (fc_mem (i := 221) (by decide +kernel) rfl)
theorem ml_X2_25 : fc_ML RX2 25 yX2_held := Or.inl (fc_mem (i := 225) (by decide +kernel) rfl)
theorem ml_X2_29 : fc_ML RX2 29 yX3_copyFrom := Or.inl (fc_mem (i := 229) (by decide +kernel) rfl)
theorem ml_X3_33 : fc_ML RX3 33 yX6_copyRow := Or.inr ⟨"FiredChips", fc_mem (i := 233) (by decide +kernel) rfl⟩
theorem ml_X6_64 : fc_ML RX6 64 yX0_startAnew := Or.inl (fc_mem (i := 239) (by decide +kernel) rfl)
theorem ml_X0_32 : fc_ML RX0 32 yX3_empty := Or.inl (fc_mem (i := 243) (by decide +kernel) rfl)
theorem ml_X3_37 : fc_ML RX3 37 yJ7_fill_53178 := Or.inl (fc_mem (i := 247) (by decide +kernel) rfl)
theorem ml_X6_68 : fc_ML RX6 68 yX6_ended := Or.inl (fc_mem (i := 250) (by decide +kernel) rfl)
theorem ml_X6_80 : fc_ML RX6 80 yX6_refuse := Or.inl (fc_mem (i := 254) (by decide +kernel) rfl)
theorem ml_X6_247 : fc_ML RX6 247 yX2_keepHeld := Or.inl (fc_mem (i := 258) (by decide +kernel) rfl)
theorem ml_X2_33 : fc_ML RX2 33 yJ9_min_7cf53 := Or.inl (fc_mem (i := 262) (by decide +kernel) rfl)
theorem ml_L_18 : fc_ML RL 18 yX6_lines := Or.inl (fc_mem (i := 265) (by decide +kernel) rfl)
theorem ml_X6_72 : fc_ML RX6 72 yX3_linesBetween := Or.inl (fc_mem (i := 269) (by decide +kernel) rfl)
theorem ml_X3_63 : fc_ML RX3 63 yX3_hasPoint := Or.inl (fc_mem (i := 273) (by decide +kernel) rfl)
theorem ml_X6_75 : fc_ML RX6 75 yX0_layLines := Or.inl (fc_mem (i := 277) (by decide +kernel) rfl)
theorem ml_X0_36 : fc_ML RX0 36 yX3_hasPoint := Or.inl (fc_mem (i := 281) (by decide +kernel) rfl)
theorem ml_X0_40 : fc_ML RX0 40 yX3_putLines := Or.inl (fc_mem (i := 282) (by decide +kernel) rfl)
theorem ml_L_23 : fc_ML RL 23 yX6_draws := Or.inl (fc_mem (i := 286) (by decide +kernel) rfl)
theorem kc_X6_79 : Cond.constant RX6 79 (Int32.ofInt (999999)) ∈ fc_tbl := fc_mem (i := 290) (by decide +kernel) rfl
theorem ml_X6_83 : fc_ML RX6 83 yX3_draw := Or.inl (fc_mem (i := 291) (by decide +kernel) rfl)
theorem ml_X3_43 : fc_ML RX3 43 yX3_drawnAfter := Or.inl (fc_mem (i := 295) (by decide +kernel) rfl)
theorem kc_X3_57 : Cond.constantLong RX3 57 (Int64.ofInt (1103515245)) ∈ fc_tbl := fc_mem (i := 298) (by decide +kernel) rfl
theorem kc_X3_59 : Cond.constantLong RX3 59 (Int64.ofInt (12345)) ∈ fc_tbl := fc_mem (i := 299) (by decide +kernel) rfl
theorem kc_X3_61 : Cond.constantLong RX3 61 (Int64.ofInt (2147483648)) ∈ fc_tbl := fc_mem (i := 300) (by decide +kernel) rfl
theorem kc_X3_47 : Cond.constantLong RX3 47 (Int64.ofInt (65536)) ∈ fc_tbl := fc_mem (i := 301) (by decide +kernel) rfl
theorem kc_X3_49 : Cond.constantLong RX3 49 (Int64.ofInt (3)) ∈ fc_tbl := fc_mem (i := 302) (by decide +kernel) rfl
theorem ml_X3_51 : fc_ML RX3 51 yX3_putLines := Or.inl (fc_mem (i := 303) (by decide +kernel) rfl)
theorem kc_X3_55 : Cond.constantLong RX3 55 (Int64.ofInt (7)) ∈ fc_tbl := fc_mem (i := 304) (by decide +kernel) rfl
theorem ml_X6_87 : fc_ML RX6 87 yX3_lineCount := Or.inl (fc_mem (i := 305) (by decide +kernel) rfl)
theorem ml_X3_75 : fc_ML RX3 75 yX3_valence := Or.inl (fc_mem (i := 309) (by decide +kernel) rfl)
theorem ml_X3_67 : fc_ML RX3 67 yX3_allPoints := Or.inl (fc_mem (i := 313) (by decide +kernel) rfl)
theorem ml_X3_71 : fc_ML RX3 71 yX3_linesInto := Or.inl (fc_mem (i := 317) (by decide +kernel) rfl)
theorem ml_L_27 : fc_ML RL 27 yX6_net := Or.inl (fc_mem (i := 321) (by decide +kernel) rfl)
theorem ml_X6_91 : fc_ML RX6 91 yX3_hasPoint := Or.inl (fc_mem (i := 325) (by decide +kernel) rfl)
theorem ml_X6_95 : fc_ML RX6 95 yX3_valence := Or.inl (fc_mem (i := 326) (by decide +kernel) rfl)
theorem ml_L_32 : fc_ML RL 32 yX6_joined := Or.inl (fc_mem (i := 327) (by decide +kernel) rfl)
theorem ml_X6_98 : fc_ML RX6 98 yX3_isJoined := Or.inl (fc_mem (i := 331) (by decide +kernel) rfl)
theorem ml_X6_102 : fc_ML RX6 102 yX6_bit := Or.inl (fc_mem (i := 335) (by decide +kernel) rfl)
theorem ml_L_37 : fc_ML RL 37 yX6_sets := Or.inl (fc_mem (i := 338) (by decide +kernel) rfl)
theorem ml_X6_106 : fc_ML RX6 106 yJ9_abs_067f4 := Or.inl (fc_mem (i := 342) (by decide +kernel) rfl)
theorem kc_X6_112 : Cond.constantLong RX6 112 (Int64.ofInt (99)) ∈ fc_tbl := fc_mem (i := 345) (by decide +kernel) rfl
theorem ml_L_41 : fc_ML RL 41 yX6_adds := Or.inl (fc_mem (i := 346) (by decide +kernel) rfl)
theorem ml_X6_117 : fc_ML RX6 117 yX0_addChips := Or.inl (fc_mem (i := 350) (by decide +kernel) rfl)
theorem ml_X0_44 : fc_ML RX0 44 yJ9_abs_067f4 := Or.inl (fc_mem (i := 354) (by decide +kernel) rfl)
theorem kc_X0_50 : Cond.constantLong RX0 50 (Int64.ofInt (99)) ∈ fc_tbl := fc_mem (i := 355) (by decide +kernel) rfl
theorem ml_X0_55 : fc_ML RX0 55 yX6_copyRow := Or.inr ⟨"FiredChips", fc_mem (i := 356) (by decide +kernel) rfl⟩
theorem ml_X0_59 : fc_ML RX0 59 yX0_takePlanned := Or.inl (fc_mem (i := 357) (by decide +kernel) rfl)
theorem ml_X0_101 : fc_ML RX0 101 yJ9_abs_0f7a4 := Or.inl (fc_mem (i := 361) (by decide +kernel) rfl)
theorem ml_L_45 : fc_ML RL 45 yX6_fires := Or.inl (fc_mem (i := 364) (by decide +kernel) rfl)
theorem ml_X6_120 : fc_ML RX6 120 yX0_firePoint := Or.inl (fc_mem (i := 368) (by decide +kernel) rfl)
theorem ml_X0_63 : fc_ML RX0 63 yX0_fireSet := Or.inl (fc_mem (i := 372) (by decide +kernel) rfl)
theorem ml_X0_67 : fc_ML RX0 67 yX3_allPoints := Or.inl (fc_mem (i := 376) (by decide +kernel) rfl)
theorem ml_X0_70 : fc_ML RX0 70 yX1_take := Or.inl (fc_mem (i := 377) (by decide +kernel) rfl)
theorem ml_X1_49 : fc_ML RX1 49 yX3_valence := Or.inl (fc_mem (i := 381) (by decide +kernel) rfl)
theorem ml_X0_78 : fc_ML RX0 78 yX1_fire := Or.inl (fc_mem (i := 382) (by decide +kernel) rfl)
theorem ml_L_49 : fc_ML RL 49 yX6_borrows := Or.inl (fc_mem (i := 386) (by decide +kernel) rfl)
theorem ml_L_53 : fc_ML RL 53 yX6_together := Or.inl (fc_mem (i := 390) (by decide +kernel) rfl)
theorem ml_X6_123 : fc_ML RX6 123 yX0_fireSet := Or.inl (fc_mem (i := 394) (by decide +kernel) rfl)
theorem ml_X6_126 : fc_ML RX6 126 yX2_held := Or.inl (fc_mem (i := 395) (by decide +kernel) rfl)
theorem ml_X6_130 : fc_ML RX6 130 yX3_chipsUnlike := Or.inl (fc_mem (i := 396) (by decide +kernel) rfl)
theorem ml_L_57 : fc_ML RL 57 yX6_settles := Or.inl (fc_mem (i := 400) (by decide +kernel) rfl)
theorem ml_X6_134 : fc_ML RX6 134 yX0_settleHeap := Or.inl (fc_mem (i := 404) (by decide +kernel) rfl)
theorem ml_X0_82 : fc_ML RX0 82 yX3_isJoined := Or.inl (fc_mem (i := 408) (by decide +kernel) rfl)
theorem ml_X0_86 : fc_ML RX0 86 yX3_isHeap := Or.inl (fc_mem (i := 409) (by decide +kernel) rfl)
theorem ml_X0_89 : fc_ML RX0 89 yJ7_fill_53178 := Or.inl (fc_mem (i := 413) (by decide +kernel) rfl)
theorem ml_X0_95 : fc_ML RX0 95 yX1_settle := Or.inl (fc_mem (i := 414) (by decide +kernel) rfl)
theorem kc_X1_93 : Cond.constant RX1 93 (Int32.ofInt (1000000)) ∈ fc_tbl := fc_mem (i := 418) (by decide +kernel) rfl
theorem ml_X1_94 : fc_ML RX1 94 yX1_fire := Or.inl (fc_mem (i := 419) (by decide +kernel) rfl)
theorem ml_X6_137 : fc_ML RX6 137 yX3_firedInAll := Or.inl (fc_mem (i := 420) (by decide +kernel) rfl)
theorem ml_X3_89 : fc_ML RX3 89 yX6_degreeOf := Or.inr ⟨"FiredChips", fc_mem (i := 424) (by decide +kernel) rfl⟩
theorem ml_L_61 : fc_ML RL 61 yX6_script := Or.inl (fc_mem (i := 427) (by decide +kernel) rfl)
theorem ml_L_65 : fc_ML RL 65 yX6_of := Or.inl (fc_mem (i := 431) (by decide +kernel) rfl)
theorem ml_X6_143 : fc_ML RX6 143 yX3_isFullAt := Or.inl (fc_mem (i := 435) (by decide +kernel) rfl)
theorem ml_L_69 : fc_ML RL 69 yX6_stable := Or.inl (fc_mem (i := 439) (by decide +kernel) rfl)
theorem ml_X6_146 : fc_ML RX6 146 yX3_isStableHeap := Or.inl (fc_mem (i := 443) (by decide +kernel) rfl)
theorem ml_X3_82 : fc_ML RX3 82 yX3_isFullAt := Or.inl (fc_mem (i := 447) (by decide +kernel) rfl)
theorem ml_X3_85 : fc_ML RX3 85 yX3_isHeap := Or.inl (fc_mem (i := 448) (by decide +kernel) rfl)
theorem ml_L_73 : fc_ML RL 73 yX6_burns := Or.inl (fc_mem (i := 449) (by decide +kernel) rfl)
theorem ml_X6_149 : fc_ML RX6 149 yX3_nextToBurn := Or.inl (fc_mem (i := 453) (by decide +kernel) rfl)
theorem ml_X6_152 : fc_ML RX6 152 yX3_allPoints := Or.inl (fc_mem (i := 457) (by decide +kernel) rfl)
theorem ml_L_77 : fc_ML RL 77 yX6_trees := Or.inl (fc_mem (i := 458) (by decide +kernel) rfl)
theorem ml_X6_155 : fc_ML RX6 155 yX1_take := Or.inl (fc_mem (i := 462) (by decide +kernel) rfl)
theorem ml_X6_161 : fc_ML RX6 161 yX1_treeCount := Or.inl (fc_mem (i := 463) (by decide +kernel) rfl)
theorem ml_X1_64 : fc_ML RX1 64 yX1_othersThanSink := Or.inl (fc_mem (i := 467) (by decide +kernel) rfl)
theorem ml_X1_68 : fc_ML RX1 68 yX1_minor := Or.inl (fc_mem (i := 471) (by decide +kernel) rfl)
theorem ml_L_81 : fc_ML RL 81 yX6_parts := Or.inl (fc_mem (i := 475) (by decide +kernel) rfl)
theorem ml_X6_165 : fc_ML RX6 165 yX1_commonDivisor := Or.inl (fc_mem (i := 479) (by decide +kernel) rfl)
theorem ml_X1_78 : fc_ML RX1 78 yJ6_bitCount_0f7a4 := Or.inl (fc_mem (i := 483) (by decide +kernel) rfl)
theorem kc_J6_265 : Cond.constant RJ6 265 (Int32.ofInt (1431655765)) ∈ fc_tbl := fc_mem (i := 486) (by decide +kernel) rfl
theorem kc_J6_266 : Cond.constant RJ6 266 (Int32.ofInt (858993459)) ∈ fc_tbl := fc_mem (i := 487) (by decide +kernel) rfl
theorem kc_J6_267 : Cond.constant RJ6 267 (Int32.ofInt (252645135)) ∈ fc_tbl := fc_mem (i := 488) (by decide +kernel) rfl
theorem ml_X1_83 : fc_ML RX1 83 yX1_greatestDivisor := Or.inl (fc_mem (i := 489) (by decide +kernel) rfl)
theorem ml_X1_87 : fc_ML RX1 87 yJ9_abs_067f4 := Or.inl (fc_mem (i := 492) (by decide +kernel) rfl)
theorem ml_L_85 : fc_ML RL 85 yX6_identity := Or.inl (fc_mem (i := 493) (by decide +kernel) rfl)
theorem ml_X6_169 : fc_ML RX6 169 yJ7_fill_53178 := Or.inl (fc_mem (i := 497) (by decide +kernel) rfl)
theorem ml_X6_175 : fc_ML RX6 175 yX1_takeWhole := Or.inl (fc_mem (i := 498) (by decide +kernel) rfl)
theorem ml_X1_56 : fc_ML RX1 56 yX1_take := Or.inl (fc_mem (i := 502) (by decide +kernel) rfl)
theorem ml_X1_60 : fc_ML RX1 60 yX1_treeCount := Or.inl (fc_mem (i := 503) (by decide +kernel) rfl)
theorem ml_X1_72 : fc_ML RX1 72 yX1_placeOf := Or.inl (fc_mem (i := 504) (by decide +kernel) rfl)
theorem ml_X1_75 : fc_ML RX1 75 yX1_findNeutral := Or.inl (fc_mem (i := 508) (by decide +kernel) rfl)
theorem ml_X1_98 : fc_ML RX1 98 yX1_settle := Or.inl (fc_mem (i := 512) (by decide +kernel) rfl)
theorem ml_X6_178 : fc_ML RX6 178 yX1_makeRecurrent := Or.inl (fc_mem (i := 513) (by decide +kernel) rfl)
theorem ml_X1_102 : fc_ML RX1 102 yX1_solve := Or.inl (fc_mem (i := 517) (by decide +kernel) rfl)
theorem ml_X1_106 : fc_ML RX1 106 yJ9_floorDiv_f86c9 := Or.inl (fc_mem (i := 521) (by decide +kernel) rfl)
theorem ml_L_89 : fc_ML RL 89 yX6_recurrent := Or.inl (fc_mem (i := 524) (by decide +kernel) rfl)
theorem ml_X6_182 : fc_ML RX6 182 yX3_isHeap := Or.inl (fc_mem (i := 528) (by decide +kernel) rfl)
theorem ml_X6_185 : fc_ML RX6 185 yX6_copyRow := Or.inl (fc_mem (i := 529) (by decide +kernel) rfl)
theorem ml_L_93 : fc_ML RL 93 yX6_order := Or.inl (fc_mem (i := 530) (by decide +kernel) rfl)
theorem ml_X6_189 : fc_ML RX6 189 yX1_leastMultiple := Or.inl (fc_mem (i := 534) (by decide +kernel) rfl)
theorem ml_L_97 : fc_ML RL 97 yX6_heaps := Or.inl (fc_mem (i := 538) (by decide +kernel) rfl)
theorem ml_X6_193 : fc_ML RX6 193 yX3_stableHeapCount := Or.inl (fc_mem (i := 542) (by decide +kernel) rfl)
theorem ml_X6_196 : fc_ML RX6 196 yX6_trees := Or.inl (fc_mem (i := 546) (by decide +kernel) rfl)
theorem ml_L_101 : fc_ML RL 101 yX6_rank := Or.inl (fc_mem (i := 547) (by decide +kernel) rfl)
theorem ml_X6_199 : fc_ML RX6 199 yX6_degreeOf := Or.inl (fc_mem (i := 551) (by decide +kernel) rfl)
theorem ml_X6_203 : fc_ML RX6 203 yX3_genus := Or.inl (fc_mem (i := 552) (by decide +kernel) rfl)
theorem ml_X3_79 : fc_ML RX3 79 yX3_lineCount := Or.inl (fc_mem (i := 556) (by decide +kernel) rfl)
theorem ml_X6_206 : fc_ML RX6 206 yX3_writeDual := Or.inl (fc_mem (i := 557) (by decide +kernel) rfl)
theorem ml_X6_209 : fc_ML RX6 209 yX4_rankOf := Or.inl (fc_mem (i := 561) (by decide +kernel) rfl)
theorem ml_X4_29 : fc_ML RX4 29 yX6_degreeOf := Or.inr ⟨"FiredChips", fc_mem (i := 565) (by decide +kernel) rfl⟩
theorem ml_X4_33 : fc_ML RX4 33 yX1_makeRecurrentComplement := Or.inl (fc_mem (i := 566) (by decide +kernel) rfl)
theorem ml_X1_109 : fc_ML RX1 109 yX1_complement := Or.inl (fc_mem (i := 570) (by decide +kernel) rfl)
theorem ml_X1_112 : fc_ML RX1 112 yX1_makeRecurrent := Or.inl (fc_mem (i := 574) (by decide +kernel) rfl)
theorem ml_X4_37 : fc_ML RX4 37 yX1_sinkChipsOfComplement := Or.inl (fc_mem (i := 575) (by decide +kernel) rfl)
theorem ml_X4_41 : fc_ML RX4 41 yJ9_max_7cf53 := Or.inl (fc_mem (i := 579) (by decide +kernel) rfl)
theorem ml_X4_47 : fc_ML RX4 47 yX4_takeOff := Or.inl (fc_mem (i := 582) (by decide +kernel) rfl)
theorem ml_X4_51 : fc_ML RX4 51 yX6_copyRow := Or.inr ⟨"FiredChips", fc_mem (i := 586) (by decide +kernel) rfl⟩
theorem ml_X4_54 : fc_ML RX4 54 yX1_settle := Or.inl (fc_mem (i := 587) (by decide +kernel) rfl)
theorem ml_X4_57 : fc_ML RX4 57 yJ9_min_7cf53 := Or.inl (fc_mem (i := 588) (by decide +kernel) rfl)
theorem ml_L_105 : fc_ML RL 105 yX6_reduced := Or.inl (fc_mem (i := 589) (by decide +kernel) rfl)
theorem ml_X6_213 : fc_ML RX6 213 yX6_reduceChipsAt := Or.inl (fc_mem (i := 593) (by decide +kernel) rfl)
theorem ml_X6_284 : fc_ML RX6 284 yX1_reduce := Or.inl (fc_mem (i := 597) (by decide +kernel) rfl)
theorem ml_X1_115 : fc_ML RX1 115 yX1_makeRecurrentComplement := Or.inl (fc_mem (i := 601) (by decide +kernel) rfl)
theorem ml_L_109 : fc_ML RL 109 yX6_won := Or.inl (fc_mem (i := 602) (by decide +kernel) rfl)
theorem ml_L_113 : fc_ML RL 113 yX6_keeps := Or.inl (fc_mem (i := 606) (by decide +kernel) rfl)
theorem ml_X6_216 : fc_ML RX6 216 yX6_isKeptNumber := Or.inl (fc_mem (i := 610) (by decide +kernel) rfl)
theorem ml_X6_219 : fc_ML RX6 219 yX3_keepChips := Or.inl (fc_mem (i := 613) (by decide +kernel) rfl)
theorem ml_L_117 : fc_ML RL 117 yX6_equal := Or.inl (fc_mem (i := 617) (by decide +kernel) rfl)
theorem ml_X6_222 : fc_ML RX6 222 yX6_canCompareWith := Or.inl (fc_mem (i := 621) (by decide +kernel) rfl)
theorem ml_X6_225 : fc_ML RX6 225 yX6_findWay := Or.inl (fc_mem (i := 625) (by decide +kernel) rfl)
theorem ml_X6_294 : fc_ML RX6 294 yX1_findWay := Or.inl (fc_mem (i := 629) (by decide +kernel) rfl)
theorem ml_X1_118 : fc_ML RX1 118 yX6_degreeOf := Or.inr ⟨"FiredChips", fc_mem (i := 633) (by decide +kernel) rfl⟩
theorem ml_L_121 : fc_ML RL 121 yX6_way := Or.inl (fc_mem (i := 634) (by decide +kernel) rfl)
theorem ml_X6_228 : fc_ML RX6 228 yX1_wayOf := Or.inl (fc_mem (i := 638) (by decide +kernel) rfl)
theorem kc_X6_231 : Cond.constant RX6 231 (Int32.ofInt (100000)) ∈ fc_tbl := fc_mem (i := 642) (by decide +kernel) rfl
theorem ml_L_125 : fc_ML RL 125 yX6_type := Or.inl (fc_mem (i := 643) (by decide +kernel) rfl)
theorem ml_X6_235 : fc_ML RX6 235 yX5_append := Or.inl (fc_mem (i := 647) (by decide +kernel) rfl)
theorem ml_L_129 : fc_ML RL 129 yX6_clear := Or.inl (fc_mem (i := 651) (by decide +kernel) rfl)
theorem ml_L_133 : fc_ML RL 133 yX6_reads := Or.inl (fc_mem (i := 655) (by decide +kernel) rfl)
theorem ml_X6_238 : fc_ML RX6 238 yX5_parse := Or.inl (fc_mem (i := 659) (by decide +kernel) rfl)
theorem ml_X5_40 : fc_ML RX5 40 yX5_skipBlanks := Or.inl (fc_mem (i := 663) (by decide +kernel) rfl)
theorem ml_X5_46 : fc_ML RX5 46 yX5_byteHere := Or.inl (fc_mem (i := 667) (by decide +kernel) rfl)
theorem ml_X5_43 : fc_ML RX5 43 yX5_parseOrder := Or.inl (fc_mem (i := 671) (by decide +kernel) rfl)
theorem ml_X5_50 : fc_ML RX5 50 yX5_numbersOf := Or.inl (fc_mem (i := 675) (by decide +kernel) rfl)
theorem ml_X5_54 : fc_ML RX5 54 yX5_addItem := Or.inl (fc_mem (i := 679) (by decide +kernel) rfl)
theorem ml_X5_58 : fc_ML RX5 58 yX5_parseNumber := Or.inl (fc_mem (i := 683) (by decide +kernel) rfl)
theorem ml_X5_69 : fc_ML RX5 69 yX5_isFigureHere := Or.inl (fc_mem (i := 687) (by decide +kernel) rfl)
theorem ml_X5_62 : fc_ML RX5 62 yX5_takePoints := Or.inl (fc_mem (i := 691) (by decide +kernel) rfl)
theorem ml_X5_66 : fc_ML RX5 66 yX5_endOrder := Or.inl (fc_mem (i := 695) (by decide +kernel) rfl)
theorem ml_X6_241 : fc_ML RX6 241 yX6_doOrders := Or.inl (fc_mem (i := 699) (by decide +kernel) rfl)
theorem ml_X6_297 : fc_ML RX6 297 yX5_rewind := Or.inl (fc_mem (i := 703) (by decide +kernel) rfl)
theorem ml_X6_300 : fc_ML RX6 300 yX6_doOrder := Or.inl (fc_mem (i := 707) (by decide +kernel) rfl)
theorem ml_X6_303 : fc_ML RX6 303 yX5_nextItem := Or.inl (fc_mem (i := 711) (by decide +kernel) rfl)
theorem ml_X6_244 : fc_ML RX6 244 yX3_copyFrom := Or.inl (fc_mem (i := 715) (by decide +kernel) rfl)
theorem ml_L_137 : fc_ML RL 137 yX6_back := Or.inl (fc_mem (i := 716) (by decide +kernel) rfl)
theorem ml_X6_256 : fc_ML RX6 256 yX2_takeNewest := Or.inl (fc_mem (i := 720) (by decide +kernel) rfl)
theorem ml_X2_39 : fc_ML RX2 39 yJ9_max_7cf53 := Or.inl (fc_mem (i := 724) (by decide +kernel) rfl)
theorem ml_L_141 : fc_ML RL 141 yX6_told := Or.inl (fc_mem (i := 725) (by decide +kernel) rfl)
theorem ml_X6_259 : fc_ML RX6 259 yX3_keptBits := Or.inl (fc_mem (i := 729) (by decide +kernel) rfl)
theorem ml_L_145 : fc_ML RL 145 yX6_digest := Or.inl (fc_mem (i := 733) (by decide +kernel) rfl)
theorem kc_X6_262 : Cond.constantLong RX6 262 (Int64.ofInt (2293)) ∈ fc_tbl := fc_mem (i := 737) (by decide +kernel) rfl
theorem kc_X6_264 : Cond.constantLong RX6 264 (Int64.ofInt (31)) ∈ fc_tbl := fc_mem (i := 738) (by decide +kernel) rfl
theorem ml_X6_266 : fc_ML RX6 266 yX6_told := Or.inl (fc_mem (i := 739) (by decide +kernel) rfl)
theorem ml_X6_269 : fc_ML RX6 269 yX6_of := Or.inl (fc_mem (i := 740) (by decide +kernel) rfl)
theorem ml_X6_272 : fc_ML RX6 272 yX6_script := Or.inl (fc_mem (i := 741) (by decide +kernel) rfl)
theorem ml_X6_275 : fc_ML RX6 275 yX6_joined := Or.inl (fc_mem (i := 742) (by decide +kernel) rfl)
theorem ml_X6_278 : fc_ML RX6 278 yX6_stable := Or.inl (fc_mem (i := 743) (by decide +kernel) rfl)
theorem ml_X6_281 : fc_ML RX6 281 yX6_rank := Or.inl (fc_mem (i := 744) (by decide +kernel) rfl)
theorem ml_L_12 : fc_ML RL 12 yX7_init := Or.inl (fc_mem (i := 747) (by decide +kernel) rfl)
theorem fl_X7_7 : fc_FL RX7 7 7 0 (.array .int) true false := ⟨RX7, TX7, 21, tyX7, rfl, in_X7, by decide, tyX7_ok, nmX7, rfl, rfl, Or.inl ⟨rfl, rfl, fc_mem (i := 751) (by decide +kernel) rfl⟩⟩
theorem fl_X7_13 : fc_FL RX7 13 7 1 (.array .int) true false := ⟨RX7, TX7, 21, tyX7, rfl, in_X7, by decide, tyX7_ok, nmX7, rfl, rfl, Or.inl ⟨rfl, rfl, fc_mem (i := 752) (by decide +kernel) rfl⟩⟩
theorem fl_X7_16 : fc_FL RX7 16 7 2 (.array .int) true false := ⟨RX7, TX7, 21, tyX7, rfl, in_X7, by decide, tyX7_ok, nmX7, rfl, rfl, Or.inl ⟨rfl, rfl, fc_mem (i := 753) (by decide +kernel) rfl⟩⟩
theorem fl_X7_56 : fc_FL RX7 56 7 3 (.int) false false := ⟨RX7, TX7, 21, tyX7, rfl, in_X7, by decide, tyX7_ok, nmX7, rfl, rfl, Or.inl ⟨rfl, rfl, fc_mem (i := 754) (by decide +kernel) rfl⟩⟩
theorem fl_X7_19 : fc_FL RX7 19 7 4 (.array .int) true false := ⟨RX7, TX7, 21, tyX7, rfl, in_X7, by decide, tyX7_ok, nmX7, rfl, rfl, Or.inl ⟨rfl, rfl, fc_mem (i := 755) (by decide +kernel) rfl⟩⟩
theorem fl_X7_22 : fc_FL RX7 22 7 5 (.array .long) true false := ⟨RX7, TX7, 21, tyX7, rfl, in_X7, by decide, tyX7_ok, nmX7, rfl, rfl, Or.inl ⟨rfl, rfl, fc_mem (i := 756) (by decide +kernel) rfl⟩⟩
theorem fl_X7_26 : fc_FL RX7 26 7 6 (.array .long) true false := ⟨RX7, TX7, 21, tyX7, rfl, in_X7, by decide, tyX7_ok, nmX7, rfl, rfl, Or.inl ⟨rfl, rfl, fc_mem (i := 757) (by decide +kernel) rfl⟩⟩
theorem fl_X7_29 : fc_FL RX7 29 7 7 (.array .long) true false := ⟨RX7, TX7, 21, tyX7, rfl, in_X7, by decide, tyX7_ok, nmX7, rfl, rfl, Or.inl ⟨rfl, rfl, fc_mem (i := 758) (by decide +kernel) rfl⟩⟩
theorem fl_X7_32 : fc_FL RX7 32 7 8 (.array .long) true false := ⟨RX7, TX7, 21, tyX7, rfl, in_X7, by decide, tyX7_ok, nmX7, rfl, rfl, Or.inl ⟨rfl, rfl, fc_mem (i := 759) (by decide +kernel) rfl⟩⟩
theorem fl_X7_35 : fc_FL RX7 35 7 9 (.array .long) true false := ⟨RX7, TX7, 21, tyX7, rfl, in_X7, by decide, tyX7_ok, nmX7, rfl, rfl, Or.inl ⟨rfl, rfl, fc_mem (i := 760) (by decide +kernel) rfl⟩⟩
theorem fl_X7_38 : fc_FL RX7 38 7 10 (.array .long) true false := ⟨RX7, TX7, 21, tyX7, rfl, in_X7, by decide, tyX7_ok, nmX7, rfl, rfl, Or.inl ⟨rfl, rfl, fc_mem (i := 761) (by decide +kernel) rfl⟩⟩
theorem fl_X7_41 : fc_FL RX7 41 7 11 (.array .long) true false := ⟨RX7, TX7, 21, tyX7, rfl, in_X7, by decide, tyX7_ok, nmX7, rfl, rfl, Or.inl ⟨rfl, rfl, fc_mem (i := 762) (by decide +kernel) rfl⟩⟩
theorem fl_X7_44 : fc_FL RX7 44 7 12 (.array .int) true false := ⟨RX7, TX7, 21, tyX7, rfl, in_X7, by decide, tyX7_ok, nmX7, rfl, rfl, Or.inl ⟨rfl, rfl, fc_mem (i := 763) (by decide +kernel) rfl⟩⟩
theorem fl_X7_47 : fc_FL RX7 47 7 13 (.array .long) true false := ⟨RX7, TX7, 21, tyX7, rfl, in_X7, by decide, tyX7_ok, nmX7, rfl, rfl, Or.inl ⟨rfl, rfl, fc_mem (i := 764) (by decide +kernel) rfl⟩⟩
theorem fl_X7_50 : fc_FL RX7 50 7 14 (.array .int) true false := ⟨RX7, TX7, 21, tyX7, rfl, in_X7, by decide, tyX7_ok, nmX7, rfl, rfl, Or.inl ⟨rfl, rfl, fc_mem (i := 765) (by decide +kernel) rfl⟩⟩
theorem fl_X7_297 : fc_FL RX7 297 7 15 (.int) false false := ⟨RX7, TX7, 21, tyX7, rfl, in_X7, by decide, tyX7_ok, nmX7, rfl, rfl, Or.inl ⟨rfl, rfl, fc_mem (i := 766) (by decide +kernel) rfl⟩⟩
theorem fl_X7_300 : fc_FL RX7 300 7 16 (.int) false false := ⟨RX7, TX7, 21, tyX7, rfl, in_X7, by decide, tyX7_ok, nmX7, rfl, rfl, Or.inl ⟨rfl, rfl, fc_mem (i := 767) (by decide +kernel) rfl⟩⟩
theorem fl_X7_310 : fc_FL RX7 310 7 17 (.int) false false := ⟨RX7, TX7, 21, tyX7, rfl, in_X7, by decide, tyX7_ok, nmX7, rfl, rfl, Or.inl ⟨rfl, rfl, fc_mem (i := 768) (by decide +kernel) rfl⟩⟩
theorem fl_X7_53 : fc_FL RX7 53 7 18 (.array .int) true false := ⟨RX7, TX7, 21, tyX7, rfl, in_X7, by decide, tyX7_ok, nmX7, rfl, rfl, Or.inl ⟨rfl, rfl, fc_mem (i := 769) (by decide +kernel) rfl⟩⟩
theorem fl_X7_320 : fc_FL RX7 320 7 19 (.int) false false := ⟨RX7, TX7, 21, tyX7, rfl, in_X7, by decide, tyX7_ok, nmX7, rfl, rfl, Or.inl ⟨rfl, rfl, fc_mem (i := 770) (by decide +kernel) rfl⟩⟩
theorem fl_X7_336 : fc_FL RX7 336 7 20 (.int) false false := ⟨RX7, TX7, 21, tyX7, rfl, in_X7, by decide, tyX7_ok, nmX7, rfl, rfl, Or.inl ⟨rfl, rfl, fc_mem (i := 771) (by decide +kernel) rfl⟩⟩
theorem ml_L_17 : fc_ML RL 17 yX7_points := Or.inl (fc_mem (i := 815) (by decide +kernel) rfl)
theorem kc_X7_76 : Cond.constantLong RX7 76 (Int64.ofInt (2)) ∈ fc_tbl := fc_mem (i := 819) (by decide +kernel) rfl
theorem kc_X7_78 : Cond.constantLong RX7 78 (Int64.ofInt (5)) ∈ fc_tbl := fc_mem (i := 820) (by decide +kernel) rfl
theorem ml_X7_64 : fc_ML RX7 64 yX7_in := Or.inl (fc_mem (i := 821) (by decide +kernel) rfl)
theorem ml_X7_80 : fc_ML RX7 80 yX7_refuses := Or.inl (fc_mem (i := 824) (by decide +kernel) rfl)
theorem ml_X7_83 : fc_ML RX7 83 yX7_keep := Or.inl (fc_mem (i := 828) (by decide +kernel) rfl)
theorem ml_X7_86 : fc_ML RX7 86 yX7_pointsNow := Or.inl (fc_mem (i := 832) (by decide +kernel) rfl)
theorem ml_X7_60 : fc_ML RX7 60 yX7_many := Or.inl (fc_mem (i := 836) (by decide +kernel) rfl)
theorem ml_L_22 : fc_ML RL 22 yX7_lines := Or.inl (fc_mem (i := 840) (by decide +kernel) rfl)
theorem ml_X7_95 : fc_ML RX7 95 yX7_areLines := Or.inl (fc_mem (i := 844) (by decide +kernel) rfl)
theorem ml_X7_89 : fc_ML RX7 89 yX7_isPoint := Or.inl (fc_mem (i := 848) (by decide +kernel) rfl)
theorem kc_X7_93 : Cond.constantLong RX7 93 (Int64.ofInt (3)) ∈ fc_tbl := fc_mem (i := 852) (by decide +kernel) rfl
theorem ml_X7_99 : fc_ML RX7 99 yX7_linesNow := Or.inl (fc_mem (i := 853) (by decide +kernel) rfl)
theorem ml_X7_68 : fc_ML RX7 68 yX7_linesOf := Or.inl (fc_mem (i := 857) (by decide +kernel) rfl)
theorem ml_L_26 : fc_ML RL 26 yX7_draws := Or.inl (fc_mem (i := 861) (by decide +kernel) rfl)
theorem kc_X7_103 : Cond.constantLong RX7 103 (Int64.ofInt (999999)) ∈ fc_tbl := fc_mem (i := 865) (by decide +kernel) rfl
theorem kc_X7_105 : Cond.constantLong RX7 105 (Int64.ofInt (1103515245)) ∈ fc_tbl := fc_mem (i := 866) (by decide +kernel) rfl
theorem kc_X7_107 : Cond.constantLong RX7 107 (Int64.ofInt (12345)) ∈ fc_tbl := fc_mem (i := 867) (by decide +kernel) rfl
theorem kc_X7_109 : Cond.constantLong RX7 109 (Int64.ofInt (2147483648)) ∈ fc_tbl := fc_mem (i := 868) (by decide +kernel) rfl
theorem kc_X7_111 : Cond.constantLong RX7 111 (Int64.ofInt (65536)) ∈ fc_tbl := fc_mem (i := 869) (by decide +kernel) rfl
theorem kc_X7_113 : Cond.constantLong RX7 113 (Int64.ofInt (7)) ∈ fc_tbl := fc_mem (i := 870) (by decide +kernel) rfl
theorem ml_X7_115 : fc_ML RX7 115 yX7_allLines := Or.inl (fc_mem (i := 871) (by decide +kernel) rfl)
theorem ml_X7_72 : fc_ML RX7 72 yX7_valence := Or.inl (fc_mem (i := 875) (by decide +kernel) rfl)
theorem ml_L_31 : fc_ML RL 31 yX7_net := Or.inl (fc_mem (i := 879) (by decide +kernel) rfl)
theorem ml_L_36 : fc_ML RL 36 yX7_joined := Or.inl (fc_mem (i := 883) (by decide +kernel) rfl)
theorem ml_X7_118 : fc_ML RX7 118 yX7_isJoined := Or.inl (fc_mem (i := 887) (by decide +kernel) rfl)
theorem ml_L_40 : fc_ML RL 40 yX7_sets := Or.inl (fc_mem (i := 891) (by decide +kernel) rfl)
theorem kc_X7_122 : Cond.constantLong RX7 122 (Int64.ofInt (-99)) ∈ fc_tbl := fc_mem (i := 895) (by decide +kernel) rfl
theorem kc_X7_124 : Cond.constantLong RX7 124 (Int64.ofInt (99)) ∈ fc_tbl := fc_mem (i := 896) (by decide +kernel) rfl
theorem ml_X7_126 : fc_ML RX7 126 yX7_chips := Or.inl (fc_mem (i := 897) (by decide +kernel) rfl)
theorem ml_L_44 : fc_ML RL 44 yX7_adds := Or.inl (fc_mem (i := 901) (by decide +kernel) rfl)
theorem ml_X7_136 : fc_ML RX7 136 yX7_canAdd := Or.inl (fc_mem (i := 905) (by decide +kernel) rfl)
theorem ml_X7_133 : fc_ML RX7 133 yX7_isRoom := Or.inl (fc_mem (i := 909) (by decide +kernel) rfl)
theorem kc_X7_129 : Cond.constantLong RX7 129 (Int64.ofInt (-999)) ∈ fc_tbl := fc_mem (i := 912) (by decide +kernel) rfl
theorem kc_X7_131 : Cond.constantLong RX7 131 (Int64.ofInt (999)) ∈ fc_tbl := fc_mem (i := 913) (by decide +kernel) rfl
theorem ml_X7_139 : fc_ML RX7 139 yX7_addNow := Or.inl (fc_mem (i := 914) (by decide +kernel) rfl)
theorem ml_L_48 : fc_ML RL 48 yX7_fires := Or.inl (fc_mem (i := 918) (by decide +kernel) rfl)
theorem ml_X7_154 : fc_ML RX7 154 yX7_one := Or.inl (fc_mem (i := 922) (by decide +kernel) rfl)
theorem ml_X7_148 : fc_ML RX7 148 yX7_canFireOne := Or.inl (fc_mem (i := 926) (by decide +kernel) rfl)
theorem ml_X7_145 : fc_ML RX7 145 yX7_canFire := Or.inl (fc_mem (i := 930) (by decide +kernel) rfl)
theorem ml_X7_142 : fc_ML RX7 142 yX7_more := Or.inl (fc_mem (i := 934) (by decide +kernel) rfl)
theorem ml_X7_151 : fc_ML RX7 151 yX7_fireNow := Or.inl (fc_mem (i := 938) (by decide +kernel) rfl)
theorem ml_L_52 : fc_ML RL 52 yX7_borrows := Or.inl (fc_mem (i := 942) (by decide +kernel) rfl)
theorem ml_L_56 : fc_ML RL 56 yX7_together := Or.inl (fc_mem (i := 946) (by decide +kernel) rfl)
theorem ml_L_60 : fc_ML RL 60 yX7_settles := Or.inl (fc_mem (i := 950) (by decide +kernel) rfl)
theorem ml_X7_167 : fc_ML RX7 167 yX7_canSettle := Or.inl (fc_mem (i := 954) (by decide +kernel) rfl)
theorem ml_X7_157 : fc_ML RX7 157 yX7_isHeap := Or.inl (fc_mem (i := 958) (by decide +kernel) rfl)
theorem ml_X7_160 : fc_ML RX7 160 yX7_laysChips := Or.inl (fc_mem (i := 962) (by decide +kernel) rfl)
theorem ml_X7_163 : fc_ML RX7 163 yX7_settlesAt := Or.inl (fc_mem (i := 966) (by decide +kernel) rfl)
theorem ml_X7_170 : fc_ML RX7 170 yX7_settleNow := Or.inl (fc_mem (i := 970) (by decide +kernel) rfl)
theorem ml_L_64 : fc_ML RL 64 yX7_script := Or.inl (fc_mem (i := 974) (by decide +kernel) rfl)
theorem ml_L_68 : fc_ML RL 68 yX7_of := Or.inl (fc_mem (i := 978) (by decide +kernel) rfl)
theorem ml_X7_176 : fc_ML RX7 176 yX7_ofNow := Or.inl (fc_mem (i := 982) (by decide +kernel) rfl)
theorem ml_X7_173 : fc_ML RX7 173 yX7_isFull := Or.inl (fc_mem (i := 986) (by decide +kernel) rfl)
theorem ml_L_72 : fc_ML RL 72 yX7_stable := Or.inl (fc_mem (i := 990) (by decide +kernel) rfl)
theorem ml_X7_179 : fc_ML RX7 179 yX7_isStable := Or.inl (fc_mem (i := 994) (by decide +kernel) rfl)
theorem ml_L_76 : fc_ML RL 76 yX7_burns := Or.inl (fc_mem (i := 998) (by decide +kernel) rfl)
theorem ml_X7_185 : fc_ML RX7 185 yX7_burnsNow := Or.inl (fc_mem (i := 1002) (by decide +kernel) rfl)
theorem ml_X7_182 : fc_ML RX7 182 yX7_linesTo := Or.inl (fc_mem (i := 1006) (by decide +kernel) rfl)
theorem ml_L_80 : fc_ML RL 80 yX7_trees := Or.inl (fc_mem (i := 1010) (by decide +kernel) rfl)
theorem ml_X7_205 : fc_ML RX7 205 yX7_treesNow := Or.inl (fc_mem (i := 1014) (by decide +kernel) rfl)
theorem ml_X7_198 : fc_ML RX7 198 yX7_laysTable := Or.inl (fc_mem (i := 1018) (by decide +kernel) rfl)
theorem ml_X7_188 : fc_ML RX7 188 yX7_side := Or.inl (fc_mem (i := 1022) (by decide +kernel) rfl)
theorem ml_X7_201 : fc_ML RX7 201 yX7_determinant := Or.inl (fc_mem (i := 1026) (by decide +kernel) rfl)
theorem ml_X7_191 : fc_ML RX7 191 yX7_pivotRow := Or.inl (fc_mem (i := 1030) (by decide +kernel) rfl)
theorem ml_X7_194 : fc_ML RX7 194 yX7_exchangesRows := Or.inl (fc_mem (i := 1034) (by decide +kernel) rfl)
theorem ml_L_84 : fc_ML RL 84 yX7_parts := Or.inl (fc_mem (i := 1038) (by decide +kernel) rfl)
theorem ml_X7_227 : fc_ML RX7 227 yX7_partsNow := Or.inl (fc_mem (i := 1042) (by decide +kernel) rfl)
theorem ml_X7_224 : fc_ML RX7 224 yX7_laysParts := Or.inl (fc_mem (i := 1046) (by decide +kernel) rfl)
theorem ml_X7_215 : fc_ML RX7 215 yX7_takesLeast := Or.inl (fc_mem (i := 1050) (by decide +kernel) rfl)
theorem ml_X7_208 : fc_ML RX7 208 yX7_abs := Or.inl (fc_mem (i := 1054) (by decide +kernel) rfl)
theorem ml_X7_212 : fc_ML RX7 212 yX7_exchangesColumns := Or.inl (fc_mem (i := 1057) (by decide +kernel) rfl)
theorem ml_X7_218 : fc_ML RX7 218 yX7_clears := Or.inl (fc_mem (i := 1061) (by decide +kernel) rfl)
theorem ml_X7_221 : fc_ML RX7 221 yX7_uneven := Or.inl (fc_mem (i := 1065) (by decide +kernel) rfl)
theorem ml_L_88 : fc_ML RL 88 yX7_identity := Or.inl (fc_mem (i := 1069) (by decide +kernel) rfl)
theorem ml_X7_230 : fc_ML RX7 230 yX7_laysIdentity := Or.inl (fc_mem (i := 1073) (by decide +kernel) rfl)
theorem ml_L_92 : fc_ML RL 92 yX7_recurrent := Or.inl (fc_mem (i := 1077) (by decide +kernel) rfl)
theorem ml_X7_233 : fc_ML RX7 233 yX7_laysRecurrent := Or.inl (fc_mem (i := 1081) (by decide +kernel) rfl)
theorem ml_L_96 : fc_ML RL 96 yX7_order := Or.inl (fc_mem (i := 1085) (by decide +kernel) rfl)
theorem ml_X7_239 : fc_ML RX7 239 yX7_orderNow := Or.inl (fc_mem (i := 1089) (by decide +kernel) rfl)
theorem ml_X7_236 : fc_ML RX7 236 yX7_isIdentity := Or.inl (fc_mem (i := 1093) (by decide +kernel) rfl)
theorem ml_L_100 : fc_ML RL 100 yX7_heaps := Or.inl (fc_mem (i := 1097) (by decide +kernel) rfl)
theorem ml_X7_242 : fc_ML RX7 242 yX7_stableHeaps := Or.inl (fc_mem (i := 1101) (by decide +kernel) rfl)
theorem ml_L_108 : fc_ML RL 108 yX7_reduced := Or.inl (fc_mem (i := 1105) (by decide +kernel) rfl)
theorem ml_X7_251 : fc_ML RX7 251 yX7_reduces := Or.inl (fc_mem (i := 1109) (by decide +kernel) rfl)
theorem ml_X7_245 : fc_ML RX7 245 yX7_laysLift := Or.inl (fc_mem (i := 1113) (by decide +kernel) rfl)
theorem ml_X7_248 : fc_ML RX7 248 yX7_unburnt := Or.inl (fc_mem (i := 1117) (by decide +kernel) rfl)
theorem ml_L_112 : fc_ML RL 112 yX7_won := Or.inl (fc_mem (i := 1121) (by decide +kernel) rfl)
theorem ml_X7_254 : fc_ML RX7 254 yX7_isWon := Or.inl (fc_mem (i := 1125) (by decide +kernel) rfl)
theorem ml_L_104 : fc_ML RL 104 yX7_rank := Or.inl (fc_mem (i := 1129) (by decide +kernel) rfl)
theorem ml_X7_257 : fc_ML RX7 257 yX7_degree := Or.inl (fc_mem (i := 1133) (by decide +kernel) rfl)
theorem ml_X7_273 : fc_ML RX7 273 yX7_dualDegree := Or.inl (fc_mem (i := 1137) (by decide +kernel) rfl)
theorem ml_X7_276 : fc_ML RX7 276 yX7_rankNow := Or.inl (fc_mem (i := 1141) (by decide +kernel) rfl)
theorem ml_X7_269 : fc_ML RX7 269 yX7_rankOf := Or.inl (fc_mem (i := 1145) (by decide +kernel) rfl)
theorem ml_X7_266 : fc_ML RX7 266 yX7_isWonAnyhow := Or.inl (fc_mem (i := 1149) (by decide +kernel) rfl)
theorem ml_X7_260 : fc_ML RX7 260 yX7_isWonWithout := Or.inl (fc_mem (i := 1153) (by decide +kernel) rfl)
theorem ml_X7_263 : fc_ML RX7 263 yX7_next := Or.inl (fc_mem (i := 1157) (by decide +kernel) rfl)
theorem ml_L_116 : fc_ML RL 116 yX7_keeps := Or.inl (fc_mem (i := 1161) (by decide +kernel) rfl)
theorem ml_L_120 : fc_ML RL 120 yX7_equal := Or.inl (fc_mem (i := 1165) (by decide +kernel) rfl)
theorem ml_X7_285 : fc_ML RX7 285 yX7_isLike := Or.inl (fc_mem (i := 1169) (by decide +kernel) rfl)
theorem ml_X7_279 : fc_ML RX7 279 yX7_keptMany := Or.inl (fc_mem (i := 1173) (by decide +kernel) rfl)
theorem ml_X7_288 : fc_ML RX7 288 yX7_isEqual := Or.inl (fc_mem (i := 1177) (by decide +kernel) rfl)
theorem ml_X7_282 : fc_ML RX7 282 yX7_kept := Or.inl (fc_mem (i := 1181) (by decide +kernel) rfl)
theorem ml_L_124 : fc_ML RL 124 yX7_way := Or.inl (fc_mem (i := 1185) (by decide +kernel) rfl)
theorem ml_X7_292 : fc_ML RX7 292 yX7_wayNow := Or.inl (fc_mem (i := 1189) (by decide +kernel) rfl)
theorem kc_X7_291 : Cond.constant RX7 291 (Int32.ofInt (100000)) ∈ fc_tbl := fc_mem (i := 1193) (by decide +kernel) rfl
theorem ml_L_128 : fc_ML RL 128 yX7_type := Or.inl (fc_mem (i := 1194) (by decide +kernel) rfl)
theorem kc_X7_295 : Cond.constantLong RX7 295 (Int64.ofInt (127)) ∈ fc_tbl := fc_mem (i := 1198) (by decide +kernel) rfl
theorem ml_L_132 : fc_ML RL 132 yX7_clear := Or.inl (fc_mem (i := 1199) (by decide +kernel) rfl)
theorem ml_L_136 : fc_ML RL 136 yX7_reads := Or.inl (fc_mem (i := 1203) (by decide +kernel) rfl)
theorem ml_X7_342 : fc_ML RX7 342 yX7_readsOrder := Or.inl (fc_mem (i := 1207) (by decide +kernel) rfl)
theorem ml_X7_307 : fc_ML RX7 307 yX7_here := Or.inl (fc_mem (i := 1211) (by decide +kernel) rfl)
theorem ml_X7_330 : fc_ML RX7 330 yX7_takesNumbers := Or.inl (fc_mem (i := 1215) (by decide +kernel) rfl)
theorem ml_X7_323 : fc_ML RX7 323 yX7_takesPoints := Or.inl (fc_mem (i := 1219) (by decide +kernel) rfl)
theorem ml_X7_316 : fc_ML RX7 316 yX7_takes := Or.inl (fc_mem (i := 1223) (by decide +kernel) rfl)
theorem ml_X7_313 : fc_ML RX7 313 yX7_isFigure := Or.inl (fc_mem (i := 1227) (by decide +kernel) rfl)
theorem kc_X7_303 : Cond.constantLong RX7 303 (Int64.ofInt (48)) ∈ fc_tbl := fc_mem (i := 1231) (by decide +kernel) rfl
theorem kc_X7_305 : Cond.constantLong RX7 305 (Int64.ofInt (57)) ∈ fc_tbl := fc_mem (i := 1232) (by decide +kernel) rfl
theorem ml_X7_326 : fc_ML RX7 326 yX7_takesAll := Or.inl (fc_mem (i := 1233) (by decide +kernel) rfl)
theorem ml_X7_333 : fc_ML RX7 333 yX7_can := Or.inl (fc_mem (i := 1237) (by decide +kernel) rfl)
theorem ml_X7_339 : fc_ML RX7 339 yX7_does := Or.inl (fc_mem (i := 1241) (by decide +kernel) rfl)
theorem ml_X7_345 : fc_ML RX7 345 yX7_keepsAside := Or.inl (fc_mem (i := 1245) (by decide +kernel) rfl)
theorem ml_L_140 : fc_ML RL 140 yX7_back := Or.inl (fc_mem (i := 1249) (by decide +kernel) rfl)
theorem ml_L_144 : fc_ML RL 144 yX7_told := Or.inl (fc_mem (i := 1253) (by decide +kernel) rfl)
theorem kc_X7_351 : Cond.constantLong RX7 351 (Int64.ofInt (6)) ∈ fc_tbl := fc_mem (i := 1257) (by decide +kernel) rfl
theorem ml_X7_353 : fc_ML RX7 353 yX7_toldOf := Or.inl (fc_mem (i := 1258) (by decide +kernel) rfl)
theorem ml_X7_348 : fc_ML RX7 348 yX7_keptSet := Or.inl (fc_mem (i := 1262) (by decide +kernel) rfl)
theorem ml_L_149 : fc_ML RL 149 yX7_digest := Or.inl (fc_mem (i := 1266) (by decide +kernel) rfl)
theorem kc_X7_356 : Cond.constantLong RX7 356 (Int64.ofInt (2293)) ∈ fc_tbl := fc_mem (i := 1270) (by decide +kernel) rfl
theorem kc_X7_358 : Cond.constantLong RX7 358 (Int64.ofInt (31)) ∈ fc_tbl := fc_mem (i := 1271) (by decide +kernel) rfl
abbrev mX0_init : fc_Y := (yX0_init, cX0_init, 1, none)
theorem mi_X0_init : fc_MI mX0_init 0 := ⟨fc_mem (i := 25) (by decide +kernel) rfl, fc_mem (i := 2) (by decide +kernel) rfl, ⟨by decide, by decide⟩, by decide +kernel, by decide, by decide +kernel⟩
theorem im_X0_init : Cond.instanceMethod yX0_init ∈ fc_tbl := fc_mem (i := 24) (by decide +kernel) rfl
abbrev mX0_startAnew : fc_Y := (yX0_startAnew, cX0_startAnew, 2, some .int)
theorem mi_X0_startAnew : fc_MI mX0_startAnew 1 := ⟨fc_mem (i := 242) (by decide +kernel) rfl, fc_mem (i := 2) (by decide +kernel) rfl, ⟨by decide, by decide⟩, by decide +kernel, by decide, by decide +kernel⟩
theorem im_X0_startAnew : Cond.instanceMethod yX0_startAnew ∈ fc_tbl := fc_mem (i := 240) (by decide +kernel) rfl
theorem se_X0_startAnew : Cond.selects yX0_startAnew.cls yX0_startAnew yX0_startAnew ∈ fc_tbl := fc_mem (i := 241) (by decide +kernel) rfl
abbrev mX0_layLines : fc_Y := (yX0_layLines, cX0_layLines, 4, some .int)
theorem mi_X0_layLines : fc_MI mX0_layLines 3 := ⟨fc_mem (i := 280) (by decide +kernel) rfl, fc_mem (i := 2) (by decide +kernel) rfl, ⟨by decide, by decide⟩, by decide +kernel, by decide, by decide +kernel⟩
theorem im_X0_layLines : Cond.instanceMethod yX0_layLines ∈ fc_tbl := fc_mem (i := 278) (by decide +kernel) rfl
theorem se_X0_layLines : Cond.selects yX0_layLines.cls yX0_layLines yX0_layLines ∈ fc_tbl := fc_mem (i := 279) (by decide +kernel) rfl
abbrev mX0_addChips : fc_Y := (yX0_addChips, cX0_addChips, 3, some .int)
theorem mi_X0_addChips : fc_MI mX0_addChips 2 := ⟨fc_mem (i := 353) (by decide +kernel) rfl, fc_mem (i := 2) (by decide +kernel) rfl, ⟨by decide, by decide⟩, by decide +kernel, by decide, by decide +kernel⟩
theorem im_X0_addChips : Cond.instanceMethod yX0_addChips ∈ fc_tbl := fc_mem (i := 351) (by decide +kernel) rfl
theorem se_X0_addChips : Cond.selects yX0_addChips.cls yX0_addChips yX0_addChips ∈ fc_tbl := fc_mem (i := 352) (by decide +kernel) rfl
abbrev mX0_firePoint : fc_Y := (yX0_firePoint, cX0_firePoint, 3, some .int)
theorem mi_X0_firePoint : fc_MI mX0_firePoint 2 := ⟨fc_mem (i := 371) (by decide +kernel) rfl, fc_mem (i := 2) (by decide +kernel) rfl, ⟨by decide, by decide⟩, by decide +kernel, by decide, by decide +kernel⟩
theorem im_X0_firePoint : Cond.instanceMethod yX0_firePoint ∈ fc_tbl := fc_mem (i := 369) (by decide +kernel) rfl
theorem se_X0_firePoint : Cond.selects yX0_firePoint.cls yX0_firePoint yX0_firePoint ∈ fc_tbl := fc_mem (i := 370) (by decide +kernel) rfl
abbrev mX0_fireSet : fc_Y := (yX0_fireSet, cX0_fireSet, 4, some .int)
theorem mi_X0_fireSet : fc_MI mX0_fireSet 2 := ⟨fc_mem (i := 375) (by decide +kernel) rfl, fc_mem (i := 2) (by decide +kernel) rfl, ⟨by decide, by decide⟩, by decide +kernel, by decide, by decide +kernel⟩
theorem im_X0_fireSet : Cond.instanceMethod yX0_fireSet ∈ fc_tbl := fc_mem (i := 373) (by decide +kernel) rfl
theorem se_X0_fireSet : Cond.selects yX0_fireSet.cls yX0_fireSet yX0_fireSet ∈ fc_tbl := fc_mem (i := 374) (by decide +kernel) rfl
abbrev mX0_settleHeap : fc_Y := (yX0_settleHeap, cX0_settleHeap, 2, some .int)
theorem mi_X0_settleHeap : fc_MI mX0_settleHeap 0 := ⟨fc_mem (i := 407) (by decide +kernel) rfl, fc_mem (i := 2) (by decide +kernel) rfl, ⟨by decide, by decide⟩, by decide +kernel, by decide, by decide +kernel⟩
theorem im_X0_settleHeap : Cond.instanceMethod yX0_settleHeap ∈ fc_tbl := fc_mem (i := 405) (by decide +kernel) rfl
theorem se_X0_settleHeap : Cond.selects yX0_settleHeap.cls yX0_settleHeap yX0_settleHeap ∈ fc_tbl := fc_mem (i := 406) (by decide +kernel) rfl
abbrev mX0_takePlanned : fc_Y := (yX0_takePlanned, cX0_takePlanned, 2, some .int)
theorem mi_X0_takePlanned : fc_MI mX0_takePlanned 0 := ⟨fc_mem (i := 360) (by decide +kernel) rfl, fc_mem (i := 2) (by decide +kernel) rfl, ⟨by decide, by decide⟩, by decide +kernel, by decide, by decide +kernel⟩
theorem im_X0_takePlanned : Cond.instanceMethod yX0_takePlanned ∈ fc_tbl := fc_mem (i := 359) (by decide +kernel) rfl
theorem se_X0_takePlanned : Cond.selects yX0_takePlanned.cls yX0_takePlanned yX0_takePlanned ∈ fc_tbl := fc_memS (i := 2) (by decide +kernel) rfl
abbrev mX1_init : fc_Y := (yX1_init, cX1_init, 1, none)
theorem mi_X1_init : fc_MI mX1_init 0 := ⟨fc_mem (i := 69) (by decide +kernel) rfl, fc_mem (i := 4) (by decide +kernel) rfl, ⟨by decide, by decide⟩, by decide +kernel, by decide, by decide +kernel⟩
theorem im_X1_init : Cond.instanceMethod yX1_init ∈ fc_tbl := fc_mem (i := 68) (by decide +kernel) rfl
abbrev mX1_take : fc_Y := (yX1_take, cX1_take, 5, none)
theorem mi_X1_take : fc_MI mX1_take 2 := ⟨fc_mem (i := 380) (by decide +kernel) rfl, fc_mem (i := 4) (by decide +kernel) rfl, ⟨by decide, by decide⟩, by decide +kernel, by decide, by decide +kernel⟩
theorem im_X1_take : Cond.instanceMethod yX1_take ∈ fc_tbl := fc_mem (i := 378) (by decide +kernel) rfl
theorem se_X1_take : Cond.selects yX1_take.cls yX1_take yX1_take ∈ fc_tbl := fc_mem (i := 379) (by decide +kernel) rfl
abbrev mX1_takeWhole : fc_Y := (yX1_takeWhole, cX1_takeWhole, 8, none)
theorem mi_X1_takeWhole : fc_MI mX1_takeWhole 2 := ⟨fc_mem (i := 501) (by decide +kernel) rfl, fc_mem (i := 4) (by decide +kernel) rfl, ⟨by decide, by decide⟩, by decide +kernel, by decide, by decide +kernel⟩
theorem im_X1_takeWhole : Cond.instanceMethod yX1_takeWhole ∈ fc_tbl := fc_mem (i := 499) (by decide +kernel) rfl
theorem se_X1_takeWhole : Cond.selects yX1_takeWhole.cls yX1_takeWhole yX1_takeWhole ∈ fc_tbl := fc_mem (i := 500) (by decide +kernel) rfl
abbrev mX1_othersThanSink : fc_Y := (yX1_othersThanSink, cX1_othersThanSink, 1, some .int)
theorem mi_X1_othersThanSink : fc_MI mX1_othersThanSink 0 := ⟨fc_mem (i := 470) (by decide +kernel) rfl, fc_mem (i := 4) (by decide +kernel) rfl, ⟨by decide, by decide⟩, by decide +kernel, by decide, by decide +kernel⟩
theorem im_X1_othersThanSink : Cond.instanceMethod yX1_othersThanSink ∈ fc_tbl := fc_mem (i := 469) (by decide +kernel) rfl
theorem se_X1_othersThanSink : Cond.selects yX1_othersThanSink.cls yX1_othersThanSink yX1_othersThanSink ∈ fc_tbl := fc_memS (i := 3) (by decide +kernel) rfl
abbrev mX1_placeOf : fc_Y := (yX1_placeOf, cX1_placeOf, 2, some .int)
theorem mi_X1_placeOf : fc_MI mX1_placeOf 1 := ⟨fc_mem (i := 507) (by decide +kernel) rfl, fc_mem (i := 4) (by decide +kernel) rfl, ⟨by decide, by decide⟩, by decide +kernel, by decide, by decide +kernel⟩
theorem im_X1_placeOf : Cond.instanceMethod yX1_placeOf ∈ fc_tbl := fc_mem (i := 506) (by decide +kernel) rfl
theorem se_X1_placeOf : Cond.selects yX1_placeOf.cls yX1_placeOf yX1_placeOf ∈ fc_tbl := fc_memS (i := 5) (by decide +kernel) rfl
abbrev mX1_treeCount : fc_Y := (yX1_treeCount, cX1_treeCount, 2, some .long)
theorem mi_X1_treeCount : fc_MI mX1_treeCount 0 := ⟨fc_mem (i := 466) (by decide +kernel) rfl, fc_mem (i := 4) (by decide +kernel) rfl, ⟨by decide, by decide⟩, by decide +kernel, by decide, by decide +kernel⟩
theorem im_X1_treeCount : Cond.instanceMethod yX1_treeCount ∈ fc_tbl := fc_mem (i := 464) (by decide +kernel) rfl
theorem se_X1_treeCount : Cond.selects yX1_treeCount.cls yX1_treeCount yX1_treeCount ∈ fc_tbl := fc_mem (i := 465) (by decide +kernel) rfl
abbrev mX1_minor : fc_Y := (yX1_minor, cX1_minor, 9, some .long)
theorem mi_X1_minor : fc_MI mX1_minor 3 := ⟨fc_mem (i := 474) (by decide +kernel) rfl, fc_mem (i := 4) (by decide +kernel) rfl, ⟨by decide, by decide⟩, by decide +kernel, by decide, by decide +kernel⟩
theorem im_X1_minor : Cond.instanceMethod yX1_minor ∈ fc_tbl := fc_mem (i := 473) (by decide +kernel) rfl
theorem se_X1_minor : Cond.selects yX1_minor.cls yX1_minor yX1_minor ∈ fc_tbl := fc_memS (i := 4) (by decide +kernel) rfl
abbrev mX1_commonDivisor : fc_Y := (yX1_commonDivisor, cX1_commonDivisor, 7, some .long)
theorem mi_X1_commonDivisor : fc_MI mX1_commonDivisor 1 := ⟨fc_mem (i := 482) (by decide +kernel) rfl, fc_mem (i := 4) (by decide +kernel) rfl, ⟨by decide, by decide⟩, by decide +kernel, by decide, by decide +kernel⟩
theorem im_X1_commonDivisor : Cond.instanceMethod yX1_commonDivisor ∈ fc_tbl := fc_mem (i := 480) (by decide +kernel) rfl
theorem se_X1_commonDivisor : Cond.selects yX1_commonDivisor.cls yX1_commonDivisor yX1_commonDivisor ∈ fc_tbl := fc_mem (i := 481) (by decide +kernel) rfl
abbrev mX1_greatestDivisor : fc_Y := (yX1_greatestDivisor, cX1_greatestDivisor, 11, some .long)
theorem mi_X1_greatestDivisor : fc_MI mX1_greatestDivisor 2 := ⟨fc_mem (i := 491) (by decide +kernel) rfl, fc_mem (i := 4) (by decide +kernel) rfl, ⟨by decide, by decide⟩, by decide +kernel, by decide, by decide +kernel⟩
theorem st_X1_greatestDivisor : Cond.static yX1_greatestDivisor ∈ fc_tbl := fc_mem (i := 490) (by decide +kernel) rfl
abbrev mX1_fire : fc_Y := (yX1_fire, cX1_fire, 5, none)
theorem mi_X1_fire : fc_MI mX1_fire 3 := ⟨fc_mem (i := 385) (by decide +kernel) rfl, fc_mem (i := 4) (by decide +kernel) rfl, ⟨by decide, by decide⟩, by decide +kernel, by decide, by decide +kernel⟩
theorem im_X1_fire : Cond.instanceMethod yX1_fire ∈ fc_tbl := fc_mem (i := 383) (by decide +kernel) rfl
theorem se_X1_fire : Cond.selects yX1_fire.cls yX1_fire yX1_fire ∈ fc_tbl := fc_mem (i := 384) (by decide +kernel) rfl
abbrev mX1_settle : fc_Y := (yX1_settle, cX1_settle, 8, none)
theorem mi_X1_settle : fc_MI mX1_settle 2 := ⟨fc_mem (i := 417) (by decide +kernel) rfl, fc_mem (i := 4) (by decide +kernel) rfl, ⟨by decide, by decide⟩, by decide +kernel, by decide, by decide +kernel⟩
theorem im_X1_settle : Cond.instanceMethod yX1_settle ∈ fc_tbl := fc_mem (i := 415) (by decide +kernel) rfl
theorem se_X1_settle : Cond.selects yX1_settle.cls yX1_settle yX1_settle ∈ fc_tbl := fc_mem (i := 416) (by decide +kernel) rfl
abbrev mX1_findNeutral : fc_Y := (yX1_findNeutral, cX1_findNeutral, 2, none)
theorem mi_X1_findNeutral : fc_MI mX1_findNeutral 0 := ⟨fc_mem (i := 511) (by decide +kernel) rfl, fc_mem (i := 4) (by decide +kernel) rfl, ⟨by decide, by decide⟩, by decide +kernel, by decide, by decide +kernel⟩
theorem im_X1_findNeutral : Cond.instanceMethod yX1_findNeutral ∈ fc_tbl := fc_mem (i := 510) (by decide +kernel) rfl
theorem se_X1_findNeutral : Cond.selects yX1_findNeutral.cls yX1_findNeutral yX1_findNeutral ∈ fc_tbl := fc_memS (i := 6) (by decide +kernel) rfl
abbrev mX1_solve : fc_Y := (yX1_solve, cX1_solve, 4, none)
theorem mi_X1_solve : fc_MI mX1_solve 1 := ⟨fc_mem (i := 520) (by decide +kernel) rfl, fc_mem (i := 4) (by decide +kernel) rfl, ⟨by decide, by decide⟩, by decide +kernel, by decide, by decide +kernel⟩
theorem im_X1_solve : Cond.instanceMethod yX1_solve ∈ fc_tbl := fc_mem (i := 519) (by decide +kernel) rfl
theorem se_X1_solve : Cond.selects yX1_solve.cls yX1_solve yX1_solve ∈ fc_tbl := fc_memS (i := 7) (by decide +kernel) rfl
abbrev mX1_makeRecurrent : fc_Y := (yX1_makeRecurrent, cX1_makeRecurrent, 3, none)
theorem mi_X1_makeRecurrent : fc_MI mX1_makeRecurrent 1 := ⟨fc_mem (i := 516) (by decide +kernel) rfl, fc_mem (i := 4) (by decide +kernel) rfl, ⟨by decide, by decide⟩, by decide +kernel, by decide, by decide +kernel⟩
theorem im_X1_makeRecurrent : Cond.instanceMethod yX1_makeRecurrent ∈ fc_tbl := fc_mem (i := 514) (by decide +kernel) rfl
theorem se_X1_makeRecurrent : Cond.selects yX1_makeRecurrent.cls yX1_makeRecurrent yX1_makeRecurrent ∈ fc_tbl := fc_mem (i := 515) (by decide +kernel) rfl
abbrev mX1_complement : fc_Y := (yX1_complement, cX1_complement, 4, none)
theorem mi_X1_complement : fc_MI mX1_complement 2 := ⟨fc_mem (i := 573) (by decide +kernel) rfl, fc_mem (i := 4) (by decide +kernel) rfl, ⟨by decide, by decide⟩, by decide +kernel, by decide, by decide +kernel⟩
theorem im_X1_complement : Cond.instanceMethod yX1_complement ∈ fc_tbl := fc_mem (i := 572) (by decide +kernel) rfl
theorem se_X1_complement : Cond.selects yX1_complement.cls yX1_complement yX1_complement ∈ fc_tbl := fc_memS (i := 8) (by decide +kernel) rfl
abbrev mX1_makeRecurrentComplement : fc_Y := (yX1_makeRecurrentComplement, cX1_makeRecurrentComplement, 3, none)
theorem mi_X1_makeRecurrentComplement : fc_MI mX1_makeRecurrentComplement 2 := ⟨fc_mem (i := 569) (by decide +kernel) rfl, fc_mem (i := 4) (by decide +kernel) rfl, ⟨by decide, by decide⟩, by decide +kernel, by decide, by decide +kernel⟩
theorem im_X1_makeRecurrentComplement : Cond.instanceMethod yX1_makeRecurrentComplement ∈ fc_tbl := fc_mem (i := 567) (by decide +kernel) rfl
theorem se_X1_makeRecurrentComplement : Cond.selects yX1_makeRecurrentComplement.cls yX1_makeRecurrentComplement yX1_makeRecurrentComplement ∈ fc_tbl := fc_mem (i := 568) (by decide +kernel) rfl
abbrev mX1_sinkChipsOfComplement : fc_Y := (yX1_sinkChipsOfComplement, cX1_sinkChipsOfComplement, 2, some .int)
theorem mi_X1_sinkChipsOfComplement : fc_MI mX1_sinkChipsOfComplement 1 := ⟨fc_mem (i := 578) (by decide +kernel) rfl, fc_mem (i := 4) (by decide +kernel) rfl, ⟨by decide, by decide⟩, by decide +kernel, by decide, by decide +kernel⟩
theorem im_X1_sinkChipsOfComplement : Cond.instanceMethod yX1_sinkChipsOfComplement ∈ fc_tbl := fc_mem (i := 576) (by decide +kernel) rfl
theorem se_X1_sinkChipsOfComplement : Cond.selects yX1_sinkChipsOfComplement.cls yX1_sinkChipsOfComplement yX1_sinkChipsOfComplement ∈ fc_tbl := fc_mem (i := 577) (by decide +kernel) rfl
abbrev mX1_reduce : fc_Y := (yX1_reduce, cX1_reduce, 2, none)
theorem mi_X1_reduce : fc_MI mX1_reduce 1 := ⟨fc_mem (i := 600) (by decide +kernel) rfl, fc_mem (i := 4) (by decide +kernel) rfl, ⟨by decide, by decide⟩, by decide +kernel, by decide, by decide +kernel⟩
theorem im_X1_reduce : Cond.instanceMethod yX1_reduce ∈ fc_tbl := fc_mem (i := 598) (by decide +kernel) rfl
theorem se_X1_reduce : Cond.selects yX1_reduce.cls yX1_reduce yX1_reduce ∈ fc_tbl := fc_mem (i := 599) (by decide +kernel) rfl
abbrev mX1_leastMultiple : fc_Y := (yX1_leastMultiple, cX1_leastMultiple, 5, some .long)
theorem mi_X1_leastMultiple : fc_MI mX1_leastMultiple 1 := ⟨fc_mem (i := 537) (by decide +kernel) rfl, fc_mem (i := 4) (by decide +kernel) rfl, ⟨by decide, by decide⟩, by decide +kernel, by decide, by decide +kernel⟩
theorem im_X1_leastMultiple : Cond.instanceMethod yX1_leastMultiple ∈ fc_tbl := fc_mem (i := 535) (by decide +kernel) rfl
theorem se_X1_leastMultiple : Cond.selects yX1_leastMultiple.cls yX1_leastMultiple yX1_leastMultiple ∈ fc_tbl := fc_mem (i := 536) (by decide +kernel) rfl
abbrev mX1_findWay : fc_Y := (yX1_findWay, cX1_findWay, 4, some .boolean)
theorem mi_X1_findWay : fc_MI mX1_findWay 2 := ⟨fc_mem (i := 632) (by decide +kernel) rfl, fc_mem (i := 4) (by decide +kernel) rfl, ⟨by decide, by decide⟩, by decide +kernel, by decide, by decide +kernel⟩
theorem im_X1_findWay : Cond.instanceMethod yX1_findWay ∈ fc_tbl := fc_mem (i := 630) (by decide +kernel) rfl
theorem se_X1_findWay : Cond.selects yX1_findWay.cls yX1_findWay yX1_findWay ∈ fc_tbl := fc_mem (i := 631) (by decide +kernel) rfl
abbrev mX1_wayOf : fc_Y := (yX1_wayOf, cX1_wayOf, 2, some .int)
theorem mi_X1_wayOf : fc_MI mX1_wayOf 1 := ⟨fc_mem (i := 641) (by decide +kernel) rfl, fc_mem (i := 4) (by decide +kernel) rfl, ⟨by decide, by decide⟩, by decide +kernel, by decide, by decide +kernel⟩
theorem im_X1_wayOf : Cond.instanceMethod yX1_wayOf ∈ fc_tbl := fc_mem (i := 639) (by decide +kernel) rfl
theorem se_X1_wayOf : Cond.selects yX1_wayOf.cls yX1_wayOf yX1_wayOf ∈ fc_tbl := fc_mem (i := 640) (by decide +kernel) rfl
abbrev mX2_init : fc_Y := (yX2_init, cX2_init, 2, none)
theorem mi_X2_init : fc_MI mX2_init 0 := ⟨fc_mem (i := 123) (by decide +kernel) rfl, fc_mem (i := 5) (by decide +kernel) rfl, ⟨by decide, by decide⟩, by decide +kernel, by decide, by decide +kernel⟩
theorem im_X2_init : Cond.instanceMethod yX2_init ∈ fc_tbl := fc_mem (i := 122) (by decide +kernel) rfl
abbrev mX2_held : fc_Y := (yX2_held, cX2_held, 1, some (.object "FiredChips$Position"))
theorem mi_X2_held : fc_MI mX2_held 0 := ⟨fc_mem (i := 228) (by decide +kernel) rfl, fc_mem (i := 5) (by decide +kernel) rfl, ⟨by decide, by decide⟩, by decide +kernel, by decide, by decide +kernel⟩
theorem im_X2_held : Cond.instanceMethod yX2_held ∈ fc_tbl := fc_mem (i := 226) (by decide +kernel) rfl
theorem se_X2_held : Cond.selects yX2_held.cls yX2_held yX2_held ∈ fc_tbl := fc_mem (i := 227) (by decide +kernel) rfl
abbrev mX2_hold : fc_Y := (yX2_hold, cX2_hold, 2, none)
theorem mi_X2_hold : fc_MI mX2_hold 1 := ⟨fc_mem (i := 224) (by decide +kernel) rfl, fc_mem (i := 5) (by decide +kernel) rfl, ⟨by decide, by decide⟩, by decide +kernel, by decide, by decide +kernel⟩
theorem im_X2_hold : Cond.instanceMethod yX2_hold ∈ fc_tbl := fc_mem (i := 222) (by decide +kernel) rfl
theorem se_X2_hold : Cond.selects yX2_hold.cls yX2_hold yX2_hold ∈ fc_tbl := fc_mem (i := 223) (by decide +kernel) rfl
abbrev mX2_keepHeld : fc_Y := (yX2_keepHeld, cX2_keepHeld, 1, none)
theorem mi_X2_keepHeld : fc_MI mX2_keepHeld 0 := ⟨fc_mem (i := 261) (by decide +kernel) rfl, fc_mem (i := 5) (by decide +kernel) rfl, ⟨by decide, by decide⟩, by decide +kernel, by decide, by decide +kernel⟩
theorem im_X2_keepHeld : Cond.instanceMethod yX2_keepHeld ∈ fc_tbl := fc_mem (i := 259) (by decide +kernel) rfl
theorem se_X2_keepHeld : Cond.selects yX2_keepHeld.cls yX2_keepHeld yX2_keepHeld ∈ fc_tbl := fc_mem (i := 260) (by decide +kernel) rfl
abbrev mX2_takeNewest : fc_Y := (yX2_takeNewest, cX2_takeNewest, 2, none)
theorem mi_X2_takeNewest : fc_MI mX2_takeNewest 1 := ⟨fc_mem (i := 723) (by decide +kernel) rfl, fc_mem (i := 5) (by decide +kernel) rfl, ⟨by decide, by decide⟩, by decide +kernel, by decide, by decide +kernel⟩
theorem im_X2_takeNewest : Cond.instanceMethod yX2_takeNewest ∈ fc_tbl := fc_mem (i := 721) (by decide +kernel) rfl
theorem se_X2_takeNewest : Cond.selects yX2_takeNewest.cls yX2_takeNewest yX2_takeNewest ∈ fc_tbl := fc_mem (i := 722) (by decide +kernel) rfl
abbrev mX3_init : fc_Y := (yX3_init, cX3_init, 1, none)
theorem mi_X3_init : fc_MI mX3_init 0 := ⟨fc_mem (i := 31) (by decide +kernel) rfl, fc_mem (i := 3) (by decide +kernel) rfl, ⟨by decide, by decide⟩, by decide +kernel, by decide, by decide +kernel⟩
theorem im_X3_init : Cond.instanceMethod yX3_init ∈ fc_tbl := fc_mem (i := 30) (by decide +kernel) rfl
abbrev mX3_copyFrom : fc_Y := (yX3_copyFrom, cX3_copyFrom, 3, none)
theorem mi_X3_copyFrom : fc_MI mX3_copyFrom 1 := ⟨fc_mem (i := 232) (by decide +kernel) rfl, fc_mem (i := 3) (by decide +kernel) rfl, ⟨by decide, by decide⟩, by decide +kernel, by decide, by decide +kernel⟩
theorem im_X3_copyFrom : Cond.instanceMethod yX3_copyFrom ∈ fc_tbl := fc_mem (i := 230) (by decide +kernel) rfl
theorem se_X3_copyFrom : Cond.selects yX3_copyFrom.cls yX3_copyFrom yX3_copyFrom ∈ fc_tbl := fc_mem (i := 231) (by decide +kernel) rfl
abbrev mX3_empty : fc_Y := (yX3_empty, cX3_empty, 3, none)
theorem mi_X3_empty : fc_MI mX3_empty 1 := ⟨fc_mem (i := 246) (by decide +kernel) rfl, fc_mem (i := 3) (by decide +kernel) rfl, ⟨by decide, by decide⟩, by decide +kernel, by decide, by decide +kernel⟩
theorem im_X3_empty : Cond.instanceMethod yX3_empty ∈ fc_tbl := fc_mem (i := 244) (by decide +kernel) rfl
theorem se_X3_empty : Cond.selects yX3_empty.cls yX3_empty yX3_empty ∈ fc_tbl := fc_mem (i := 245) (by decide +kernel) rfl
abbrev mX3_draw : fc_Y := (yX3_draw, cX3_draw, 6, none)
theorem mi_X3_draw : fc_MI mX3_draw 1 := ⟨fc_mem (i := 294) (by decide +kernel) rfl, fc_mem (i := 3) (by decide +kernel) rfl, ⟨by decide, by decide⟩, by decide +kernel, by decide, by decide +kernel⟩
theorem im_X3_draw : Cond.instanceMethod yX3_draw ∈ fc_tbl := fc_mem (i := 292) (by decide +kernel) rfl
theorem se_X3_draw : Cond.selects yX3_draw.cls yX3_draw yX3_draw ∈ fc_tbl := fc_mem (i := 293) (by decide +kernel) rfl
abbrev mX3_drawnAfter : fc_Y := (yX3_drawnAfter, cX3_drawnAfter, 2, some .long)
theorem mi_X3_drawnAfter : fc_MI mX3_drawnAfter 1 := ⟨fc_mem (i := 297) (by decide +kernel) rfl, fc_mem (i := 3) (by decide +kernel) rfl, ⟨by decide, by decide⟩, by decide +kernel, by decide, by decide +kernel⟩
theorem st_X3_drawnAfter : Cond.static yX3_drawnAfter ∈ fc_tbl := fc_mem (i := 296) (by decide +kernel) rfl
abbrev mX3_putLines : fc_Y := (yX3_putLines, cX3_putLines, 4, none)
theorem mi_X3_putLines : fc_MI mX3_putLines 3 := ⟨fc_mem (i := 285) (by decide +kernel) rfl, fc_mem (i := 3) (by decide +kernel) rfl, ⟨by decide, by decide⟩, by decide +kernel, by decide, by decide +kernel⟩
theorem im_X3_putLines : Cond.instanceMethod yX3_putLines ∈ fc_tbl := fc_mem (i := 283) (by decide +kernel) rfl
theorem se_X3_putLines : Cond.selects yX3_putLines.cls yX3_putLines yX3_putLines ∈ fc_tbl := fc_mem (i := 284) (by decide +kernel) rfl
abbrev mX3_keepChips : fc_Y := (yX3_keepChips, cX3_keepChips, 2, none)
theorem mi_X3_keepChips : fc_MI mX3_keepChips 1 := ⟨fc_mem (i := 616) (by decide +kernel) rfl, fc_mem (i := 3) (by decide +kernel) rfl, ⟨by decide, by decide⟩, by decide +kernel, by decide, by decide +kernel⟩
theorem im_X3_keepChips : Cond.instanceMethod yX3_keepChips ∈ fc_tbl := fc_mem (i := 614) (by decide +kernel) rfl
theorem se_X3_keepChips : Cond.selects yX3_keepChips.cls yX3_keepChips yX3_keepChips ∈ fc_tbl := fc_mem (i := 615) (by decide +kernel) rfl
abbrev mX3_keptBits : fc_Y := (yX3_keptBits, cX3_keptBits, 3, some .int)
theorem mi_X3_keptBits : fc_MI mX3_keptBits 0 := ⟨fc_mem (i := 732) (by decide +kernel) rfl, fc_mem (i := 3) (by decide +kernel) rfl, ⟨by decide, by decide⟩, by decide +kernel, by decide, by decide +kernel⟩
theorem im_X3_keptBits : Cond.instanceMethod yX3_keptBits ∈ fc_tbl := fc_mem (i := 730) (by decide +kernel) rfl
theorem se_X3_keptBits : Cond.selects yX3_keptBits.cls yX3_keptBits yX3_keptBits ∈ fc_tbl := fc_mem (i := 731) (by decide +kernel) rfl
abbrev mX3_hasPoint : fc_Y := (yX3_hasPoint, cX3_hasPoint, 2, some .boolean)
theorem mi_X3_hasPoint : fc_MI mX3_hasPoint 1 := ⟨fc_mem (i := 276) (by decide +kernel) rfl, fc_mem (i := 3) (by decide +kernel) rfl, ⟨by decide, by decide⟩, by decide +kernel, by decide, by decide +kernel⟩
theorem im_X3_hasPoint : Cond.instanceMethod yX3_hasPoint ∈ fc_tbl := fc_mem (i := 274) (by decide +kernel) rfl
theorem se_X3_hasPoint : Cond.selects yX3_hasPoint.cls yX3_hasPoint yX3_hasPoint ∈ fc_tbl := fc_mem (i := 275) (by decide +kernel) rfl
abbrev mX3_allPoints : fc_Y := (yX3_allPoints, cX3_allPoints, 1, some .int)
theorem mi_X3_allPoints : fc_MI mX3_allPoints 0 := ⟨fc_mem (i := 316) (by decide +kernel) rfl, fc_mem (i := 3) (by decide +kernel) rfl, ⟨by decide, by decide⟩, by decide +kernel, by decide, by decide +kernel⟩
theorem im_X3_allPoints : Cond.instanceMethod yX3_allPoints ∈ fc_tbl := fc_mem (i := 314) (by decide +kernel) rfl
theorem se_X3_allPoints : Cond.selects yX3_allPoints.cls yX3_allPoints yX3_allPoints ∈ fc_tbl := fc_mem (i := 315) (by decide +kernel) rfl
abbrev mX3_linesBetween : fc_Y := (yX3_linesBetween, cX3_linesBetween, 3, some .int)
theorem mi_X3_linesBetween : fc_MI mX3_linesBetween 2 := ⟨fc_mem (i := 272) (by decide +kernel) rfl, fc_mem (i := 3) (by decide +kernel) rfl, ⟨by decide, by decide⟩, by decide +kernel, by decide, by decide +kernel⟩
theorem im_X3_linesBetween : Cond.instanceMethod yX3_linesBetween ∈ fc_tbl := fc_mem (i := 270) (by decide +kernel) rfl
theorem se_X3_linesBetween : Cond.selects yX3_linesBetween.cls yX3_linesBetween yX3_linesBetween ∈ fc_tbl := fc_mem (i := 271) (by decide +kernel) rfl
abbrev mX3_linesInto : fc_Y := (yX3_linesInto, cX3_linesInto, 5, some .int)
theorem mi_X3_linesInto : fc_MI mX3_linesInto 2 := ⟨fc_mem (i := 320) (by decide +kernel) rfl, fc_mem (i := 3) (by decide +kernel) rfl, ⟨by decide, by decide⟩, by decide +kernel, by decide, by decide +kernel⟩
theorem im_X3_linesInto : Cond.instanceMethod yX3_linesInto ∈ fc_tbl := fc_mem (i := 318) (by decide +kernel) rfl
theorem se_X3_linesInto : Cond.selects yX3_linesInto.cls yX3_linesInto yX3_linesInto ∈ fc_tbl := fc_mem (i := 319) (by decide +kernel) rfl
abbrev mX3_valence : fc_Y := (yX3_valence, cX3_valence, 2, some .int)
theorem mi_X3_valence : fc_MI mX3_valence 1 := ⟨fc_mem (i := 312) (by decide +kernel) rfl, fc_mem (i := 3) (by decide +kernel) rfl, ⟨by decide, by decide⟩, by decide +kernel, by decide, by decide +kernel⟩
theorem im_X3_valence : Cond.instanceMethod yX3_valence ∈ fc_tbl := fc_mem (i := 310) (by decide +kernel) rfl
theorem se_X3_valence : Cond.selects yX3_valence.cls yX3_valence yX3_valence ∈ fc_tbl := fc_mem (i := 311) (by decide +kernel) rfl
abbrev mX3_lineCount : fc_Y := (yX3_lineCount, cX3_lineCount, 3, some .int)
theorem mi_X3_lineCount : fc_MI mX3_lineCount 0 := ⟨fc_mem (i := 308) (by decide +kernel) rfl, fc_mem (i := 3) (by decide +kernel) rfl, ⟨by decide, by decide⟩, by decide +kernel, by decide, by decide +kernel⟩
theorem im_X3_lineCount : Cond.instanceMethod yX3_lineCount ∈ fc_tbl := fc_mem (i := 306) (by decide +kernel) rfl
theorem se_X3_lineCount : Cond.selects yX3_lineCount.cls yX3_lineCount yX3_lineCount ∈ fc_tbl := fc_mem (i := 307) (by decide +kernel) rfl
abbrev mX3_genus : fc_Y := (yX3_genus, cX3_genus, 1, some .int)
theorem mi_X3_genus : fc_MI mX3_genus 0 := ⟨fc_mem (i := 555) (by decide +kernel) rfl, fc_mem (i := 3) (by decide +kernel) rfl, ⟨by decide, by decide⟩, by decide +kernel, by decide, by decide +kernel⟩
theorem im_X3_genus : Cond.instanceMethod yX3_genus ∈ fc_tbl := fc_mem (i := 553) (by decide +kernel) rfl
theorem se_X3_genus : Cond.selects yX3_genus.cls yX3_genus yX3_genus ∈ fc_tbl := fc_mem (i := 554) (by decide +kernel) rfl
abbrev mX3_isJoined : fc_Y := (yX3_isJoined, cX3_isJoined, 4, some .boolean)
theorem mi_X3_isJoined : fc_MI mX3_isJoined 0 := ⟨fc_mem (i := 334) (by decide +kernel) rfl, fc_mem (i := 3) (by decide +kernel) rfl, ⟨by decide, by decide⟩, by decide +kernel, by decide, by decide +kernel⟩
theorem im_X3_isJoined : Cond.instanceMethod yX3_isJoined ∈ fc_tbl := fc_mem (i := 332) (by decide +kernel) rfl
theorem se_X3_isJoined : Cond.selects yX3_isJoined.cls yX3_isJoined yX3_isJoined ∈ fc_tbl := fc_mem (i := 333) (by decide +kernel) rfl
abbrev mX3_isHeap : fc_Y := (yX3_isHeap, cX3_isHeap, 2, some .boolean)
theorem mi_X3_isHeap : fc_MI mX3_isHeap 0 := ⟨fc_mem (i := 412) (by decide +kernel) rfl, fc_mem (i := 3) (by decide +kernel) rfl, ⟨by decide, by decide⟩, by decide +kernel, by decide, by decide +kernel⟩
theorem im_X3_isHeap : Cond.instanceMethod yX3_isHeap ∈ fc_tbl := fc_mem (i := 410) (by decide +kernel) rfl
theorem se_X3_isHeap : Cond.selects yX3_isHeap.cls yX3_isHeap yX3_isHeap ∈ fc_tbl := fc_mem (i := 411) (by decide +kernel) rfl
abbrev mX3_isFullAt : fc_Y := (yX3_isFullAt, cX3_isFullAt, 3, some .boolean)
theorem mi_X3_isFullAt : fc_MI mX3_isFullAt 1 := ⟨fc_mem (i := 438) (by decide +kernel) rfl, fc_mem (i := 3) (by decide +kernel) rfl, ⟨by decide, by decide⟩, by decide +kernel, by decide, by decide +kernel⟩
theorem im_X3_isFullAt : Cond.instanceMethod yX3_isFullAt ∈ fc_tbl := fc_mem (i := 436) (by decide +kernel) rfl
theorem se_X3_isFullAt : Cond.selects yX3_isFullAt.cls yX3_isFullAt yX3_isFullAt ∈ fc_tbl := fc_mem (i := 437) (by decide +kernel) rfl
abbrev mX3_isStableHeap : fc_Y := (yX3_isStableHeap, cX3_isStableHeap, 2, some .boolean)
theorem mi_X3_isStableHeap : fc_MI mX3_isStableHeap 0 := ⟨fc_mem (i := 446) (by decide +kernel) rfl, fc_mem (i := 3) (by decide +kernel) rfl, ⟨by decide, by decide⟩, by decide +kernel, by decide, by decide +kernel⟩
theorem im_X3_isStableHeap : Cond.instanceMethod yX3_isStableHeap ∈ fc_tbl := fc_mem (i := 444) (by decide +kernel) rfl
theorem se_X3_isStableHeap : Cond.selects yX3_isStableHeap.cls yX3_isStableHeap yX3_isStableHeap ∈ fc_tbl := fc_mem (i := 445) (by decide +kernel) rfl
abbrev mX3_nextToBurn : fc_Y := (yX3_nextToBurn, cX3_nextToBurn, 5, some .int)
theorem mi_X3_nextToBurn : fc_MI mX3_nextToBurn 1 := ⟨fc_mem (i := 456) (by decide +kernel) rfl, fc_mem (i := 3) (by decide +kernel) rfl, ⟨by decide, by decide⟩, by decide +kernel, by decide, by decide +kernel⟩
theorem im_X3_nextToBurn : Cond.instanceMethod yX3_nextToBurn ∈ fc_tbl := fc_mem (i := 454) (by decide +kernel) rfl
theorem se_X3_nextToBurn : Cond.selects yX3_nextToBurn.cls yX3_nextToBurn yX3_nextToBurn ∈ fc_tbl := fc_mem (i := 455) (by decide +kernel) rfl
abbrev mX3_stableHeapCount : fc_Y := (yX3_stableHeapCount, cX3_stableHeapCount, 3, some .int)
theorem mi_X3_stableHeapCount : fc_MI mX3_stableHeapCount 0 := ⟨fc_mem (i := 545) (by decide +kernel) rfl, fc_mem (i := 3) (by decide +kernel) rfl, ⟨by decide, by decide⟩, by decide +kernel, by decide, by decide +kernel⟩
theorem im_X3_stableHeapCount : Cond.instanceMethod yX3_stableHeapCount ∈ fc_tbl := fc_mem (i := 543) (by decide +kernel) rfl
theorem se_X3_stableHeapCount : Cond.selects yX3_stableHeapCount.cls yX3_stableHeapCount yX3_stableHeapCount ∈ fc_tbl := fc_mem (i := 544) (by decide +kernel) rfl
abbrev mX3_firedInAll : fc_Y := (yX3_firedInAll, cX3_firedInAll, 1, some .int)
theorem mi_X3_firedInAll : fc_MI mX3_firedInAll 0 := ⟨fc_mem (i := 423) (by decide +kernel) rfl, fc_mem (i := 3) (by decide +kernel) rfl, ⟨by decide, by decide⟩, by decide +kernel, by decide, by decide +kernel⟩
theorem im_X3_firedInAll : Cond.instanceMethod yX3_firedInAll ∈ fc_tbl := fc_mem (i := 421) (by decide +kernel) rfl
theorem se_X3_firedInAll : Cond.selects yX3_firedInAll.cls yX3_firedInAll yX3_firedInAll ∈ fc_tbl := fc_mem (i := 422) (by decide +kernel) rfl
abbrev mX3_chipsUnlike : fc_Y := (yX3_chipsUnlike, cX3_chipsUnlike, 4, some .int)
theorem mi_X3_chipsUnlike : fc_MI mX3_chipsUnlike 1 := ⟨fc_mem (i := 399) (by decide +kernel) rfl, fc_mem (i := 3) (by decide +kernel) rfl, ⟨by decide, by decide⟩, by decide +kernel, by decide, by decide +kernel⟩
theorem im_X3_chipsUnlike : Cond.instanceMethod yX3_chipsUnlike ∈ fc_tbl := fc_mem (i := 397) (by decide +kernel) rfl
theorem se_X3_chipsUnlike : Cond.selects yX3_chipsUnlike.cls yX3_chipsUnlike yX3_chipsUnlike ∈ fc_tbl := fc_mem (i := 398) (by decide +kernel) rfl
abbrev mX3_writeDual : fc_Y := (yX3_writeDual, cX3_writeDual, 3, none)
theorem mi_X3_writeDual : fc_MI mX3_writeDual 1 := ⟨fc_mem (i := 560) (by decide +kernel) rfl, fc_mem (i := 3) (by decide +kernel) rfl, ⟨by decide, by decide⟩, by decide +kernel, by decide, by decide +kernel⟩
theorem im_X3_writeDual : Cond.instanceMethod yX3_writeDual ∈ fc_tbl := fc_mem (i := 558) (by decide +kernel) rfl
theorem se_X3_writeDual : Cond.selects yX3_writeDual.cls yX3_writeDual yX3_writeDual ∈ fc_tbl := fc_mem (i := 559) (by decide +kernel) rfl
abbrev mX4_init : fc_Y := (yX4_init, cX4_init, 1, none)
theorem mi_X4_init : fc_MI mX4_init 0 := ⟨fc_mem (i := 143) (by decide +kernel) rfl, fc_mem (i := 6) (by decide +kernel) rfl, ⟨by decide, by decide⟩, by decide +kernel, by decide, by decide +kernel⟩
theorem im_X4_init : Cond.instanceMethod yX4_init ∈ fc_tbl := fc_mem (i := 142) (by decide +kernel) rfl
abbrev mX4_rankOf : fc_Y := (yX4_rankOf, cX4_rankOf, 5, some .int)
theorem mi_X4_rankOf : fc_MI mX4_rankOf 3 := ⟨fc_mem (i := 564) (by decide +kernel) rfl, fc_mem (i := 6) (by decide +kernel) rfl, ⟨by decide, by decide⟩, by decide +kernel, by decide, by decide +kernel⟩
theorem im_X4_rankOf : Cond.instanceMethod yX4_rankOf ∈ fc_tbl := fc_mem (i := 562) (by decide +kernel) rfl
theorem se_X4_rankOf : Cond.selects yX4_rankOf.cls yX4_rankOf yX4_rankOf ∈ fc_tbl := fc_mem (i := 563) (by decide +kernel) rfl
abbrev mX4_takeOff : fc_Y := (yX4_takeOff, cX4_takeOff, 7, none)
theorem mi_X4_takeOff : fc_MI mX4_takeOff 3 := ⟨fc_mem (i := 585) (by decide +kernel) rfl, fc_mem (i := 6) (by decide +kernel) rfl, ⟨by decide, by decide⟩, by decide +kernel, by decide, by decide +kernel⟩
theorem im_X4_takeOff : Cond.instanceMethod yX4_takeOff ∈ fc_tbl := fc_mem (i := 584) (by decide +kernel) rfl
theorem se_X4_takeOff : Cond.selects yX4_takeOff.cls yX4_takeOff yX4_takeOff ∈ fc_tbl := fc_memS (i := 9) (by decide +kernel) rfl
abbrev mX5_init : fc_Y := (yX5_init, cX5_init, 1, none)
theorem mi_X5_init : fc_MI mX5_init 0 := ⟨fc_mem (i := 160) (by decide +kernel) rfl, fc_mem (i := 7) (by decide +kernel) rfl, ⟨by decide, by decide⟩, by decide +kernel, by decide, by decide +kernel⟩
theorem im_X5_init : Cond.instanceMethod yX5_init ∈ fc_tbl := fc_mem (i := 159) (by decide +kernel) rfl
abbrev mX5_append : fc_Y := (yX5_append, cX5_append, 2, none)
theorem mi_X5_append : fc_MI mX5_append 1 := ⟨fc_mem (i := 650) (by decide +kernel) rfl, fc_mem (i := 7) (by decide +kernel) rfl, ⟨by decide, by decide⟩, by decide +kernel, by decide, by decide +kernel⟩
theorem im_X5_append : Cond.instanceMethod yX5_append ∈ fc_tbl := fc_mem (i := 648) (by decide +kernel) rfl
theorem se_X5_append : Cond.selects yX5_append.cls yX5_append yX5_append ∈ fc_tbl := fc_mem (i := 649) (by decide +kernel) rfl
abbrev mX5_parse : fc_Y := (yX5_parse, cX5_parse, 3, some .int)
theorem mi_X5_parse : fc_MI mX5_parse 1 := ⟨fc_mem (i := 662) (by decide +kernel) rfl, fc_mem (i := 7) (by decide +kernel) rfl, ⟨by decide, by decide⟩, by decide +kernel, by decide, by decide +kernel⟩
theorem im_X5_parse : Cond.instanceMethod yX5_parse ∈ fc_tbl := fc_mem (i := 660) (by decide +kernel) rfl
theorem se_X5_parse : Cond.selects yX5_parse.cls yX5_parse yX5_parse ∈ fc_tbl := fc_mem (i := 661) (by decide +kernel) rfl
abbrev mX5_rewind : fc_Y := (yX5_rewind, cX5_rewind, 1, none)
theorem mi_X5_rewind : fc_MI mX5_rewind 0 := ⟨fc_mem (i := 706) (by decide +kernel) rfl, fc_mem (i := 7) (by decide +kernel) rfl, ⟨by decide, by decide⟩, by decide +kernel, by decide, by decide +kernel⟩
theorem im_X5_rewind : Cond.instanceMethod yX5_rewind ∈ fc_tbl := fc_mem (i := 704) (by decide +kernel) rfl
theorem se_X5_rewind : Cond.selects yX5_rewind.cls yX5_rewind yX5_rewind ∈ fc_tbl := fc_mem (i := 705) (by decide +kernel) rfl
abbrev mX5_nextItem : fc_Y := (yX5_nextItem, cX5_nextItem, 1, some .int)
theorem mi_X5_nextItem : fc_MI mX5_nextItem 0 := ⟨fc_mem (i := 714) (by decide +kernel) rfl, fc_mem (i := 7) (by decide +kernel) rfl, ⟨by decide, by decide⟩, by decide +kernel, by decide, by decide +kernel⟩
theorem im_X5_nextItem : Cond.instanceMethod yX5_nextItem ∈ fc_tbl := fc_mem (i := 712) (by decide +kernel) rfl
theorem se_X5_nextItem : Cond.selects yX5_nextItem.cls yX5_nextItem yX5_nextItem ∈ fc_tbl := fc_mem (i := 713) (by decide +kernel) rfl
abbrev mX5_parseOrder : fc_Y := (yX5_parseOrder, cX5_parseOrder, 6, none)
theorem mi_X5_parseOrder : fc_MI mX5_parseOrder 0 := ⟨fc_mem (i := 674) (by decide +kernel) rfl, fc_mem (i := 7) (by decide +kernel) rfl, ⟨by decide, by decide⟩, by decide +kernel, by decide, by decide +kernel⟩
theorem im_X5_parseOrder : Cond.instanceMethod yX5_parseOrder ∈ fc_tbl := fc_mem (i := 673) (by decide +kernel) rfl
theorem se_X5_parseOrder : Cond.selects yX5_parseOrder.cls yX5_parseOrder yX5_parseOrder ∈ fc_tbl := fc_memS (i := 15) (by decide +kernel) rfl
abbrev mX5_endOrder : fc_Y := (yX5_endOrder, cX5_endOrder, 1, none)
theorem mi_X5_endOrder : fc_MI mX5_endOrder 0 := ⟨fc_mem (i := 698) (by decide +kernel) rfl, fc_mem (i := 7) (by decide +kernel) rfl, ⟨by decide, by decide⟩, by decide +kernel, by decide, by decide +kernel⟩
theorem im_X5_endOrder : Cond.instanceMethod yX5_endOrder ∈ fc_tbl := fc_mem (i := 697) (by decide +kernel) rfl
theorem se_X5_endOrder : Cond.selects yX5_endOrder.cls yX5_endOrder yX5_endOrder ∈ fc_tbl := fc_memS (i := 21) (by decide +kernel) rfl
abbrev mX5_takePoints : fc_Y := (yX5_takePoints, cX5_takePoints, 3, none)
theorem mi_X5_takePoints : fc_MI mX5_takePoints 2 := ⟨fc_mem (i := 694) (by decide +kernel) rfl, fc_mem (i := 7) (by decide +kernel) rfl, ⟨by decide, by decide⟩, by decide +kernel, by decide, by decide +kernel⟩
theorem im_X5_takePoints : Cond.instanceMethod yX5_takePoints ∈ fc_tbl := fc_mem (i := 693) (by decide +kernel) rfl
theorem se_X5_takePoints : Cond.selects yX5_takePoints.cls yX5_takePoints yX5_takePoints ∈ fc_tbl := fc_memS (i := 20) (by decide +kernel) rfl
abbrev mX5_numbersOf : fc_Y := (yX5_numbersOf, cX5_numbersOf, 2, some .int)
theorem mi_X5_numbersOf : fc_MI mX5_numbersOf 1 := ⟨fc_mem (i := 678) (by decide +kernel) rfl, fc_mem (i := 7) (by decide +kernel) rfl, ⟨by decide, by decide⟩, by decide +kernel, by decide, by decide +kernel⟩
theorem im_X5_numbersOf : Cond.instanceMethod yX5_numbersOf ∈ fc_tbl := fc_mem (i := 677) (by decide +kernel) rfl
theorem se_X5_numbersOf : Cond.selects yX5_numbersOf.cls yX5_numbersOf yX5_numbersOf ∈ fc_tbl := fc_memS (i := 16) (by decide +kernel) rfl
abbrev mX5_parseNumber : fc_Y := (yX5_parseNumber, cX5_parseNumber, 6, some .int)
theorem mi_X5_parseNumber : fc_MI mX5_parseNumber 1 := ⟨fc_mem (i := 686) (by decide +kernel) rfl, fc_mem (i := 7) (by decide +kernel) rfl, ⟨by decide, by decide⟩, by decide +kernel, by decide, by decide +kernel⟩
theorem im_X5_parseNumber : Cond.instanceMethod yX5_parseNumber ∈ fc_tbl := fc_mem (i := 685) (by decide +kernel) rfl
theorem se_X5_parseNumber : Cond.selects yX5_parseNumber.cls yX5_parseNumber yX5_parseNumber ∈ fc_tbl := fc_memS (i := 18) (by decide +kernel) rfl
abbrev mX5_addItem : fc_Y := (yX5_addItem, cX5_addItem, 2, none)
theorem mi_X5_addItem : fc_MI mX5_addItem 1 := ⟨fc_mem (i := 682) (by decide +kernel) rfl, fc_mem (i := 7) (by decide +kernel) rfl, ⟨by decide, by decide⟩, by decide +kernel, by decide, by decide +kernel⟩
theorem im_X5_addItem : Cond.instanceMethod yX5_addItem ∈ fc_tbl := fc_mem (i := 681) (by decide +kernel) rfl
theorem se_X5_addItem : Cond.selects yX5_addItem.cls yX5_addItem yX5_addItem ∈ fc_tbl := fc_memS (i := 17) (by decide +kernel) rfl
abbrev mX5_byteHere : fc_Y := (yX5_byteHere, cX5_byteHere, 1, some .int)
theorem mi_X5_byteHere : fc_MI mX5_byteHere 0 := ⟨fc_mem (i := 670) (by decide +kernel) rfl, fc_mem (i := 7) (by decide +kernel) rfl, ⟨by decide, by decide⟩, by decide +kernel, by decide, by decide +kernel⟩
theorem im_X5_byteHere : Cond.instanceMethod yX5_byteHere ∈ fc_tbl := fc_mem (i := 669) (by decide +kernel) rfl
theorem se_X5_byteHere : Cond.selects yX5_byteHere.cls yX5_byteHere yX5_byteHere ∈ fc_tbl := fc_memS (i := 14) (by decide +kernel) rfl
abbrev mX5_isFigureHere : fc_Y := (yX5_isFigureHere, cX5_isFigureHere, 1, some .boolean)
theorem mi_X5_isFigureHere : fc_MI mX5_isFigureHere 0 := ⟨fc_mem (i := 690) (by decide +kernel) rfl, fc_mem (i := 7) (by decide +kernel) rfl, ⟨by decide, by decide⟩, by decide +kernel, by decide, by decide +kernel⟩
theorem im_X5_isFigureHere : Cond.instanceMethod yX5_isFigureHere ∈ fc_tbl := fc_mem (i := 689) (by decide +kernel) rfl
theorem se_X5_isFigureHere : Cond.selects yX5_isFigureHere.cls yX5_isFigureHere yX5_isFigureHere ∈ fc_tbl := fc_memS (i := 19) (by decide +kernel) rfl
abbrev mX5_skipBlanks : fc_Y := (yX5_skipBlanks, cX5_skipBlanks, 2, none)
theorem mi_X5_skipBlanks : fc_MI mX5_skipBlanks 0 := ⟨fc_mem (i := 666) (by decide +kernel) rfl, fc_mem (i := 7) (by decide +kernel) rfl, ⟨by decide, by decide⟩, by decide +kernel, by decide, by decide +kernel⟩
theorem im_X5_skipBlanks : Cond.instanceMethod yX5_skipBlanks ∈ fc_tbl := fc_mem (i := 665) (by decide +kernel) rfl
theorem se_X5_skipBlanks : Cond.selects yX5_skipBlanks.cls yX5_skipBlanks yX5_skipBlanks ∈ fc_tbl := fc_memS (i := 13) (by decide +kernel) rfl
abbrev mX6_init : fc_Y := (yX6_init, cX6_init, 1, none)
theorem mi_X6_init : fc_MI mX6_init 0 := ⟨fc_mem (i := 17) (by decide +kernel) rfl, fc_mem (i := 1) (by decide +kernel) rfl, ⟨by decide, by decide⟩, by decide +kernel, by decide, by decide +kernel⟩
theorem im_X6_init : Cond.instanceMethod yX6_init ∈ fc_tbl := fc_mem (i := 16) (by decide +kernel) rfl
abbrev mX6_points : fc_Y := (yX6_points, cX6_points, 3, some .int)
theorem mi_X6_points : fc_MI mX6_points 1 := ⟨fc_mem (i := 220) (by decide +kernel) rfl, fc_mem (i := 1) (by decide +kernel) rfl, ⟨by decide, by decide⟩, by decide +kernel, by decide, by decide +kernel⟩
theorem im_X6_points : Cond.instanceMethod yX6_points ∈ fc_tbl := fc_mem (i := 218) (by decide +kernel) rfl
theorem se_X6_points : Cond.selects yX6_points.cls yX6_points yX6_points ∈ fc_tbl := fc_mem (i := 219) (by decide +kernel) rfl
abbrev mX6_lines : fc_Y := (yX6_lines, cX6_lines, 5, some .int)
theorem mi_X6_lines : fc_MI mX6_lines 3 := ⟨fc_mem (i := 268) (by decide +kernel) rfl, fc_mem (i := 1) (by decide +kernel) rfl, ⟨by decide, by decide⟩, by decide +kernel, by decide, by decide +kernel⟩
theorem im_X6_lines : Cond.instanceMethod yX6_lines ∈ fc_tbl := fc_mem (i := 266) (by decide +kernel) rfl
theorem se_X6_lines : Cond.selects yX6_lines.cls yX6_lines yX6_lines ∈ fc_tbl := fc_mem (i := 267) (by decide +kernel) rfl
abbrev mX6_draws : fc_Y := (yX6_draws, cX6_draws, 2, some .int)
theorem mi_X6_draws : fc_MI mX6_draws 1 := ⟨fc_mem (i := 289) (by decide +kernel) rfl, fc_mem (i := 1) (by decide +kernel) rfl, ⟨by decide, by decide⟩, by decide +kernel, by decide, by decide +kernel⟩
theorem im_X6_draws : Cond.instanceMethod yX6_draws ∈ fc_tbl := fc_mem (i := 287) (by decide +kernel) rfl
theorem se_X6_draws : Cond.selects yX6_draws.cls yX6_draws yX6_draws ∈ fc_tbl := fc_mem (i := 288) (by decide +kernel) rfl
abbrev mX6_net : fc_Y := (yX6_net, cX6_net, 3, some .int)
theorem mi_X6_net : fc_MI mX6_net 2 := ⟨fc_mem (i := 324) (by decide +kernel) rfl, fc_mem (i := 1) (by decide +kernel) rfl, ⟨by decide, by decide⟩, by decide +kernel, by decide, by decide +kernel⟩
theorem im_X6_net : Cond.instanceMethod yX6_net ∈ fc_tbl := fc_mem (i := 322) (by decide +kernel) rfl
theorem se_X6_net : Cond.selects yX6_net.cls yX6_net yX6_net ∈ fc_tbl := fc_mem (i := 323) (by decide +kernel) rfl
abbrev mX6_joined : fc_Y := (yX6_joined, cX6_joined, 1, some .int)
theorem mi_X6_joined : fc_MI mX6_joined 0 := ⟨fc_mem (i := 330) (by decide +kernel) rfl, fc_mem (i := 1) (by decide +kernel) rfl, ⟨by decide, by decide⟩, by decide +kernel, by decide, by decide +kernel⟩
theorem im_X6_joined : Cond.instanceMethod yX6_joined ∈ fc_tbl := fc_mem (i := 328) (by decide +kernel) rfl
theorem se_X6_joined : Cond.selects yX6_joined.cls yX6_joined yX6_joined ∈ fc_tbl := fc_mem (i := 329) (by decide +kernel) rfl
abbrev mX6_sets : fc_Y := (yX6_sets, cX6_sets, 4, some .int)
theorem mi_X6_sets : fc_MI mX6_sets 2 := ⟨fc_mem (i := 341) (by decide +kernel) rfl, fc_mem (i := 1) (by decide +kernel) rfl, ⟨by decide, by decide⟩, by decide +kernel, by decide, by decide +kernel⟩
theorem im_X6_sets : Cond.instanceMethod yX6_sets ∈ fc_tbl := fc_mem (i := 339) (by decide +kernel) rfl
theorem se_X6_sets : Cond.selects yX6_sets.cls yX6_sets yX6_sets ∈ fc_tbl := fc_mem (i := 340) (by decide +kernel) rfl
abbrev mX6_adds : fc_Y := (yX6_adds, cX6_adds, 4, some .int)
theorem mi_X6_adds : fc_MI mX6_adds 2 := ⟨fc_mem (i := 349) (by decide +kernel) rfl, fc_mem (i := 1) (by decide +kernel) rfl, ⟨by decide, by decide⟩, by decide +kernel, by decide, by decide +kernel⟩
theorem im_X6_adds : Cond.instanceMethod yX6_adds ∈ fc_tbl := fc_mem (i := 347) (by decide +kernel) rfl
theorem se_X6_adds : Cond.selects yX6_adds.cls yX6_adds yX6_adds ∈ fc_tbl := fc_mem (i := 348) (by decide +kernel) rfl
abbrev mX6_fires : fc_Y := (yX6_fires, cX6_fires, 2, some .int)
theorem mi_X6_fires : fc_MI mX6_fires 1 := ⟨fc_mem (i := 367) (by decide +kernel) rfl, fc_mem (i := 1) (by decide +kernel) rfl, ⟨by decide, by decide⟩, by decide +kernel, by decide, by decide +kernel⟩
theorem im_X6_fires : Cond.instanceMethod yX6_fires ∈ fc_tbl := fc_mem (i := 365) (by decide +kernel) rfl
theorem se_X6_fires : Cond.selects yX6_fires.cls yX6_fires yX6_fires ∈ fc_tbl := fc_mem (i := 366) (by decide +kernel) rfl
abbrev mX6_borrows : fc_Y := (yX6_borrows, cX6_borrows, 2, some .int)
theorem mi_X6_borrows : fc_MI mX6_borrows 1 := ⟨fc_mem (i := 389) (by decide +kernel) rfl, fc_mem (i := 1) (by decide +kernel) rfl, ⟨by decide, by decide⟩, by decide +kernel, by decide, by decide +kernel⟩
theorem im_X6_borrows : Cond.instanceMethod yX6_borrows ∈ fc_tbl := fc_mem (i := 387) (by decide +kernel) rfl
theorem se_X6_borrows : Cond.selects yX6_borrows.cls yX6_borrows yX6_borrows ∈ fc_tbl := fc_mem (i := 388) (by decide +kernel) rfl
abbrev mX6_together : fc_Y := (yX6_together, cX6_together, 3, some .int)
theorem mi_X6_together : fc_MI mX6_together 1 := ⟨fc_mem (i := 393) (by decide +kernel) rfl, fc_mem (i := 1) (by decide +kernel) rfl, ⟨by decide, by decide⟩, by decide +kernel, by decide, by decide +kernel⟩
theorem im_X6_together : Cond.instanceMethod yX6_together ∈ fc_tbl := fc_mem (i := 391) (by decide +kernel) rfl
theorem se_X6_together : Cond.selects yX6_together.cls yX6_together yX6_together ∈ fc_tbl := fc_mem (i := 392) (by decide +kernel) rfl
abbrev mX6_settles : fc_Y := (yX6_settles, cX6_settles, 2, some .int)
theorem mi_X6_settles : fc_MI mX6_settles 0 := ⟨fc_mem (i := 403) (by decide +kernel) rfl, fc_mem (i := 1) (by decide +kernel) rfl, ⟨by decide, by decide⟩, by decide +kernel, by decide, by decide +kernel⟩
theorem im_X6_settles : Cond.instanceMethod yX6_settles ∈ fc_tbl := fc_mem (i := 401) (by decide +kernel) rfl
theorem se_X6_settles : Cond.selects yX6_settles.cls yX6_settles yX6_settles ∈ fc_tbl := fc_mem (i := 402) (by decide +kernel) rfl
abbrev mX6_script : fc_Y := (yX6_script, cX6_script, 2, some .int)
theorem mi_X6_script : fc_MI mX6_script 1 := ⟨fc_mem (i := 430) (by decide +kernel) rfl, fc_mem (i := 1) (by decide +kernel) rfl, ⟨by decide, by decide⟩, by decide +kernel, by decide, by decide +kernel⟩
theorem im_X6_script : Cond.instanceMethod yX6_script ∈ fc_tbl := fc_mem (i := 428) (by decide +kernel) rfl
theorem se_X6_script : Cond.selects yX6_script.cls yX6_script yX6_script ∈ fc_tbl := fc_mem (i := 429) (by decide +kernel) rfl
abbrev mX6_of : fc_Y := (yX6_of, cX6_of, 3, some .int)
theorem mi_X6_of : fc_MI mX6_of 2 := ⟨fc_mem (i := 434) (by decide +kernel) rfl, fc_mem (i := 1) (by decide +kernel) rfl, ⟨by decide, by decide⟩, by decide +kernel, by decide, by decide +kernel⟩
theorem im_X6_of : Cond.instanceMethod yX6_of ∈ fc_tbl := fc_mem (i := 432) (by decide +kernel) rfl
theorem se_X6_of : Cond.selects yX6_of.cls yX6_of yX6_of ∈ fc_tbl := fc_mem (i := 433) (by decide +kernel) rfl
abbrev mX6_stable : fc_Y := (yX6_stable, cX6_stable, 1, some .int)
theorem mi_X6_stable : fc_MI mX6_stable 0 := ⟨fc_mem (i := 442) (by decide +kernel) rfl, fc_mem (i := 1) (by decide +kernel) rfl, ⟨by decide, by decide⟩, by decide +kernel, by decide, by decide +kernel⟩
theorem im_X6_stable : Cond.instanceMethod yX6_stable ∈ fc_tbl := fc_mem (i := 440) (by decide +kernel) rfl
theorem se_X6_stable : Cond.selects yX6_stable.cls yX6_stable yX6_stable ∈ fc_tbl := fc_mem (i := 441) (by decide +kernel) rfl
abbrev mX6_burns : fc_Y := (yX6_burns, cX6_burns, 6, some .int)
theorem mi_X6_burns : fc_MI mX6_burns 1 := ⟨fc_mem (i := 452) (by decide +kernel) rfl, fc_mem (i := 1) (by decide +kernel) rfl, ⟨by decide, by decide⟩, by decide +kernel, by decide, by decide +kernel⟩
theorem im_X6_burns : Cond.instanceMethod yX6_burns ∈ fc_tbl := fc_mem (i := 450) (by decide +kernel) rfl
theorem se_X6_burns : Cond.selects yX6_burns.cls yX6_burns yX6_burns ∈ fc_tbl := fc_mem (i := 451) (by decide +kernel) rfl
abbrev mX6_trees : fc_Y := (yX6_trees, cX6_trees, 1, some .int)
theorem mi_X6_trees : fc_MI mX6_trees 0 := ⟨fc_mem (i := 461) (by decide +kernel) rfl, fc_mem (i := 1) (by decide +kernel) rfl, ⟨by decide, by decide⟩, by decide +kernel, by decide, by decide +kernel⟩
theorem im_X6_trees : Cond.instanceMethod yX6_trees ∈ fc_tbl := fc_mem (i := 459) (by decide +kernel) rfl
theorem se_X6_trees : Cond.selects yX6_trees.cls yX6_trees yX6_trees ∈ fc_tbl := fc_mem (i := 460) (by decide +kernel) rfl
abbrev mX6_parts : fc_Y := (yX6_parts, cX6_parts, 10, some .int)
theorem mi_X6_parts : fc_MI mX6_parts 1 := ⟨fc_mem (i := 478) (by decide +kernel) rfl, fc_mem (i := 1) (by decide +kernel) rfl, ⟨by decide, by decide⟩, by decide +kernel, by decide, by decide +kernel⟩
theorem im_X6_parts : Cond.instanceMethod yX6_parts ∈ fc_tbl := fc_mem (i := 476) (by decide +kernel) rfl
theorem se_X6_parts : Cond.selects yX6_parts.cls yX6_parts yX6_parts ∈ fc_tbl := fc_mem (i := 477) (by decide +kernel) rfl
abbrev mX6_identity : fc_Y := (yX6_identity, cX6_identity, 2, some .int)
theorem mi_X6_identity : fc_MI mX6_identity 1 := ⟨fc_mem (i := 496) (by decide +kernel) rfl, fc_mem (i := 1) (by decide +kernel) rfl, ⟨by decide, by decide⟩, by decide +kernel, by decide, by decide +kernel⟩
theorem im_X6_identity : Cond.instanceMethod yX6_identity ∈ fc_tbl := fc_mem (i := 494) (by decide +kernel) rfl
theorem se_X6_identity : Cond.selects yX6_identity.cls yX6_identity yX6_identity ∈ fc_tbl := fc_mem (i := 495) (by decide +kernel) rfl
abbrev mX6_recurrent : fc_Y := (yX6_recurrent, cX6_recurrent, 2, some .int)
theorem mi_X6_recurrent : fc_MI mX6_recurrent 1 := ⟨fc_mem (i := 527) (by decide +kernel) rfl, fc_mem (i := 1) (by decide +kernel) rfl, ⟨by decide, by decide⟩, by decide +kernel, by decide, by decide +kernel⟩
theorem im_X6_recurrent : Cond.instanceMethod yX6_recurrent ∈ fc_tbl := fc_mem (i := 525) (by decide +kernel) rfl
theorem se_X6_recurrent : Cond.selects yX6_recurrent.cls yX6_recurrent yX6_recurrent ∈ fc_tbl := fc_mem (i := 526) (by decide +kernel) rfl
abbrev mX6_order : fc_Y := (yX6_order, cX6_order, 1, some .int)
theorem mi_X6_order : fc_MI mX6_order 0 := ⟨fc_mem (i := 533) (by decide +kernel) rfl, fc_mem (i := 1) (by decide +kernel) rfl, ⟨by decide, by decide⟩, by decide +kernel, by decide, by decide +kernel⟩
theorem im_X6_order : Cond.instanceMethod yX6_order ∈ fc_tbl := fc_mem (i := 531) (by decide +kernel) rfl
theorem se_X6_order : Cond.selects yX6_order.cls yX6_order yX6_order ∈ fc_tbl := fc_mem (i := 532) (by decide +kernel) rfl
abbrev mX6_heaps : fc_Y := (yX6_heaps, cX6_heaps, 2, some .int)
theorem mi_X6_heaps : fc_MI mX6_heaps 1 := ⟨fc_mem (i := 541) (by decide +kernel) rfl, fc_mem (i := 1) (by decide +kernel) rfl, ⟨by decide, by decide⟩, by decide +kernel, by decide, by decide +kernel⟩
theorem im_X6_heaps : Cond.instanceMethod yX6_heaps ∈ fc_tbl := fc_mem (i := 539) (by decide +kernel) rfl
theorem se_X6_heaps : Cond.selects yX6_heaps.cls yX6_heaps yX6_heaps ∈ fc_tbl := fc_mem (i := 540) (by decide +kernel) rfl
abbrev mX6_rank : fc_Y := (yX6_rank, cX6_rank, 2, some .int)
theorem mi_X6_rank : fc_MI mX6_rank 1 := ⟨fc_mem (i := 550) (by decide +kernel) rfl, fc_mem (i := 1) (by decide +kernel) rfl, ⟨by decide, by decide⟩, by decide +kernel, by decide, by decide +kernel⟩
theorem im_X6_rank : Cond.instanceMethod yX6_rank ∈ fc_tbl := fc_mem (i := 548) (by decide +kernel) rfl
theorem se_X6_rank : Cond.selects yX6_rank.cls yX6_rank yX6_rank ∈ fc_tbl := fc_mem (i := 549) (by decide +kernel) rfl
abbrev mX6_reduced : fc_Y := (yX6_reduced, cX6_reduced, 3, some .int)
theorem mi_X6_reduced : fc_MI mX6_reduced 2 := ⟨fc_mem (i := 592) (by decide +kernel) rfl, fc_mem (i := 1) (by decide +kernel) rfl, ⟨by decide, by decide⟩, by decide +kernel, by decide, by decide +kernel⟩
theorem im_X6_reduced : Cond.instanceMethod yX6_reduced ∈ fc_tbl := fc_mem (i := 590) (by decide +kernel) rfl
theorem se_X6_reduced : Cond.selects yX6_reduced.cls yX6_reduced yX6_reduced ∈ fc_tbl := fc_mem (i := 591) (by decide +kernel) rfl
abbrev mX6_won : fc_Y := (yX6_won, cX6_won, 1, some .int)
theorem mi_X6_won : fc_MI mX6_won 0 := ⟨fc_mem (i := 605) (by decide +kernel) rfl, fc_mem (i := 1) (by decide +kernel) rfl, ⟨by decide, by decide⟩, by decide +kernel, by decide, by decide +kernel⟩
theorem im_X6_won : Cond.instanceMethod yX6_won ∈ fc_tbl := fc_mem (i := 603) (by decide +kernel) rfl
theorem se_X6_won : Cond.selects yX6_won.cls yX6_won yX6_won ∈ fc_tbl := fc_mem (i := 604) (by decide +kernel) rfl
abbrev mX6_keeps : fc_Y := (yX6_keeps, cX6_keeps, 2, some .int)
theorem mi_X6_keeps : fc_MI mX6_keeps 1 := ⟨fc_mem (i := 609) (by decide +kernel) rfl, fc_mem (i := 1) (by decide +kernel) rfl, ⟨by decide, by decide⟩, by decide +kernel, by decide, by decide +kernel⟩
theorem im_X6_keeps : Cond.instanceMethod yX6_keeps ∈ fc_tbl := fc_mem (i := 607) (by decide +kernel) rfl
theorem se_X6_keeps : Cond.selects yX6_keeps.cls yX6_keeps yX6_keeps ∈ fc_tbl := fc_mem (i := 608) (by decide +kernel) rfl
abbrev mX6_equal : fc_Y := (yX6_equal, cX6_equal, 2, some .int)
theorem mi_X6_equal : fc_MI mX6_equal 1 := ⟨fc_mem (i := 620) (by decide +kernel) rfl, fc_mem (i := 1) (by decide +kernel) rfl, ⟨by decide, by decide⟩, by decide +kernel, by decide, by decide +kernel⟩
theorem im_X6_equal : Cond.instanceMethod yX6_equal ∈ fc_tbl := fc_mem (i := 618) (by decide +kernel) rfl
theorem se_X6_equal : Cond.selects yX6_equal.cls yX6_equal yX6_equal ∈ fc_tbl := fc_mem (i := 619) (by decide +kernel) rfl
abbrev mX6_way : fc_Y := (yX6_way, cX6_way, 3, some .int)
theorem mi_X6_way : fc_MI mX6_way 2 := ⟨fc_mem (i := 637) (by decide +kernel) rfl, fc_mem (i := 1) (by decide +kernel) rfl, ⟨by decide, by decide⟩, by decide +kernel, by decide, by decide +kernel⟩
theorem im_X6_way : Cond.instanceMethod yX6_way ∈ fc_tbl := fc_mem (i := 635) (by decide +kernel) rfl
theorem se_X6_way : Cond.selects yX6_way.cls yX6_way yX6_way ∈ fc_tbl := fc_mem (i := 636) (by decide +kernel) rfl
abbrev mX6_type : fc_Y := (yX6_type, cX6_type, 2, some .int)
theorem mi_X6_type : fc_MI mX6_type 1 := ⟨fc_mem (i := 646) (by decide +kernel) rfl, fc_mem (i := 1) (by decide +kernel) rfl, ⟨by decide, by decide⟩, by decide +kernel, by decide, by decide +kernel⟩
theorem im_X6_type : Cond.instanceMethod yX6_type ∈ fc_tbl := fc_mem (i := 644) (by decide +kernel) rfl
theorem se_X6_type : Cond.selects yX6_type.cls yX6_type yX6_type ∈ fc_tbl := fc_mem (i := 645) (by decide +kernel) rfl
abbrev mX6_clear : fc_Y := (yX6_clear, cX6_clear, 2, some .int)
theorem mi_X6_clear : fc_MI mX6_clear 0 := ⟨fc_mem (i := 654) (by decide +kernel) rfl, fc_mem (i := 1) (by decide +kernel) rfl, ⟨by decide, by decide⟩, by decide +kernel, by decide, by decide +kernel⟩
theorem im_X6_clear : Cond.instanceMethod yX6_clear ∈ fc_tbl := fc_mem (i := 652) (by decide +kernel) rfl
theorem se_X6_clear : Cond.selects yX6_clear.cls yX6_clear yX6_clear ∈ fc_tbl := fc_mem (i := 653) (by decide +kernel) rfl
abbrev mX6_reads : fc_Y := (yX6_reads, cX6_reads, 3, some .int)
theorem mi_X6_reads : fc_MI mX6_reads 0 := ⟨fc_mem (i := 658) (by decide +kernel) rfl, fc_mem (i := 1) (by decide +kernel) rfl, ⟨by decide, by decide⟩, by decide +kernel, by decide, by decide +kernel⟩
theorem im_X6_reads : Cond.instanceMethod yX6_reads ∈ fc_tbl := fc_mem (i := 656) (by decide +kernel) rfl
theorem se_X6_reads : Cond.selects yX6_reads.cls yX6_reads yX6_reads ∈ fc_tbl := fc_mem (i := 657) (by decide +kernel) rfl
abbrev mX6_back : fc_Y := (yX6_back, cX6_back, 1, some .int)
theorem mi_X6_back : fc_MI mX6_back 0 := ⟨fc_mem (i := 719) (by decide +kernel) rfl, fc_mem (i := 1) (by decide +kernel) rfl, ⟨by decide, by decide⟩, by decide +kernel, by decide, by decide +kernel⟩
theorem im_X6_back : Cond.instanceMethod yX6_back ∈ fc_tbl := fc_mem (i := 717) (by decide +kernel) rfl
theorem se_X6_back : Cond.selects yX6_back.cls yX6_back yX6_back ∈ fc_tbl := fc_mem (i := 718) (by decide +kernel) rfl
abbrev mX6_told : fc_Y := (yX6_told, cX6_told, 2, some .int)
theorem mi_X6_told : fc_MI mX6_told 1 := ⟨fc_mem (i := 728) (by decide +kernel) rfl, fc_mem (i := 1) (by decide +kernel) rfl, ⟨by decide, by decide⟩, by decide +kernel, by decide, by decide +kernel⟩
theorem im_X6_told : Cond.instanceMethod yX6_told ∈ fc_tbl := fc_mem (i := 726) (by decide +kernel) rfl
theorem se_X6_told : Cond.selects yX6_told.cls yX6_told yX6_told ∈ fc_tbl := fc_mem (i := 727) (by decide +kernel) rfl
abbrev mX6_digest : fc_Y := (yX6_digest, cX6_digest, 5, some .long)
theorem mi_X6_digest : fc_MI mX6_digest 0 := ⟨fc_mem (i := 736) (by decide +kernel) rfl, fc_mem (i := 1) (by decide +kernel) rfl, ⟨by decide, by decide⟩, by decide +kernel, by decide, by decide +kernel⟩
theorem im_X6_digest : Cond.instanceMethod yX6_digest ∈ fc_tbl := fc_mem (i := 734) (by decide +kernel) rfl
theorem se_X6_digest : Cond.selects yX6_digest.cls yX6_digest yX6_digest ∈ fc_tbl := fc_mem (i := 735) (by decide +kernel) rfl
abbrev mX6_refuse : fc_Y := (yX6_refuse, cX6_refuse, 3, some .int)
theorem mi_X6_refuse : fc_MI mX6_refuse 1 := ⟨fc_mem (i := 257) (by decide +kernel) rfl, fc_mem (i := 1) (by decide +kernel) rfl, ⟨by decide, by decide⟩, by decide +kernel, by decide, by decide +kernel⟩
theorem im_X6_refuse : Cond.instanceMethod yX6_refuse ∈ fc_tbl := fc_mem (i := 256) (by decide +kernel) rfl
theorem se_X6_refuse : Cond.selects yX6_refuse.cls yX6_refuse yX6_refuse ∈ fc_tbl := fc_memS (i := 1) (by decide +kernel) rfl
abbrev mX6_ended : fc_Y := (yX6_ended, cX6_ended, 3, some .int)
theorem mi_X6_ended : fc_MI mX6_ended 2 := ⟨fc_mem (i := 253) (by decide +kernel) rfl, fc_mem (i := 1) (by decide +kernel) rfl, ⟨by decide, by decide⟩, by decide +kernel, by decide, by decide +kernel⟩
theorem im_X6_ended : Cond.instanceMethod yX6_ended ∈ fc_tbl := fc_mem (i := 252) (by decide +kernel) rfl
theorem se_X6_ended : Cond.selects yX6_ended.cls yX6_ended yX6_ended ∈ fc_tbl := fc_memS (i := 0) (by decide +kernel) rfl
abbrev mX6_reduceChipsAt : fc_Y := (yX6_reduceChipsAt, cX6_reduceChipsAt, 2, none)
theorem mi_X6_reduceChipsAt : fc_MI mX6_reduceChipsAt 1 := ⟨fc_mem (i := 596) (by decide +kernel) rfl, fc_mem (i := 1) (by decide +kernel) rfl, ⟨by decide, by decide⟩, by decide +kernel, by decide, by decide +kernel⟩
theorem im_X6_reduceChipsAt : Cond.instanceMethod yX6_reduceChipsAt ∈ fc_tbl := fc_mem (i := 595) (by decide +kernel) rfl
theorem se_X6_reduceChipsAt : Cond.selects yX6_reduceChipsAt.cls yX6_reduceChipsAt yX6_reduceChipsAt ∈ fc_tbl := fc_memS (i := 10) (by decide +kernel) rfl
abbrev mX6_canCompareWith : fc_Y := (yX6_canCompareWith, cX6_canCompareWith, 2, some .boolean)
theorem mi_X6_canCompareWith : fc_MI mX6_canCompareWith 1 := ⟨fc_mem (i := 624) (by decide +kernel) rfl, fc_mem (i := 1) (by decide +kernel) rfl, ⟨by decide, by decide⟩, by decide +kernel, by decide, by decide +kernel⟩
theorem im_X6_canCompareWith : Cond.instanceMethod yX6_canCompareWith ∈ fc_tbl := fc_mem (i := 623) (by decide +kernel) rfl
theorem se_X6_canCompareWith : Cond.selects yX6_canCompareWith.cls yX6_canCompareWith yX6_canCompareWith ∈ fc_tbl := fc_memS (i := 11) (by decide +kernel) rfl
abbrev mX6_findWay : fc_Y := (yX6_findWay, cX6_findWay, 2, some .boolean)
theorem mi_X6_findWay : fc_MI mX6_findWay 1 := ⟨fc_mem (i := 628) (by decide +kernel) rfl, fc_mem (i := 1) (by decide +kernel) rfl, ⟨by decide, by decide⟩, by decide +kernel, by decide, by decide +kernel⟩
theorem im_X6_findWay : Cond.instanceMethod yX6_findWay ∈ fc_tbl := fc_mem (i := 627) (by decide +kernel) rfl
theorem se_X6_findWay : Cond.selects yX6_findWay.cls yX6_findWay yX6_findWay ∈ fc_tbl := fc_memS (i := 12) (by decide +kernel) rfl
abbrev mX6_doOrders : fc_Y := (yX6_doOrders, cX6_doOrders, 2, some .int)
theorem mi_X6_doOrders : fc_MI mX6_doOrders 0 := ⟨fc_mem (i := 702) (by decide +kernel) rfl, fc_mem (i := 1) (by decide +kernel) rfl, ⟨by decide, by decide⟩, by decide +kernel, by decide, by decide +kernel⟩
theorem im_X6_doOrders : Cond.instanceMethod yX6_doOrders ∈ fc_tbl := fc_mem (i := 701) (by decide +kernel) rfl
theorem se_X6_doOrders : Cond.selects yX6_doOrders.cls yX6_doOrders yX6_doOrders ∈ fc_tbl := fc_memS (i := 22) (by decide +kernel) rfl
abbrev mX6_doOrder : fc_Y := (yX6_doOrder, cX6_doOrder, 2, some .int)
theorem mi_X6_doOrder : fc_MI mX6_doOrder 0 := ⟨fc_mem (i := 710) (by decide +kernel) rfl, fc_mem (i := 1) (by decide +kernel) rfl, ⟨by decide, by decide⟩, by decide +kernel, by decide, by decide +kernel⟩
theorem im_X6_doOrder : Cond.instanceMethod yX6_doOrder ∈ fc_tbl := fc_mem (i := 709) (by decide +kernel) rfl
theorem se_X6_doOrder : Cond.selects yX6_doOrder.cls yX6_doOrder yX6_doOrder ∈ fc_tbl := fc_memS (i := 23) (by decide +kernel) rfl
abbrev mX6_isKeptNumber : fc_Y := (yX6_isKeptNumber, cX6_isKeptNumber, 1, some .boolean)
theorem mi_X6_isKeptNumber : fc_MI mX6_isKeptNumber 1 := ⟨fc_mem (i := 612) (by decide +kernel) rfl, fc_mem (i := 1) (by decide +kernel) rfl, ⟨by decide, by decide⟩, by decide +kernel, by decide, by decide +kernel⟩
theorem st_X6_isKeptNumber : Cond.static yX6_isKeptNumber ∈ fc_tbl := fc_mem (i := 611) (by decide +kernel) rfl
abbrev mX6_bit : fc_Y := (yX6_bit, cX6_bit, 1, some .int)
theorem mi_X6_bit : fc_MI mX6_bit 1 := ⟨fc_mem (i := 337) (by decide +kernel) rfl, fc_mem (i := 1) (by decide +kernel) rfl, ⟨by decide, by decide⟩, by decide +kernel, by decide, by decide +kernel⟩
theorem st_X6_bit : Cond.static yX6_bit ∈ fc_tbl := fc_mem (i := 336) (by decide +kernel) rfl
abbrev mX6_copyRow : fc_Y := (yX6_copyRow, cX6_copyRow, 2, none)
theorem mi_X6_copyRow : fc_MI mX6_copyRow 2 := ⟨fc_mem (i := 235) (by decide +kernel) rfl, fc_mem (i := 1) (by decide +kernel) rfl, ⟨by decide, by decide⟩, by decide +kernel, by decide, by decide +kernel⟩
theorem st_X6_copyRow : Cond.static yX6_copyRow ∈ fc_tbl := fc_mem (i := 234) (by decide +kernel) rfl
abbrev mX6_degreeOf : fc_Y := (yX6_degreeOf, cX6_degreeOf, 4, some .int)
theorem mi_X6_degreeOf : fc_MI mX6_degreeOf 2 := ⟨fc_mem (i := 426) (by decide +kernel) rfl, fc_mem (i := 1) (by decide +kernel) rfl, ⟨by decide, by decide⟩, by decide +kernel, by decide, by decide +kernel⟩
theorem st_X6_degreeOf : Cond.static yX6_degreeOf ∈ fc_tbl := fc_mem (i := 425) (by decide +kernel) rfl
abbrev mX7_init : fc_Y := (yX7_init, cX7_init, 1, none)
theorem mi_X7_init : fc_MI mX7_init 0 := ⟨fc_mem (i := 749) (by decide +kernel) rfl, fc_mem (i := 8) (by decide +kernel) rfl, ⟨by decide, by decide⟩, by decide +kernel, by decide, by decide +kernel⟩
theorem im_X7_init : Cond.instanceMethod yX7_init ∈ fc_tbl := fc_mem (i := 748) (by decide +kernel) rfl
abbrev mX7_in : fc_Y := (yX7_in, cX7_in, 6, some .boolean)
theorem mi_X7_in : fc_MI mX7_in 3 := ⟨fc_mem (i := 823) (by decide +kernel) rfl, fc_mem (i := 8) (by decide +kernel) rfl, ⟨by decide, by decide⟩, by decide +kernel, by decide, by decide +kernel⟩
theorem st_X7_in : Cond.static yX7_in ∈ fc_tbl := fc_mem (i := 822) (by decide +kernel) rfl
abbrev mX7_refuses : fc_Y := (yX7_refuses, cX7_refuses, 2, some .int)
theorem mi_X7_refuses : fc_MI mX7_refuses 1 := ⟨fc_mem (i := 827) (by decide +kernel) rfl, fc_mem (i := 8) (by decide +kernel) rfl, ⟨by decide, by decide⟩, by decide +kernel, by decide, by decide +kernel⟩
theorem im_X7_refuses : Cond.instanceMethod yX7_refuses ∈ fc_tbl := fc_mem (i := 826) (by decide +kernel) rfl
theorem se_X7_refuses : Cond.selects yX7_refuses.cls yX7_refuses yX7_refuses ∈ fc_tbl := fc_memS (i := 24) (by decide +kernel) rfl
abbrev mX7_keep : fc_Y := (yX7_keep, cX7_keep, 2, none)
theorem mi_X7_keep : fc_MI mX7_keep 0 := ⟨fc_mem (i := 831) (by decide +kernel) rfl, fc_mem (i := 8) (by decide +kernel) rfl, ⟨by decide, by decide⟩, by decide +kernel, by decide, by decide +kernel⟩
theorem im_X7_keep : Cond.instanceMethod yX7_keep ∈ fc_tbl := fc_mem (i := 830) (by decide +kernel) rfl
theorem se_X7_keep : Cond.selects yX7_keep.cls yX7_keep yX7_keep ∈ fc_tbl := fc_memS (i := 25) (by decide +kernel) rfl
abbrev mX7_many : fc_Y := (yX7_many, cX7_many, 1, some .int)
theorem mi_X7_many : fc_MI mX7_many 0 := ⟨fc_mem (i := 839) (by decide +kernel) rfl, fc_mem (i := 8) (by decide +kernel) rfl, ⟨by decide, by decide⟩, by decide +kernel, by decide, by decide +kernel⟩
theorem im_X7_many : Cond.instanceMethod yX7_many ∈ fc_tbl := fc_mem (i := 838) (by decide +kernel) rfl
theorem se_X7_many : Cond.selects yX7_many.cls yX7_many yX7_many ∈ fc_tbl := fc_memS (i := 27) (by decide +kernel) rfl
abbrev mX7_isPoint : fc_Y := (yX7_isPoint, cX7_isPoint, 2, some .boolean)
theorem mi_X7_isPoint : fc_MI mX7_isPoint 1 := ⟨fc_mem (i := 851) (by decide +kernel) rfl, fc_mem (i := 8) (by decide +kernel) rfl, ⟨by decide, by decide⟩, by decide +kernel, by decide, by decide +kernel⟩
theorem im_X7_isPoint : Cond.instanceMethod yX7_isPoint ∈ fc_tbl := fc_mem (i := 850) (by decide +kernel) rfl
theorem se_X7_isPoint : Cond.selects yX7_isPoint.cls yX7_isPoint yX7_isPoint ∈ fc_tbl := fc_memS (i := 29) (by decide +kernel) rfl
abbrev mX7_linesOf : fc_Y := (yX7_linesOf, cX7_linesOf, 3, some .int)
theorem mi_X7_linesOf : fc_MI mX7_linesOf 2 := ⟨fc_mem (i := 860) (by decide +kernel) rfl, fc_mem (i := 8) (by decide +kernel) rfl, ⟨by decide, by decide⟩, by decide +kernel, by decide, by decide +kernel⟩
theorem im_X7_linesOf : Cond.instanceMethod yX7_linesOf ∈ fc_tbl := fc_mem (i := 859) (by decide +kernel) rfl
theorem se_X7_linesOf : Cond.selects yX7_linesOf.cls yX7_linesOf yX7_linesOf ∈ fc_tbl := fc_memS (i := 31) (by decide +kernel) rfl
abbrev mX7_valence : fc_Y := (yX7_valence, cX7_valence, 4, some .int)
theorem mi_X7_valence : fc_MI mX7_valence 1 := ⟨fc_mem (i := 878) (by decide +kernel) rfl, fc_mem (i := 8) (by decide +kernel) rfl, ⟨by decide, by decide⟩, by decide +kernel, by decide, by decide +kernel⟩
theorem im_X7_valence : Cond.instanceMethod yX7_valence ∈ fc_tbl := fc_mem (i := 877) (by decide +kernel) rfl
theorem se_X7_valence : Cond.selects yX7_valence.cls yX7_valence yX7_valence ∈ fc_tbl := fc_memS (i := 33) (by decide +kernel) rfl
abbrev mX7_allLines : fc_Y := (yX7_allLines, cX7_allLines, 3, some .int)
theorem mi_X7_allLines : fc_MI mX7_allLines 0 := ⟨fc_mem (i := 874) (by decide +kernel) rfl, fc_mem (i := 8) (by decide +kernel) rfl, ⟨by decide, by decide⟩, by decide +kernel, by decide, by decide +kernel⟩
theorem im_X7_allLines : Cond.instanceMethod yX7_allLines ∈ fc_tbl := fc_mem (i := 873) (by decide +kernel) rfl
theorem se_X7_allLines : Cond.selects yX7_allLines.cls yX7_allLines yX7_allLines ∈ fc_tbl := fc_memS (i := 32) (by decide +kernel) rfl
abbrev mX7_isJoined : fc_Y := (yX7_isJoined, cX7_isJoined, 5, some .boolean)
theorem mi_X7_isJoined : fc_MI mX7_isJoined 0 := ⟨fc_mem (i := 890) (by decide +kernel) rfl, fc_mem (i := 8) (by decide +kernel) rfl, ⟨by decide, by decide⟩, by decide +kernel, by decide, by decide +kernel⟩
theorem im_X7_isJoined : Cond.instanceMethod yX7_isJoined ∈ fc_tbl := fc_mem (i := 889) (by decide +kernel) rfl
theorem se_X7_isJoined : Cond.selects yX7_isJoined.cls yX7_isJoined yX7_isJoined ∈ fc_tbl := fc_memS (i := 34) (by decide +kernel) rfl
abbrev mX7_pointsNow : fc_Y := (yX7_pointsNow, cX7_pointsNow, 4, some .int)
theorem mi_X7_pointsNow : fc_MI mX7_pointsNow 1 := ⟨fc_mem (i := 835) (by decide +kernel) rfl, fc_mem (i := 8) (by decide +kernel) rfl, ⟨by decide, by decide⟩, by decide +kernel, by decide, by decide +kernel⟩
theorem im_X7_pointsNow : Cond.instanceMethod yX7_pointsNow ∈ fc_tbl := fc_mem (i := 834) (by decide +kernel) rfl
theorem se_X7_pointsNow : Cond.selects yX7_pointsNow.cls yX7_pointsNow yX7_pointsNow ∈ fc_tbl := fc_memS (i := 26) (by decide +kernel) rfl
abbrev mX7_points : fc_Y := (yX7_points, cX7_points, 2, some .int)
theorem mi_X7_points : fc_MI mX7_points 1 := ⟨fc_mem (i := 818) (by decide +kernel) rfl, fc_mem (i := 8) (by decide +kernel) rfl, ⟨by decide, by decide⟩, by decide +kernel, by decide, by decide +kernel⟩
theorem im_X7_points : Cond.instanceMethod yX7_points ∈ fc_tbl := fc_mem (i := 816) (by decide +kernel) rfl
theorem se_X7_points : Cond.selects yX7_points.cls yX7_points yX7_points ∈ fc_tbl := fc_mem (i := 817) (by decide +kernel) rfl
abbrev mX7_areLines : fc_Y := (yX7_areLines, cX7_areLines, 4, some .boolean)
theorem mi_X7_areLines : fc_MI mX7_areLines 3 := ⟨fc_mem (i := 847) (by decide +kernel) rfl, fc_mem (i := 8) (by decide +kernel) rfl, ⟨by decide, by decide⟩, by decide +kernel, by decide, by decide +kernel⟩
theorem im_X7_areLines : Cond.instanceMethod yX7_areLines ∈ fc_tbl := fc_mem (i := 846) (by decide +kernel) rfl
theorem se_X7_areLines : Cond.selects yX7_areLines.cls yX7_areLines yX7_areLines ∈ fc_tbl := fc_memS (i := 28) (by decide +kernel) rfl
abbrev mX7_linesNow : fc_Y := (yX7_linesNow, cX7_linesNow, 5, some .int)
theorem mi_X7_linesNow : fc_MI mX7_linesNow 3 := ⟨fc_mem (i := 856) (by decide +kernel) rfl, fc_mem (i := 8) (by decide +kernel) rfl, ⟨by decide, by decide⟩, by decide +kernel, by decide, by decide +kernel⟩
theorem im_X7_linesNow : Cond.instanceMethod yX7_linesNow ∈ fc_tbl := fc_mem (i := 855) (by decide +kernel) rfl
theorem se_X7_linesNow : Cond.selects yX7_linesNow.cls yX7_linesNow yX7_linesNow ∈ fc_tbl := fc_memS (i := 30) (by decide +kernel) rfl
abbrev mX7_lines : fc_Y := (yX7_lines, cX7_lines, 4, some .int)
theorem mi_X7_lines : fc_MI mX7_lines 3 := ⟨fc_mem (i := 843) (by decide +kernel) rfl, fc_mem (i := 8) (by decide +kernel) rfl, ⟨by decide, by decide⟩, by decide +kernel, by decide, by decide +kernel⟩
theorem im_X7_lines : Cond.instanceMethod yX7_lines ∈ fc_tbl := fc_mem (i := 841) (by decide +kernel) rfl
theorem se_X7_lines : Cond.selects yX7_lines.cls yX7_lines yX7_lines ∈ fc_tbl := fc_mem (i := 842) (by decide +kernel) rfl
abbrev mX7_draws : fc_Y := (yX7_draws, cX7_draws, 7, some .int)
theorem mi_X7_draws : fc_MI mX7_draws 1 := ⟨fc_mem (i := 864) (by decide +kernel) rfl, fc_mem (i := 8) (by decide +kernel) rfl, ⟨by decide, by decide⟩, by decide +kernel, by decide, by decide +kernel⟩
theorem im_X7_draws : Cond.instanceMethod yX7_draws ∈ fc_tbl := fc_mem (i := 862) (by decide +kernel) rfl
theorem se_X7_draws : Cond.selects yX7_draws.cls yX7_draws yX7_draws ∈ fc_tbl := fc_mem (i := 863) (by decide +kernel) rfl
abbrev mX7_net : fc_Y := (yX7_net, cX7_net, 3, some .int)
theorem mi_X7_net : fc_MI mX7_net 2 := ⟨fc_mem (i := 882) (by decide +kernel) rfl, fc_mem (i := 8) (by decide +kernel) rfl, ⟨by decide, by decide⟩, by decide +kernel, by decide, by decide +kernel⟩
theorem im_X7_net : Cond.instanceMethod yX7_net ∈ fc_tbl := fc_mem (i := 880) (by decide +kernel) rfl
theorem se_X7_net : Cond.selects yX7_net.cls yX7_net yX7_net ∈ fc_tbl := fc_mem (i := 881) (by decide +kernel) rfl
abbrev mX7_joined : fc_Y := (yX7_joined, cX7_joined, 1, some .int)
theorem mi_X7_joined : fc_MI mX7_joined 0 := ⟨fc_mem (i := 886) (by decide +kernel) rfl, fc_mem (i := 8) (by decide +kernel) rfl, ⟨by decide, by decide⟩, by decide +kernel, by decide, by decide +kernel⟩
theorem im_X7_joined : Cond.instanceMethod yX7_joined ∈ fc_tbl := fc_mem (i := 884) (by decide +kernel) rfl
theorem se_X7_joined : Cond.selects yX7_joined.cls yX7_joined yX7_joined ∈ fc_tbl := fc_mem (i := 885) (by decide +kernel) rfl
abbrev mX7_chips : fc_Y := (yX7_chips, cX7_chips, 2, some .int)
theorem mi_X7_chips : fc_MI mX7_chips 1 := ⟨fc_mem (i := 900) (by decide +kernel) rfl, fc_mem (i := 8) (by decide +kernel) rfl, ⟨by decide, by decide⟩, by decide +kernel, by decide, by decide +kernel⟩
theorem im_X7_chips : Cond.instanceMethod yX7_chips ∈ fc_tbl := fc_mem (i := 899) (by decide +kernel) rfl
theorem se_X7_chips : Cond.selects yX7_chips.cls yX7_chips yX7_chips ∈ fc_tbl := fc_memS (i := 35) (by decide +kernel) rfl
abbrev mX7_sets : fc_Y := (yX7_sets, cX7_sets, 4, some .int)
theorem mi_X7_sets : fc_MI mX7_sets 2 := ⟨fc_mem (i := 894) (by decide +kernel) rfl, fc_mem (i := 8) (by decide +kernel) rfl, ⟨by decide, by decide⟩, by decide +kernel, by decide, by decide +kernel⟩
theorem im_X7_sets : Cond.instanceMethod yX7_sets ∈ fc_tbl := fc_mem (i := 892) (by decide +kernel) rfl
theorem se_X7_sets : Cond.selects yX7_sets.cls yX7_sets yX7_sets ∈ fc_tbl := fc_mem (i := 893) (by decide +kernel) rfl
abbrev mX7_isRoom : fc_Y := (yX7_isRoom, cX7_isRoom, 1, some .boolean)
theorem mi_X7_isRoom : fc_MI mX7_isRoom 1 := ⟨fc_mem (i := 911) (by decide +kernel) rfl, fc_mem (i := 8) (by decide +kernel) rfl, ⟨by decide, by decide⟩, by decide +kernel, by decide, by decide +kernel⟩
theorem st_X7_isRoom : Cond.static yX7_isRoom ∈ fc_tbl := fc_mem (i := 910) (by decide +kernel) rfl
abbrev mX7_canAdd : fc_Y := (yX7_canAdd, cX7_canAdd, 3, some .int)
theorem mi_X7_canAdd : fc_MI mX7_canAdd 2 := ⟨fc_mem (i := 908) (by decide +kernel) rfl, fc_mem (i := 8) (by decide +kernel) rfl, ⟨by decide, by decide⟩, by decide +kernel, by decide, by decide +kernel⟩
theorem im_X7_canAdd : Cond.instanceMethod yX7_canAdd ∈ fc_tbl := fc_mem (i := 907) (by decide +kernel) rfl
theorem se_X7_canAdd : Cond.selects yX7_canAdd.cls yX7_canAdd yX7_canAdd ∈ fc_tbl := fc_memS (i := 36) (by decide +kernel) rfl
abbrev mX7_addNow : fc_Y := (yX7_addNow, cX7_addNow, 3, some .int)
theorem mi_X7_addNow : fc_MI mX7_addNow 2 := ⟨fc_mem (i := 917) (by decide +kernel) rfl, fc_mem (i := 8) (by decide +kernel) rfl, ⟨by decide, by decide⟩, by decide +kernel, by decide, by decide +kernel⟩
theorem im_X7_addNow : Cond.instanceMethod yX7_addNow ∈ fc_tbl := fc_mem (i := 916) (by decide +kernel) rfl
theorem se_X7_addNow : Cond.selects yX7_addNow.cls yX7_addNow yX7_addNow ∈ fc_tbl := fc_memS (i := 37) (by decide +kernel) rfl
abbrev mX7_adds : fc_Y := (yX7_adds, cX7_adds, 4, some .int)
theorem mi_X7_adds : fc_MI mX7_adds 2 := ⟨fc_mem (i := 904) (by decide +kernel) rfl, fc_mem (i := 8) (by decide +kernel) rfl, ⟨by decide, by decide⟩, by decide +kernel, by decide, by decide +kernel⟩
theorem im_X7_adds : Cond.instanceMethod yX7_adds ∈ fc_tbl := fc_mem (i := 902) (by decide +kernel) rfl
theorem se_X7_adds : Cond.selects yX7_adds.cls yX7_adds yX7_adds ∈ fc_tbl := fc_mem (i := 903) (by decide +kernel) rfl
abbrev mX7_more : fc_Y := (yX7_more, cX7_more, 7, some .int)
theorem mi_X7_more : fc_MI mX7_more 3 := ⟨fc_mem (i := 937) (by decide +kernel) rfl, fc_mem (i := 8) (by decide +kernel) rfl, ⟨by decide, by decide⟩, by decide +kernel, by decide, by decide +kernel⟩
theorem im_X7_more : Cond.instanceMethod yX7_more ∈ fc_tbl := fc_mem (i := 936) (by decide +kernel) rfl
theorem se_X7_more : Cond.selects yX7_more.cls yX7_more yX7_more ∈ fc_tbl := fc_memS (i := 41) (by decide +kernel) rfl
abbrev mX7_canFire : fc_Y := (yX7_canFire, cX7_canFire, 4, some .int)
theorem mi_X7_canFire : fc_MI mX7_canFire 2 := ⟨fc_mem (i := 933) (by decide +kernel) rfl, fc_mem (i := 8) (by decide +kernel) rfl, ⟨by decide, by decide⟩, by decide +kernel, by decide, by decide +kernel⟩
theorem im_X7_canFire : Cond.instanceMethod yX7_canFire ∈ fc_tbl := fc_mem (i := 932) (by decide +kernel) rfl
theorem se_X7_canFire : Cond.selects yX7_canFire.cls yX7_canFire yX7_canFire ∈ fc_tbl := fc_memS (i := 40) (by decide +kernel) rfl
abbrev mX7_fireNow : fc_Y := (yX7_fireNow, cX7_fireNow, 6, some .int)
theorem mi_X7_fireNow : fc_MI mX7_fireNow 2 := ⟨fc_mem (i := 941) (by decide +kernel) rfl, fc_mem (i := 8) (by decide +kernel) rfl, ⟨by decide, by decide⟩, by decide +kernel, by decide, by decide +kernel⟩
theorem im_X7_fireNow : Cond.instanceMethod yX7_fireNow ∈ fc_tbl := fc_mem (i := 940) (by decide +kernel) rfl
theorem se_X7_fireNow : Cond.selects yX7_fireNow.cls yX7_fireNow yX7_fireNow ∈ fc_tbl := fc_memS (i := 42) (by decide +kernel) rfl
abbrev mX7_canFireOne : fc_Y := (yX7_canFireOne, cX7_canFireOne, 3, some .int)
theorem mi_X7_canFireOne : fc_MI mX7_canFireOne 2 := ⟨fc_mem (i := 929) (by decide +kernel) rfl, fc_mem (i := 8) (by decide +kernel) rfl, ⟨by decide, by decide⟩, by decide +kernel, by decide, by decide +kernel⟩
theorem im_X7_canFireOne : Cond.instanceMethod yX7_canFireOne ∈ fc_tbl := fc_mem (i := 928) (by decide +kernel) rfl
theorem se_X7_canFireOne : Cond.selects yX7_canFireOne.cls yX7_canFireOne yX7_canFireOne ∈ fc_tbl := fc_memS (i := 39) (by decide +kernel) rfl
abbrev mX7_one : fc_Y := (yX7_one, cX7_one, 5, some .int)
theorem mi_X7_one : fc_MI mX7_one 2 := ⟨fc_mem (i := 925) (by decide +kernel) rfl, fc_mem (i := 8) (by decide +kernel) rfl, ⟨by decide, by decide⟩, by decide +kernel, by decide, by decide +kernel⟩
theorem im_X7_one : Cond.instanceMethod yX7_one ∈ fc_tbl := fc_mem (i := 924) (by decide +kernel) rfl
theorem se_X7_one : Cond.selects yX7_one.cls yX7_one yX7_one ∈ fc_tbl := fc_memS (i := 38) (by decide +kernel) rfl
abbrev mX7_fires : fc_Y := (yX7_fires, cX7_fires, 2, some .int)
theorem mi_X7_fires : fc_MI mX7_fires 1 := ⟨fc_mem (i := 921) (by decide +kernel) rfl, fc_mem (i := 8) (by decide +kernel) rfl, ⟨by decide, by decide⟩, by decide +kernel, by decide, by decide +kernel⟩
theorem im_X7_fires : Cond.instanceMethod yX7_fires ∈ fc_tbl := fc_mem (i := 919) (by decide +kernel) rfl
theorem se_X7_fires : Cond.selects yX7_fires.cls yX7_fires yX7_fires ∈ fc_tbl := fc_mem (i := 920) (by decide +kernel) rfl
abbrev mX7_borrows : fc_Y := (yX7_borrows, cX7_borrows, 2, some .int)
theorem mi_X7_borrows : fc_MI mX7_borrows 1 := ⟨fc_mem (i := 945) (by decide +kernel) rfl, fc_mem (i := 8) (by decide +kernel) rfl, ⟨by decide, by decide⟩, by decide +kernel, by decide, by decide +kernel⟩
theorem im_X7_borrows : Cond.instanceMethod yX7_borrows ∈ fc_tbl := fc_mem (i := 943) (by decide +kernel) rfl
theorem se_X7_borrows : Cond.selects yX7_borrows.cls yX7_borrows yX7_borrows ∈ fc_tbl := fc_mem (i := 944) (by decide +kernel) rfl
abbrev mX7_together : fc_Y := (yX7_together, cX7_together, 3, some .int)
theorem mi_X7_together : fc_MI mX7_together 1 := ⟨fc_mem (i := 949) (by decide +kernel) rfl, fc_mem (i := 8) (by decide +kernel) rfl, ⟨by decide, by decide⟩, by decide +kernel, by decide, by decide +kernel⟩
theorem im_X7_together : Cond.instanceMethod yX7_together ∈ fc_tbl := fc_mem (i := 947) (by decide +kernel) rfl
theorem se_X7_together : Cond.selects yX7_together.cls yX7_together yX7_together ∈ fc_tbl := fc_mem (i := 948) (by decide +kernel) rfl
abbrev mX7_settlesAt : fc_Y := (yX7_settlesAt, cX7_settlesAt, 8, none)
theorem mi_X7_settlesAt : fc_MI mX7_settlesAt 1 := ⟨fc_mem (i := 969) (by decide +kernel) rfl, fc_mem (i := 8) (by decide +kernel) rfl, ⟨by decide, by decide⟩, by decide +kernel, by decide, by decide +kernel⟩
theorem im_X7_settlesAt : Cond.instanceMethod yX7_settlesAt ∈ fc_tbl := fc_mem (i := 968) (by decide +kernel) rfl
theorem se_X7_settlesAt : Cond.selects yX7_settlesAt.cls yX7_settlesAt yX7_settlesAt ∈ fc_tbl := fc_memS (i := 46) (by decide +kernel) rfl
abbrev mX7_laysChips : fc_Y := (yX7_laysChips, cX7_laysChips, 2, none)
theorem mi_X7_laysChips : fc_MI mX7_laysChips 0 := ⟨fc_mem (i := 965) (by decide +kernel) rfl, fc_mem (i := 8) (by decide +kernel) rfl, ⟨by decide, by decide⟩, by decide +kernel, by decide, by decide +kernel⟩
theorem im_X7_laysChips : Cond.instanceMethod yX7_laysChips ∈ fc_tbl := fc_mem (i := 964) (by decide +kernel) rfl
theorem se_X7_laysChips : Cond.selects yX7_laysChips.cls yX7_laysChips yX7_laysChips ∈ fc_tbl := fc_memS (i := 45) (by decide +kernel) rfl
abbrev mX7_isHeap : fc_Y := (yX7_isHeap, cX7_isHeap, 3, some .boolean)
theorem mi_X7_isHeap : fc_MI mX7_isHeap 0 := ⟨fc_mem (i := 961) (by decide +kernel) rfl, fc_mem (i := 8) (by decide +kernel) rfl, ⟨by decide, by decide⟩, by decide +kernel, by decide, by decide +kernel⟩
theorem im_X7_isHeap : Cond.instanceMethod yX7_isHeap ∈ fc_tbl := fc_mem (i := 960) (by decide +kernel) rfl
theorem se_X7_isHeap : Cond.selects yX7_isHeap.cls yX7_isHeap yX7_isHeap ∈ fc_tbl := fc_memS (i := 44) (by decide +kernel) rfl
abbrev mX7_canSettle : fc_Y := (yX7_canSettle, cX7_canSettle, 1, some .int)
theorem mi_X7_canSettle : fc_MI mX7_canSettle 0 := ⟨fc_mem (i := 957) (by decide +kernel) rfl, fc_mem (i := 8) (by decide +kernel) rfl, ⟨by decide, by decide⟩, by decide +kernel, by decide, by decide +kernel⟩
theorem im_X7_canSettle : Cond.instanceMethod yX7_canSettle ∈ fc_tbl := fc_mem (i := 956) (by decide +kernel) rfl
theorem se_X7_canSettle : Cond.selects yX7_canSettle.cls yX7_canSettle yX7_canSettle ∈ fc_tbl := fc_memS (i := 43) (by decide +kernel) rfl
abbrev mX7_settleNow : fc_Y := (yX7_settleNow, cX7_settleNow, 3, some .int)
theorem mi_X7_settleNow : fc_MI mX7_settleNow 0 := ⟨fc_mem (i := 973) (by decide +kernel) rfl, fc_mem (i := 8) (by decide +kernel) rfl, ⟨by decide, by decide⟩, by decide +kernel, by decide, by decide +kernel⟩
theorem im_X7_settleNow : Cond.instanceMethod yX7_settleNow ∈ fc_tbl := fc_mem (i := 972) (by decide +kernel) rfl
theorem se_X7_settleNow : Cond.selects yX7_settleNow.cls yX7_settleNow yX7_settleNow ∈ fc_tbl := fc_memS (i := 47) (by decide +kernel) rfl
abbrev mX7_settles : fc_Y := (yX7_settles, cX7_settles, 2, some .int)
theorem mi_X7_settles : fc_MI mX7_settles 0 := ⟨fc_mem (i := 953) (by decide +kernel) rfl, fc_mem (i := 8) (by decide +kernel) rfl, ⟨by decide, by decide⟩, by decide +kernel, by decide, by decide +kernel⟩
theorem im_X7_settles : Cond.instanceMethod yX7_settles ∈ fc_tbl := fc_mem (i := 951) (by decide +kernel) rfl
theorem se_X7_settles : Cond.selects yX7_settles.cls yX7_settles yX7_settles ∈ fc_tbl := fc_mem (i := 952) (by decide +kernel) rfl
abbrev mX7_script : fc_Y := (yX7_script, cX7_script, 2, some .int)
theorem mi_X7_script : fc_MI mX7_script 1 := ⟨fc_mem (i := 977) (by decide +kernel) rfl, fc_mem (i := 8) (by decide +kernel) rfl, ⟨by decide, by decide⟩, by decide +kernel, by decide, by decide +kernel⟩
theorem im_X7_script : Cond.instanceMethod yX7_script ∈ fc_tbl := fc_mem (i := 975) (by decide +kernel) rfl
theorem se_X7_script : Cond.selects yX7_script.cls yX7_script yX7_script ∈ fc_tbl := fc_mem (i := 976) (by decide +kernel) rfl
abbrev mX7_isFull : fc_Y := (yX7_isFull, cX7_isFull, 2, some .boolean)
theorem mi_X7_isFull : fc_MI mX7_isFull 1 := ⟨fc_mem (i := 989) (by decide +kernel) rfl, fc_mem (i := 8) (by decide +kernel) rfl, ⟨by decide, by decide⟩, by decide +kernel, by decide, by decide +kernel⟩
theorem im_X7_isFull : Cond.instanceMethod yX7_isFull ∈ fc_tbl := fc_mem (i := 988) (by decide +kernel) rfl
theorem se_X7_isFull : Cond.selects yX7_isFull.cls yX7_isFull yX7_isFull ∈ fc_tbl := fc_memS (i := 49) (by decide +kernel) rfl
abbrev mX7_ofNow : fc_Y := (yX7_ofNow, cX7_ofNow, 3, some .int)
theorem mi_X7_ofNow : fc_MI mX7_ofNow 2 := ⟨fc_mem (i := 985) (by decide +kernel) rfl, fc_mem (i := 8) (by decide +kernel) rfl, ⟨by decide, by decide⟩, by decide +kernel, by decide, by decide +kernel⟩
theorem im_X7_ofNow : Cond.instanceMethod yX7_ofNow ∈ fc_tbl := fc_mem (i := 984) (by decide +kernel) rfl
theorem se_X7_ofNow : Cond.selects yX7_ofNow.cls yX7_ofNow yX7_ofNow ∈ fc_tbl := fc_memS (i := 48) (by decide +kernel) rfl
abbrev mX7_of : fc_Y := (yX7_of, cX7_of, 3, some .int)
theorem mi_X7_of : fc_MI mX7_of 2 := ⟨fc_mem (i := 981) (by decide +kernel) rfl, fc_mem (i := 8) (by decide +kernel) rfl, ⟨by decide, by decide⟩, by decide +kernel, by decide, by decide +kernel⟩
theorem im_X7_of : Cond.instanceMethod yX7_of ∈ fc_tbl := fc_mem (i := 979) (by decide +kernel) rfl
theorem se_X7_of : Cond.selects yX7_of.cls yX7_of yX7_of ∈ fc_tbl := fc_mem (i := 980) (by decide +kernel) rfl
abbrev mX7_isStable : fc_Y := (yX7_isStable, cX7_isStable, 3, some .boolean)
theorem mi_X7_isStable : fc_MI mX7_isStable 0 := ⟨fc_mem (i := 997) (by decide +kernel) rfl, fc_mem (i := 8) (by decide +kernel) rfl, ⟨by decide, by decide⟩, by decide +kernel, by decide, by decide +kernel⟩
theorem im_X7_isStable : Cond.instanceMethod yX7_isStable ∈ fc_tbl := fc_mem (i := 996) (by decide +kernel) rfl
theorem se_X7_isStable : Cond.selects yX7_isStable.cls yX7_isStable yX7_isStable ∈ fc_tbl := fc_memS (i := 50) (by decide +kernel) rfl
abbrev mX7_stable : fc_Y := (yX7_stable, cX7_stable, 1, some .int)
theorem mi_X7_stable : fc_MI mX7_stable 0 := ⟨fc_mem (i := 993) (by decide +kernel) rfl, fc_mem (i := 8) (by decide +kernel) rfl, ⟨by decide, by decide⟩, by decide +kernel, by decide, by decide +kernel⟩
theorem im_X7_stable : Cond.instanceMethod yX7_stable ∈ fc_tbl := fc_mem (i := 991) (by decide +kernel) rfl
theorem se_X7_stable : Cond.selects yX7_stable.cls yX7_stable yX7_stable ∈ fc_tbl := fc_mem (i := 992) (by decide +kernel) rfl
abbrev mX7_linesTo : fc_Y := (yX7_linesTo, cX7_linesTo, 5, some .int)
theorem mi_X7_linesTo : fc_MI mX7_linesTo 2 := ⟨fc_mem (i := 1009) (by decide +kernel) rfl, fc_mem (i := 8) (by decide +kernel) rfl, ⟨by decide, by decide⟩, by decide +kernel, by decide, by decide +kernel⟩
theorem im_X7_linesTo : Cond.instanceMethod yX7_linesTo ∈ fc_tbl := fc_mem (i := 1008) (by decide +kernel) rfl
theorem se_X7_linesTo : Cond.selects yX7_linesTo.cls yX7_linesTo yX7_linesTo ∈ fc_tbl := fc_memS (i := 52) (by decide +kernel) rfl
abbrev mX7_burnsNow : fc_Y := (yX7_burnsNow, cX7_burnsNow, 6, some .int)
theorem mi_X7_burnsNow : fc_MI mX7_burnsNow 1 := ⟨fc_mem (i := 1005) (by decide +kernel) rfl, fc_mem (i := 8) (by decide +kernel) rfl, ⟨by decide, by decide⟩, by decide +kernel, by decide, by decide +kernel⟩
theorem im_X7_burnsNow : Cond.instanceMethod yX7_burnsNow ∈ fc_tbl := fc_mem (i := 1004) (by decide +kernel) rfl
theorem se_X7_burnsNow : Cond.selects yX7_burnsNow.cls yX7_burnsNow yX7_burnsNow ∈ fc_tbl := fc_memS (i := 51) (by decide +kernel) rfl
abbrev mX7_burns : fc_Y := (yX7_burns, cX7_burns, 2, some .int)
theorem mi_X7_burns : fc_MI mX7_burns 1 := ⟨fc_mem (i := 1001) (by decide +kernel) rfl, fc_mem (i := 8) (by decide +kernel) rfl, ⟨by decide, by decide⟩, by decide +kernel, by decide, by decide +kernel⟩
theorem im_X7_burns : Cond.instanceMethod yX7_burns ∈ fc_tbl := fc_mem (i := 999) (by decide +kernel) rfl
theorem se_X7_burns : Cond.selects yX7_burns.cls yX7_burns yX7_burns ∈ fc_tbl := fc_mem (i := 1000) (by decide +kernel) rfl
abbrev mX7_side : fc_Y := (yX7_side, cX7_side, 1, some .int)
theorem mi_X7_side : fc_MI mX7_side 0 := ⟨fc_mem (i := 1025) (by decide +kernel) rfl, fc_mem (i := 8) (by decide +kernel) rfl, ⟨by decide, by decide⟩, by decide +kernel, by decide, by decide +kernel⟩
theorem im_X7_side : Cond.instanceMethod yX7_side ∈ fc_tbl := fc_mem (i := 1024) (by decide +kernel) rfl
theorem se_X7_side : Cond.selects yX7_side.cls yX7_side yX7_side ∈ fc_tbl := fc_memS (i := 55) (by decide +kernel) rfl
abbrev mX7_laysTable : fc_Y := (yX7_laysTable, cX7_laysTable, 3, none)
theorem mi_X7_laysTable : fc_MI mX7_laysTable 0 := ⟨fc_mem (i := 1021) (by decide +kernel) rfl, fc_mem (i := 8) (by decide +kernel) rfl, ⟨by decide, by decide⟩, by decide +kernel, by decide, by decide +kernel⟩
theorem im_X7_laysTable : Cond.instanceMethod yX7_laysTable ∈ fc_tbl := fc_mem (i := 1020) (by decide +kernel) rfl
theorem se_X7_laysTable : Cond.selects yX7_laysTable.cls yX7_laysTable yX7_laysTable ∈ fc_tbl := fc_memS (i := 54) (by decide +kernel) rfl
abbrev mX7_exchangesRows : fc_Y := (yX7_exchangesRows, cX7_exchangesRows, 6, none)
theorem mi_X7_exchangesRows : fc_MI mX7_exchangesRows 2 := ⟨fc_mem (i := 1037) (by decide +kernel) rfl, fc_mem (i := 8) (by decide +kernel) rfl, ⟨by decide, by decide⟩, by decide +kernel, by decide, by decide +kernel⟩
theorem im_X7_exchangesRows : Cond.instanceMethod yX7_exchangesRows ∈ fc_tbl := fc_mem (i := 1036) (by decide +kernel) rfl
theorem se_X7_exchangesRows : Cond.selects yX7_exchangesRows.cls yX7_exchangesRows yX7_exchangesRows ∈ fc_tbl := fc_memS (i := 58) (by decide +kernel) rfl
abbrev mX7_exchangesColumns : fc_Y := (yX7_exchangesColumns, cX7_exchangesColumns, 6, none)
theorem mi_X7_exchangesColumns : fc_MI mX7_exchangesColumns 2 := ⟨fc_mem (i := 1060) (by decide +kernel) rfl, fc_mem (i := 8) (by decide +kernel) rfl, ⟨by decide, by decide⟩, by decide +kernel, by decide, by decide +kernel⟩
theorem im_X7_exchangesColumns : Cond.instanceMethod yX7_exchangesColumns ∈ fc_tbl := fc_mem (i := 1059) (by decide +kernel) rfl
theorem se_X7_exchangesColumns : Cond.selects yX7_exchangesColumns.cls yX7_exchangesColumns yX7_exchangesColumns ∈ fc_tbl := fc_memS (i := 62) (by decide +kernel) rfl
abbrev mX7_pivotRow : fc_Y := (yX7_pivotRow, cX7_pivotRow, 3, some .int)
theorem mi_X7_pivotRow : fc_MI mX7_pivotRow 1 := ⟨fc_mem (i := 1033) (by decide +kernel) rfl, fc_mem (i := 8) (by decide +kernel) rfl, ⟨by decide, by decide⟩, by decide +kernel, by decide, by decide +kernel⟩
theorem im_X7_pivotRow : Cond.instanceMethod yX7_pivotRow ∈ fc_tbl := fc_mem (i := 1032) (by decide +kernel) rfl
theorem se_X7_pivotRow : Cond.selects yX7_pivotRow.cls yX7_pivotRow yX7_pivotRow ∈ fc_tbl := fc_memS (i := 57) (by decide +kernel) rfl
abbrev mX7_determinant : fc_Y := (yX7_determinant, cX7_determinant, 11, some .long)
theorem mi_X7_determinant : fc_MI mX7_determinant 0 := ⟨fc_mem (i := 1029) (by decide +kernel) rfl, fc_mem (i := 8) (by decide +kernel) rfl, ⟨by decide, by decide⟩, by decide +kernel, by decide, by decide +kernel⟩
theorem im_X7_determinant : Cond.instanceMethod yX7_determinant ∈ fc_tbl := fc_mem (i := 1028) (by decide +kernel) rfl
theorem se_X7_determinant : Cond.selects yX7_determinant.cls yX7_determinant yX7_determinant ∈ fc_tbl := fc_memS (i := 56) (by decide +kernel) rfl
abbrev mX7_treesNow : fc_Y := (yX7_treesNow, cX7_treesNow, 1, some .int)
theorem mi_X7_treesNow : fc_MI mX7_treesNow 0 := ⟨fc_mem (i := 1017) (by decide +kernel) rfl, fc_mem (i := 8) (by decide +kernel) rfl, ⟨by decide, by decide⟩, by decide +kernel, by decide, by decide +kernel⟩
theorem im_X7_treesNow : Cond.instanceMethod yX7_treesNow ∈ fc_tbl := fc_mem (i := 1016) (by decide +kernel) rfl
theorem se_X7_treesNow : Cond.selects yX7_treesNow.cls yX7_treesNow yX7_treesNow ∈ fc_tbl := fc_memS (i := 53) (by decide +kernel) rfl
abbrev mX7_trees : fc_Y := (yX7_trees, cX7_trees, 1, some .int)
theorem mi_X7_trees : fc_MI mX7_trees 0 := ⟨fc_mem (i := 1013) (by decide +kernel) rfl, fc_mem (i := 8) (by decide +kernel) rfl, ⟨by decide, by decide⟩, by decide +kernel, by decide, by decide +kernel⟩
theorem im_X7_trees : Cond.instanceMethod yX7_trees ∈ fc_tbl := fc_mem (i := 1011) (by decide +kernel) rfl
theorem se_X7_trees : Cond.selects yX7_trees.cls yX7_trees yX7_trees ∈ fc_tbl := fc_mem (i := 1012) (by decide +kernel) rfl
abbrev mX7_abs : fc_Y := (yX7_abs, cX7_abs, 2, some .long)
theorem mi_X7_abs : fc_MI mX7_abs 1 := ⟨fc_mem (i := 1056) (by decide +kernel) rfl, fc_mem (i := 8) (by decide +kernel) rfl, ⟨by decide, by decide⟩, by decide +kernel, by decide, by decide +kernel⟩
theorem st_X7_abs : Cond.static yX7_abs ∈ fc_tbl := fc_mem (i := 1055) (by decide +kernel) rfl
abbrev mX7_takesLeast : fc_Y := (yX7_takesLeast, cX7_takesLeast, 7, none)
theorem mi_X7_takesLeast : fc_MI mX7_takesLeast 1 := ⟨fc_mem (i := 1053) (by decide +kernel) rfl, fc_mem (i := 8) (by decide +kernel) rfl, ⟨by decide, by decide⟩, by decide +kernel, by decide, by decide +kernel⟩
theorem im_X7_takesLeast : Cond.instanceMethod yX7_takesLeast ∈ fc_tbl := fc_mem (i := 1052) (by decide +kernel) rfl
theorem se_X7_takesLeast : Cond.selects yX7_takesLeast.cls yX7_takesLeast yX7_takesLeast ∈ fc_tbl := fc_memS (i := 61) (by decide +kernel) rfl
abbrev mX7_clears : fc_Y := (yX7_clears, cX7_clears, 9, some .boolean)
theorem mi_X7_clears : fc_MI mX7_clears 1 := ⟨fc_mem (i := 1064) (by decide +kernel) rfl, fc_mem (i := 8) (by decide +kernel) rfl, ⟨by decide, by decide⟩, by decide +kernel, by decide, by decide +kernel⟩
theorem im_X7_clears : Cond.instanceMethod yX7_clears ∈ fc_tbl := fc_mem (i := 1063) (by decide +kernel) rfl
theorem se_X7_clears : Cond.selects yX7_clears.cls yX7_clears yX7_clears ∈ fc_tbl := fc_memS (i := 63) (by decide +kernel) rfl
abbrev mX7_uneven : fc_Y := (yX7_uneven, cX7_uneven, 4, some .int)
theorem mi_X7_uneven : fc_MI mX7_uneven 1 := ⟨fc_mem (i := 1068) (by decide +kernel) rfl, fc_mem (i := 8) (by decide +kernel) rfl, ⟨by decide, by decide⟩, by decide +kernel, by decide, by decide +kernel⟩
theorem im_X7_uneven : Cond.instanceMethod yX7_uneven ∈ fc_tbl := fc_mem (i := 1067) (by decide +kernel) rfl
theorem se_X7_uneven : Cond.selects yX7_uneven.cls yX7_uneven yX7_uneven ∈ fc_tbl := fc_memS (i := 64) (by decide +kernel) rfl
abbrev mX7_laysParts : fc_Y := (yX7_laysParts, cX7_laysParts, 6, none)
theorem mi_X7_laysParts : fc_MI mX7_laysParts 0 := ⟨fc_mem (i := 1049) (by decide +kernel) rfl, fc_mem (i := 8) (by decide +kernel) rfl, ⟨by decide, by decide⟩, by decide +kernel, by decide, by decide +kernel⟩
theorem im_X7_laysParts : Cond.instanceMethod yX7_laysParts ∈ fc_tbl := fc_mem (i := 1048) (by decide +kernel) rfl
theorem se_X7_laysParts : Cond.selects yX7_laysParts.cls yX7_laysParts yX7_laysParts ∈ fc_tbl := fc_memS (i := 60) (by decide +kernel) rfl
abbrev mX7_partsNow : fc_Y := (yX7_partsNow, cX7_partsNow, 6, some .int)
theorem mi_X7_partsNow : fc_MI mX7_partsNow 1 := ⟨fc_mem (i := 1045) (by decide +kernel) rfl, fc_mem (i := 8) (by decide +kernel) rfl, ⟨by decide, by decide⟩, by decide +kernel, by decide, by decide +kernel⟩
theorem im_X7_partsNow : Cond.instanceMethod yX7_partsNow ∈ fc_tbl := fc_mem (i := 1044) (by decide +kernel) rfl
theorem se_X7_partsNow : Cond.selects yX7_partsNow.cls yX7_partsNow yX7_partsNow ∈ fc_tbl := fc_memS (i := 59) (by decide +kernel) rfl
abbrev mX7_parts : fc_Y := (yX7_parts, cX7_parts, 2, some .int)
theorem mi_X7_parts : fc_MI mX7_parts 1 := ⟨fc_mem (i := 1041) (by decide +kernel) rfl, fc_mem (i := 8) (by decide +kernel) rfl, ⟨by decide, by decide⟩, by decide +kernel, by decide, by decide +kernel⟩
theorem im_X7_parts : Cond.instanceMethod yX7_parts ∈ fc_tbl := fc_mem (i := 1039) (by decide +kernel) rfl
theorem se_X7_parts : Cond.selects yX7_parts.cls yX7_parts yX7_parts ∈ fc_tbl := fc_mem (i := 1040) (by decide +kernel) rfl
abbrev mX7_laysIdentity : fc_Y := (yX7_laysIdentity, cX7_laysIdentity, 2, none)
theorem mi_X7_laysIdentity : fc_MI mX7_laysIdentity 0 := ⟨fc_mem (i := 1076) (by decide +kernel) rfl, fc_mem (i := 8) (by decide +kernel) rfl, ⟨by decide, by decide⟩, by decide +kernel, by decide, by decide +kernel⟩
theorem im_X7_laysIdentity : Cond.instanceMethod yX7_laysIdentity ∈ fc_tbl := fc_mem (i := 1075) (by decide +kernel) rfl
theorem se_X7_laysIdentity : Cond.selects yX7_laysIdentity.cls yX7_laysIdentity yX7_laysIdentity ∈ fc_tbl := fc_memS (i := 65) (by decide +kernel) rfl
abbrev mX7_identity : fc_Y := (yX7_identity, cX7_identity, 2, some .int)
theorem mi_X7_identity : fc_MI mX7_identity 1 := ⟨fc_mem (i := 1072) (by decide +kernel) rfl, fc_mem (i := 8) (by decide +kernel) rfl, ⟨by decide, by decide⟩, by decide +kernel, by decide, by decide +kernel⟩
theorem im_X7_identity : Cond.instanceMethod yX7_identity ∈ fc_tbl := fc_mem (i := 1070) (by decide +kernel) rfl
theorem se_X7_identity : Cond.selects yX7_identity.cls yX7_identity yX7_identity ∈ fc_tbl := fc_mem (i := 1071) (by decide +kernel) rfl
abbrev mX7_laysRecurrent : fc_Y := (yX7_laysRecurrent, cX7_laysRecurrent, 2, none)
theorem mi_X7_laysRecurrent : fc_MI mX7_laysRecurrent 0 := ⟨fc_mem (i := 1084) (by decide +kernel) rfl, fc_mem (i := 8) (by decide +kernel) rfl, ⟨by decide, by decide⟩, by decide +kernel, by decide, by decide +kernel⟩
theorem im_X7_laysRecurrent : Cond.instanceMethod yX7_laysRecurrent ∈ fc_tbl := fc_mem (i := 1083) (by decide +kernel) rfl
theorem se_X7_laysRecurrent : Cond.selects yX7_laysRecurrent.cls yX7_laysRecurrent yX7_laysRecurrent ∈ fc_tbl := fc_memS (i := 66) (by decide +kernel) rfl
abbrev mX7_recurrent : fc_Y := (yX7_recurrent, cX7_recurrent, 2, some .int)
theorem mi_X7_recurrent : fc_MI mX7_recurrent 1 := ⟨fc_mem (i := 1080) (by decide +kernel) rfl, fc_mem (i := 8) (by decide +kernel) rfl, ⟨by decide, by decide⟩, by decide +kernel, by decide, by decide +kernel⟩
theorem im_X7_recurrent : Cond.instanceMethod yX7_recurrent ∈ fc_tbl := fc_mem (i := 1078) (by decide +kernel) rfl
theorem se_X7_recurrent : Cond.selects yX7_recurrent.cls yX7_recurrent yX7_recurrent ∈ fc_tbl := fc_mem (i := 1079) (by decide +kernel) rfl
abbrev mX7_isIdentity : fc_Y := (yX7_isIdentity, cX7_isIdentity, 3, some .boolean)
theorem mi_X7_isIdentity : fc_MI mX7_isIdentity 0 := ⟨fc_mem (i := 1096) (by decide +kernel) rfl, fc_mem (i := 8) (by decide +kernel) rfl, ⟨by decide, by decide⟩, by decide +kernel, by decide, by decide +kernel⟩
theorem im_X7_isIdentity : Cond.instanceMethod yX7_isIdentity ∈ fc_tbl := fc_mem (i := 1095) (by decide +kernel) rfl
theorem se_X7_isIdentity : Cond.selects yX7_isIdentity.cls yX7_isIdentity yX7_isIdentity ∈ fc_tbl := fc_memS (i := 68) (by decide +kernel) rfl
abbrev mX7_orderNow : fc_Y := (yX7_orderNow, cX7_orderNow, 3, some .int)
theorem mi_X7_orderNow : fc_MI mX7_orderNow 0 := ⟨fc_mem (i := 1092) (by decide +kernel) rfl, fc_mem (i := 8) (by decide +kernel) rfl, ⟨by decide, by decide⟩, by decide +kernel, by decide, by decide +kernel⟩
theorem im_X7_orderNow : Cond.instanceMethod yX7_orderNow ∈ fc_tbl := fc_mem (i := 1091) (by decide +kernel) rfl
theorem se_X7_orderNow : Cond.selects yX7_orderNow.cls yX7_orderNow yX7_orderNow ∈ fc_tbl := fc_memS (i := 67) (by decide +kernel) rfl
abbrev mX7_order : fc_Y := (yX7_order, cX7_order, 1, some .int)
theorem mi_X7_order : fc_MI mX7_order 0 := ⟨fc_mem (i := 1088) (by decide +kernel) rfl, fc_mem (i := 8) (by decide +kernel) rfl, ⟨by decide, by decide⟩, by decide +kernel, by decide, by decide +kernel⟩
theorem im_X7_order : Cond.instanceMethod yX7_order ∈ fc_tbl := fc_mem (i := 1086) (by decide +kernel) rfl
theorem se_X7_order : Cond.selects yX7_order.cls yX7_order yX7_order ∈ fc_tbl := fc_mem (i := 1087) (by decide +kernel) rfl
abbrev mX7_stableHeaps : fc_Y := (yX7_stableHeaps, cX7_stableHeaps, 3, some .int)
theorem mi_X7_stableHeaps : fc_MI mX7_stableHeaps 0 := ⟨fc_mem (i := 1104) (by decide +kernel) rfl, fc_mem (i := 8) (by decide +kernel) rfl, ⟨by decide, by decide⟩, by decide +kernel, by decide, by decide +kernel⟩
theorem im_X7_stableHeaps : Cond.instanceMethod yX7_stableHeaps ∈ fc_tbl := fc_mem (i := 1103) (by decide +kernel) rfl
theorem se_X7_stableHeaps : Cond.selects yX7_stableHeaps.cls yX7_stableHeaps yX7_stableHeaps ∈ fc_tbl := fc_memS (i := 69) (by decide +kernel) rfl
abbrev mX7_heaps : fc_Y := (yX7_heaps, cX7_heaps, 2, some .int)
theorem mi_X7_heaps : fc_MI mX7_heaps 1 := ⟨fc_mem (i := 1100) (by decide +kernel) rfl, fc_mem (i := 8) (by decide +kernel) rfl, ⟨by decide, by decide⟩, by decide +kernel, by decide, by decide +kernel⟩
theorem im_X7_heaps : Cond.instanceMethod yX7_heaps ∈ fc_tbl := fc_mem (i := 1098) (by decide +kernel) rfl
theorem se_X7_heaps : Cond.selects yX7_heaps.cls yX7_heaps yX7_heaps ∈ fc_tbl := fc_mem (i := 1099) (by decide +kernel) rfl
abbrev mX7_laysLift : fc_Y := (yX7_laysLift, cX7_laysLift, 5, none)
theorem mi_X7_laysLift : fc_MI mX7_laysLift 1 := ⟨fc_mem (i := 1116) (by decide +kernel) rfl, fc_mem (i := 8) (by decide +kernel) rfl, ⟨by decide, by decide⟩, by decide +kernel, by decide, by decide +kernel⟩
theorem im_X7_laysLift : Cond.instanceMethod yX7_laysLift ∈ fc_tbl := fc_mem (i := 1115) (by decide +kernel) rfl
theorem se_X7_laysLift : Cond.selects yX7_laysLift.cls yX7_laysLift yX7_laysLift ∈ fc_tbl := fc_memS (i := 71) (by decide +kernel) rfl
abbrev mX7_unburnt : fc_Y := (yX7_unburnt, cX7_unburnt, 5, some .int)
theorem mi_X7_unburnt : fc_MI mX7_unburnt 1 := ⟨fc_mem (i := 1120) (by decide +kernel) rfl, fc_mem (i := 8) (by decide +kernel) rfl, ⟨by decide, by decide⟩, by decide +kernel, by decide, by decide +kernel⟩
theorem im_X7_unburnt : Cond.instanceMethod yX7_unburnt ∈ fc_tbl := fc_mem (i := 1119) (by decide +kernel) rfl
theorem se_X7_unburnt : Cond.selects yX7_unburnt.cls yX7_unburnt yX7_unburnt ∈ fc_tbl := fc_memS (i := 72) (by decide +kernel) rfl
abbrev mX7_reduces : fc_Y := (yX7_reduces, cX7_reduces, 7, none)
theorem mi_X7_reduces : fc_MI mX7_reduces 1 := ⟨fc_mem (i := 1112) (by decide +kernel) rfl, fc_mem (i := 8) (by decide +kernel) rfl, ⟨by decide, by decide⟩, by decide +kernel, by decide, by decide +kernel⟩
theorem im_X7_reduces : Cond.instanceMethod yX7_reduces ∈ fc_tbl := fc_mem (i := 1111) (by decide +kernel) rfl
theorem se_X7_reduces : Cond.selects yX7_reduces.cls yX7_reduces yX7_reduces ∈ fc_tbl := fc_memS (i := 70) (by decide +kernel) rfl
abbrev mX7_reduced : fc_Y := (yX7_reduced, cX7_reduced, 3, some .int)
theorem mi_X7_reduced : fc_MI mX7_reduced 2 := ⟨fc_mem (i := 1108) (by decide +kernel) rfl, fc_mem (i := 8) (by decide +kernel) rfl, ⟨by decide, by decide⟩, by decide +kernel, by decide, by decide +kernel⟩
theorem im_X7_reduced : Cond.instanceMethod yX7_reduced ∈ fc_tbl := fc_mem (i := 1106) (by decide +kernel) rfl
theorem se_X7_reduced : Cond.selects yX7_reduced.cls yX7_reduced yX7_reduced ∈ fc_tbl := fc_mem (i := 1107) (by decide +kernel) rfl
abbrev mX7_isWon : fc_Y := (yX7_isWon, cX7_isWon, 1, some .boolean)
theorem mi_X7_isWon : fc_MI mX7_isWon 0 := ⟨fc_mem (i := 1128) (by decide +kernel) rfl, fc_mem (i := 8) (by decide +kernel) rfl, ⟨by decide, by decide⟩, by decide +kernel, by decide, by decide +kernel⟩
theorem im_X7_isWon : Cond.instanceMethod yX7_isWon ∈ fc_tbl := fc_mem (i := 1127) (by decide +kernel) rfl
theorem se_X7_isWon : Cond.selects yX7_isWon.cls yX7_isWon yX7_isWon ∈ fc_tbl := fc_memS (i := 73) (by decide +kernel) rfl
abbrev mX7_won : fc_Y := (yX7_won, cX7_won, 1, some .int)
theorem mi_X7_won : fc_MI mX7_won 0 := ⟨fc_mem (i := 1124) (by decide +kernel) rfl, fc_mem (i := 8) (by decide +kernel) rfl, ⟨by decide, by decide⟩, by decide +kernel, by decide, by decide +kernel⟩
theorem im_X7_won : Cond.instanceMethod yX7_won ∈ fc_tbl := fc_mem (i := 1122) (by decide +kernel) rfl
theorem se_X7_won : Cond.selects yX7_won.cls yX7_won yX7_won ∈ fc_tbl := fc_mem (i := 1123) (by decide +kernel) rfl
abbrev mX7_degree : fc_Y := (yX7_degree, cX7_degree, 3, some .int)
theorem mi_X7_degree : fc_MI mX7_degree 0 := ⟨fc_mem (i := 1136) (by decide +kernel) rfl, fc_mem (i := 8) (by decide +kernel) rfl, ⟨by decide, by decide⟩, by decide +kernel, by decide, by decide +kernel⟩
theorem im_X7_degree : Cond.instanceMethod yX7_degree ∈ fc_tbl := fc_mem (i := 1135) (by decide +kernel) rfl
theorem se_X7_degree : Cond.selects yX7_degree.cls yX7_degree yX7_degree ∈ fc_tbl := fc_memS (i := 74) (by decide +kernel) rfl
abbrev mX7_dualDegree : fc_Y := (yX7_dualDegree, cX7_dualDegree, 1, some .int)
theorem mi_X7_dualDegree : fc_MI mX7_dualDegree 0 := ⟨fc_mem (i := 1140) (by decide +kernel) rfl, fc_mem (i := 8) (by decide +kernel) rfl, ⟨by decide, by decide⟩, by decide +kernel, by decide, by decide +kernel⟩
theorem im_X7_dualDegree : Cond.instanceMethod yX7_dualDegree ∈ fc_tbl := fc_mem (i := 1139) (by decide +kernel) rfl
theorem se_X7_dualDegree : Cond.selects yX7_dualDegree.cls yX7_dualDegree yX7_dualDegree ∈ fc_tbl := fc_memS (i := 75) (by decide +kernel) rfl
abbrev mX7_isWonWithout : fc_Y := (yX7_isWonWithout, cX7_isWonWithout, 2, some .boolean)
theorem mi_X7_isWonWithout : fc_MI mX7_isWonWithout 0 := ⟨fc_mem (i := 1156) (by decide +kernel) rfl, fc_mem (i := 8) (by decide +kernel) rfl, ⟨by decide, by decide⟩, by decide +kernel, by decide, by decide +kernel⟩
theorem im_X7_isWonWithout : Cond.instanceMethod yX7_isWonWithout ∈ fc_tbl := fc_mem (i := 1155) (by decide +kernel) rfl
theorem se_X7_isWonWithout : Cond.selects yX7_isWonWithout.cls yX7_isWonWithout yX7_isWonWithout ∈ fc_tbl := fc_memS (i := 79) (by decide +kernel) rfl
abbrev mX7_next : fc_Y := (yX7_next, cX7_next, 5, some .boolean)
theorem mi_X7_next : fc_MI mX7_next 1 := ⟨fc_mem (i := 1160) (by decide +kernel) rfl, fc_mem (i := 8) (by decide +kernel) rfl, ⟨by decide, by decide⟩, by decide +kernel, by decide, by decide +kernel⟩
theorem im_X7_next : Cond.instanceMethod yX7_next ∈ fc_tbl := fc_mem (i := 1159) (by decide +kernel) rfl
theorem se_X7_next : Cond.selects yX7_next.cls yX7_next yX7_next ∈ fc_tbl := fc_memS (i := 80) (by decide +kernel) rfl
abbrev mX7_isWonAnyhow : fc_Y := (yX7_isWonAnyhow, cX7_isWonAnyhow, 3, some .boolean)
theorem mi_X7_isWonAnyhow : fc_MI mX7_isWonAnyhow 1 := ⟨fc_mem (i := 1152) (by decide +kernel) rfl, fc_mem (i := 8) (by decide +kernel) rfl, ⟨by decide, by decide⟩, by decide +kernel, by decide, by decide +kernel⟩
theorem im_X7_isWonAnyhow : Cond.instanceMethod yX7_isWonAnyhow ∈ fc_tbl := fc_mem (i := 1151) (by decide +kernel) rfl
theorem se_X7_isWonAnyhow : Cond.selects yX7_isWonAnyhow.cls yX7_isWonAnyhow yX7_isWonAnyhow ∈ fc_tbl := fc_memS (i := 78) (by decide +kernel) rfl
abbrev mX7_rankOf : fc_Y := (yX7_rankOf, cX7_rankOf, 3, some .int)
theorem mi_X7_rankOf : fc_MI mX7_rankOf 1 := ⟨fc_mem (i := 1148) (by decide +kernel) rfl, fc_mem (i := 8) (by decide +kernel) rfl, ⟨by decide, by decide⟩, by decide +kernel, by decide, by decide +kernel⟩
theorem im_X7_rankOf : Cond.instanceMethod yX7_rankOf ∈ fc_tbl := fc_mem (i := 1147) (by decide +kernel) rfl
theorem se_X7_rankOf : Cond.selects yX7_rankOf.cls yX7_rankOf yX7_rankOf ∈ fc_tbl := fc_memS (i := 77) (by decide +kernel) rfl
abbrev mX7_rankNow : fc_Y := (yX7_rankNow, cX7_rankNow, 2, some .int)
theorem mi_X7_rankNow : fc_MI mX7_rankNow 1 := ⟨fc_mem (i := 1144) (by decide +kernel) rfl, fc_mem (i := 8) (by decide +kernel) rfl, ⟨by decide, by decide⟩, by decide +kernel, by decide, by decide +kernel⟩
theorem im_X7_rankNow : Cond.instanceMethod yX7_rankNow ∈ fc_tbl := fc_mem (i := 1143) (by decide +kernel) rfl
theorem se_X7_rankNow : Cond.selects yX7_rankNow.cls yX7_rankNow yX7_rankNow ∈ fc_tbl := fc_memS (i := 76) (by decide +kernel) rfl
abbrev mX7_rank : fc_Y := (yX7_rank, cX7_rank, 3, some .int)
theorem mi_X7_rank : fc_MI mX7_rank 1 := ⟨fc_mem (i := 1132) (by decide +kernel) rfl, fc_mem (i := 8) (by decide +kernel) rfl, ⟨by decide, by decide⟩, by decide +kernel, by decide, by decide +kernel⟩
theorem im_X7_rank : Cond.instanceMethod yX7_rank ∈ fc_tbl := fc_mem (i := 1130) (by decide +kernel) rfl
theorem se_X7_rank : Cond.selects yX7_rank.cls yX7_rank yX7_rank ∈ fc_tbl := fc_mem (i := 1131) (by decide +kernel) rfl
abbrev mX7_kept : fc_Y := (yX7_kept, cX7_kept, 3, some .int)
theorem mi_X7_kept : fc_MI mX7_kept 2 := ⟨fc_mem (i := 1184) (by decide +kernel) rfl, fc_mem (i := 8) (by decide +kernel) rfl, ⟨by decide, by decide⟩, by decide +kernel, by decide, by decide +kernel⟩
theorem im_X7_kept : Cond.instanceMethod yX7_kept ∈ fc_tbl := fc_mem (i := 1183) (by decide +kernel) rfl
theorem se_X7_kept : Cond.selects yX7_kept.cls yX7_kept yX7_kept ∈ fc_tbl := fc_memS (i := 84) (by decide +kernel) rfl
abbrev mX7_keptMany : fc_Y := (yX7_keptMany, cX7_keptMany, 2, some .int)
theorem mi_X7_keptMany : fc_MI mX7_keptMany 1 := ⟨fc_mem (i := 1176) (by decide +kernel) rfl, fc_mem (i := 8) (by decide +kernel) rfl, ⟨by decide, by decide⟩, by decide +kernel, by decide, by decide +kernel⟩
theorem im_X7_keptMany : Cond.instanceMethod yX7_keptMany ∈ fc_tbl := fc_mem (i := 1175) (by decide +kernel) rfl
theorem se_X7_keptMany : Cond.selects yX7_keptMany.cls yX7_keptMany yX7_keptMany ∈ fc_tbl := fc_memS (i := 82) (by decide +kernel) rfl
abbrev mX7_keeps : fc_Y := (yX7_keeps, cX7_keeps, 3, some .int)
theorem mi_X7_keeps : fc_MI mX7_keeps 1 := ⟨fc_mem (i := 1164) (by decide +kernel) rfl, fc_mem (i := 8) (by decide +kernel) rfl, ⟨by decide, by decide⟩, by decide +kernel, by decide, by decide +kernel⟩
theorem im_X7_keeps : Cond.instanceMethod yX7_keeps ∈ fc_tbl := fc_mem (i := 1162) (by decide +kernel) rfl
theorem se_X7_keeps : Cond.selects yX7_keeps.cls yX7_keeps yX7_keeps ∈ fc_tbl := fc_mem (i := 1163) (by decide +kernel) rfl
abbrev mX7_isLike : fc_Y := (yX7_isLike, cX7_isLike, 2, some .boolean)
theorem mi_X7_isLike : fc_MI mX7_isLike 1 := ⟨fc_mem (i := 1172) (by decide +kernel) rfl, fc_mem (i := 8) (by decide +kernel) rfl, ⟨by decide, by decide⟩, by decide +kernel, by decide, by decide +kernel⟩
theorem im_X7_isLike : Cond.instanceMethod yX7_isLike ∈ fc_tbl := fc_mem (i := 1171) (by decide +kernel) rfl
theorem se_X7_isLike : Cond.selects yX7_isLike.cls yX7_isLike yX7_isLike ∈ fc_tbl := fc_memS (i := 81) (by decide +kernel) rfl
abbrev mX7_isEqual : fc_Y := (yX7_isEqual, cX7_isEqual, 4, some .boolean)
theorem mi_X7_isEqual : fc_MI mX7_isEqual 1 := ⟨fc_mem (i := 1180) (by decide +kernel) rfl, fc_mem (i := 8) (by decide +kernel) rfl, ⟨by decide, by decide⟩, by decide +kernel, by decide, by decide +kernel⟩
theorem im_X7_isEqual : Cond.instanceMethod yX7_isEqual ∈ fc_tbl := fc_mem (i := 1179) (by decide +kernel) rfl
theorem se_X7_isEqual : Cond.selects yX7_isEqual.cls yX7_isEqual yX7_isEqual ∈ fc_tbl := fc_memS (i := 83) (by decide +kernel) rfl
abbrev mX7_equal : fc_Y := (yX7_equal, cX7_equal, 2, some .int)
theorem mi_X7_equal : fc_MI mX7_equal 1 := ⟨fc_mem (i := 1168) (by decide +kernel) rfl, fc_mem (i := 8) (by decide +kernel) rfl, ⟨by decide, by decide⟩, by decide +kernel, by decide, by decide +kernel⟩
theorem im_X7_equal : Cond.instanceMethod yX7_equal ∈ fc_tbl := fc_mem (i := 1166) (by decide +kernel) rfl
theorem se_X7_equal : Cond.selects yX7_equal.cls yX7_equal yX7_equal ∈ fc_tbl := fc_mem (i := 1167) (by decide +kernel) rfl
abbrev mX7_wayNow : fc_Y := (yX7_wayNow, cX7_wayNow, 5, some .int)
theorem mi_X7_wayNow : fc_MI mX7_wayNow 2 := ⟨fc_mem (i := 1192) (by decide +kernel) rfl, fc_mem (i := 8) (by decide +kernel) rfl, ⟨by decide, by decide⟩, by decide +kernel, by decide, by decide +kernel⟩
theorem im_X7_wayNow : Cond.instanceMethod yX7_wayNow ∈ fc_tbl := fc_mem (i := 1191) (by decide +kernel) rfl
theorem se_X7_wayNow : Cond.selects yX7_wayNow.cls yX7_wayNow yX7_wayNow ∈ fc_tbl := fc_memS (i := 85) (by decide +kernel) rfl
abbrev mX7_way : fc_Y := (yX7_way, cX7_way, 3, some .int)
theorem mi_X7_way : fc_MI mX7_way 2 := ⟨fc_mem (i := 1188) (by decide +kernel) rfl, fc_mem (i := 8) (by decide +kernel) rfl, ⟨by decide, by decide⟩, by decide +kernel, by decide, by decide +kernel⟩
theorem im_X7_way : Cond.instanceMethod yX7_way ∈ fc_tbl := fc_mem (i := 1186) (by decide +kernel) rfl
theorem se_X7_way : Cond.selects yX7_way.cls yX7_way yX7_way ∈ fc_tbl := fc_mem (i := 1187) (by decide +kernel) rfl
abbrev mX7_type : fc_Y := (yX7_type, cX7_type, 2, some .int)
theorem mi_X7_type : fc_MI mX7_type 1 := ⟨fc_mem (i := 1197) (by decide +kernel) rfl, fc_mem (i := 8) (by decide +kernel) rfl, ⟨by decide, by decide⟩, by decide +kernel, by decide, by decide +kernel⟩
theorem im_X7_type : Cond.instanceMethod yX7_type ∈ fc_tbl := fc_mem (i := 1195) (by decide +kernel) rfl
theorem se_X7_type : Cond.selects yX7_type.cls yX7_type yX7_type ∈ fc_tbl := fc_mem (i := 1196) (by decide +kernel) rfl
abbrev mX7_clear : fc_Y := (yX7_clear, cX7_clear, 2, some .int)
theorem mi_X7_clear : fc_MI mX7_clear 0 := ⟨fc_mem (i := 1202) (by decide +kernel) rfl, fc_mem (i := 8) (by decide +kernel) rfl, ⟨by decide, by decide⟩, by decide +kernel, by decide, by decide +kernel⟩
theorem im_X7_clear : Cond.instanceMethod yX7_clear ∈ fc_tbl := fc_mem (i := 1200) (by decide +kernel) rfl
theorem se_X7_clear : Cond.selects yX7_clear.cls yX7_clear yX7_clear ∈ fc_tbl := fc_mem (i := 1201) (by decide +kernel) rfl
abbrev mX7_here : fc_Y := (yX7_here, cX7_here, 1, some .int)
theorem mi_X7_here : fc_MI mX7_here 0 := ⟨fc_mem (i := 1214) (by decide +kernel) rfl, fc_mem (i := 8) (by decide +kernel) rfl, ⟨by decide, by decide⟩, by decide +kernel, by decide, by decide +kernel⟩
theorem im_X7_here : Cond.instanceMethod yX7_here ∈ fc_tbl := fc_mem (i := 1213) (by decide +kernel) rfl
theorem se_X7_here : Cond.selects yX7_here.cls yX7_here yX7_here ∈ fc_tbl := fc_memS (i := 87) (by decide +kernel) rfl
abbrev mX7_isFigure : fc_Y := (yX7_isFigure, cX7_isFigure, 2, some .boolean)
theorem mi_X7_isFigure : fc_MI mX7_isFigure 1 := ⟨fc_mem (i := 1230) (by decide +kernel) rfl, fc_mem (i := 8) (by decide +kernel) rfl, ⟨by decide, by decide⟩, by decide +kernel, by decide, by decide +kernel⟩
theorem im_X7_isFigure : Cond.instanceMethod yX7_isFigure ∈ fc_tbl := fc_mem (i := 1229) (by decide +kernel) rfl
theorem se_X7_isFigure : Cond.selects yX7_isFigure.cls yX7_isFigure yX7_isFigure ∈ fc_tbl := fc_memS (i := 91) (by decide +kernel) rfl
abbrev mX7_takes : fc_Y := (yX7_takes, cX7_takes, 5, some .boolean)
theorem mi_X7_takes : fc_MI mX7_takes 1 := ⟨fc_mem (i := 1226) (by decide +kernel) rfl, fc_mem (i := 8) (by decide +kernel) rfl, ⟨by decide, by decide⟩, by decide +kernel, by decide, by decide +kernel⟩
theorem im_X7_takes : Cond.instanceMethod yX7_takes ∈ fc_tbl := fc_mem (i := 1225) (by decide +kernel) rfl
theorem se_X7_takes : Cond.selects yX7_takes.cls yX7_takes yX7_takes ∈ fc_tbl := fc_memS (i := 90) (by decide +kernel) rfl
abbrev mX7_takesAll : fc_Y := (yX7_takesAll, cX7_takesAll, 4, some .boolean)
theorem mi_X7_takesAll : fc_MI mX7_takesAll 2 := ⟨fc_mem (i := 1236) (by decide +kernel) rfl, fc_mem (i := 8) (by decide +kernel) rfl, ⟨by decide, by decide⟩, by decide +kernel, by decide, by decide +kernel⟩
theorem im_X7_takesAll : Cond.instanceMethod yX7_takesAll ∈ fc_tbl := fc_mem (i := 1235) (by decide +kernel) rfl
theorem se_X7_takesAll : Cond.selects yX7_takesAll.cls yX7_takesAll yX7_takesAll ∈ fc_tbl := fc_memS (i := 92) (by decide +kernel) rfl
abbrev mX7_takesPoints : fc_Y := (yX7_takesPoints, cX7_takesPoints, 3, some .boolean)
theorem mi_X7_takesPoints : fc_MI mX7_takesPoints 0 := ⟨fc_mem (i := 1222) (by decide +kernel) rfl, fc_mem (i := 8) (by decide +kernel) rfl, ⟨by decide, by decide⟩, by decide +kernel, by decide, by decide +kernel⟩
theorem im_X7_takesPoints : Cond.instanceMethod yX7_takesPoints ∈ fc_tbl := fc_mem (i := 1221) (by decide +kernel) rfl
theorem se_X7_takesPoints : Cond.selects yX7_takesPoints.cls yX7_takesPoints yX7_takesPoints ∈ fc_tbl := fc_memS (i := 89) (by decide +kernel) rfl
abbrev mX7_takesNumbers : fc_Y := (yX7_takesNumbers, cX7_takesNumbers, 2, some .boolean)
theorem mi_X7_takesNumbers : fc_MI mX7_takesNumbers 1 := ⟨fc_mem (i := 1218) (by decide +kernel) rfl, fc_mem (i := 8) (by decide +kernel) rfl, ⟨by decide, by decide⟩, by decide +kernel, by decide, by decide +kernel⟩
theorem im_X7_takesNumbers : Cond.instanceMethod yX7_takesNumbers ∈ fc_tbl := fc_mem (i := 1217) (by decide +kernel) rfl
theorem se_X7_takesNumbers : Cond.selects yX7_takesNumbers.cls yX7_takesNumbers yX7_takesNumbers ∈ fc_tbl := fc_memS (i := 88) (by decide +kernel) rfl
abbrev mX7_can : fc_Y := (yX7_can, cX7_can, 2, some .int)
theorem mi_X7_can : fc_MI mX7_can 1 := ⟨fc_mem (i := 1240) (by decide +kernel) rfl, fc_mem (i := 8) (by decide +kernel) rfl, ⟨by decide, by decide⟩, by decide +kernel, by decide, by decide +kernel⟩
theorem im_X7_can : Cond.instanceMethod yX7_can ∈ fc_tbl := fc_mem (i := 1239) (by decide +kernel) rfl
theorem se_X7_can : Cond.selects yX7_can.cls yX7_can yX7_can ∈ fc_tbl := fc_memS (i := 93) (by decide +kernel) rfl
abbrev mX7_does : fc_Y := (yX7_does, cX7_does, 3, some .int)
theorem mi_X7_does : fc_MI mX7_does 1 := ⟨fc_mem (i := 1244) (by decide +kernel) rfl, fc_mem (i := 8) (by decide +kernel) rfl, ⟨by decide, by decide⟩, by decide +kernel, by decide, by decide +kernel⟩
theorem im_X7_does : Cond.instanceMethod yX7_does ∈ fc_tbl := fc_mem (i := 1243) (by decide +kernel) rfl
theorem se_X7_does : Cond.selects yX7_does.cls yX7_does yX7_does ∈ fc_tbl := fc_memS (i := 94) (by decide +kernel) rfl
abbrev mX7_readsOrder : fc_Y := (yX7_readsOrder, cX7_readsOrder, 4, some .boolean)
theorem mi_X7_readsOrder : fc_MI mX7_readsOrder 1 := ⟨fc_mem (i := 1210) (by decide +kernel) rfl, fc_mem (i := 8) (by decide +kernel) rfl, ⟨by decide, by decide⟩, by decide +kernel, by decide, by decide +kernel⟩
theorem im_X7_readsOrder : Cond.instanceMethod yX7_readsOrder ∈ fc_tbl := fc_mem (i := 1209) (by decide +kernel) rfl
theorem se_X7_readsOrder : Cond.selects yX7_readsOrder.cls yX7_readsOrder yX7_readsOrder ∈ fc_tbl := fc_memS (i := 86) (by decide +kernel) rfl
abbrev mX7_reads : fc_Y := (yX7_reads, cX7_reads, 4, some .int)
theorem mi_X7_reads : fc_MI mX7_reads 0 := ⟨fc_mem (i := 1206) (by decide +kernel) rfl, fc_mem (i := 8) (by decide +kernel) rfl, ⟨by decide, by decide⟩, by decide +kernel, by decide, by decide +kernel⟩
theorem im_X7_reads : Cond.instanceMethod yX7_reads ∈ fc_tbl := fc_mem (i := 1204) (by decide +kernel) rfl
theorem se_X7_reads : Cond.selects yX7_reads.cls yX7_reads yX7_reads ∈ fc_tbl := fc_mem (i := 1205) (by decide +kernel) rfl
abbrev mX7_keepsAside : fc_Y := (yX7_keepsAside, cX7_keepsAside, 3, none)
theorem mi_X7_keepsAside : fc_MI mX7_keepsAside 0 := ⟨fc_mem (i := 1248) (by decide +kernel) rfl, fc_mem (i := 8) (by decide +kernel) rfl, ⟨by decide, by decide⟩, by decide +kernel, by decide, by decide +kernel⟩
theorem im_X7_keepsAside : Cond.instanceMethod yX7_keepsAside ∈ fc_tbl := fc_mem (i := 1247) (by decide +kernel) rfl
theorem se_X7_keepsAside : Cond.selects yX7_keepsAside.cls yX7_keepsAside yX7_keepsAside ∈ fc_tbl := fc_memS (i := 95) (by decide +kernel) rfl
abbrev mX7_back : fc_Y := (yX7_back, cX7_back, 2, some .int)
theorem mi_X7_back : fc_MI mX7_back 0 := ⟨fc_mem (i := 1252) (by decide +kernel) rfl, fc_mem (i := 8) (by decide +kernel) rfl, ⟨by decide, by decide⟩, by decide +kernel, by decide, by decide +kernel⟩
theorem im_X7_back : Cond.instanceMethod yX7_back ∈ fc_tbl := fc_mem (i := 1250) (by decide +kernel) rfl
theorem se_X7_back : Cond.selects yX7_back.cls yX7_back yX7_back ∈ fc_tbl := fc_mem (i := 1251) (by decide +kernel) rfl
abbrev mX7_keptSet : fc_Y := (yX7_keptSet, cX7_keptSet, 1, some .int)
theorem mi_X7_keptSet : fc_MI mX7_keptSet 0 := ⟨fc_mem (i := 1265) (by decide +kernel) rfl, fc_mem (i := 8) (by decide +kernel) rfl, ⟨by decide, by decide⟩, by decide +kernel, by decide, by decide +kernel⟩
theorem im_X7_keptSet : Cond.instanceMethod yX7_keptSet ∈ fc_tbl := fc_mem (i := 1264) (by decide +kernel) rfl
theorem se_X7_keptSet : Cond.selects yX7_keptSet.cls yX7_keptSet yX7_keptSet ∈ fc_tbl := fc_memS (i := 97) (by decide +kernel) rfl
abbrev mX7_toldOf : fc_Y := (yX7_toldOf, cX7_toldOf, 2, some .int)
theorem mi_X7_toldOf : fc_MI mX7_toldOf 1 := ⟨fc_mem (i := 1261) (by decide +kernel) rfl, fc_mem (i := 8) (by decide +kernel) rfl, ⟨by decide, by decide⟩, by decide +kernel, by decide, by decide +kernel⟩
theorem im_X7_toldOf : Cond.instanceMethod yX7_toldOf ∈ fc_tbl := fc_mem (i := 1260) (by decide +kernel) rfl
theorem se_X7_toldOf : Cond.selects yX7_toldOf.cls yX7_toldOf yX7_toldOf ∈ fc_tbl := fc_memS (i := 96) (by decide +kernel) rfl
abbrev mX7_told : fc_Y := (yX7_told, cX7_told, 2, some .int)
theorem mi_X7_told : fc_MI mX7_told 1 := ⟨fc_mem (i := 1256) (by decide +kernel) rfl, fc_mem (i := 8) (by decide +kernel) rfl, ⟨by decide, by decide⟩, by decide +kernel, by decide, by decide +kernel⟩
theorem im_X7_told : Cond.instanceMethod yX7_told ∈ fc_tbl := fc_mem (i := 1254) (by decide +kernel) rfl
theorem se_X7_told : Cond.selects yX7_told.cls yX7_told yX7_told ∈ fc_tbl := fc_mem (i := 1255) (by decide +kernel) rfl
abbrev mX7_digest : fc_Y := (yX7_digest, cX7_digest, 5, some .long)
theorem mi_X7_digest : fc_MI mX7_digest 0 := ⟨fc_mem (i := 1269) (by decide +kernel) rfl, fc_mem (i := 8) (by decide +kernel) rfl, ⟨by decide, by decide⟩, by decide +kernel, by decide, by decide +kernel⟩
theorem im_X7_digest : Cond.instanceMethod yX7_digest ∈ fc_tbl := fc_mem (i := 1267) (by decide +kernel) rfl
theorem se_X7_digest : Cond.selects yX7_digest.cls yX7_digest yX7_digest ∈ fc_tbl := fc_mem (i := 1268) (by decide +kernel) rfl
abbrev mJ6_bitCount_0f7a4 : fc_Y := (yJ6_bitCount_0f7a4, cJ6_bitCount_0f7a4, 1, some .int)
theorem mi_J6_bitCount_0f7a4 : fc_MI mJ6_bitCount_0f7a4 1 := ⟨fc_mem (i := 485) (by decide +kernel) rfl, fc_mem (i := 12) (by decide +kernel) rfl, ⟨by decide, by decide⟩, by decide +kernel, by decide, by decide +kernel⟩
theorem st_J6_bitCount_0f7a4 : Cond.static yJ6_bitCount_0f7a4 ∈ fc_tbl := fc_mem (i := 484) (by decide +kernel) rfl
abbrev mJ9_floorDiv_f86c9 : fc_Y := (yJ9_floorDiv_f86c9, cJ9_floorDiv_f86c9, 6, some .long)
theorem mi_J9_floorDiv_f86c9 : fc_MI mJ9_floorDiv_f86c9 2 := ⟨fc_mem (i := 523) (by decide +kernel) rfl, fc_mem (i := 11) (by decide +kernel) rfl, ⟨by decide, by decide⟩, by decide +kernel, by decide, by decide +kernel⟩
theorem st_J9_floorDiv_f86c9 : Cond.static yJ9_floorDiv_f86c9 ∈ fc_tbl := fc_mem (i := 522) (by decide +kernel) rfl
abbrev mJ9_abs_0f7a4 : fc_Y := (yJ9_abs_0f7a4, cJ9_abs_0f7a4, 1, some .int)
theorem mi_J9_abs_0f7a4 : fc_MI mJ9_abs_0f7a4 1 := ⟨fc_mem (i := 363) (by decide +kernel) rfl, fc_mem (i := 11) (by decide +kernel) rfl, ⟨by decide, by decide⟩, by decide +kernel, by decide, by decide +kernel⟩
theorem st_J9_abs_0f7a4 : Cond.static yJ9_abs_0f7a4 ∈ fc_tbl := fc_mem (i := 362) (by decide +kernel) rfl
abbrev mJ9_abs_067f4 : fc_Y := (yJ9_abs_067f4, cJ9_abs_067f4, 2, some .long)
theorem mi_J9_abs_067f4 : fc_MI mJ9_abs_067f4 1 := ⟨fc_mem (i := 344) (by decide +kernel) rfl, fc_mem (i := 11) (by decide +kernel) rfl, ⟨by decide, by decide⟩, by decide +kernel, by decide, by decide +kernel⟩
theorem st_J9_abs_067f4 : Cond.static yJ9_abs_067f4 ∈ fc_tbl := fc_mem (i := 343) (by decide +kernel) rfl
abbrev mJ9_max_7cf53 : fc_Y := (yJ9_max_7cf53, cJ9_max_7cf53, 2, some .int)
theorem mi_J9_max_7cf53 : fc_MI mJ9_max_7cf53 2 := ⟨fc_mem (i := 581) (by decide +kernel) rfl, fc_mem (i := 11) (by decide +kernel) rfl, ⟨by decide, by decide⟩, by decide +kernel, by decide, by decide +kernel⟩
theorem st_J9_max_7cf53 : Cond.static yJ9_max_7cf53 ∈ fc_tbl := fc_mem (i := 580) (by decide +kernel) rfl
abbrev mJ9_min_7cf53 : fc_Y := (yJ9_min_7cf53, cJ9_min_7cf53, 2, some .int)
theorem mi_J9_min_7cf53 : fc_MI mJ9_min_7cf53 2 := ⟨fc_mem (i := 264) (by decide +kernel) rfl, fc_mem (i := 11) (by decide +kernel) rfl, ⟨by decide, by decide⟩, by decide +kernel, by decide, by decide +kernel⟩
theorem st_J9_min_7cf53 : Cond.static yJ9_min_7cf53 ∈ fc_tbl := fc_mem (i := 263) (by decide +kernel) rfl
abbrev mJ7_fill_53178 : fc_Y := (yJ7_fill_53178, cJ7_fill_53178, 4, none)
theorem mi_J7_fill_53178 : fc_MI mJ7_fill_53178 2 := ⟨fc_mem (i := 249) (by decide +kernel) rfl, fc_mem (i := 10) (by decide +kernel) rfl, ⟨by decide, by decide⟩, by decide +kernel, by decide, by decide +kernel⟩
theorem st_J7_fill_53178 : Cond.static yJ7_fill_53178 ∈ fc_tbl := fc_mem (i := 248) (by decide +kernel) rfl
