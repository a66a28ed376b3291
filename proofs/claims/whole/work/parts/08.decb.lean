/-! rows that decode (printed names) -/
theorem dX6_init_0 : decode cX6_init 0 = .ok (.aload_n 0, 1) := by decide +kernel
theorem dX6_init_1 : decode cX6_init 1 = .ok (.invokespecial 1, 3) := by decide +kernel
theorem dX6_init_4 : decode cX6_init 4 = .ok (.aload_n 0, 1) := by decide +kernel
theorem dX6_init_5 : decode cX6_init 5 = .ok (.iconst 3, 1) := by decide +kernel
theorem dX6_init_6 : decode cX6_init 6 = .ok (.newarray .int, 2) := by decide +kernel
theorem dX6_init_8 : decode cX6_init 8 = .ok (.putfield 7, 3) := by decide +kernel
theorem dX6_init_11 : decode cX6_init 11 = .ok (.aload_n 0, 1) := by decide +kernel
theorem dX6_init_12 : decode cX6_init 12 = .ok (.new 13, 3) := by decide +kernel
theorem dX6_init_15 : decode cX6_init 15 = .ok (.dup, 1) := by decide +kernel
theorem dX6_init_16 : decode cX6_init 16 = .ok (.invokespecial 15, 3) := by decide +kernel
theorem dX6_init_19 : decode cX6_init 19 = .ok (.putfield 16, 3) := by decide +kernel
theorem dX6_init_22 : decode cX6_init 22 = .ok (.aload_n 0, 1) := by decide +kernel
theorem dX6_init_23 : decode cX6_init 23 = .ok (.aload_n 0, 1) := by decide +kernel
theorem dX6_init_24 : decode cX6_init 24 = .ok (.getfield 16, 3) := by decide +kernel
theorem dX6_init_27 : decode cX6_init 27 = .ok (.getfield 20, 3) := by decide +kernel
theorem dX6_init_30 : decode cX6_init 30 = .ok (.putfield 24, 3) := by decide +kernel
theorem dX6_init_33 : decode cX6_init 33 = .ok (.aload_n 0, 1) := by decide +kernel
theorem dX6_init_34 : decode cX6_init 34 = .ok (.aload_n 0, 1) := by decide +kernel
theorem dX6_init_35 : decode cX6_init 35 = .ok (.getfield 16, 3) := by decide +kernel
theorem dX6_init_38 : decode cX6_init 38 = .ok (.getfield 25, 3) := by decide +kernel
theorem dX6_init_41 : decode cX6_init 41 = .ok (.putfield 29, 3) := by decide +kernel
theorem dX6_init_44 : decode cX6_init 44 = .ok (.aload_n 0, 1) := by decide +kernel
theorem dX6_init_45 : decode cX6_init 45 = .ok (.new 30, 3) := by decide +kernel
theorem dX6_init_48 : decode cX6_init 48 = .ok (.dup, 1) := by decide +kernel
theorem dX6_init_49 : decode cX6_init 49 = .ok (.invokespecial 32, 3) := by decide +kernel
theorem dX6_init_52 : decode cX6_init 52 = .ok (.putfield 33, 3) := by decide +kernel
theorem dX6_init_55 : decode cX6_init 55 = .ok (.aload_n 0, 1) := by decide +kernel
theorem dX6_init_56 : decode cX6_init 56 = .ok (.new 37, 3) := by decide +kernel
theorem dX6_init_59 : decode cX6_init 59 = .ok (.dup, 1) := by decide +kernel
theorem dX6_init_60 : decode cX6_init 60 = .ok (.invokespecial 39, 3) := by decide +kernel
theorem dX6_init_63 : decode cX6_init 63 = .ok (.putfield 40, 3) := by decide +kernel
theorem dX6_init_66 : decode cX6_init 66 = .ok (.aload_n 0, 1) := by decide +kernel
theorem dX6_init_67 : decode cX6_init 67 = .ok (.new 44, 3) := by decide +kernel
theorem dX6_init_70 : decode cX6_init 70 = .ok (.dup, 1) := by decide +kernel
theorem dX6_init_71 : decode cX6_init 71 = .ok (.invokespecial 46, 3) := by decide +kernel
theorem dX6_init_74 : decode cX6_init 74 = .ok (.putfield 47, 3) := by decide +kernel
theorem dX6_init_77 : decode cX6_init 77 = .ok (.aload_n 0, 1) := by decide +kernel
theorem dX6_init_78 : decode cX6_init 78 = .ok (.iconst 5, 1) := by decide +kernel
theorem dX6_init_79 : decode cX6_init 79 = .ok (.newarray .int, 2) := by decide +kernel
theorem dX6_init_81 : decode cX6_init 81 = .ok (.putfield 51, 3) := by decide +kernel
theorem dX6_init_84 : decode cX6_init 84 = .ok (.return_, 1) := by decide +kernel
theorem dX6_points_0 : decode cX6_points 0 = .ok (.aload_n 0, 1) := by decide +kernel
theorem dX6_points_1 : decode cX6_points 1 = .ok (.getfield 24, 3) := by decide +kernel
theorem dX6_points_4 : decode cX6_points 4 = .ok (.getfield 54, 3) := by decide +kernel
theorem dX6_points_7 : decode cX6_points 7 = .ok (.istore_n 2, 1) := by decide +kernel
theorem dX6_points_8 : decode cX6_points 8 = .ok (.aload_n 0, 1) := by decide +kernel
theorem dX6_points_9 : decode cX6_points 9 = .ok (.getfield 33, 3) := by decide +kernel
theorem dX6_points_12 : decode cX6_points 12 = .ok (.aload_n 0, 1) := by decide +kernel
theorem dX6_points_13 : decode cX6_points 13 = .ok (.getfield 24, 3) := by decide +kernel
theorem dX6_points_16 : decode cX6_points 16 = .ok (.invokevirtual 60, 3) := by decide +kernel
theorem dX6_points_19 : decode cX6_points 19 = .ok (.aload_n 0, 1) := by decide +kernel
theorem dX6_points_20 : decode cX6_points 20 = .ok (.aload_n 0, 1) := by decide +kernel
theorem dX6_points_21 : decode cX6_points 21 = .ok (.getfield 16, 3) := by decide +kernel
theorem dX6_points_24 : decode cX6_points 24 = .ok (.iload_n 1, 1) := by decide +kernel
theorem dX6_points_25 : decode cX6_points 25 = .ok (.invokevirtual 64, 3) := by decide +kernel
theorem dX6_points_28 : decode cX6_points 28 = .ok (.iload_n 2, 1) := by decide +kernel
theorem dX6_points_29 : decode cX6_points 29 = .ok (.invokevirtual 68, 3) := by decide +kernel
theorem dX6_points_32 : decode cX6_points 32 = .ok (.ireturn, 1) := by decide +kernel
theorem dX6_lines_0 : decode cX6_lines 0 = .ok (.aload_n 0, 1) := by decide +kernel
theorem dX6_lines_1 : decode cX6_lines 1 = .ok (.getfield 24, 3) := by decide +kernel
theorem dX6_lines_4 : decode cX6_lines 4 = .ok (.iload_n 1, 1) := by decide +kernel
theorem dX6_lines_5 : decode cX6_lines 5 = .ok (.iload_n 2, 1) := by decide +kernel
theorem dX6_lines_6 : decode cX6_lines 6 = .ok (.invokevirtual 72, 3) := by decide +kernel
theorem dX6_lines_9 : decode cX6_lines 9 = .ok (.istore 4, 2) := by decide +kernel
theorem dX6_lines_11 : decode cX6_lines 11 = .ok (.aload_n 0, 1) := by decide +kernel
theorem dX6_lines_12 : decode cX6_lines 12 = .ok (.getfield 33, 3) := by decide +kernel
theorem dX6_lines_15 : decode cX6_lines 15 = .ok (.aload_n 0, 1) := by decide +kernel
theorem dX6_lines_16 : decode cX6_lines 16 = .ok (.getfield 24, 3) := by decide +kernel
theorem dX6_lines_19 : decode cX6_lines 19 = .ok (.invokevirtual 60, 3) := by decide +kernel
theorem dX6_lines_22 : decode cX6_lines 22 = .ok (.aload_n 0, 1) := by decide +kernel
theorem dX6_lines_23 : decode cX6_lines 23 = .ok (.aload_n 0, 1) := by decide +kernel
theorem dX6_lines_24 : decode cX6_lines 24 = .ok (.getfield 16, 3) := by decide +kernel
theorem dX6_lines_27 : decode cX6_lines 27 = .ok (.iload_n 1, 1) := by decide +kernel
theorem dX6_lines_28 : decode cX6_lines 28 = .ok (.iload_n 2, 1) := by decide +kernel
theorem dX6_lines_29 : decode cX6_lines 29 = .ok (.iload_n 3, 1) := by decide +kernel
theorem dX6_lines_30 : decode cX6_lines 30 = .ok (.invokevirtual 75, 3) := by decide +kernel
theorem dX6_lines_33 : decode cX6_lines 33 = .ok (.iload 4, 2) := by decide +kernel
theorem dX6_lines_35 : decode cX6_lines 35 = .ok (.invokevirtual 68, 3) := by decide +kernel
theorem dX6_lines_38 : decode cX6_lines 38 = .ok (.ireturn, 1) := by decide +kernel
theorem dX6_draws_0 : decode cX6_draws 0 = .ok (.iload_n 1, 1) := by decide +kernel
theorem dX6_draws_1 : decode cX6_draws 1 = .ok (.ifCond .lt 9, 3) := by decide +kernel
theorem dX6_draws_4 : decode cX6_draws 4 = .ok (.iload_n 1, 1) := by decide +kernel
theorem dX6_draws_5 : decode cX6_draws 5 = .ok (.ldc 79, 2) := by decide +kernel
theorem dX6_draws_7 : decode cX6_draws 7 = .ok (.if_icmp .le 10, 3) := by decide +kernel
theorem dX6_draws_10 : decode cX6_draws 10 = .ok (.aload_n 0, 1) := by decide +kernel
theorem dX6_draws_11 : decode cX6_draws 11 = .ok (.bipush (-2), 2) := by decide +kernel
theorem dX6_draws_13 : decode cX6_draws 13 = .ok (.invokevirtual 80, 3) := by decide +kernel
theorem dX6_draws_16 : decode cX6_draws 16 = .ok (.ireturn, 1) := by decide +kernel
theorem dX6_draws_17 : decode cX6_draws 17 = .ok (.aload_n 0, 1) := by decide +kernel
theorem dX6_draws_18 : decode cX6_draws 18 = .ok (.getfield 33, 3) := by decide +kernel
theorem dX6_draws_21 : decode cX6_draws 21 = .ok (.aload_n 0, 1) := by decide +kernel
theorem dX6_draws_22 : decode cX6_draws 22 = .ok (.getfield 24, 3) := by decide +kernel
theorem dX6_draws_25 : decode cX6_draws 25 = .ok (.invokevirtual 60, 3) := by decide +kernel
theorem dX6_draws_28 : decode cX6_draws 28 = .ok (.aload_n 0, 1) := by decide +kernel
theorem dX6_draws_29 : decode cX6_draws 29 = .ok (.getfield 24, 3) := by decide +kernel
theorem dX6_draws_32 : decode cX6_draws 32 = .ok (.iload_n 1, 1) := by decide +kernel
theorem dX6_draws_33 : decode cX6_draws 33 = .ok (.invokevirtual 83, 3) := by decide +kernel
theorem dX6_draws_36 : decode cX6_draws 36 = .ok (.aload_n 0, 1) := by decide +kernel
theorem dX6_draws_37 : decode cX6_draws 37 = .ok (.iconst 0, 1) := by decide +kernel
theorem dX6_draws_38 : decode cX6_draws 38 = .ok (.aload_n 0, 1) := by decide +kernel
theorem dX6_draws_39 : decode cX6_draws 39 = .ok (.getfield 24, 3) := by decide +kernel
theorem dX6_draws_42 : decode cX6_draws 42 = .ok (.invokevirtual 87, 3) := by decide +kernel
theorem dX6_draws_45 : decode cX6_draws 45 = .ok (.invokevirtual 68, 3) := by decide +kernel
theorem dX6_draws_48 : decode cX6_draws 48 = .ok (.ireturn, 1) := by decide +kernel
theorem dX6_net_0 : decode cX6_net 0 = .ok (.aload_n 0, 1) := by decide +kernel
theorem dX6_net_1 : decode cX6_net 1 = .ok (.getfield 24, 3) := by decide +kernel
theorem dX6_net_4 : decode cX6_net 4 = .ok (.iload_n 1, 1) := by decide +kernel
theorem dX6_net_5 : decode cX6_net 5 = .ok (.invokevirtual 91, 3) := by decide +kernel
theorem dX6_net_8 : decode cX6_net 8 = .ok (.ifCond .eq 14, 3) := by decide +kernel
theorem dX6_net_11 : decode cX6_net 11 = .ok (.aload_n 0, 1) := by decide +kernel
theorem dX6_net_12 : decode cX6_net 12 = .ok (.getfield 24, 3) := by decide +kernel
theorem dX6_net_15 : decode cX6_net 15 = .ok (.iload_n 2, 1) := by decide +kernel
theorem dX6_net_16 : decode cX6_net 16 = .ok (.invokevirtual 91, 3) := by decide +kernel
theorem dX6_net_19 : decode cX6_net 19 = .ok (.ifCond .ne 10, 3) := by decide +kernel
theorem dX6_net_22 : decode cX6_net 22 = .ok (.aload_n 0, 1) := by decide +kernel
theorem dX6_net_23 : decode cX6_net 23 = .ok (.bipush (-2), 2) := by decide +kernel
theorem dX6_net_25 : decode cX6_net 25 = .ok (.invokevirtual 80, 3) := by decide +kernel
theorem dX6_net_28 : decode cX6_net 28 = .ok (.ireturn, 1) := by decide +kernel
theorem dX6_net_29 : decode cX6_net 29 = .ok (.iload_n 1, 1) := by decide +kernel
theorem dX6_net_30 : decode cX6_net 30 = .ok (.iload_n 2, 1) := by decide +kernel
theorem dX6_net_31 : decode cX6_net 31 = .ok (.if_icmp .ne 14, 3) := by decide +kernel
theorem dX6_net_34 : decode cX6_net 34 = .ok (.aload_n 0, 1) := by decide +kernel
theorem dX6_net_35 : decode cX6_net 35 = .ok (.getfield 24, 3) := by decide +kernel
theorem dX6_net_38 : decode cX6_net 38 = .ok (.iload_n 1, 1) := by decide +kernel
theorem dX6_net_39 : decode cX6_net 39 = .ok (.invokevirtual 95, 3) := by decide +kernel
theorem dX6_net_42 : decode cX6_net 42 = .ok (.goto 12, 3) := by decide +kernel
theorem dX6_net_45 : decode cX6_net 45 = .ok (.aload_n 0, 1) := by decide +kernel
theorem dX6_net_46 : decode cX6_net 46 = .ok (.getfield 24, 3) := by decide +kernel
theorem dX6_net_49 : decode cX6_net 49 = .ok (.iload_n 1, 1) := by decide +kernel
theorem dX6_net_50 : decode cX6_net 50 = .ok (.iload_n 2, 1) := by decide +kernel
theorem dX6_net_51 : decode cX6_net 51 = .ok (.invokevirtual 72, 3) := by decide +kernel
theorem dX6_net_54 : decode cX6_net 54 = .ok (.ireturn, 1) := by decide +kernel
theorem dX6_joined_0 : decode cX6_joined 0 = .ok (.aload_n 0, 1) := by decide +kernel
theorem dX6_joined_1 : decode cX6_joined 1 = .ok (.getfield 24, 3) := by decide +kernel
theorem dX6_joined_4 : decode cX6_joined 4 = .ok (.invokevirtual 98, 3) := by decide +kernel
theorem dX6_joined_7 : decode cX6_joined 7 = .ok (.invokestatic 102, 3) := by decide +kernel
theorem dX6_joined_10 : decode cX6_joined 10 = .ok (.ireturn, 1) := by decide +kernel
theorem dX6_sets_0 : decode cX6_sets 0 = .ok (.aload_n 0, 1) := by decide +kernel
theorem dX6_sets_1 : decode cX6_sets 1 = .ok (.getfield 24, 3) := by decide +kernel
theorem dX6_sets_4 : decode cX6_sets 4 = .ok (.iload_n 1, 1) := by decide +kernel
theorem dX6_sets_5 : decode cX6_sets 5 = .ok (.invokevirtual 91, 3) := by decide +kernel
theorem dX6_sets_8 : decode cX6_sets 8 = .ok (.ifCond .eq 15, 3) := by decide +kernel
theorem dX6_sets_11 : decode cX6_sets 11 = .ok (.iload_n 2, 1) := by decide +kernel
theorem dX6_sets_12 : decode cX6_sets 12 = .ok (.i2l, 1) := by decide +kernel
theorem dX6_sets_13 : decode cX6_sets 13 = .ok (.invokestatic 106, 3) := by decide +kernel
theorem dX6_sets_16 : decode cX6_sets 16 = .ok (.ldc2_w 112, 3) := by decide +kernel
theorem dX6_sets_19 : decode cX6_sets 19 = .ok (.lcmp, 1) := by decide +kernel
theorem dX6_sets_20 : decode cX6_sets 20 = .ok (.ifCond .le 10, 3) := by decide +kernel
theorem dX6_sets_23 : decode cX6_sets 23 = .ok (.aload_n 0, 1) := by decide +kernel
theorem dX6_sets_24 : decode cX6_sets 24 = .ok (.bipush (-2), 2) := by decide +kernel
theorem dX6_sets_26 : decode cX6_sets 26 = .ok (.invokevirtual 80, 3) := by decide +kernel
theorem dX6_sets_29 : decode cX6_sets 29 = .ok (.ireturn, 1) := by decide +kernel
theorem dX6_sets_30 : decode cX6_sets 30 = .ok (.aload_n 0, 1) := by decide +kernel
theorem dX6_sets_31 : decode cX6_sets 31 = .ok (.getfield 24, 3) := by decide +kernel
theorem dX6_sets_34 : decode cX6_sets 34 = .ok (.getfield 114, 3) := by decide +kernel
theorem dX6_sets_37 : decode cX6_sets 37 = .ok (.iload_n 1, 1) := by decide +kernel
theorem dX6_sets_38 : decode cX6_sets 38 = .ok (.iaload, 1) := by decide +kernel
theorem dX6_sets_39 : decode cX6_sets 39 = .ok (.istore_n 3, 1) := by decide +kernel
theorem dX6_sets_40 : decode cX6_sets 40 = .ok (.aload_n 0, 1) := by decide +kernel
theorem dX6_sets_41 : decode cX6_sets 41 = .ok (.getfield 33, 3) := by decide +kernel
theorem dX6_sets_44 : decode cX6_sets 44 = .ok (.aload_n 0, 1) := by decide +kernel
theorem dX6_sets_45 : decode cX6_sets 45 = .ok (.getfield 24, 3) := by decide +kernel
theorem dX6_sets_48 : decode cX6_sets 48 = .ok (.invokevirtual 60, 3) := by decide +kernel
theorem dX6_sets_51 : decode cX6_sets 51 = .ok (.aload_n 0, 1) := by decide +kernel
theorem dX6_sets_52 : decode cX6_sets 52 = .ok (.getfield 24, 3) := by decide +kernel
theorem dX6_sets_55 : decode cX6_sets 55 = .ok (.getfield 114, 3) := by decide +kernel
theorem dX6_sets_58 : decode cX6_sets 58 = .ok (.iload_n 1, 1) := by decide +kernel
theorem dX6_sets_59 : decode cX6_sets 59 = .ok (.iload_n 2, 1) := by decide +kernel
theorem dX6_sets_60 : decode cX6_sets 60 = .ok (.iastore, 1) := by decide +kernel
theorem dX6_sets_61 : decode cX6_sets 61 = .ok (.aload_n 0, 1) := by decide +kernel
theorem dX6_sets_62 : decode cX6_sets 62 = .ok (.iconst 0, 1) := by decide +kernel
theorem dX6_sets_63 : decode cX6_sets 63 = .ok (.iload_n 3, 1) := by decide +kernel
theorem dX6_sets_64 : decode cX6_sets 64 = .ok (.invokevirtual 68, 3) := by decide +kernel
theorem dX6_sets_67 : decode cX6_sets 67 = .ok (.ireturn, 1) := by decide +kernel
theorem dX6_adds_0 : decode cX6_adds 0 = .ok (.aload_n 0, 1) := by decide +kernel
theorem dX6_adds_1 : decode cX6_adds 1 = .ok (.getfield 33, 3) := by decide +kernel
theorem dX6_adds_4 : decode cX6_adds 4 = .ok (.aload_n 0, 1) := by decide +kernel
theorem dX6_adds_5 : decode cX6_adds 5 = .ok (.getfield 24, 3) := by decide +kernel
theorem dX6_adds_8 : decode cX6_adds 8 = .ok (.invokevirtual 60, 3) := by decide +kernel
theorem dX6_adds_11 : decode cX6_adds 11 = .ok (.aload_n 0, 1) := by decide +kernel
theorem dX6_adds_12 : decode cX6_adds 12 = .ok (.getfield 16, 3) := by decide +kernel
theorem dX6_adds_15 : decode cX6_adds 15 = .ok (.iload_n 1, 1) := by decide +kernel
theorem dX6_adds_16 : decode cX6_adds 16 = .ok (.iload_n 2, 1) := by decide +kernel
theorem dX6_adds_17 : decode cX6_adds 17 = .ok (.invokevirtual 117, 3) := by decide +kernel
theorem dX6_adds_20 : decode cX6_adds 20 = .ok (.istore_n 3, 1) := by decide +kernel
theorem dX6_adds_21 : decode cX6_adds 21 = .ok (.aload_n 0, 1) := by decide +kernel
theorem dX6_adds_22 : decode cX6_adds 22 = .ok (.iload_n 3, 1) := by decide +kernel
theorem dX6_adds_23 : decode cX6_adds 23 = .ok (.aload_n 0, 1) := by decide +kernel
theorem dX6_adds_24 : decode cX6_adds 24 = .ok (.getfield 24, 3) := by decide +kernel
theorem dX6_adds_27 : decode cX6_adds 27 = .ok (.iload_n 1, 1) := by decide +kernel
theorem dX6_adds_28 : decode cX6_adds 28 = .ok (.invokevirtual 91, 3) := by decide +kernel
theorem dX6_adds_31 : decode cX6_adds 31 = .ok (.ifCond .eq 15, 3) := by decide +kernel
theorem dX6_adds_34 : decode cX6_adds 34 = .ok (.aload_n 0, 1) := by decide +kernel
theorem dX6_adds_35 : decode cX6_adds 35 = .ok (.getfield 24, 3) := by decide +kernel
theorem dX6_adds_38 : decode cX6_adds 38 = .ok (.getfield 114, 3) := by decide +kernel
theorem dX6_adds_41 : decode cX6_adds 41 = .ok (.iload_n 1, 1) := by decide +kernel
theorem dX6_adds_42 : decode cX6_adds 42 = .ok (.iaload, 1) := by decide +kernel
theorem dX6_adds_43 : decode cX6_adds 43 = .ok (.goto 4, 3) := by decide +kernel
theorem dX6_adds_46 : decode cX6_adds 46 = .ok (.iconst (-1), 1) := by decide +kernel
theorem dX6_adds_47 : decode cX6_adds 47 = .ok (.invokevirtual 68, 3) := by decide +kernel
theorem dX6_adds_50 : decode cX6_adds 50 = .ok (.ireturn, 1) := by decide +kernel
theorem dX6_fires_0 : decode cX6_fires 0 = .ok (.aload_n 0, 1) := by decide +kernel
theorem dX6_fires_1 : decode cX6_fires 1 = .ok (.getfield 33, 3) := by decide +kernel
theorem dX6_fires_4 : decode cX6_fires 4 = .ok (.aload_n 0, 1) := by decide +kernel
theorem dX6_fires_5 : decode cX6_fires 5 = .ok (.getfield 24, 3) := by decide +kernel
theorem dX6_fires_8 : decode cX6_fires 8 = .ok (.invokevirtual 60, 3) := by decide +kernel
theorem dX6_fires_11 : decode cX6_fires 11 = .ok (.aload_n 0, 1) := by decide +kernel
theorem dX6_fires_12 : decode cX6_fires 12 = .ok (.aload_n 0, 1) := by decide +kernel
theorem dX6_fires_13 : decode cX6_fires 13 = .ok (.getfield 16, 3) := by decide +kernel
theorem dX6_fires_16 : decode cX6_fires 16 = .ok (.iload_n 1, 1) := by decide +kernel
theorem dX6_fires_17 : decode cX6_fires 17 = .ok (.iconst 1, 1) := by decide +kernel
theorem dX6_fires_18 : decode cX6_fires 18 = .ok (.invokevirtual 120, 3) := by decide +kernel
theorem dX6_fires_21 : decode cX6_fires 21 = .ok (.iconst 1, 1) := by decide +kernel
theorem dX6_fires_22 : decode cX6_fires 22 = .ok (.invokevirtual 68, 3) := by decide +kernel
theorem dX6_fires_25 : decode cX6_fires 25 = .ok (.ireturn, 1) := by decide +kernel
theorem dX6_borrows_0 : decode cX6_borrows 0 = .ok (.aload_n 0, 1) := by decide +kernel
theorem dX6_borrows_1 : decode cX6_borrows 1 = .ok (.getfield 33, 3) := by decide +kernel
theorem dX6_borrows_4 : decode cX6_borrows 4 = .ok (.aload_n 0, 1) := by decide +kernel
theorem dX6_borrows_5 : decode cX6_borrows 5 = .ok (.getfield 24, 3) := by decide +kernel
theorem dX6_borrows_8 : decode cX6_borrows 8 = .ok (.invokevirtual 60, 3) := by decide +kernel
theorem dX6_borrows_11 : decode cX6_borrows 11 = .ok (.aload_n 0, 1) := by decide +kernel
theorem dX6_borrows_12 : decode cX6_borrows 12 = .ok (.aload_n 0, 1) := by decide +kernel
theorem dX6_borrows_13 : decode cX6_borrows 13 = .ok (.getfield 16, 3) := by decide +kernel
theorem dX6_borrows_16 : decode cX6_borrows 16 = .ok (.iload_n 1, 1) := by decide +kernel
theorem dX6_borrows_17 : decode cX6_borrows 17 = .ok (.iconst (-1), 1) := by decide +kernel
theorem dX6_borrows_18 : decode cX6_borrows 18 = .ok (.invokevirtual 120, 3) := by decide +kernel
theorem dX6_borrows_21 : decode cX6_borrows 21 = .ok (.iconst 1, 1) := by decide +kernel
theorem dX6_borrows_22 : decode cX6_borrows 22 = .ok (.invokevirtual 68, 3) := by decide +kernel
theorem dX6_borrows_25 : decode cX6_borrows 25 = .ok (.ireturn, 1) := by decide +kernel
theorem dX6_together_0 : decode cX6_together 0 = .ok (.aload_n 0, 1) := by decide +kernel
theorem dX6_together_1 : decode cX6_together 1 = .ok (.getfield 33, 3) := by decide +kernel
theorem dX6_together_4 : decode cX6_together 4 = .ok (.aload_n 0, 1) := by decide +kernel
theorem dX6_together_5 : decode cX6_together 5 = .ok (.getfield 24, 3) := by decide +kernel
theorem dX6_together_8 : decode cX6_together 8 = .ok (.invokevirtual 60, 3) := by decide +kernel
theorem dX6_together_11 : decode cX6_together 11 = .ok (.aload_n 0, 1) := by decide +kernel
theorem dX6_together_12 : decode cX6_together 12 = .ok (.getfield 16, 3) := by decide +kernel
theorem dX6_together_15 : decode cX6_together 15 = .ok (.iload_n 1, 1) := by decide +kernel
theorem dX6_together_16 : decode cX6_together 16 = .ok (.iconst 1, 1) := by decide +kernel
theorem dX6_together_17 : decode cX6_together 17 = .ok (.invokevirtual 123, 3) := by decide +kernel
theorem dX6_together_20 : decode cX6_together 20 = .ok (.istore_n 2, 1) := by decide +kernel
theorem dX6_together_21 : decode cX6_together 21 = .ok (.aload_n 0, 1) := by decide +kernel
theorem dX6_together_22 : decode cX6_together 22 = .ok (.iload_n 2, 1) := by decide +kernel
theorem dX6_together_23 : decode cX6_together 23 = .ok (.aload_n 0, 1) := by decide +kernel
theorem dX6_together_24 : decode cX6_together 24 = .ok (.getfield 24, 3) := by decide +kernel
theorem dX6_together_27 : decode cX6_together 27 = .ok (.aload_n 0, 1) := by decide +kernel
theorem dX6_together_28 : decode cX6_together 28 = .ok (.getfield 33, 3) := by decide +kernel
theorem dX6_together_31 : decode cX6_together 31 = .ok (.invokevirtual 126, 3) := by decide +kernel
theorem dX6_together_34 : decode cX6_together 34 = .ok (.invokevirtual 130, 3) := by decide +kernel
theorem dX6_together_37 : decode cX6_together 37 = .ok (.invokevirtual 68, 3) := by decide +kernel
theorem dX6_together_40 : decode cX6_together 40 = .ok (.ireturn, 1) := by decide +kernel
theorem dX6_settles_0 : decode cX6_settles 0 = .ok (.aload_n 0, 1) := by decide +kernel
theorem dX6_settles_1 : decode cX6_settles 1 = .ok (.getfield 33, 3) := by decide +kernel
theorem dX6_settles_4 : decode cX6_settles 4 = .ok (.aload_n 0, 1) := by decide +kernel
theorem dX6_settles_5 : decode cX6_settles 5 = .ok (.getfield 24, 3) := by decide +kernel
theorem dX6_settles_8 : decode cX6_settles 8 = .ok (.invokevirtual 60, 3) := by decide +kernel
theorem dX6_settles_11 : decode cX6_settles 11 = .ok (.aload_n 0, 1) := by decide +kernel
theorem dX6_settles_12 : decode cX6_settles 12 = .ok (.getfield 16, 3) := by decide +kernel
theorem dX6_settles_15 : decode cX6_settles 15 = .ok (.invokevirtual 134, 3) := by decide +kernel
theorem dX6_settles_18 : decode cX6_settles 18 = .ok (.istore_n 1, 1) := by decide +kernel
theorem dX6_settles_19 : decode cX6_settles 19 = .ok (.aload_n 0, 1) := by decide +kernel
theorem dX6_settles_20 : decode cX6_settles 20 = .ok (.iload_n 1, 1) := by decide +kernel
theorem dX6_settles_21 : decode cX6_settles 21 = .ok (.aload_n 0, 1) := by decide +kernel
theorem dX6_settles_22 : decode cX6_settles 22 = .ok (.getfield 24, 3) := by decide +kernel
theorem dX6_settles_25 : decode cX6_settles 25 = .ok (.invokevirtual 137, 3) := by decide +kernel
theorem dX6_settles_28 : decode cX6_settles 28 = .ok (.invokevirtual 68, 3) := by decide +kernel
theorem dX6_settles_31 : decode cX6_settles 31 = .ok (.ireturn, 1) := by decide +kernel
theorem dX6_script_0 : decode cX6_script 0 = .ok (.aload_n 0, 1) := by decide +kernel
theorem dX6_script_1 : decode cX6_script 1 = .ok (.getfield 24, 3) := by decide +kernel
theorem dX6_script_4 : decode cX6_script 4 = .ok (.iload_n 1, 1) := by decide +kernel
theorem dX6_script_5 : decode cX6_script 5 = .ok (.invokevirtual 91, 3) := by decide +kernel
theorem dX6_script_8 : decode cX6_script 8 = .ok (.ifCond .ne 10, 3) := by decide +kernel
theorem dX6_script_11 : decode cX6_script 11 = .ok (.aload_n 0, 1) := by decide +kernel
theorem dX6_script_12 : decode cX6_script 12 = .ok (.bipush (-2), 2) := by decide +kernel
theorem dX6_script_14 : decode cX6_script 14 = .ok (.invokevirtual 80, 3) := by decide +kernel
theorem dX6_script_17 : decode cX6_script 17 = .ok (.ireturn, 1) := by decide +kernel
theorem dX6_script_18 : decode cX6_script 18 = .ok (.aload_n 0, 1) := by decide +kernel
theorem dX6_script_19 : decode cX6_script 19 = .ok (.getfield 24, 3) := by decide +kernel
theorem dX6_script_22 : decode cX6_script 22 = .ok (.getfield 140, 3) := by decide +kernel
theorem dX6_script_25 : decode cX6_script 25 = .ok (.iload_n 1, 1) := by decide +kernel
theorem dX6_script_26 : decode cX6_script 26 = .ok (.iaload, 1) := by decide +kernel
theorem dX6_script_27 : decode cX6_script 27 = .ok (.ireturn, 1) := by decide +kernel
theorem dX6_of_0 : decode cX6_of 0 = .ok (.aload_n 0, 1) := by decide +kernel
theorem dX6_of_1 : decode cX6_of 1 = .ok (.getfield 24, 3) := by decide +kernel
theorem dX6_of_4 : decode cX6_of 4 = .ok (.iload_n 1, 1) := by decide +kernel
theorem dX6_of_5 : decode cX6_of 5 = .ok (.invokevirtual 91, 3) := by decide +kernel
theorem dX6_of_8 : decode cX6_of 8 = .ok (.ifCond .eq 12, 3) := by decide +kernel
theorem dX6_of_11 : decode cX6_of 11 = .ok (.iload_n 2, 1) := by decide +kernel
theorem dX6_of_12 : decode cX6_of 12 = .ok (.ifCond .lt 8, 3) := by decide +kernel
theorem dX6_of_15 : decode cX6_of 15 = .ok (.iload_n 2, 1) := by decide +kernel
theorem dX6_of_16 : decode cX6_of 16 = .ok (.iconst 2, 1) := by decide +kernel
theorem dX6_of_17 : decode cX6_of 17 = .ok (.if_icmp .le 10, 3) := by decide +kernel
theorem dX6_of_20 : decode cX6_of 20 = .ok (.aload_n 0, 1) := by decide +kernel
theorem dX6_of_21 : decode cX6_of 21 = .ok (.bipush (-2), 2) := by decide +kernel
theorem dX6_of_23 : decode cX6_of 23 = .ok (.invokevirtual 80, 3) := by decide +kernel
theorem dX6_of_26 : decode cX6_of 26 = .ok (.ireturn, 1) := by decide +kernel
theorem dX6_of_27 : decode cX6_of 27 = .ok (.iload_n 2, 1) := by decide +kernel
theorem dX6_of_28 : decode cX6_of 28 = .ok (.ifCond .ne 17, 3) := by decide +kernel
theorem dX6_of_31 : decode cX6_of 31 = .ok (.aload_n 0, 1) := by decide +kernel
theorem dX6_of_32 : decode cX6_of 32 = .ok (.getfield 24, 3) := by decide +kernel
theorem dX6_of_35 : decode cX6_of 35 = .ok (.getfield 114, 3) := by decide +kernel
theorem dX6_of_38 : decode cX6_of 38 = .ok (.iload_n 1, 1) := by decide +kernel
theorem dX6_of_39 : decode cX6_of 39 = .ok (.iaload, 1) := by decide +kernel
theorem dX6_of_40 : decode cX6_of 40 = .ok (.sipush 1000, 3) := by decide +kernel
theorem dX6_of_43 : decode cX6_of 43 = .ok (.iadd, 1) := by decide +kernel
theorem dX6_of_44 : decode cX6_of 44 = .ok (.ireturn, 1) := by decide +kernel
theorem dX6_of_45 : decode cX6_of 45 = .ok (.iload_n 2, 1) := by decide +kernel
theorem dX6_of_46 : decode cX6_of 46 = .ok (.iconst 1, 1) := by decide +kernel
theorem dX6_of_47 : decode cX6_of 47 = .ok (.if_icmp .ne 14, 3) := by decide +kernel
theorem dX6_of_50 : decode cX6_of 50 = .ok (.aload_n 0, 1) := by decide +kernel
theorem dX6_of_51 : decode cX6_of 51 = .ok (.getfield 24, 3) := by decide +kernel
theorem dX6_of_54 : decode cX6_of 54 = .ok (.iload_n 1, 1) := by decide +kernel
theorem dX6_of_55 : decode cX6_of 55 = .ok (.invokevirtual 95, 3) := by decide +kernel
theorem dX6_of_58 : decode cX6_of 58 = .ok (.goto 14, 3) := by decide +kernel
theorem dX6_of_61 : decode cX6_of 61 = .ok (.aload_n 0, 1) := by decide +kernel
theorem dX6_of_62 : decode cX6_of 62 = .ok (.getfield 24, 3) := by decide +kernel
theorem dX6_of_65 : decode cX6_of 65 = .ok (.iload_n 1, 1) := by decide +kernel
theorem dX6_of_66 : decode cX6_of 66 = .ok (.invokevirtual 143, 3) := by decide +kernel
theorem dX6_of_69 : decode cX6_of 69 = .ok (.invokestatic 102, 3) := by decide +kernel
theorem dX6_of_72 : decode cX6_of 72 = .ok (.ireturn, 1) := by decide +kernel
theorem dX6_stable_0 : decode cX6_stable 0 = .ok (.aload_n 0, 1) := by decide +kernel
theorem dX6_stable_1 : decode cX6_stable 1 = .ok (.getfield 24, 3) := by decide +kernel
theorem dX6_stable_4 : decode cX6_stable 4 = .ok (.invokevirtual 146, 3) := by decide +kernel
theorem dX6_stable_7 : decode cX6_stable 7 = .ok (.invokestatic 102, 3) := by decide +kernel
theorem dX6_stable_10 : decode cX6_stable 10 = .ok (.ireturn, 1) := by decide +kernel
theorem dX6_burns_0 : decode cX6_burns 0 = .ok (.iload_n 1, 1) := by decide +kernel
theorem dX6_burns_1 : decode cX6_burns 1 = .ok (.ifCond .lt 8, 3) := by decide +kernel
theorem dX6_burns_4 : decode cX6_burns 4 = .ok (.iload_n 1, 1) := by decide +kernel
theorem dX6_burns_5 : decode cX6_burns 5 = .ok (.iconst 2, 1) := by decide +kernel
theorem dX6_burns_6 : decode cX6_burns 6 = .ok (.if_icmp .le 10, 3) := by decide +kernel
theorem dX6_burns_9 : decode cX6_burns 9 = .ok (.aload_n 0, 1) := by decide +kernel
theorem dX6_burns_10 : decode cX6_burns 10 = .ok (.bipush (-2), 2) := by decide +kernel
theorem dX6_burns_12 : decode cX6_burns 12 = .ok (.invokevirtual 80, 3) := by decide +kernel
theorem dX6_burns_15 : decode cX6_burns 15 = .ok (.ireturn, 1) := by decide +kernel
theorem dX6_burns_16 : decode cX6_burns 16 = .ok (.aload_n 0, 1) := by decide +kernel
theorem dX6_burns_17 : decode cX6_burns 17 = .ok (.getfield 24, 3) := by decide +kernel
theorem dX6_burns_20 : decode cX6_burns 20 = .ok (.invokevirtual 146, 3) := by decide +kernel
theorem dX6_burns_23 : decode cX6_burns 23 = .ok (.ifCond .ne 10, 3) := by decide +kernel
theorem dX6_burns_26 : decode cX6_burns 26 = .ok (.aload_n 0, 1) := by decide +kernel
theorem dX6_burns_27 : decode cX6_burns 27 = .ok (.bipush (-3), 2) := by decide +kernel
theorem dX6_burns_29 : decode cX6_burns 29 = .ok (.invokevirtual 80, 3) := by decide +kernel
theorem dX6_burns_32 : decode cX6_burns 32 = .ok (.ireturn, 1) := by decide +kernel
theorem dX6_burns_33 : decode cX6_burns 33 = .ok (.iconst 1, 1) := by decide +kernel
theorem dX6_burns_34 : decode cX6_burns 34 = .ok (.istore_n 2, 1) := by decide +kernel
theorem dX6_burns_35 : decode cX6_burns 35 = .ok (.iconst 0, 1) := by decide +kernel
theorem dX6_burns_36 : decode cX6_burns 36 = .ok (.istore_n 3, 1) := by decide +kernel
theorem dX6_burns_37 : decode cX6_burns 37 = .ok (.iconst 0, 1) := by decide +kernel
theorem dX6_burns_38 : decode cX6_burns 38 = .ok (.istore 4, 2) := by decide +kernel
theorem dX6_burns_40 : decode cX6_burns 40 = .ok (.iload 4, 2) := by decide +kernel
theorem dX6_burns_42 : decode cX6_burns 42 = .ok (.aload_n 0, 1) := by decide +kernel
theorem dX6_burns_43 : decode cX6_burns 43 = .ok (.getfield 24, 3) := by decide +kernel
theorem dX6_burns_46 : decode cX6_burns 46 = .ok (.getfield 54, 3) := by decide +kernel
theorem dX6_burns_49 : decode cX6_burns 49 = .ok (.if_icmp .ge 32, 3) := by decide +kernel
theorem dX6_burns_52 : decode cX6_burns 52 = .ok (.aload_n 0, 1) := by decide +kernel
theorem dX6_burns_53 : decode cX6_burns 53 = .ok (.getfield 24, 3) := by decide +kernel
theorem dX6_burns_56 : decode cX6_burns 56 = .ok (.iload_n 2, 1) := by decide +kernel
theorem dX6_burns_57 : decode cX6_burns 57 = .ok (.invokevirtual 149, 3) := by decide +kernel
theorem dX6_burns_60 : decode cX6_burns 60 = .ok (.istore 5, 2) := by decide +kernel
theorem dX6_burns_62 : decode cX6_burns 62 = .ok (.iload 5, 2) := by decide +kernel
theorem dX6_burns_64 : decode cX6_burns 64 = .ok (.ifCond .eq 6, 3) := by decide +kernel
theorem dX6_burns_67 : decode cX6_burns 67 = .ok (.iinc 3 1, 3) := by decide +kernel
theorem dX6_burns_70 : decode cX6_burns 70 = .ok (.iload_n 2, 1) := by decide +kernel
theorem dX6_burns_71 : decode cX6_burns 71 = .ok (.iload 5, 2) := by decide +kernel
theorem dX6_burns_73 : decode cX6_burns 73 = .ok (.ior, 1) := by decide +kernel
theorem dX6_burns_74 : decode cX6_burns 74 = .ok (.istore_n 2, 1) := by decide +kernel
theorem dX6_burns_75 : decode cX6_burns 75 = .ok (.iinc 4 1, 3) := by decide +kernel
theorem dX6_burns_78 : decode cX6_burns 78 = .ok (.goto (-38), 3) := by decide +kernel
theorem dX6_burns_81 : decode cX6_burns 81 = .ok (.iload_n 1, 1) := by decide +kernel
theorem dX6_burns_82 : decode cX6_burns 82 = .ok (.ifCond .ne 5, 3) := by decide +kernel
theorem dX6_burns_85 : decode cX6_burns 85 = .ok (.iload_n 2, 1) := by decide +kernel
theorem dX6_burns_86 : decode cX6_burns 86 = .ok (.ireturn, 1) := by decide +kernel
theorem dX6_burns_87 : decode cX6_burns 87 = .ok (.iload_n 1, 1) := by decide +kernel
theorem dX6_burns_88 : decode cX6_burns 88 = .ok (.iconst 1, 1) := by decide +kernel
theorem dX6_burns_89 : decode cX6_burns 89 = .ok (.if_icmp .ne 7, 3) := by decide +kernel
theorem dX6_burns_92 : decode cX6_burns 92 = .ok (.iload_n 3, 1) := by decide +kernel
theorem dX6_burns_93 : decode cX6_burns 93 = .ok (.goto 22, 3) := by decide +kernel
theorem dX6_burns_96 : decode cX6_burns 96 = .ok (.iload_n 2, 1) := by decide +kernel
theorem dX6_burns_97 : decode cX6_burns 97 = .ok (.aload_n 0, 1) := by decide +kernel
theorem dX6_burns_98 : decode cX6_burns 98 = .ok (.getfield 24, 3) := by decide +kernel
theorem dX6_burns_101 : decode cX6_burns 101 = .ok (.invokevirtual 152, 3) := by decide +kernel
theorem dX6_burns_104 : decode cX6_burns 104 = .ok (.if_icmp .ne 7, 3) := by decide +kernel
theorem dX6_burns_107 : decode cX6_burns 107 = .ok (.iconst 1, 1) := by decide +kernel
theorem dX6_burns_108 : decode cX6_burns 108 = .ok (.goto 4, 3) := by decide +kernel
theorem dX6_burns_111 : decode cX6_burns 111 = .ok (.iconst 0, 1) := by decide +kernel
theorem dX6_burns_112 : decode cX6_burns 112 = .ok (.invokestatic 102, 3) := by decide +kernel
theorem dX6_burns_115 : decode cX6_burns 115 = .ok (.ireturn, 1) := by decide +kernel
theorem dX6_trees_0 : decode cX6_trees 0 = .ok (.aload_n 0, 1) := by decide +kernel
theorem dX6_trees_1 : decode cX6_trees 1 = .ok (.getfield 29, 3) := by decide +kernel
theorem dX6_trees_4 : decode cX6_trees 4 = .ok (.aload_n 0, 1) := by decide +kernel
theorem dX6_trees_5 : decode cX6_trees 5 = .ok (.getfield 24, 3) := by decide +kernel
theorem dX6_trees_8 : decode cX6_trees 8 = .ok (.iconst 0, 1) := by decide +kernel
theorem dX6_trees_9 : decode cX6_trees 9 = .ok (.invokevirtual 155, 3) := by decide +kernel
theorem dX6_trees_12 : decode cX6_trees 12 = .ok (.aload_n 0, 1) := by decide +kernel
theorem dX6_trees_13 : decode cX6_trees 13 = .ok (.getfield 29, 3) := by decide +kernel
theorem dX6_trees_16 : decode cX6_trees 16 = .ok (.invokevirtual 161, 3) := by decide +kernel
theorem dX6_trees_19 : decode cX6_trees 19 = .ok (.l2i, 1) := by decide +kernel
theorem dX6_trees_20 : decode cX6_trees 20 = .ok (.ireturn, 1) := by decide +kernel
theorem dX6_parts_0 : decode cX6_parts 0 = .ok (.iload_n 1, 1) := by decide +kernel
theorem dX6_parts_1 : decode cX6_parts 1 = .ok (.iconst (-1), 1) := by decide +kernel
theorem dX6_parts_2 : decode cX6_parts 2 = .ok (.if_icmp .ge 10, 3) := by decide +kernel
theorem dX6_parts_5 : decode cX6_parts 5 = .ok (.aload_n 0, 1) := by decide +kernel
theorem dX6_parts_6 : decode cX6_parts 6 = .ok (.bipush (-2), 2) := by decide +kernel
theorem dX6_parts_8 : decode cX6_parts 8 = .ok (.invokevirtual 80, 3) := by decide +kernel
theorem dX6_parts_11 : decode cX6_parts 11 = .ok (.ireturn, 1) := by decide +kernel
theorem dX6_parts_12 : decode cX6_parts 12 = .ok (.aload_n 0, 1) := by decide +kernel
theorem dX6_parts_13 : decode cX6_parts 13 = .ok (.getfield 24, 3) := by decide +kernel
theorem dX6_parts_16 : decode cX6_parts 16 = .ok (.invokevirtual 98, 3) := by decide +kernel
theorem dX6_parts_19 : decode cX6_parts 19 = .ok (.ifCond .ne 10, 3) := by decide +kernel
theorem dX6_parts_22 : decode cX6_parts 22 = .ok (.aload_n 0, 1) := by decide +kernel
theorem dX6_parts_23 : decode cX6_parts 23 = .ok (.bipush (-3), 2) := by decide +kernel
theorem dX6_parts_25 : decode cX6_parts 25 = .ok (.invokevirtual 80, 3) := by decide +kernel
theorem dX6_parts_28 : decode cX6_parts 28 = .ok (.ireturn, 1) := by decide +kernel
theorem dX6_parts_29 : decode cX6_parts 29 = .ok (.aload_n 0, 1) := by decide +kernel
theorem dX6_parts_30 : decode cX6_parts 30 = .ok (.getfield 29, 3) := by decide +kernel
theorem dX6_parts_33 : decode cX6_parts 33 = .ok (.aload_n 0, 1) := by decide +kernel
theorem dX6_parts_34 : decode cX6_parts 34 = .ok (.getfield 24, 3) := by decide +kernel
theorem dX6_parts_37 : decode cX6_parts 37 = .ok (.iconst 0, 1) := by decide +kernel
theorem dX6_parts_38 : decode cX6_parts 38 = .ok (.invokevirtual 155, 3) := by decide +kernel
theorem dX6_parts_41 : decode cX6_parts 41 = .ok (.iconst 0, 1) := by decide +kernel
theorem dX6_parts_42 : decode cX6_parts 42 = .ok (.istore_n 2, 1) := by decide +kernel
theorem dX6_parts_43 : decode cX6_parts 43 = .ok (.lconst 1, 1) := by decide +kernel
theorem dX6_parts_44 : decode cX6_parts 44 = .ok (.lstore_n 3, 1) := by decide +kernel
theorem dX6_parts_45 : decode cX6_parts 45 = .ok (.iconst 1, 1) := by decide +kernel
theorem dX6_parts_46 : decode cX6_parts 46 = .ok (.istore 5, 2) := by decide +kernel
theorem dX6_parts_48 : decode cX6_parts 48 = .ok (.iload 5, 2) := by decide +kernel
theorem dX6_parts_50 : decode cX6_parts 50 = .ok (.aload_n 0, 1) := by decide +kernel
theorem dX6_parts_51 : decode cX6_parts 51 = .ok (.getfield 24, 3) := by decide +kernel
theorem dX6_parts_54 : decode cX6_parts 54 = .ok (.getfield 54, 3) := by decide +kernel
theorem dX6_parts_57 : decode cX6_parts 57 = .ok (.if_icmp .ge 58, 3) := by decide +kernel
theorem dX6_parts_60 : decode cX6_parts 60 = .ok (.aload_n 0, 1) := by decide +kernel
theorem dX6_parts_61 : decode cX6_parts 61 = .ok (.getfield 29, 3) := by decide +kernel
theorem dX6_parts_64 : decode cX6_parts 64 = .ok (.iload 5, 2) := by decide +kernel
theorem dX6_parts_66 : decode cX6_parts 66 = .ok (.invokevirtual 165, 3) := by decide +kernel
theorem dX6_parts_69 : decode cX6_parts 69 = .ok (.lstore 6, 2) := by decide +kernel
theorem dX6_parts_71 : decode cX6_parts 71 = .ok (.lload_n 3, 1) := by decide +kernel
theorem dX6_parts_72 : decode cX6_parts 72 = .ok (.lconst 0, 1) := by decide +kernel
theorem dX6_parts_73 : decode cX6_parts 73 = .ok (.lcmp, 1) := by decide +kernel
theorem dX6_parts_74 : decode cX6_parts 74 = .ok (.ifCond .le 10, 3) := by decide +kernel
theorem dX6_parts_77 : decode cX6_parts 77 = .ok (.lload 6, 2) := by decide +kernel
theorem dX6_parts_79 : decode cX6_parts 79 = .ok (.lload_n 3, 1) := by decide +kernel
theorem dX6_parts_80 : decode cX6_parts 80 = .ok (.ldiv, 1) := by decide +kernel
theorem dX6_parts_81 : decode cX6_parts 81 = .ok (.goto 4, 3) := by decide +kernel
theorem dX6_parts_84 : decode cX6_parts 84 = .ok (.lconst 1, 1) := by decide +kernel
theorem dX6_parts_85 : decode cX6_parts 85 = .ok (.lstore 8, 2) := by decide +kernel
theorem dX6_parts_87 : decode cX6_parts 87 = .ok (.lload 6, 2) := by decide +kernel
theorem dX6_parts_89 : decode cX6_parts 89 = .ok (.lstore_n 3, 1) := by decide +kernel
theorem dX6_parts_90 : decode cX6_parts 90 = .ok (.lload 8, 2) := by decide +kernel
theorem dX6_parts_92 : decode cX6_parts 92 = .ok (.lconst 1, 1) := by decide +kernel
theorem dX6_parts_93 : decode cX6_parts 93 = .ok (.lcmp, 1) := by decide +kernel
theorem dX6_parts_94 : decode cX6_parts 94 = .ok (.ifCond .le 15, 3) := by decide +kernel
theorem dX6_parts_97 : decode cX6_parts 97 = .ok (.iload_n 2, 1) := by decide +kernel
theorem dX6_parts_98 : decode cX6_parts 98 = .ok (.iload_n 1, 1) := by decide +kernel
theorem dX6_parts_99 : decode cX6_parts 99 = .ok (.if_icmp .ne 7, 3) := by decide +kernel
theorem dX6_parts_102 : decode cX6_parts 102 = .ok (.lload 8, 2) := by decide +kernel
theorem dX6_parts_104 : decode cX6_parts 104 = .ok (.l2i, 1) := by decide +kernel
theorem dX6_parts_105 : decode cX6_parts 105 = .ok (.ireturn, 1) := by decide +kernel
theorem dX6_parts_106 : decode cX6_parts 106 = .ok (.iinc 2 1, 3) := by decide +kernel
theorem dX6_parts_109 : decode cX6_parts 109 = .ok (.iinc 5 1, 3) := by decide +kernel
theorem dX6_parts_112 : decode cX6_parts 112 = .ok (.goto (-64), 3) := by decide +kernel
theorem dX6_parts_115 : decode cX6_parts 115 = .ok (.iload_n 1, 1) := by decide +kernel
theorem dX6_parts_116 : decode cX6_parts 116 = .ok (.iconst (-1), 1) := by decide +kernel
theorem dX6_parts_117 : decode cX6_parts 117 = .ok (.if_icmp .ne 7, 3) := by decide +kernel
theorem dX6_parts_120 : decode cX6_parts 120 = .ok (.iload_n 2, 1) := by decide +kernel
theorem dX6_parts_121 : decode cX6_parts 121 = .ok (.goto 4, 3) := by decide +kernel
theorem dX6_parts_124 : decode cX6_parts 124 = .ok (.iconst (-1), 1) := by decide +kernel
theorem dX6_parts_125 : decode cX6_parts 125 = .ok (.ireturn, 1) := by decide +kernel
theorem dX6_identity_0 : decode cX6_identity 0 = .ok (.aload_n 0, 1) := by decide +kernel
theorem dX6_identity_1 : decode cX6_identity 1 = .ok (.getfield 24, 3) := by decide +kernel
theorem dX6_identity_4 : decode cX6_identity 4 = .ok (.iload_n 1, 1) := by decide +kernel
theorem dX6_identity_5 : decode cX6_identity 5 = .ok (.invokevirtual 91, 3) := by decide +kernel
theorem dX6_identity_8 : decode cX6_identity 8 = .ok (.ifCond .ne 10, 3) := by decide +kernel
theorem dX6_identity_11 : decode cX6_identity 11 = .ok (.aload_n 0, 1) := by decide +kernel
theorem dX6_identity_12 : decode cX6_identity 12 = .ok (.bipush (-2), 2) := by decide +kernel
theorem dX6_identity_14 : decode cX6_identity 14 = .ok (.invokevirtual 80, 3) := by decide +kernel
theorem dX6_identity_17 : decode cX6_identity 17 = .ok (.ireturn, 1) := by decide +kernel
theorem dX6_identity_18 : decode cX6_identity 18 = .ok (.aload_n 0, 1) := by decide +kernel
theorem dX6_identity_19 : decode cX6_identity 19 = .ok (.getfield 24, 3) := by decide +kernel
theorem dX6_identity_22 : decode cX6_identity 22 = .ok (.invokevirtual 98, 3) := by decide +kernel
theorem dX6_identity_25 : decode cX6_identity 25 = .ok (.ifCond .ne 10, 3) := by decide +kernel
theorem dX6_identity_28 : decode cX6_identity 28 = .ok (.aload_n 0, 1) := by decide +kernel
theorem dX6_identity_29 : decode cX6_identity 29 = .ok (.bipush (-3), 2) := by decide +kernel
theorem dX6_identity_31 : decode cX6_identity 31 = .ok (.invokevirtual 80, 3) := by decide +kernel
theorem dX6_identity_34 : decode cX6_identity 34 = .ok (.ireturn, 1) := by decide +kernel
theorem dX6_identity_35 : decode cX6_identity 35 = .ok (.aload_n 0, 1) := by decide +kernel
theorem dX6_identity_36 : decode cX6_identity 36 = .ok (.getfield 51, 3) := by decide +kernel
theorem dX6_identity_39 : decode cX6_identity 39 = .ok (.iconst 0, 1) := by decide +kernel
theorem dX6_identity_40 : decode cX6_identity 40 = .ok (.invokestatic 169, 3) := by decide +kernel
theorem dX6_identity_43 : decode cX6_identity 43 = .ok (.aload_n 0, 1) := by decide +kernel
theorem dX6_identity_44 : decode cX6_identity 44 = .ok (.getfield 29, 3) := by decide +kernel
theorem dX6_identity_47 : decode cX6_identity 47 = .ok (.aload_n 0, 1) := by decide +kernel
theorem dX6_identity_48 : decode cX6_identity 48 = .ok (.getfield 24, 3) := by decide +kernel
theorem dX6_identity_51 : decode cX6_identity 51 = .ok (.iconst 0, 1) := by decide +kernel
theorem dX6_identity_52 : decode cX6_identity 52 = .ok (.invokevirtual 175, 3) := by decide +kernel
theorem dX6_identity_55 : decode cX6_identity 55 = .ok (.aload_n 0, 1) := by decide +kernel
theorem dX6_identity_56 : decode cX6_identity 56 = .ok (.getfield 29, 3) := by decide +kernel
theorem dX6_identity_59 : decode cX6_identity 59 = .ok (.aload_n 0, 1) := by decide +kernel
theorem dX6_identity_60 : decode cX6_identity 60 = .ok (.getfield 51, 3) := by decide +kernel
theorem dX6_identity_63 : decode cX6_identity 63 = .ok (.invokevirtual 178, 3) := by decide +kernel
theorem dX6_identity_66 : decode cX6_identity 66 = .ok (.iload_n 1, 1) := by decide +kernel
theorem dX6_identity_67 : decode cX6_identity 67 = .ok (.ifCond .ne 7, 3) := by decide +kernel
theorem dX6_identity_70 : decode cX6_identity 70 = .ok (.iconst 0, 1) := by decide +kernel
theorem dX6_identity_71 : decode cX6_identity 71 = .ok (.goto 9, 3) := by decide +kernel
theorem dX6_identity_74 : decode cX6_identity 74 = .ok (.aload_n 0, 1) := by decide +kernel
theorem dX6_identity_75 : decode cX6_identity 75 = .ok (.getfield 51, 3) := by decide +kernel
theorem dX6_identity_78 : decode cX6_identity 78 = .ok (.iload_n 1, 1) := by decide +kernel
theorem dX6_identity_79 : decode cX6_identity 79 = .ok (.iaload, 1) := by decide +kernel
theorem dX6_identity_80 : decode cX6_identity 80 = .ok (.ireturn, 1) := by decide +kernel
theorem dX6_recurrent_0 : decode cX6_recurrent 0 = .ok (.aload_n 0, 1) := by decide +kernel
theorem dX6_recurrent_1 : decode cX6_recurrent 1 = .ok (.getfield 24, 3) := by decide +kernel
theorem dX6_recurrent_4 : decode cX6_recurrent 4 = .ok (.iload_n 1, 1) := by decide +kernel
theorem dX6_recurrent_5 : decode cX6_recurrent 5 = .ok (.invokevirtual 91, 3) := by decide +kernel
theorem dX6_recurrent_8 : decode cX6_recurrent 8 = .ok (.ifCond .ne 10, 3) := by decide +kernel
theorem dX6_recurrent_11 : decode cX6_recurrent 11 = .ok (.aload_n 0, 1) := by decide +kernel
theorem dX6_recurrent_12 : decode cX6_recurrent 12 = .ok (.bipush (-2), 2) := by decide +kernel
theorem dX6_recurrent_14 : decode cX6_recurrent 14 = .ok (.invokevirtual 80, 3) := by decide +kernel
theorem dX6_recurrent_17 : decode cX6_recurrent 17 = .ok (.ireturn, 1) := by decide +kernel
theorem dX6_recurrent_18 : decode cX6_recurrent 18 = .ok (.aload_n 0, 1) := by decide +kernel
theorem dX6_recurrent_19 : decode cX6_recurrent 19 = .ok (.getfield 24, 3) := by decide +kernel
theorem dX6_recurrent_22 : decode cX6_recurrent 22 = .ok (.invokevirtual 98, 3) := by decide +kernel
theorem dX6_recurrent_25 : decode cX6_recurrent 25 = .ok (.ifCond .eq 13, 3) := by decide +kernel
theorem dX6_recurrent_28 : decode cX6_recurrent 28 = .ok (.aload_n 0, 1) := by decide +kernel
theorem dX6_recurrent_29 : decode cX6_recurrent 29 = .ok (.getfield 24, 3) := by decide +kernel
theorem dX6_recurrent_32 : decode cX6_recurrent 32 = .ok (.invokevirtual 182, 3) := by decide +kernel
theorem dX6_recurrent_35 : decode cX6_recurrent 35 = .ok (.ifCond .ne 10, 3) := by decide +kernel
theorem dX6_recurrent_38 : decode cX6_recurrent 38 = .ok (.aload_n 0, 1) := by decide +kernel
theorem dX6_recurrent_39 : decode cX6_recurrent 39 = .ok (.bipush (-3), 2) := by decide +kernel
theorem dX6_recurrent_41 : decode cX6_recurrent 41 = .ok (.invokevirtual 80, 3) := by decide +kernel
theorem dX6_recurrent_44 : decode cX6_recurrent 44 = .ok (.ireturn, 1) := by decide +kernel
theorem dX6_recurrent_45 : decode cX6_recurrent 45 = .ok (.aload_n 0, 1) := by decide +kernel
theorem dX6_recurrent_46 : decode cX6_recurrent 46 = .ok (.getfield 24, 3) := by decide +kernel
theorem dX6_recurrent_49 : decode cX6_recurrent 49 = .ok (.getfield 114, 3) := by decide +kernel
theorem dX6_recurrent_52 : decode cX6_recurrent 52 = .ok (.aload_n 0, 1) := by decide +kernel
theorem dX6_recurrent_53 : decode cX6_recurrent 53 = .ok (.getfield 51, 3) := by decide +kernel
theorem dX6_recurrent_56 : decode cX6_recurrent 56 = .ok (.invokestatic 185, 3) := by decide +kernel
theorem dX6_recurrent_59 : decode cX6_recurrent 59 = .ok (.aload_n 0, 1) := by decide +kernel
theorem dX6_recurrent_60 : decode cX6_recurrent 60 = .ok (.getfield 29, 3) := by decide +kernel
theorem dX6_recurrent_63 : decode cX6_recurrent 63 = .ok (.aload_n 0, 1) := by decide +kernel
theorem dX6_recurrent_64 : decode cX6_recurrent 64 = .ok (.getfield 24, 3) := by decide +kernel
theorem dX6_recurrent_67 : decode cX6_recurrent 67 = .ok (.iconst 0, 1) := by decide +kernel
theorem dX6_recurrent_68 : decode cX6_recurrent 68 = .ok (.invokevirtual 175, 3) := by decide +kernel
theorem dX6_recurrent_71 : decode cX6_recurrent 71 = .ok (.aload_n 0, 1) := by decide +kernel
theorem dX6_recurrent_72 : decode cX6_recurrent 72 = .ok (.getfield 29, 3) := by decide +kernel
theorem dX6_recurrent_75 : decode cX6_recurrent 75 = .ok (.aload_n 0, 1) := by decide +kernel
theorem dX6_recurrent_76 : decode cX6_recurrent 76 = .ok (.getfield 51, 3) := by decide +kernel
theorem dX6_recurrent_79 : decode cX6_recurrent 79 = .ok (.invokevirtual 178, 3) := by decide +kernel
theorem dX6_recurrent_82 : decode cX6_recurrent 82 = .ok (.iload_n 1, 1) := by decide +kernel
theorem dX6_recurrent_83 : decode cX6_recurrent 83 = .ok (.ifCond .ne 7, 3) := by decide +kernel
theorem dX6_recurrent_86 : decode cX6_recurrent 86 = .ok (.iconst 0, 1) := by decide +kernel
theorem dX6_recurrent_87 : decode cX6_recurrent 87 = .ok (.goto 9, 3) := by decide +kernel
theorem dX6_recurrent_90 : decode cX6_recurrent 90 = .ok (.aload_n 0, 1) := by decide +kernel
theorem dX6_recurrent_91 : decode cX6_recurrent 91 = .ok (.getfield 51, 3) := by decide +kernel
theorem dX6_recurrent_94 : decode cX6_recurrent 94 = .ok (.iload_n 1, 1) := by decide +kernel
theorem dX6_recurrent_95 : decode cX6_recurrent 95 = .ok (.iaload, 1) := by decide +kernel
theorem dX6_recurrent_96 : decode cX6_recurrent 96 = .ok (.ireturn, 1) := by decide +kernel
theorem dX6_order_0 : decode cX6_order 0 = .ok (.aload_n 0, 1) := by decide +kernel
theorem dX6_order_1 : decode cX6_order 1 = .ok (.getfield 24, 3) := by decide +kernel
theorem dX6_order_4 : decode cX6_order 4 = .ok (.invokevirtual 98, 3) := by decide +kernel
theorem dX6_order_7 : decode cX6_order 7 = .ok (.ifCond .eq 13, 3) := by decide +kernel
theorem dX6_order_10 : decode cX6_order 10 = .ok (.aload_n 0, 1) := by decide +kernel
theorem dX6_order_11 : decode cX6_order 11 = .ok (.getfield 24, 3) := by decide +kernel
theorem dX6_order_14 : decode cX6_order 14 = .ok (.invokevirtual 182, 3) := by decide +kernel
theorem dX6_order_17 : decode cX6_order 17 = .ok (.ifCond .ne 10, 3) := by decide +kernel
theorem dX6_order_20 : decode cX6_order 20 = .ok (.aload_n 0, 1) := by decide +kernel
theorem dX6_order_21 : decode cX6_order 21 = .ok (.bipush (-3), 2) := by decide +kernel
theorem dX6_order_23 : decode cX6_order 23 = .ok (.invokevirtual 80, 3) := by decide +kernel
theorem dX6_order_26 : decode cX6_order 26 = .ok (.ireturn, 1) := by decide +kernel
theorem dX6_order_27 : decode cX6_order 27 = .ok (.aload_n 0, 1) := by decide +kernel
theorem dX6_order_28 : decode cX6_order 28 = .ok (.getfield 29, 3) := by decide +kernel
theorem dX6_order_31 : decode cX6_order 31 = .ok (.aload_n 0, 1) := by decide +kernel
theorem dX6_order_32 : decode cX6_order 32 = .ok (.getfield 24, 3) := by decide +kernel
theorem dX6_order_35 : decode cX6_order 35 = .ok (.iconst 0, 1) := by decide +kernel
theorem dX6_order_36 : decode cX6_order 36 = .ok (.invokevirtual 175, 3) := by decide +kernel
theorem dX6_order_39 : decode cX6_order 39 = .ok (.aload_n 0, 1) := by decide +kernel
theorem dX6_order_40 : decode cX6_order 40 = .ok (.getfield 29, 3) := by decide +kernel
theorem dX6_order_43 : decode cX6_order 43 = .ok (.aload_n 0, 1) := by decide +kernel
theorem dX6_order_44 : decode cX6_order 44 = .ok (.getfield 24, 3) := by decide +kernel
theorem dX6_order_47 : decode cX6_order 47 = .ok (.getfield 114, 3) := by decide +kernel
theorem dX6_order_50 : decode cX6_order 50 = .ok (.invokevirtual 189, 3) := by decide +kernel
theorem dX6_order_53 : decode cX6_order 53 = .ok (.l2i, 1) := by decide +kernel
theorem dX6_order_54 : decode cX6_order 54 = .ok (.ireturn, 1) := by decide +kernel
theorem dX6_heaps_0 : decode cX6_heaps 0 = .ok (.iload_n 1, 1) := by decide +kernel
theorem dX6_heaps_1 : decode cX6_heaps 1 = .ok (.ifCond .lt 8, 3) := by decide +kernel
theorem dX6_heaps_4 : decode cX6_heaps 4 = .ok (.iload_n 1, 1) := by decide +kernel
theorem dX6_heaps_5 : decode cX6_heaps 5 = .ok (.iconst 1, 1) := by decide +kernel
theorem dX6_heaps_6 : decode cX6_heaps 6 = .ok (.if_icmp .le 10, 3) := by decide +kernel
theorem dX6_heaps_9 : decode cX6_heaps 9 = .ok (.aload_n 0, 1) := by decide +kernel
theorem dX6_heaps_10 : decode cX6_heaps 10 = .ok (.bipush (-2), 2) := by decide +kernel
theorem dX6_heaps_12 : decode cX6_heaps 12 = .ok (.invokevirtual 80, 3) := by decide +kernel
theorem dX6_heaps_15 : decode cX6_heaps 15 = .ok (.ireturn, 1) := by decide +kernel
theorem dX6_heaps_16 : decode cX6_heaps 16 = .ok (.aload_n 0, 1) := by decide +kernel
theorem dX6_heaps_17 : decode cX6_heaps 17 = .ok (.getfield 24, 3) := by decide +kernel
theorem dX6_heaps_20 : decode cX6_heaps 20 = .ok (.invokevirtual 98, 3) := by decide +kernel
theorem dX6_heaps_23 : decode cX6_heaps 23 = .ok (.ifCond .ne 10, 3) := by decide +kernel
theorem dX6_heaps_26 : decode cX6_heaps 26 = .ok (.aload_n 0, 1) := by decide +kernel
theorem dX6_heaps_27 : decode cX6_heaps 27 = .ok (.bipush (-3), 2) := by decide +kernel
theorem dX6_heaps_29 : decode cX6_heaps 29 = .ok (.invokevirtual 80, 3) := by decide +kernel
theorem dX6_heaps_32 : decode cX6_heaps 32 = .ok (.ireturn, 1) := by decide +kernel
theorem dX6_heaps_33 : decode cX6_heaps 33 = .ok (.iload_n 1, 1) := by decide +kernel
theorem dX6_heaps_34 : decode cX6_heaps 34 = .ok (.ifCond .ne 13, 3) := by decide +kernel
theorem dX6_heaps_37 : decode cX6_heaps 37 = .ok (.aload_n 0, 1) := by decide +kernel
theorem dX6_heaps_38 : decode cX6_heaps 38 = .ok (.getfield 24, 3) := by decide +kernel
theorem dX6_heaps_41 : decode cX6_heaps 41 = .ok (.invokevirtual 193, 3) := by decide +kernel
theorem dX6_heaps_44 : decode cX6_heaps 44 = .ok (.goto 7, 3) := by decide +kernel
theorem dX6_heaps_47 : decode cX6_heaps 47 = .ok (.aload_n 0, 1) := by decide +kernel
theorem dX6_heaps_48 : decode cX6_heaps 48 = .ok (.invokevirtual 196, 3) := by decide +kernel
theorem dX6_heaps_51 : decode cX6_heaps 51 = .ok (.ireturn, 1) := by decide +kernel
theorem dX6_rank_0 : decode cX6_rank 0 = .ok (.iload_n 1, 1) := by decide +kernel
theorem dX6_rank_1 : decode cX6_rank 1 = .ok (.ifCond .lt 8, 3) := by decide +kernel
theorem dX6_rank_4 : decode cX6_rank 4 = .ok (.iload_n 1, 1) := by decide +kernel
theorem dX6_rank_5 : decode cX6_rank 5 = .ok (.iconst 3, 1) := by decide +kernel
theorem dX6_rank_6 : decode cX6_rank 6 = .ok (.if_icmp .le 10, 3) := by decide +kernel
theorem dX6_rank_9 : decode cX6_rank 9 = .ok (.aload_n 0, 1) := by decide +kernel
theorem dX6_rank_10 : decode cX6_rank 10 = .ok (.bipush (-2), 2) := by decide +kernel
theorem dX6_rank_12 : decode cX6_rank 12 = .ok (.invokevirtual 80, 3) := by decide +kernel
theorem dX6_rank_15 : decode cX6_rank 15 = .ok (.ireturn, 1) := by decide +kernel
theorem dX6_rank_16 : decode cX6_rank 16 = .ok (.iload_n 1, 1) := by decide +kernel
theorem dX6_rank_17 : decode cX6_rank 17 = .ok (.ifCond .ne 25, 3) := by decide +kernel
theorem dX6_rank_20 : decode cX6_rank 20 = .ok (.aload_n 0, 1) := by decide +kernel
theorem dX6_rank_21 : decode cX6_rank 21 = .ok (.getfield 24, 3) := by decide +kernel
theorem dX6_rank_24 : decode cX6_rank 24 = .ok (.getfield 114, 3) := by decide +kernel
theorem dX6_rank_27 : decode cX6_rank 27 = .ok (.aload_n 0, 1) := by decide +kernel
theorem dX6_rank_28 : decode cX6_rank 28 = .ok (.getfield 24, 3) := by decide +kernel
theorem dX6_rank_31 : decode cX6_rank 31 = .ok (.getfield 54, 3) := by decide +kernel
theorem dX6_rank_34 : decode cX6_rank 34 = .ok (.invokestatic 199, 3) := by decide +kernel
theorem dX6_rank_37 : decode cX6_rank 37 = .ok (.sipush 10000, 3) := by decide +kernel
theorem dX6_rank_40 : decode cX6_rank 40 = .ok (.iadd, 1) := by decide +kernel
theorem dX6_rank_41 : decode cX6_rank 41 = .ok (.ireturn, 1) := by decide +kernel
theorem dX6_rank_42 : decode cX6_rank 42 = .ok (.iload_n 1, 1) := by decide +kernel
theorem dX6_rank_43 : decode cX6_rank 43 = .ok (.iconst 1, 1) := by decide +kernel
theorem dX6_rank_44 : decode cX6_rank 44 = .ok (.if_icmp .ne 14, 3) := by decide +kernel
theorem dX6_rank_47 : decode cX6_rank 47 = .ok (.aload_n 0, 1) := by decide +kernel
theorem dX6_rank_48 : decode cX6_rank 48 = .ok (.getfield 24, 3) := by decide +kernel
theorem dX6_rank_51 : decode cX6_rank 51 = .ok (.invokevirtual 203, 3) := by decide +kernel
theorem dX6_rank_54 : decode cX6_rank 54 = .ok (.bipush 10, 2) := by decide +kernel
theorem dX6_rank_56 : decode cX6_rank 56 = .ok (.iadd, 1) := by decide +kernel
theorem dX6_rank_57 : decode cX6_rank 57 = .ok (.ireturn, 1) := by decide +kernel
theorem dX6_rank_58 : decode cX6_rank 58 = .ok (.iload_n 1, 1) := by decide +kernel
theorem dX6_rank_59 : decode cX6_rank 59 = .ok (.iconst 2, 1) := by decide +kernel
theorem dX6_rank_60 : decode cX6_rank 60 = .ok (.if_icmp .ne 20, 3) := by decide +kernel
theorem dX6_rank_63 : decode cX6_rank 63 = .ok (.aload_n 0, 1) := by decide +kernel
theorem dX6_rank_64 : decode cX6_rank 64 = .ok (.getfield 24, 3) := by decide +kernel
theorem dX6_rank_67 : decode cX6_rank 67 = .ok (.getfield 114, 3) := by decide +kernel
theorem dX6_rank_70 : decode cX6_rank 70 = .ok (.aload_n 0, 1) := by decide +kernel
theorem dX6_rank_71 : decode cX6_rank 71 = .ok (.getfield 51, 3) := by decide +kernel
theorem dX6_rank_74 : decode cX6_rank 74 = .ok (.invokestatic 185, 3) := by decide +kernel
theorem dX6_rank_77 : decode cX6_rank 77 = .ok (.goto 14, 3) := by decide +kernel
theorem dX6_rank_80 : decode cX6_rank 80 = .ok (.aload_n 0, 1) := by decide +kernel
theorem dX6_rank_81 : decode cX6_rank 81 = .ok (.getfield 24, 3) := by decide +kernel
theorem dX6_rank_84 : decode cX6_rank 84 = .ok (.aload_n 0, 1) := by decide +kernel
theorem dX6_rank_85 : decode cX6_rank 85 = .ok (.getfield 51, 3) := by decide +kernel
theorem dX6_rank_88 : decode cX6_rank 88 = .ok (.invokevirtual 206, 3) := by decide +kernel
theorem dX6_rank_91 : decode cX6_rank 91 = .ok (.aload_n 0, 1) := by decide +kernel
theorem dX6_rank_92 : decode cX6_rank 92 = .ok (.getfield 24, 3) := by decide +kernel
theorem dX6_rank_95 : decode cX6_rank 95 = .ok (.invokevirtual 98, 3) := by decide +kernel
theorem dX6_rank_98 : decode cX6_rank 98 = .ok (.ifCond .eq 22, 3) := by decide +kernel
theorem dX6_rank_101 : decode cX6_rank 101 = .ok (.aload_n 0, 1) := by decide +kernel
theorem dX6_rank_102 : decode cX6_rank 102 = .ok (.getfield 51, 3) := by decide +kernel
theorem dX6_rank_105 : decode cX6_rank 105 = .ok (.aload_n 0, 1) := by decide +kernel
theorem dX6_rank_106 : decode cX6_rank 106 = .ok (.getfield 24, 3) := by decide +kernel
theorem dX6_rank_109 : decode cX6_rank 109 = .ok (.getfield 54, 3) := by decide +kernel
theorem dX6_rank_112 : decode cX6_rank 112 = .ok (.invokestatic 199, 3) := by decide +kernel
theorem dX6_rank_115 : decode cX6_rank 115 = .ok (.bipush 12, 2) := by decide +kernel
theorem dX6_rank_117 : decode cX6_rank 117 = .ok (.if_icmp .le 10, 3) := by decide +kernel
theorem dX6_rank_120 : decode cX6_rank 120 = .ok (.aload_n 0, 1) := by decide +kernel
theorem dX6_rank_121 : decode cX6_rank 121 = .ok (.bipush (-3), 2) := by decide +kernel
theorem dX6_rank_123 : decode cX6_rank 123 = .ok (.invokevirtual 80, 3) := by decide +kernel
theorem dX6_rank_126 : decode cX6_rank 126 = .ok (.ireturn, 1) := by decide +kernel
theorem dX6_rank_127 : decode cX6_rank 127 = .ok (.aload_n 0, 1) := by decide +kernel
theorem dX6_rank_128 : decode cX6_rank 128 = .ok (.getfield 29, 3) := by decide +kernel
theorem dX6_rank_131 : decode cX6_rank 131 = .ok (.aload_n 0, 1) := by decide +kernel
theorem dX6_rank_132 : decode cX6_rank 132 = .ok (.getfield 24, 3) := by decide +kernel
theorem dX6_rank_135 : decode cX6_rank 135 = .ok (.iconst 0, 1) := by decide +kernel
theorem dX6_rank_136 : decode cX6_rank 136 = .ok (.invokevirtual 175, 3) := by decide +kernel
theorem dX6_rank_139 : decode cX6_rank 139 = .ok (.aload_n 0, 1) := by decide +kernel
theorem dX6_rank_140 : decode cX6_rank 140 = .ok (.getfield 40, 3) := by decide +kernel
theorem dX6_rank_143 : decode cX6_rank 143 = .ok (.aload_n 0, 1) := by decide +kernel
theorem dX6_rank_144 : decode cX6_rank 144 = .ok (.getfield 29, 3) := by decide +kernel
theorem dX6_rank_147 : decode cX6_rank 147 = .ok (.aload_n 0, 1) := by decide +kernel
theorem dX6_rank_148 : decode cX6_rank 148 = .ok (.getfield 51, 3) := by decide +kernel
theorem dX6_rank_151 : decode cX6_rank 151 = .ok (.aload_n 0, 1) := by decide +kernel
theorem dX6_rank_152 : decode cX6_rank 152 = .ok (.getfield 24, 3) := by decide +kernel
theorem dX6_rank_155 : decode cX6_rank 155 = .ok (.invokevirtual 203, 3) := by decide +kernel
theorem dX6_rank_158 : decode cX6_rank 158 = .ok (.invokevirtual 209, 3) := by decide +kernel
theorem dX6_rank_161 : decode cX6_rank 161 = .ok (.iconst 1, 1) := by decide +kernel
theorem dX6_rank_162 : decode cX6_rank 162 = .ok (.iadd, 1) := by decide +kernel
theorem dX6_rank_163 : decode cX6_rank 163 = .ok (.ireturn, 1) := by decide +kernel
theorem dX6_reduced_0 : decode cX6_reduced 0 = .ok (.aload_n 0, 1) := by decide +kernel
theorem dX6_reduced_1 : decode cX6_reduced 1 = .ok (.getfield 24, 3) := by decide +kernel
theorem dX6_reduced_4 : decode cX6_reduced 4 = .ok (.iload_n 1, 1) := by decide +kernel
theorem dX6_reduced_5 : decode cX6_reduced 5 = .ok (.invokevirtual 91, 3) := by decide +kernel
theorem dX6_reduced_8 : decode cX6_reduced 8 = .ok (.ifCond .eq 14, 3) := by decide +kernel
theorem dX6_reduced_11 : decode cX6_reduced 11 = .ok (.aload_n 0, 1) := by decide +kernel
theorem dX6_reduced_12 : decode cX6_reduced 12 = .ok (.getfield 24, 3) := by decide +kernel
theorem dX6_reduced_15 : decode cX6_reduced 15 = .ok (.iload_n 2, 1) := by decide +kernel
theorem dX6_reduced_16 : decode cX6_reduced 16 = .ok (.invokevirtual 91, 3) := by decide +kernel
theorem dX6_reduced_19 : decode cX6_reduced 19 = .ok (.ifCond .ne 10, 3) := by decide +kernel
theorem dX6_reduced_22 : decode cX6_reduced 22 = .ok (.aload_n 0, 1) := by decide +kernel
theorem dX6_reduced_23 : decode cX6_reduced 23 = .ok (.bipush (-2), 2) := by decide +kernel
theorem dX6_reduced_25 : decode cX6_reduced 25 = .ok (.invokevirtual 80, 3) := by decide +kernel
theorem dX6_reduced_28 : decode cX6_reduced 28 = .ok (.ireturn, 1) := by decide +kernel
theorem dX6_reduced_29 : decode cX6_reduced 29 = .ok (.aload_n 0, 1) := by decide +kernel
theorem dX6_reduced_30 : decode cX6_reduced 30 = .ok (.getfield 24, 3) := by decide +kernel
theorem dX6_reduced_33 : decode cX6_reduced 33 = .ok (.invokevirtual 98, 3) := by decide +kernel
theorem dX6_reduced_36 : decode cX6_reduced 36 = .ok (.ifCond .ne 10, 3) := by decide +kernel
theorem dX6_reduced_39 : decode cX6_reduced 39 = .ok (.aload_n 0, 1) := by decide +kernel
theorem dX6_reduced_40 : decode cX6_reduced 40 = .ok (.bipush (-3), 2) := by decide +kernel
theorem dX6_reduced_42 : decode cX6_reduced 42 = .ok (.invokevirtual 80, 3) := by decide +kernel
theorem dX6_reduced_45 : decode cX6_reduced 45 = .ok (.ireturn, 1) := by decide +kernel
theorem dX6_reduced_46 : decode cX6_reduced 46 = .ok (.aload_n 0, 1) := by decide +kernel
theorem dX6_reduced_47 : decode cX6_reduced 47 = .ok (.iload_n 1, 1) := by decide +kernel
theorem dX6_reduced_48 : decode cX6_reduced 48 = .ok (.invokevirtual 213, 3) := by decide +kernel
theorem dX6_reduced_51 : decode cX6_reduced 51 = .ok (.aload_n 0, 1) := by decide +kernel
theorem dX6_reduced_52 : decode cX6_reduced 52 = .ok (.getfield 51, 3) := by decide +kernel
theorem dX6_reduced_55 : decode cX6_reduced 55 = .ok (.iload_n 2, 1) := by decide +kernel
theorem dX6_reduced_56 : decode cX6_reduced 56 = .ok (.iaload, 1) := by decide +kernel
theorem dX6_reduced_57 : decode cX6_reduced 57 = .ok (.sipush 10000, 3) := by decide +kernel
theorem dX6_reduced_60 : decode cX6_reduced 60 = .ok (.iadd, 1) := by decide +kernel
theorem dX6_reduced_61 : decode cX6_reduced 61 = .ok (.ireturn, 1) := by decide +kernel
theorem dX6_won_0 : decode cX6_won 0 = .ok (.aload_n 0, 1) := by decide +kernel
theorem dX6_won_1 : decode cX6_won 1 = .ok (.getfield 24, 3) := by decide +kernel
theorem dX6_won_4 : decode cX6_won 4 = .ok (.invokevirtual 98, 3) := by decide +kernel
theorem dX6_won_7 : decode cX6_won 7 = .ok (.ifCond .ne 10, 3) := by decide +kernel
theorem dX6_won_10 : decode cX6_won 10 = .ok (.aload_n 0, 1) := by decide +kernel
theorem dX6_won_11 : decode cX6_won 11 = .ok (.bipush (-3), 2) := by decide +kernel
theorem dX6_won_13 : decode cX6_won 13 = .ok (.invokevirtual 80, 3) := by decide +kernel
theorem dX6_won_16 : decode cX6_won 16 = .ok (.ireturn, 1) := by decide +kernel
theorem dX6_won_17 : decode cX6_won 17 = .ok (.aload_n 0, 1) := by decide +kernel
theorem dX6_won_18 : decode cX6_won 18 = .ok (.iconst 0, 1) := by decide +kernel
theorem dX6_won_19 : decode cX6_won 19 = .ok (.invokevirtual 213, 3) := by decide +kernel
theorem dX6_won_22 : decode cX6_won 22 = .ok (.aload_n 0, 1) := by decide +kernel
theorem dX6_won_23 : decode cX6_won 23 = .ok (.getfield 51, 3) := by decide +kernel
theorem dX6_won_26 : decode cX6_won 26 = .ok (.iconst 0, 1) := by decide +kernel
theorem dX6_won_27 : decode cX6_won 27 = .ok (.iaload, 1) := by decide +kernel
theorem dX6_won_28 : decode cX6_won 28 = .ok (.ifCond .lt 7, 3) := by decide +kernel
theorem dX6_won_31 : decode cX6_won 31 = .ok (.iconst 1, 1) := by decide +kernel
theorem dX6_won_32 : decode cX6_won 32 = .ok (.goto 4, 3) := by decide +kernel
theorem dX6_won_35 : decode cX6_won 35 = .ok (.iconst 0, 1) := by decide +kernel
theorem dX6_won_36 : decode cX6_won 36 = .ok (.invokestatic 102, 3) := by decide +kernel
theorem dX6_won_39 : decode cX6_won 39 = .ok (.ireturn, 1) := by decide +kernel
theorem dX6_keeps_0 : decode cX6_keeps 0 = .ok (.iload_n 1, 1) := by decide +kernel
theorem dX6_keeps_1 : decode cX6_keeps 1 = .ok (.invokestatic 216, 3) := by decide +kernel
theorem dX6_keeps_4 : decode cX6_keeps 4 = .ok (.ifCond .ne 10, 3) := by decide +kernel
theorem dX6_keeps_7 : decode cX6_keeps 7 = .ok (.aload_n 0, 1) := by decide +kernel
theorem dX6_keeps_8 : decode cX6_keeps 8 = .ok (.bipush (-2), 2) := by decide +kernel
theorem dX6_keeps_10 : decode cX6_keeps 10 = .ok (.invokevirtual 80, 3) := by decide +kernel
theorem dX6_keeps_13 : decode cX6_keeps 13 = .ok (.ireturn, 1) := by decide +kernel
theorem dX6_keeps_14 : decode cX6_keeps 14 = .ok (.aload_n 0, 1) := by decide +kernel
theorem dX6_keeps_15 : decode cX6_keeps 15 = .ok (.getfield 33, 3) := by decide +kernel
theorem dX6_keeps_18 : decode cX6_keeps 18 = .ok (.aload_n 0, 1) := by decide +kernel
theorem dX6_keeps_19 : decode cX6_keeps 19 = .ok (.getfield 24, 3) := by decide +kernel
theorem dX6_keeps_22 : decode cX6_keeps 22 = .ok (.invokevirtual 60, 3) := by decide +kernel
theorem dX6_keeps_25 : decode cX6_keeps 25 = .ok (.aload_n 0, 1) := by decide +kernel
theorem dX6_keeps_26 : decode cX6_keeps 26 = .ok (.getfield 24, 3) := by decide +kernel
theorem dX6_keeps_29 : decode cX6_keeps 29 = .ok (.iload_n 1, 1) := by decide +kernel
theorem dX6_keeps_30 : decode cX6_keeps 30 = .ok (.invokevirtual 219, 3) := by decide +kernel
theorem dX6_keeps_33 : decode cX6_keeps 33 = .ok (.aload_n 0, 1) := by decide +kernel
theorem dX6_keeps_34 : decode cX6_keeps 34 = .ok (.iconst 0, 1) := by decide +kernel
theorem dX6_keeps_35 : decode cX6_keeps 35 = .ok (.aload_n 0, 1) := by decide +kernel
theorem dX6_keeps_36 : decode cX6_keeps 36 = .ok (.getfield 24, 3) := by decide +kernel
theorem dX6_keeps_39 : decode cX6_keeps 39 = .ok (.getfield 114, 3) := by decide +kernel
theorem dX6_keeps_42 : decode cX6_keeps 42 = .ok (.aload_n 0, 1) := by decide +kernel
theorem dX6_keeps_43 : decode cX6_keeps 43 = .ok (.getfield 24, 3) := by decide +kernel
theorem dX6_keeps_46 : decode cX6_keeps 46 = .ok (.getfield 54, 3) := by decide +kernel
theorem dX6_keeps_49 : decode cX6_keeps 49 = .ok (.invokestatic 199, 3) := by decide +kernel
theorem dX6_keeps_52 : decode cX6_keeps 52 = .ok (.sipush 10000, 3) := by decide +kernel
theorem dX6_keeps_55 : decode cX6_keeps 55 = .ok (.iadd, 1) := by decide +kernel
theorem dX6_keeps_56 : decode cX6_keeps 56 = .ok (.invokevirtual 68, 3) := by decide +kernel
theorem dX6_keeps_59 : decode cX6_keeps 59 = .ok (.ireturn, 1) := by decide +kernel
theorem dX6_equal_0 : decode cX6_equal 0 = .ok (.iload_n 1, 1) := by decide +kernel
theorem dX6_equal_1 : decode cX6_equal 1 = .ok (.invokestatic 216, 3) := by decide +kernel
theorem dX6_equal_4 : decode cX6_equal 4 = .ok (.ifCond .ne 10, 3) := by decide +kernel
theorem dX6_equal_7 : decode cX6_equal 7 = .ok (.aload_n 0, 1) := by decide +kernel
theorem dX6_equal_8 : decode cX6_equal 8 = .ok (.bipush (-2), 2) := by decide +kernel
theorem dX6_equal_10 : decode cX6_equal 10 = .ok (.invokevirtual 80, 3) := by decide +kernel
theorem dX6_equal_13 : decode cX6_equal 13 = .ok (.ireturn, 1) := by decide +kernel
theorem dX6_equal_14 : decode cX6_equal 14 = .ok (.aload_n 0, 1) := by decide +kernel
theorem dX6_equal_15 : decode cX6_equal 15 = .ok (.iload_n 1, 1) := by decide +kernel
theorem dX6_equal_16 : decode cX6_equal 16 = .ok (.invokevirtual 222, 3) := by decide +kernel
theorem dX6_equal_19 : decode cX6_equal 19 = .ok (.ifCond .ne 10, 3) := by decide +kernel
theorem dX6_equal_22 : decode cX6_equal 22 = .ok (.aload_n 0, 1) := by decide +kernel
theorem dX6_equal_23 : decode cX6_equal 23 = .ok (.bipush (-3), 2) := by decide +kernel
theorem dX6_equal_25 : decode cX6_equal 25 = .ok (.invokevirtual 80, 3) := by decide +kernel
theorem dX6_equal_28 : decode cX6_equal 28 = .ok (.ireturn, 1) := by decide +kernel
theorem dX6_equal_29 : decode cX6_equal 29 = .ok (.aload_n 0, 1) := by decide +kernel
theorem dX6_equal_30 : decode cX6_equal 30 = .ok (.iload_n 1, 1) := by decide +kernel
theorem dX6_equal_31 : decode cX6_equal 31 = .ok (.invokevirtual 225, 3) := by decide +kernel
theorem dX6_equal_34 : decode cX6_equal 34 = .ok (.invokestatic 102, 3) := by decide +kernel
theorem dX6_equal_37 : decode cX6_equal 37 = .ok (.ireturn, 1) := by decide +kernel
theorem dX6_way_0 : decode cX6_way 0 = .ok (.iload_n 1, 1) := by decide +kernel
theorem dX6_way_1 : decode cX6_way 1 = .ok (.invokestatic 216, 3) := by decide +kernel
theorem dX6_way_4 : decode cX6_way 4 = .ok (.ifCond .eq 14, 3) := by decide +kernel
theorem dX6_way_7 : decode cX6_way 7 = .ok (.aload_n 0, 1) := by decide +kernel
theorem dX6_way_8 : decode cX6_way 8 = .ok (.getfield 24, 3) := by decide +kernel
theorem dX6_way_11 : decode cX6_way 11 = .ok (.iload_n 2, 1) := by decide +kernel
theorem dX6_way_12 : decode cX6_way 12 = .ok (.invokevirtual 91, 3) := by decide +kernel
theorem dX6_way_15 : decode cX6_way 15 = .ok (.ifCond .ne 10, 3) := by decide +kernel
theorem dX6_way_18 : decode cX6_way 18 = .ok (.aload_n 0, 1) := by decide +kernel
theorem dX6_way_19 : decode cX6_way 19 = .ok (.bipush (-2), 2) := by decide +kernel
theorem dX6_way_21 : decode cX6_way 21 = .ok (.invokevirtual 80, 3) := by decide +kernel
theorem dX6_way_24 : decode cX6_way 24 = .ok (.ireturn, 1) := by decide +kernel
theorem dX6_way_25 : decode cX6_way 25 = .ok (.aload_n 0, 1) := by decide +kernel
theorem dX6_way_26 : decode cX6_way 26 = .ok (.iload_n 1, 1) := by decide +kernel
theorem dX6_way_27 : decode cX6_way 27 = .ok (.invokevirtual 222, 3) := by decide +kernel
theorem dX6_way_30 : decode cX6_way 30 = .ok (.ifCond .ne 10, 3) := by decide +kernel
theorem dX6_way_33 : decode cX6_way 33 = .ok (.aload_n 0, 1) := by decide +kernel
theorem dX6_way_34 : decode cX6_way 34 = .ok (.bipush (-3), 2) := by decide +kernel
theorem dX6_way_36 : decode cX6_way 36 = .ok (.invokevirtual 80, 3) := by decide +kernel
theorem dX6_way_39 : decode cX6_way 39 = .ok (.ireturn, 1) := by decide +kernel
theorem dX6_way_40 : decode cX6_way 40 = .ok (.aload_n 0, 1) := by decide +kernel
theorem dX6_way_41 : decode cX6_way 41 = .ok (.iload_n 1, 1) := by decide +kernel
theorem dX6_way_42 : decode cX6_way 42 = .ok (.invokevirtual 225, 3) := by decide +kernel
theorem dX6_way_45 : decode cX6_way 45 = .ok (.ifCond .eq 17, 3) := by decide +kernel
theorem dX6_way_48 : decode cX6_way 48 = .ok (.aload_n 0, 1) := by decide +kernel
theorem dX6_way_49 : decode cX6_way 49 = .ok (.getfield 29, 3) := by decide +kernel
theorem dX6_way_52 : decode cX6_way 52 = .ok (.iload_n 2, 1) := by decide +kernel
theorem dX6_way_53 : decode cX6_way 53 = .ok (.invokevirtual 228, 3) := by decide +kernel
theorem dX6_way_56 : decode cX6_way 56 = .ok (.ldc 231, 2) := by decide +kernel
theorem dX6_way_58 : decode cX6_way 58 = .ok (.iadd, 1) := by decide +kernel
theorem dX6_way_59 : decode cX6_way 59 = .ok (.goto 4, 3) := by decide +kernel
theorem dX6_way_62 : decode cX6_way 62 = .ok (.iconst (-1), 1) := by decide +kernel
theorem dX6_way_63 : decode cX6_way 63 = .ok (.ireturn, 1) := by decide +kernel
theorem dX6_type_0 : decode cX6_type 0 = .ok (.iload_n 1, 1) := by decide +kernel
theorem dX6_type_1 : decode cX6_type 1 = .ok (.ifCond .lt 9, 3) := by decide +kernel
theorem dX6_type_4 : decode cX6_type 4 = .ok (.iload_n 1, 1) := by decide +kernel
theorem dX6_type_5 : decode cX6_type 5 = .ok (.bipush 127, 2) := by decide +kernel
theorem dX6_type_7 : decode cX6_type 7 = .ok (.if_icmp .le 10, 3) := by decide +kernel
theorem dX6_type_10 : decode cX6_type 10 = .ok (.aload_n 0, 1) := by decide +kernel
theorem dX6_type_11 : decode cX6_type 11 = .ok (.bipush (-2), 2) := by decide +kernel
theorem dX6_type_13 : decode cX6_type 13 = .ok (.invokevirtual 80, 3) := by decide +kernel
theorem dX6_type_16 : decode cX6_type 16 = .ok (.ireturn, 1) := by decide +kernel
theorem dX6_type_17 : decode cX6_type 17 = .ok (.aload_n 0, 1) := by decide +kernel
theorem dX6_type_18 : decode cX6_type 18 = .ok (.getfield 47, 3) := by decide +kernel
theorem dX6_type_21 : decode cX6_type 21 = .ok (.getfield 232, 3) := by decide +kernel
theorem dX6_type_24 : decode cX6_type 24 = .ok (.bipush 120, 2) := by decide +kernel
theorem dX6_type_26 : decode cX6_type 26 = .ok (.if_icmp .lt 10, 3) := by decide +kernel
theorem dX6_type_29 : decode cX6_type 29 = .ok (.aload_n 0, 1) := by decide +kernel
theorem dX6_type_30 : decode cX6_type 30 = .ok (.bipush (-4), 2) := by decide +kernel
theorem dX6_type_32 : decode cX6_type 32 = .ok (.invokevirtual 80, 3) := by decide +kernel
theorem dX6_type_35 : decode cX6_type 35 = .ok (.ireturn, 1) := by decide +kernel
theorem dX6_type_36 : decode cX6_type 36 = .ok (.aload_n 0, 1) := by decide +kernel
theorem dX6_type_37 : decode cX6_type 37 = .ok (.getfield 47, 3) := by decide +kernel
theorem dX6_type_40 : decode cX6_type 40 = .ok (.iload_n 1, 1) := by decide +kernel
theorem dX6_type_41 : decode cX6_type 41 = .ok (.invokevirtual 235, 3) := by decide +kernel
theorem dX6_type_44 : decode cX6_type 44 = .ok (.aload_n 0, 1) := by decide +kernel
theorem dX6_type_45 : decode cX6_type 45 = .ok (.getfield 47, 3) := by decide +kernel
theorem dX6_type_48 : decode cX6_type 48 = .ok (.getfield 232, 3) := by decide +kernel
theorem dX6_type_51 : decode cX6_type 51 = .ok (.ireturn, 1) := by decide +kernel
theorem dX6_clear_0 : decode cX6_clear 0 = .ok (.aload_n 0, 1) := by decide +kernel
theorem dX6_clear_1 : decode cX6_clear 1 = .ok (.getfield 47, 3) := by decide +kernel
theorem dX6_clear_4 : decode cX6_clear 4 = .ok (.getfield 232, 3) := by decide +kernel
theorem dX6_clear_7 : decode cX6_clear 7 = .ok (.istore_n 1, 1) := by decide +kernel
theorem dX6_clear_8 : decode cX6_clear 8 = .ok (.aload_n 0, 1) := by decide +kernel
theorem dX6_clear_9 : decode cX6_clear 9 = .ok (.getfield 47, 3) := by decide +kernel
theorem dX6_clear_12 : decode cX6_clear 12 = .ok (.iconst 0, 1) := by decide +kernel
theorem dX6_clear_13 : decode cX6_clear 13 = .ok (.putfield 232, 3) := by decide +kernel
theorem dX6_clear_16 : decode cX6_clear 16 = .ok (.iload_n 1, 1) := by decide +kernel
theorem dX6_clear_17 : decode cX6_clear 17 = .ok (.ireturn, 1) := by decide +kernel
theorem dX6_reads_0 : decode cX6_reads 0 = .ok (.aload_n 0, 1) := by decide +kernel
theorem dX6_reads_1 : decode cX6_reads 1 = .ok (.getfield 47, 3) := by decide +kernel
theorem dX6_reads_4 : decode cX6_reads 4 = .ok (.aload_n 0, 1) := by decide +kernel
theorem dX6_reads_5 : decode cX6_reads 5 = .ok (.getfield 24, 3) := by decide +kernel
theorem dX6_reads_8 : decode cX6_reads 8 = .ok (.getfield 54, 3) := by decide +kernel
theorem dX6_reads_11 : decode cX6_reads 11 = .ok (.invokevirtual 238, 3) := by decide +kernel
theorem dX6_reads_14 : decode cX6_reads 14 = .ok (.istore_n 1, 1) := by decide +kernel
theorem dX6_reads_15 : decode cX6_reads 15 = .ok (.iload_n 1, 1) := by decide +kernel
theorem dX6_reads_16 : decode cX6_reads 16 = .ok (.iconst (-1), 1) := by decide +kernel
theorem dX6_reads_17 : decode cX6_reads 17 = .ok (.if_icmp .eq 8, 3) := by decide +kernel
theorem dX6_reads_20 : decode cX6_reads 20 = .ok (.bipush (-10), 2) := by decide +kernel
theorem dX6_reads_22 : decode cX6_reads 22 = .ok (.iload_n 1, 1) := by decide +kernel
theorem dX6_reads_23 : decode cX6_reads 23 = .ok (.isub, 1) := by decide +kernel
theorem dX6_reads_24 : decode cX6_reads 24 = .ok (.ireturn, 1) := by decide +kernel
theorem dX6_reads_25 : decode cX6_reads 25 = .ok (.aload_n 0, 1) := by decide +kernel
theorem dX6_reads_26 : decode cX6_reads 26 = .ok (.getfield 33, 3) := by decide +kernel
theorem dX6_reads_29 : decode cX6_reads 29 = .ok (.aload_n 0, 1) := by decide +kernel
theorem dX6_reads_30 : decode cX6_reads 30 = .ok (.getfield 24, 3) := by decide +kernel
theorem dX6_reads_33 : decode cX6_reads 33 = .ok (.invokevirtual 60, 3) := by decide +kernel
theorem dX6_reads_36 : decode cX6_reads 36 = .ok (.aload_n 0, 1) := by decide +kernel
theorem dX6_reads_37 : decode cX6_reads 37 = .ok (.invokevirtual 241, 3) := by decide +kernel
theorem dX6_reads_40 : decode cX6_reads 40 = .ok (.istore_n 2, 1) := by decide +kernel
theorem dX6_reads_41 : decode cX6_reads 41 = .ok (.iload_n 2, 1) := by decide +kernel
theorem dX6_reads_42 : decode cX6_reads 42 = .ok (.iconst (-1), 1) := by decide +kernel
theorem dX6_reads_43 : decode cX6_reads 43 = .ok (.if_icmp .eq 23, 3) := by decide +kernel
theorem dX6_reads_46 : decode cX6_reads 46 = .ok (.aload_n 0, 1) := by decide +kernel
theorem dX6_reads_47 : decode cX6_reads 47 = .ok (.getfield 24, 3) := by decide +kernel
theorem dX6_reads_50 : decode cX6_reads 50 = .ok (.aload_n 0, 1) := by decide +kernel
theorem dX6_reads_51 : decode cX6_reads 51 = .ok (.getfield 33, 3) := by decide +kernel
theorem dX6_reads_54 : decode cX6_reads 54 = .ok (.invokevirtual 126, 3) := by decide +kernel
theorem dX6_reads_57 : decode cX6_reads 57 = .ok (.invokevirtual 244, 3) := by decide +kernel
theorem dX6_reads_60 : decode cX6_reads 60 = .ok (.sipush (-1000), 3) := by decide +kernel
theorem dX6_reads_63 : decode cX6_reads 63 = .ok (.iload_n 2, 1) := by decide +kernel
theorem dX6_reads_64 : decode cX6_reads 64 = .ok (.isub, 1) := by decide +kernel
theorem dX6_reads_65 : decode cX6_reads 65 = .ok (.ireturn, 1) := by decide +kernel
theorem dX6_reads_66 : decode cX6_reads 66 = .ok (.aload_n 0, 1) := by decide +kernel
theorem dX6_reads_67 : decode cX6_reads 67 = .ok (.getfield 33, 3) := by decide +kernel
theorem dX6_reads_70 : decode cX6_reads 70 = .ok (.invokevirtual 247, 3) := by decide +kernel
theorem dX6_reads_73 : decode cX6_reads 73 = .ok (.aload_n 0, 1) := by decide +kernel
theorem dX6_reads_74 : decode cX6_reads 74 = .ok (.getfield 47, 3) := by decide +kernel
theorem dX6_reads_77 : decode cX6_reads 77 = .ok (.getfield 250, 3) := by decide +kernel
theorem dX6_reads_80 : decode cX6_reads 80 = .ok (.ireturn, 1) := by decide +kernel
theorem dX6_back_0 : decode cX6_back 0 = .ok (.aload_n 0, 1) := by decide +kernel
theorem dX6_back_1 : decode cX6_back 1 = .ok (.getfield 33, 3) := by decide +kernel
theorem dX6_back_4 : decode cX6_back 4 = .ok (.getfield 253, 3) := by decide +kernel
theorem dX6_back_7 : decode cX6_back 7 = .ok (.iconst 1, 1) := by decide +kernel
theorem dX6_back_8 : decode cX6_back 8 = .ok (.if_icmp .ge 10, 3) := by decide +kernel
theorem dX6_back_11 : decode cX6_back 11 = .ok (.aload_n 0, 1) := by decide +kernel
theorem dX6_back_12 : decode cX6_back 12 = .ok (.bipush (-3), 2) := by decide +kernel
theorem dX6_back_14 : decode cX6_back 14 = .ok (.invokevirtual 80, 3) := by decide +kernel
theorem dX6_back_17 : decode cX6_back 17 = .ok (.ireturn, 1) := by decide +kernel
theorem dX6_back_18 : decode cX6_back 18 = .ok (.aload_n 0, 1) := by decide +kernel
theorem dX6_back_19 : decode cX6_back 19 = .ok (.getfield 33, 3) := by decide +kernel
theorem dX6_back_22 : decode cX6_back 22 = .ok (.aload_n 0, 1) := by decide +kernel
theorem dX6_back_23 : decode cX6_back 23 = .ok (.getfield 24, 3) := by decide +kernel
theorem dX6_back_26 : decode cX6_back 26 = .ok (.invokevirtual 256, 3) := by decide +kernel
theorem dX6_back_29 : decode cX6_back 29 = .ok (.aload_n 0, 1) := by decide +kernel
theorem dX6_back_30 : decode cX6_back 30 = .ok (.getfield 33, 3) := by decide +kernel
theorem dX6_back_33 : decode cX6_back 33 = .ok (.getfield 253, 3) := by decide +kernel
theorem dX6_back_36 : decode cX6_back 36 = .ok (.ireturn, 1) := by decide +kernel
theorem dX6_told_0 : decode cX6_told 0 = .ok (.iload_n 1, 1) := by decide +kernel
theorem dX6_told_1 : decode cX6_told 1 = .ok (.tableswitch 82 0 6 #[43, 43, 43, 50, 58, 66, 74], 43) := by decide +kernel
theorem dX6_told_44 : decode cX6_told 44 = .ok (.aload_n 0, 1) := by decide +kernel
theorem dX6_told_45 : decode cX6_told 45 = .ok (.getfield 7, 3) := by decide +kernel
theorem dX6_told_48 : decode cX6_told 48 = .ok (.iload_n 1, 1) := by decide +kernel
theorem dX6_told_49 : decode cX6_told 49 = .ok (.iaload, 1) := by decide +kernel
theorem dX6_told_50 : decode cX6_told 50 = .ok (.ireturn, 1) := by decide +kernel
theorem dX6_told_51 : decode cX6_told 51 = .ok (.aload_n 0, 1) := by decide +kernel
theorem dX6_told_52 : decode cX6_told 52 = .ok (.getfield 47, 3) := by decide +kernel
theorem dX6_told_55 : decode cX6_told 55 = .ok (.getfield 232, 3) := by decide +kernel
theorem dX6_told_58 : decode cX6_told 58 = .ok (.ireturn, 1) := by decide +kernel
theorem dX6_told_59 : decode cX6_told 59 = .ok (.aload_n 0, 1) := by decide +kernel
theorem dX6_told_60 : decode cX6_told 60 = .ok (.getfield 24, 3) := by decide +kernel
theorem dX6_told_63 : decode cX6_told 63 = .ok (.getfield 54, 3) := by decide +kernel
theorem dX6_told_66 : decode cX6_told 66 = .ok (.ireturn, 1) := by decide +kernel
theorem dX6_told_67 : decode cX6_told 67 = .ok (.aload_n 0, 1) := by decide +kernel
theorem dX6_told_68 : decode cX6_told 68 = .ok (.getfield 24, 3) := by decide +kernel
theorem dX6_told_71 : decode cX6_told 71 = .ok (.invokevirtual 259, 3) := by decide +kernel
theorem dX6_told_74 : decode cX6_told 74 = .ok (.ireturn, 1) := by decide +kernel
theorem dX6_told_75 : decode cX6_told 75 = .ok (.aload_n 0, 1) := by decide +kernel
theorem dX6_told_76 : decode cX6_told 76 = .ok (.getfield 33, 3) := by decide +kernel
theorem dX6_told_79 : decode cX6_told 79 = .ok (.getfield 253, 3) := by decide +kernel
theorem dX6_told_82 : decode cX6_told 82 = .ok (.ireturn, 1) := by decide +kernel
theorem dX6_told_83 : decode cX6_told 83 = .ok (.aload_n 0, 1) := by decide +kernel
theorem dX6_told_84 : decode cX6_told 84 = .ok (.bipush (-2), 2) := by decide +kernel
theorem dX6_told_86 : decode cX6_told 86 = .ok (.invokevirtual 80, 3) := by decide +kernel
theorem dX6_told_89 : decode cX6_told 89 = .ok (.ireturn, 1) := by decide +kernel
theorem dX6_digest_0 : decode cX6_digest 0 = .ok (.ldc2_w 262, 3) := by decide +kernel
theorem dX6_digest_3 : decode cX6_digest 3 = .ok (.lstore_n 1, 1) := by decide +kernel
theorem dX6_digest_4 : decode cX6_digest 4 = .ok (.iconst 0, 1) := by decide +kernel
theorem dX6_digest_5 : decode cX6_digest 5 = .ok (.istore_n 3, 1) := by decide +kernel
theorem dX6_digest_6 : decode cX6_digest 6 = .ok (.iload_n 3, 1) := by decide +kernel
theorem dX6_digest_7 : decode cX6_digest 7 = .ok (.bipush 6, 2) := by decide +kernel
theorem dX6_digest_9 : decode cX6_digest 9 = .ok (.if_icmp .gt 22, 3) := by decide +kernel
theorem dX6_digest_12 : decode cX6_digest 12 = .ok (.ldc2_w 264, 3) := by decide +kernel
theorem dX6_digest_15 : decode cX6_digest 15 = .ok (.lload_n 1, 1) := by decide +kernel
theorem dX6_digest_16 : decode cX6_digest 16 = .ok (.lmul, 1) := by decide +kernel
theorem dX6_digest_17 : decode cX6_digest 17 = .ok (.aload_n 0, 1) := by decide +kernel
theorem dX6_digest_18 : decode cX6_digest 18 = .ok (.iload_n 3, 1) := by decide +kernel
theorem dX6_digest_19 : decode cX6_digest 19 = .ok (.invokevirtual 266, 3) := by decide +kernel
theorem dX6_digest_22 : decode cX6_digest 22 = .ok (.i2l, 1) := by decide +kernel
theorem dX6_digest_23 : decode cX6_digest 23 = .ok (.ladd, 1) := by decide +kernel
theorem dX6_digest_24 : decode cX6_digest 24 = .ok (.lstore_n 1, 1) := by decide +kernel
theorem dX6_digest_25 : decode cX6_digest 25 = .ok (.iinc 3 1, 3) := by decide +kernel
theorem dX6_digest_28 : decode cX6_digest 28 = .ok (.goto (-22), 3) := by decide +kernel
theorem dX6_digest_31 : decode cX6_digest 31 = .ok (.iconst 1, 1) := by decide +kernel
theorem dX6_digest_32 : decode cX6_digest 32 = .ok (.istore_n 3, 1) := by decide +kernel
theorem dX6_digest_33 : decode cX6_digest 33 = .ok (.iload_n 3, 1) := by decide +kernel
theorem dX6_digest_34 : decode cX6_digest 34 = .ok (.aload_n 0, 1) := by decide +kernel
theorem dX6_digest_35 : decode cX6_digest 35 = .ok (.getfield 24, 3) := by decide +kernel
theorem dX6_digest_38 : decode cX6_digest 38 = .ok (.getfield 54, 3) := by decide +kernel
theorem dX6_digest_41 : decode cX6_digest 41 = .ok (.if_icmp .ge 42, 3) := by decide +kernel
theorem dX6_digest_44 : decode cX6_digest 44 = .ok (.iconst 0, 1) := by decide +kernel
theorem dX6_digest_45 : decode cX6_digest 45 = .ok (.istore 4, 2) := by decide +kernel
theorem dX6_digest_47 : decode cX6_digest 47 = .ok (.iload 4, 2) := by decide +kernel
theorem dX6_digest_49 : decode cX6_digest 49 = .ok (.iload_n 3, 1) := by decide +kernel
theorem dX6_digest_50 : decode cX6_digest 50 = .ok (.if_icmp .ge 27, 3) := by decide +kernel
theorem dX6_digest_53 : decode cX6_digest 53 = .ok (.ldc2_w 264, 3) := by decide +kernel
theorem dX6_digest_56 : decode cX6_digest 56 = .ok (.lload_n 1, 1) := by decide +kernel
theorem dX6_digest_57 : decode cX6_digest 57 = .ok (.lmul, 1) := by decide +kernel
theorem dX6_digest_58 : decode cX6_digest 58 = .ok (.aload_n 0, 1) := by decide +kernel
theorem dX6_digest_59 : decode cX6_digest 59 = .ok (.getfield 24, 3) := by decide +kernel
theorem dX6_digest_62 : decode cX6_digest 62 = .ok (.iload 4, 2) := by decide +kernel
theorem dX6_digest_64 : decode cX6_digest 64 = .ok (.iload_n 3, 1) := by decide +kernel
theorem dX6_digest_65 : decode cX6_digest 65 = .ok (.invokevirtual 72, 3) := by decide +kernel
theorem dX6_digest_68 : decode cX6_digest 68 = .ok (.i2l, 1) := by decide +kernel
theorem dX6_digest_69 : decode cX6_digest 69 = .ok (.ladd, 1) := by decide +kernel
theorem dX6_digest_70 : decode cX6_digest 70 = .ok (.lstore_n 1, 1) := by decide +kernel
theorem dX6_digest_71 : decode cX6_digest 71 = .ok (.iinc 4 1, 3) := by decide +kernel
theorem dX6_digest_74 : decode cX6_digest 74 = .ok (.goto (-27), 3) := by decide +kernel
theorem dX6_digest_77 : decode cX6_digest 77 = .ok (.iinc 3 1, 3) := by decide +kernel
theorem dX6_digest_80 : decode cX6_digest 80 = .ok (.goto (-47), 3) := by decide +kernel
theorem dX6_digest_83 : decode cX6_digest 83 = .ok (.iconst 0, 1) := by decide +kernel
theorem dX6_digest_84 : decode cX6_digest 84 = .ok (.istore_n 3, 1) := by decide +kernel
theorem dX6_digest_85 : decode cX6_digest 85 = .ok (.iload_n 3, 1) := by decide +kernel
theorem dX6_digest_86 : decode cX6_digest 86 = .ok (.aload_n 0, 1) := by decide +kernel
theorem dX6_digest_87 : decode cX6_digest 87 = .ok (.getfield 24, 3) := by decide +kernel
theorem dX6_digest_90 : decode cX6_digest 90 = .ok (.getfield 54, 3) := by decide +kernel
theorem dX6_digest_93 : decode cX6_digest 93 = .ok (.if_icmp .ge 52, 3) := by decide +kernel
theorem dX6_digest_96 : decode cX6_digest 96 = .ok (.iconst 0, 1) := by decide +kernel
theorem dX6_digest_97 : decode cX6_digest 97 = .ok (.istore 4, 2) := by decide +kernel
theorem dX6_digest_99 : decode cX6_digest 99 = .ok (.iload 4, 2) := by decide +kernel
theorem dX6_digest_101 : decode cX6_digest 101 = .ok (.iconst 2, 1) := by decide +kernel
theorem dX6_digest_102 : decode cX6_digest 102 = .ok (.if_icmp .gt 24, 3) := by decide +kernel
theorem dX6_digest_105 : decode cX6_digest 105 = .ok (.ldc2_w 264, 3) := by decide +kernel
theorem dX6_digest_108 : decode cX6_digest 108 = .ok (.lload_n 1, 1) := by decide +kernel
theorem dX6_digest_109 : decode cX6_digest 109 = .ok (.lmul, 1) := by decide +kernel
theorem dX6_digest_110 : decode cX6_digest 110 = .ok (.aload_n 0, 1) := by decide +kernel
theorem dX6_digest_111 : decode cX6_digest 111 = .ok (.iload_n 3, 1) := by decide +kernel
theorem dX6_digest_112 : decode cX6_digest 112 = .ok (.iload 4, 2) := by decide +kernel
theorem dX6_digest_114 : decode cX6_digest 114 = .ok (.invokevirtual 269, 3) := by decide +kernel
theorem dX6_digest_117 : decode cX6_digest 117 = .ok (.i2l, 1) := by decide +kernel
theorem dX6_digest_118 : decode cX6_digest 118 = .ok (.ladd, 1) := by decide +kernel
theorem dX6_digest_119 : decode cX6_digest 119 = .ok (.lstore_n 1, 1) := by decide +kernel
theorem dX6_digest_120 : decode cX6_digest 120 = .ok (.iinc 4 1, 3) := by decide +kernel
theorem dX6_digest_123 : decode cX6_digest 123 = .ok (.goto (-24), 3) := by decide +kernel
theorem dX6_digest_126 : decode cX6_digest 126 = .ok (.ldc2_w 264, 3) := by decide +kernel
theorem dX6_digest_129 : decode cX6_digest 129 = .ok (.lload_n 1, 1) := by decide +kernel
theorem dX6_digest_130 : decode cX6_digest 130 = .ok (.lmul, 1) := by decide +kernel
theorem dX6_digest_131 : decode cX6_digest 131 = .ok (.aload_n 0, 1) := by decide +kernel
theorem dX6_digest_132 : decode cX6_digest 132 = .ok (.iload_n 3, 1) := by decide +kernel
theorem dX6_digest_133 : decode cX6_digest 133 = .ok (.invokevirtual 272, 3) := by decide +kernel
theorem dX6_digest_136 : decode cX6_digest 136 = .ok (.i2l, 1) := by decide +kernel
theorem dX6_digest_137 : decode cX6_digest 137 = .ok (.ladd, 1) := by decide +kernel
theorem dX6_digest_138 : decode cX6_digest 138 = .ok (.lstore_n 1, 1) := by decide +kernel
theorem dX6_digest_139 : decode cX6_digest 139 = .ok (.iinc 3 1, 3) := by decide +kernel
theorem dX6_digest_142 : decode cX6_digest 142 = .ok (.goto (-57), 3) := by decide +kernel
theorem dX6_digest_145 : decode cX6_digest 145 = .ok (.ldc2_w 264, 3) := by decide +kernel
theorem dX6_digest_148 : decode cX6_digest 148 = .ok (.lload_n 1, 1) := by decide +kernel
theorem dX6_digest_149 : decode cX6_digest 149 = .ok (.lmul, 1) := by decide +kernel
theorem dX6_digest_150 : decode cX6_digest 150 = .ok (.aload_n 0, 1) := by decide +kernel
theorem dX6_digest_151 : decode cX6_digest 151 = .ok (.invokevirtual 275, 3) := by decide +kernel
theorem dX6_digest_154 : decode cX6_digest 154 = .ok (.i2l, 1) := by decide +kernel
theorem dX6_digest_155 : decode cX6_digest 155 = .ok (.ladd, 1) := by decide +kernel
theorem dX6_digest_156 : decode cX6_digest 156 = .ok (.lstore_n 1, 1) := by decide +kernel
theorem dX6_digest_157 : decode cX6_digest 157 = .ok (.ldc2_w 264, 3) := by decide +kernel
theorem dX6_digest_160 : decode cX6_digest 160 = .ok (.lload_n 1, 1) := by decide +kernel
theorem dX6_digest_161 : decode cX6_digest 161 = .ok (.lmul, 1) := by decide +kernel
theorem dX6_digest_162 : decode cX6_digest 162 = .ok (.aload_n 0, 1) := by decide +kernel
theorem dX6_digest_163 : decode cX6_digest 163 = .ok (.invokevirtual 278, 3) := by decide +kernel
theorem dX6_digest_166 : decode cX6_digest 166 = .ok (.i2l, 1) := by decide +kernel
theorem dX6_digest_167 : decode cX6_digest 167 = .ok (.ladd, 1) := by decide +kernel
theorem dX6_digest_168 : decode cX6_digest 168 = .ok (.lstore_n 1, 1) := by decide +kernel
theorem dX6_digest_169 : decode cX6_digest 169 = .ok (.ldc2_w 264, 3) := by decide +kernel
theorem dX6_digest_172 : decode cX6_digest 172 = .ok (.lload_n 1, 1) := by decide +kernel
theorem dX6_digest_173 : decode cX6_digest 173 = .ok (.lmul, 1) := by decide +kernel
theorem dX6_digest_174 : decode cX6_digest 174 = .ok (.aload_n 0, 1) := by decide +kernel
theorem dX6_digest_175 : decode cX6_digest 175 = .ok (.invokevirtual 196, 3) := by decide +kernel
theorem dX6_digest_178 : decode cX6_digest 178 = .ok (.i2l, 1) := by decide +kernel
theorem dX6_digest_179 : decode cX6_digest 179 = .ok (.ladd, 1) := by decide +kernel
theorem dX6_digest_180 : decode cX6_digest 180 = .ok (.lstore_n 1, 1) := by decide +kernel
theorem dX6_digest_181 : decode cX6_digest 181 = .ok (.ldc2_w 264, 3) := by decide +kernel
theorem dX6_digest_184 : decode cX6_digest 184 = .ok (.lload_n 1, 1) := by decide +kernel
theorem dX6_digest_185 : decode cX6_digest 185 = .ok (.lmul, 1) := by decide +kernel
theorem dX6_digest_186 : decode cX6_digest 186 = .ok (.aload_n 0, 1) := by decide +kernel
theorem dX6_digest_187 : decode cX6_digest 187 = .ok (.iconst 0, 1) := by decide +kernel
theorem dX6_digest_188 : decode cX6_digest 188 = .ok (.invokevirtual 281, 3) := by decide +kernel
theorem dX6_digest_191 : decode cX6_digest 191 = .ok (.i2l, 1) := by decide +kernel
theorem dX6_digest_192 : decode cX6_digest 192 = .ok (.ladd, 1) := by decide +kernel
theorem dX6_digest_193 : decode cX6_digest 193 = .ok (.lstore_n 1, 1) := by decide +kernel
theorem dX6_digest_194 : decode cX6_digest 194 = .ok (.ldc2_w 264, 3) := by decide +kernel
theorem dX6_digest_197 : decode cX6_digest 197 = .ok (.lload_n 1, 1) := by decide +kernel
theorem dX6_digest_198 : decode cX6_digest 198 = .ok (.lmul, 1) := by decide +kernel
theorem dX6_digest_199 : decode cX6_digest 199 = .ok (.aload_n 0, 1) := by decide +kernel
theorem dX6_digest_200 : decode cX6_digest 200 = .ok (.iconst 1, 1) := by decide +kernel
theorem dX6_digest_201 : decode cX6_digest 201 = .ok (.invokevirtual 281, 3) := by decide +kernel
theorem dX6_digest_204 : decode cX6_digest 204 = .ok (.i2l, 1) := by decide +kernel
theorem dX6_digest_205 : decode cX6_digest 205 = .ok (.ladd, 1) := by decide +kernel
theorem dX6_digest_206 : decode cX6_digest 206 = .ok (.lreturn, 1) := by decide +kernel
theorem dX6_refuse_0 : decode cX6_refuse 0 = .ok (.bipush (-2), 2) := by decide +kernel
theorem dX6_refuse_2 : decode cX6_refuse 2 = .ok (.iload_n 1, 1) := by decide +kernel
theorem dX6_refuse_3 : decode cX6_refuse 3 = .ok (.isub, 1) := by decide +kernel
theorem dX6_refuse_4 : decode cX6_refuse 4 = .ok (.istore_n 2, 1) := by decide +kernel
theorem dX6_refuse_5 : decode cX6_refuse 5 = .ok (.iload_n 2, 1) := by decide +kernel
theorem dX6_refuse_6 : decode cX6_refuse 6 = .ok (.ifCond .lt 22, 3) := by decide +kernel
theorem dX6_refuse_9 : decode cX6_refuse 9 = .ok (.iload_n 2, 1) := by decide +kernel
theorem dX6_refuse_10 : decode cX6_refuse 10 = .ok (.aload_n 0, 1) := by decide +kernel
theorem dX6_refuse_11 : decode cX6_refuse 11 = .ok (.getfield 7, 3) := by decide +kernel
theorem dX6_refuse_14 : decode cX6_refuse 14 = .ok (.arraylength, 1) := by decide +kernel
theorem dX6_refuse_15 : decode cX6_refuse 15 = .ok (.if_icmp .ge 13, 3) := by decide +kernel
theorem dX6_refuse_18 : decode cX6_refuse 18 = .ok (.aload_n 0, 1) := by decide +kernel
theorem dX6_refuse_19 : decode cX6_refuse 19 = .ok (.getfield 7, 3) := by decide +kernel
theorem dX6_refuse_22 : decode cX6_refuse 22 = .ok (.iload_n 2, 1) := by decide +kernel
theorem dX6_refuse_23 : decode cX6_refuse 23 = .ok (.dup2, 1) := by decide +kernel
theorem dX6_refuse_24 : decode cX6_refuse 24 = .ok (.iaload, 1) := by decide +kernel
theorem dX6_refuse_25 : decode cX6_refuse 25 = .ok (.iconst 1, 1) := by decide +kernel
theorem dX6_refuse_26 : decode cX6_refuse 26 = .ok (.iadd, 1) := by decide +kernel
theorem dX6_refuse_27 : decode cX6_refuse 27 = .ok (.iastore, 1) := by decide +kernel
theorem dX6_refuse_28 : decode cX6_refuse 28 = .ok (.iload_n 1, 1) := by decide +kernel
theorem dX6_refuse_29 : decode cX6_refuse 29 = .ok (.ireturn, 1) := by decide +kernel
theorem dX6_ended_0 : decode cX6_ended 0 = .ok (.iload_n 1, 1) := by decide +kernel
theorem dX6_ended_1 : decode cX6_ended 1 = .ok (.ifCond .eq 9, 3) := by decide +kernel
theorem dX6_ended_4 : decode cX6_ended 4 = .ok (.aload_n 0, 1) := by decide +kernel
theorem dX6_ended_5 : decode cX6_ended 5 = .ok (.iload_n 1, 1) := by decide +kernel
theorem dX6_ended_6 : decode cX6_ended 6 = .ok (.invokevirtual 80, 3) := by decide +kernel
theorem dX6_ended_9 : decode cX6_ended 9 = .ok (.ireturn, 1) := by decide +kernel
theorem dX6_ended_10 : decode cX6_ended 10 = .ok (.aload_n 0, 1) := by decide +kernel
theorem dX6_ended_11 : decode cX6_ended 11 = .ok (.getfield 33, 3) := by decide +kernel
theorem dX6_ended_14 : decode cX6_ended 14 = .ok (.invokevirtual 247, 3) := by decide +kernel
theorem dX6_ended_17 : decode cX6_ended 17 = .ok (.iload_n 2, 1) := by decide +kernel
theorem dX6_ended_18 : decode cX6_ended 18 = .ok (.ireturn, 1) := by decide +kernel
theorem dX6_reduceChipsAt_0 : decode cX6_reduceChipsAt 0 = .ok (.aload_n 0, 1) := by decide +kernel
theorem dX6_reduceChipsAt_1 : decode cX6_reduceChipsAt 1 = .ok (.getfield 24, 3) := by decide +kernel
theorem dX6_reduceChipsAt_4 : decode cX6_reduceChipsAt 4 = .ok (.getfield 114, 3) := by decide +kernel
theorem dX6_reduceChipsAt_7 : decode cX6_reduceChipsAt 7 = .ok (.aload_n 0, 1) := by decide +kernel
theorem dX6_reduceChipsAt_8 : decode cX6_reduceChipsAt 8 = .ok (.getfield 51, 3) := by decide +kernel
theorem dX6_reduceChipsAt_11 : decode cX6_reduceChipsAt 11 = .ok (.invokestatic 185, 3) := by decide +kernel
theorem dX6_reduceChipsAt_14 : decode cX6_reduceChipsAt 14 = .ok (.aload_n 0, 1) := by decide +kernel
theorem dX6_reduceChipsAt_15 : decode cX6_reduceChipsAt 15 = .ok (.getfield 29, 3) := by decide +kernel
theorem dX6_reduceChipsAt_18 : decode cX6_reduceChipsAt 18 = .ok (.aload_n 0, 1) := by decide +kernel
theorem dX6_reduceChipsAt_19 : decode cX6_reduceChipsAt 19 = .ok (.getfield 24, 3) := by decide +kernel
theorem dX6_reduceChipsAt_22 : decode cX6_reduceChipsAt 22 = .ok (.iload_n 1, 1) := by decide +kernel
theorem dX6_reduceChipsAt_23 : decode cX6_reduceChipsAt 23 = .ok (.invokevirtual 175, 3) := by decide +kernel
theorem dX6_reduceChipsAt_26 : decode cX6_reduceChipsAt 26 = .ok (.aload_n 0, 1) := by decide +kernel
theorem dX6_reduceChipsAt_27 : decode cX6_reduceChipsAt 27 = .ok (.getfield 29, 3) := by decide +kernel
theorem dX6_reduceChipsAt_30 : decode cX6_reduceChipsAt 30 = .ok (.aload_n 0, 1) := by decide +kernel
theorem dX6_reduceChipsAt_31 : decode cX6_reduceChipsAt 31 = .ok (.getfield 51, 3) := by decide +kernel
theorem dX6_reduceChipsAt_34 : decode cX6_reduceChipsAt 34 = .ok (.invokevirtual 284, 3) := by decide +kernel
theorem dX6_reduceChipsAt_37 : decode cX6_reduceChipsAt 37 = .ok (.return_, 1) := by decide +kernel
theorem dX6_canCompareWith_0 : decode cX6_canCompareWith 0 = .ok (.aload_n 0, 1) := by decide +kernel
theorem dX6_canCompareWith_1 : decode cX6_canCompareWith 1 = .ok (.getfield 24, 3) := by decide +kernel
theorem dX6_canCompareWith_4 : decode cX6_canCompareWith 4 = .ok (.invokevirtual 98, 3) := by decide +kernel
theorem dX6_canCompareWith_7 : decode cX6_canCompareWith 7 = .ok (.ifCond .eq 26, 3) := by decide +kernel
theorem dX6_canCompareWith_10 : decode cX6_canCompareWith 10 = .ok (.aload_n 0, 1) := by decide +kernel
theorem dX6_canCompareWith_11 : decode cX6_canCompareWith 11 = .ok (.getfield 24, 3) := by decide +kernel
theorem dX6_canCompareWith_14 : decode cX6_canCompareWith 14 = .ok (.getfield 287, 3) := by decide +kernel
theorem dX6_canCompareWith_17 : decode cX6_canCompareWith 17 = .ok (.iload_n 1, 1) := by decide +kernel
theorem dX6_canCompareWith_18 : decode cX6_canCompareWith 18 = .ok (.iaload, 1) := by decide +kernel
theorem dX6_canCompareWith_19 : decode cX6_canCompareWith 19 = .ok (.aload_n 0, 1) := by decide +kernel
theorem dX6_canCompareWith_20 : decode cX6_canCompareWith 20 = .ok (.getfield 24, 3) := by decide +kernel
theorem dX6_canCompareWith_23 : decode cX6_canCompareWith 23 = .ok (.getfield 54, 3) := by decide +kernel
theorem dX6_canCompareWith_26 : decode cX6_canCompareWith 26 = .ok (.if_icmp .ne 7, 3) := by decide +kernel
theorem dX6_canCompareWith_29 : decode cX6_canCompareWith 29 = .ok (.iconst 1, 1) := by decide +kernel
theorem dX6_canCompareWith_30 : decode cX6_canCompareWith 30 = .ok (.goto 4, 3) := by decide +kernel
theorem dX6_canCompareWith_33 : decode cX6_canCompareWith 33 = .ok (.iconst 0, 1) := by decide +kernel
theorem dX6_canCompareWith_34 : decode cX6_canCompareWith 34 = .ok (.ireturn, 1) := by decide +kernel
theorem dX6_findWay_0 : decode cX6_findWay 0 = .ok (.aload_n 0, 1) := by decide +kernel
theorem dX6_findWay_1 : decode cX6_findWay 1 = .ok (.getfield 29, 3) := by decide +kernel
theorem dX6_findWay_4 : decode cX6_findWay 4 = .ok (.aload_n 0, 1) := by decide +kernel
theorem dX6_findWay_5 : decode cX6_findWay 5 = .ok (.getfield 24, 3) := by decide +kernel
theorem dX6_findWay_8 : decode cX6_findWay 8 = .ok (.iconst 0, 1) := by decide +kernel
theorem dX6_findWay_9 : decode cX6_findWay 9 = .ok (.invokevirtual 175, 3) := by decide +kernel
theorem dX6_findWay_12 : decode cX6_findWay 12 = .ok (.aload_n 0, 1) := by decide +kernel
theorem dX6_findWay_13 : decode cX6_findWay 13 = .ok (.getfield 29, 3) := by decide +kernel
theorem dX6_findWay_16 : decode cX6_findWay 16 = .ok (.aload_n 0, 1) := by decide +kernel
theorem dX6_findWay_17 : decode cX6_findWay 17 = .ok (.getfield 24, 3) := by decide +kernel
theorem dX6_findWay_20 : decode cX6_findWay 20 = .ok (.getfield 114, 3) := by decide +kernel
theorem dX6_findWay_23 : decode cX6_findWay 23 = .ok (.aload_n 0, 1) := by decide +kernel
theorem dX6_findWay_24 : decode cX6_findWay 24 = .ok (.getfield 24, 3) := by decide +kernel
theorem dX6_findWay_27 : decode cX6_findWay 27 = .ok (.getfield 290, 3) := by decide +kernel
theorem dX6_findWay_30 : decode cX6_findWay 30 = .ok (.iload_n 1, 1) := by decide +kernel
theorem dX6_findWay_31 : decode cX6_findWay 31 = .ok (.aaload, 1) := by decide +kernel
theorem dX6_findWay_32 : decode cX6_findWay 32 = .ok (.invokevirtual 294, 3) := by decide +kernel
theorem dX6_findWay_35 : decode cX6_findWay 35 = .ok (.ireturn, 1) := by decide +kernel
theorem dX6_doOrders_0 : decode cX6_doOrders 0 = .ok (.aload_n 0, 1) := by decide +kernel
theorem dX6_doOrders_1 : decode cX6_doOrders 1 = .ok (.getfield 47, 3) := by decide +kernel
theorem dX6_doOrders_4 : decode cX6_doOrders 4 = .ok (.invokevirtual 297, 3) := by decide +kernel
theorem dX6_doOrders_7 : decode cX6_doOrders 7 = .ok (.iconst 0, 1) := by decide +kernel
theorem dX6_doOrders_8 : decode cX6_doOrders 8 = .ok (.istore_n 1, 1) := by decide +kernel
theorem dX6_doOrders_9 : decode cX6_doOrders 9 = .ok (.iload_n 1, 1) := by decide +kernel
theorem dX6_doOrders_10 : decode cX6_doOrders 10 = .ok (.aload_n 0, 1) := by decide +kernel
theorem dX6_doOrders_11 : decode cX6_doOrders 11 = .ok (.getfield 47, 3) := by decide +kernel
theorem dX6_doOrders_14 : decode cX6_doOrders 14 = .ok (.getfield 250, 3) := by decide +kernel
theorem dX6_doOrders_17 : decode cX6_doOrders 17 = .ok (.if_icmp .ge 18, 3) := by decide +kernel
theorem dX6_doOrders_20 : decode cX6_doOrders 20 = .ok (.aload_n 0, 1) := by decide +kernel
theorem dX6_doOrders_21 : decode cX6_doOrders 21 = .ok (.invokevirtual 300, 3) := by decide +kernel
theorem dX6_doOrders_24 : decode cX6_doOrders 24 = .ok (.ifCond .eq 5, 3) := by decide +kernel
theorem dX6_doOrders_27 : decode cX6_doOrders 27 = .ok (.iload_n 1, 1) := by decide +kernel
theorem dX6_doOrders_28 : decode cX6_doOrders 28 = .ok (.ireturn, 1) := by decide +kernel
theorem dX6_doOrders_29 : decode cX6_doOrders 29 = .ok (.iinc 1 1, 3) := by decide +kernel
theorem dX6_doOrders_32 : decode cX6_doOrders 32 = .ok (.goto (-23), 3) := by decide +kernel
theorem dX6_doOrders_35 : decode cX6_doOrders 35 = .ok (.iconst (-1), 1) := by decide +kernel
theorem dX6_doOrders_36 : decode cX6_doOrders 36 = .ok (.ireturn, 1) := by decide +kernel
theorem dX6_doOrder_0 : decode cX6_doOrder 0 = .ok (.aload_n 0, 1) := by decide +kernel
theorem dX6_doOrder_1 : decode cX6_doOrder 1 = .ok (.getfield 47, 3) := by decide +kernel
theorem dX6_doOrder_4 : decode cX6_doOrder 4 = .ok (.invokevirtual 303, 3) := by decide +kernel
theorem dX6_doOrder_7 : decode cX6_doOrder 7 = .ok (.lookupswitch 208 #[(97, 149), (98, 125), (99, 171), (102, 109), (108, 80), (110, 65), (122, 141)], 65) := by decide +kernel
theorem dX6_doOrder_72 : decode cX6_doOrder 72 = .ok (.aload_n 0, 1) := by decide +kernel
theorem dX6_doOrder_73 : decode cX6_doOrder 73 = .ok (.getfield 16, 3) := by decide +kernel
theorem dX6_doOrder_76 : decode cX6_doOrder 76 = .ok (.aload_n 0, 1) := by decide +kernel
theorem dX6_doOrder_77 : decode cX6_doOrder 77 = .ok (.getfield 47, 3) := by decide +kernel
theorem dX6_doOrder_80 : decode cX6_doOrder 80 = .ok (.invokevirtual 303, 3) := by decide +kernel
theorem dX6_doOrder_83 : decode cX6_doOrder 83 = .ok (.invokevirtual 64, 3) := by decide +kernel
theorem dX6_doOrder_86 : decode cX6_doOrder 86 = .ok (.ireturn, 1) := by decide +kernel
theorem dX6_doOrder_87 : decode cX6_doOrder 87 = .ok (.aload_n 0, 1) := by decide +kernel
theorem dX6_doOrder_88 : decode cX6_doOrder 88 = .ok (.getfield 16, 3) := by decide +kernel
theorem dX6_doOrder_91 : decode cX6_doOrder 91 = .ok (.aload_n 0, 1) := by decide +kernel
theorem dX6_doOrder_92 : decode cX6_doOrder 92 = .ok (.getfield 47, 3) := by decide +kernel
theorem dX6_doOrder_95 : decode cX6_doOrder 95 = .ok (.invokevirtual 303, 3) := by decide +kernel
theorem dX6_doOrder_98 : decode cX6_doOrder 98 = .ok (.aload_n 0, 1) := by decide +kernel
theorem dX6_doOrder_99 : decode cX6_doOrder 99 = .ok (.getfield 47, 3) := by decide +kernel
theorem dX6_doOrder_102 : decode cX6_doOrder 102 = .ok (.invokevirtual 303, 3) := by decide +kernel
theorem dX6_doOrder_105 : decode cX6_doOrder 105 = .ok (.aload_n 0, 1) := by decide +kernel
theorem dX6_doOrder_106 : decode cX6_doOrder 106 = .ok (.getfield 47, 3) := by decide +kernel
theorem dX6_doOrder_109 : decode cX6_doOrder 109 = .ok (.invokevirtual 303, 3) := by decide +kernel
theorem dX6_doOrder_112 : decode cX6_doOrder 112 = .ok (.invokevirtual 75, 3) := by decide +kernel
theorem dX6_doOrder_115 : decode cX6_doOrder 115 = .ok (.ireturn, 1) := by decide +kernel
theorem dX6_doOrder_116 : decode cX6_doOrder 116 = .ok (.aload_n 0, 1) := by decide +kernel
theorem dX6_doOrder_117 : decode cX6_doOrder 117 = .ok (.getfield 16, 3) := by decide +kernel
theorem dX6_doOrder_120 : decode cX6_doOrder 120 = .ok (.aload_n 0, 1) := by decide +kernel
theorem dX6_doOrder_121 : decode cX6_doOrder 121 = .ok (.getfield 47, 3) := by decide +kernel
theorem dX6_doOrder_124 : decode cX6_doOrder 124 = .ok (.invokevirtual 303, 3) := by decide +kernel
theorem dX6_doOrder_127 : decode cX6_doOrder 127 = .ok (.iconst 1, 1) := by decide +kernel
theorem dX6_doOrder_128 : decode cX6_doOrder 128 = .ok (.invokevirtual 120, 3) := by decide +kernel
theorem dX6_doOrder_131 : decode cX6_doOrder 131 = .ok (.ireturn, 1) := by decide +kernel
theorem dX6_doOrder_132 : decode cX6_doOrder 132 = .ok (.aload_n 0, 1) := by decide +kernel
theorem dX6_doOrder_133 : decode cX6_doOrder 133 = .ok (.getfield 16, 3) := by decide +kernel
theorem dX6_doOrder_136 : decode cX6_doOrder 136 = .ok (.aload_n 0, 1) := by decide +kernel
theorem dX6_doOrder_137 : decode cX6_doOrder 137 = .ok (.getfield 47, 3) := by decide +kernel
theorem dX6_doOrder_140 : decode cX6_doOrder 140 = .ok (.invokevirtual 303, 3) := by decide +kernel
theorem dX6_doOrder_143 : decode cX6_doOrder 143 = .ok (.iconst (-1), 1) := by decide +kernel
theorem dX6_doOrder_144 : decode cX6_doOrder 144 = .ok (.invokevirtual 120, 3) := by decide +kernel
theorem dX6_doOrder_147 : decode cX6_doOrder 147 = .ok (.ireturn, 1) := by decide +kernel
theorem dX6_doOrder_148 : decode cX6_doOrder 148 = .ok (.aload_n 0, 1) := by decide +kernel
theorem dX6_doOrder_149 : decode cX6_doOrder 149 = .ok (.getfield 16, 3) := by decide +kernel
theorem dX6_doOrder_152 : decode cX6_doOrder 152 = .ok (.invokevirtual 134, 3) := by decide +kernel
theorem dX6_doOrder_155 : decode cX6_doOrder 155 = .ok (.ireturn, 1) := by decide +kernel
theorem dX6_doOrder_156 : decode cX6_doOrder 156 = .ok (.aload_n 0, 1) := by decide +kernel
theorem dX6_doOrder_157 : decode cX6_doOrder 157 = .ok (.getfield 16, 3) := by decide +kernel
theorem dX6_doOrder_160 : decode cX6_doOrder 160 = .ok (.aload_n 0, 1) := by decide +kernel
theorem dX6_doOrder_161 : decode cX6_doOrder 161 = .ok (.getfield 47, 3) := by decide +kernel
theorem dX6_doOrder_164 : decode cX6_doOrder 164 = .ok (.invokevirtual 303, 3) := by decide +kernel
theorem dX6_doOrder_167 : decode cX6_doOrder 167 = .ok (.aload_n 0, 1) := by decide +kernel
theorem dX6_doOrder_168 : decode cX6_doOrder 168 = .ok (.getfield 47, 3) := by decide +kernel
theorem dX6_doOrder_171 : decode cX6_doOrder 171 = .ok (.invokevirtual 303, 3) := by decide +kernel
theorem dX6_doOrder_174 : decode cX6_doOrder 174 = .ok (.invokevirtual 117, 3) := by decide +kernel
theorem dX6_doOrder_177 : decode cX6_doOrder 177 = .ok (.ireturn, 1) := by decide +kernel
theorem dX6_doOrder_178 : decode cX6_doOrder 178 = .ok (.iconst 0, 1) := by decide +kernel
theorem dX6_doOrder_179 : decode cX6_doOrder 179 = .ok (.istore_n 1, 1) := by decide +kernel
theorem dX6_doOrder_180 : decode cX6_doOrder 180 = .ok (.iload_n 1, 1) := by decide +kernel
theorem dX6_doOrder_181 : decode cX6_doOrder 181 = .ok (.aload_n 0, 1) := by decide +kernel
theorem dX6_doOrder_182 : decode cX6_doOrder 182 = .ok (.getfield 24, 3) := by decide +kernel
theorem dX6_doOrder_185 : decode cX6_doOrder 185 = .ok (.getfield 54, 3) := by decide +kernel
theorem dX6_doOrder_188 : decode cX6_doOrder 188 = .ok (.if_icmp .ge 25, 3) := by decide +kernel
theorem dX6_doOrder_191 : decode cX6_doOrder 191 = .ok (.aload_n 0, 1) := by decide +kernel
theorem dX6_doOrder_192 : decode cX6_doOrder 192 = .ok (.getfield 24, 3) := by decide +kernel
theorem dX6_doOrder_195 : decode cX6_doOrder 195 = .ok (.getfield 114, 3) := by decide +kernel
theorem dX6_doOrder_198 : decode cX6_doOrder 198 = .ok (.iload_n 1, 1) := by decide +kernel
theorem dX6_doOrder_199 : decode cX6_doOrder 199 = .ok (.aload_n 0, 1) := by decide +kernel
theorem dX6_doOrder_200 : decode cX6_doOrder 200 = .ok (.getfield 47, 3) := by decide +kernel
theorem dX6_doOrder_203 : decode cX6_doOrder 203 = .ok (.invokevirtual 303, 3) := by decide +kernel
theorem dX6_doOrder_206 : decode cX6_doOrder 206 = .ok (.iastore, 1) := by decide +kernel
theorem dX6_doOrder_207 : decode cX6_doOrder 207 = .ok (.iinc 1 1, 3) := by decide +kernel
theorem dX6_doOrder_210 : decode cX6_doOrder 210 = .ok (.goto (-30), 3) := by decide +kernel
theorem dX6_doOrder_213 : decode cX6_doOrder 213 = .ok (.iconst 0, 1) := by decide +kernel
theorem dX6_doOrder_214 : decode cX6_doOrder 214 = .ok (.ireturn, 1) := by decide +kernel
theorem dX6_doOrder_215 : decode cX6_doOrder 215 = .ok (.bipush (-2), 2) := by decide +kernel
theorem dX6_doOrder_217 : decode cX6_doOrder 217 = .ok (.ireturn, 1) := by decide +kernel
theorem dX6_isKeptNumber_0 : decode cX6_isKeptNumber 0 = .ok (.iload_n 0, 1) := by decide +kernel
theorem dX6_isKeptNumber_1 : decode cX6_isKeptNumber 1 = .ok (.ifCond .lt 12, 3) := by decide +kernel
theorem dX6_isKeptNumber_4 : decode cX6_isKeptNumber 4 = .ok (.iload_n 0, 1) := by decide +kernel
theorem dX6_isKeptNumber_5 : decode cX6_isKeptNumber 5 = .ok (.iconst 3, 1) := by decide +kernel
theorem dX6_isKeptNumber_6 : decode cX6_isKeptNumber 6 = .ok (.if_icmp .ge 7, 3) := by decide +kernel
theorem dX6_isKeptNumber_9 : decode cX6_isKeptNumber 9 = .ok (.iconst 1, 1) := by decide +kernel
theorem dX6_isKeptNumber_10 : decode cX6_isKeptNumber 10 = .ok (.goto 4, 3) := by decide +kernel
theorem dX6_isKeptNumber_13 : decode cX6_isKeptNumber 13 = .ok (.iconst 0, 1) := by decide +kernel
theorem dX6_isKeptNumber_14 : decode cX6_isKeptNumber 14 = .ok (.ireturn, 1) := by decide +kernel
theorem dX6_bit_0 : decode cX6_bit 0 = .ok (.iload_n 0, 1) := by decide +kernel
theorem dX6_bit_1 : decode cX6_bit 1 = .ok (.ifCond .eq 7, 3) := by decide +kernel
theorem dX6_bit_4 : decode cX6_bit 4 = .ok (.iconst 1, 1) := by decide +kernel
theorem dX6_bit_5 : decode cX6_bit 5 = .ok (.goto 4, 3) := by decide +kernel
theorem dX6_bit_8 : decode cX6_bit 8 = .ok (.iconst 0, 1) := by decide +kernel
theorem dX6_bit_9 : decode cX6_bit 9 = .ok (.ireturn, 1) := by decide +kernel
theorem dX6_copyRow_0 : decode cX6_copyRow 0 = .ok (.aload_n 0, 1) := by decide +kernel
theorem dX6_copyRow_1 : decode cX6_copyRow 1 = .ok (.iconst 0, 1) := by decide +kernel
theorem dX6_copyRow_2 : decode cX6_copyRow 2 = .ok (.aload_n 1, 1) := by decide +kernel
theorem dX6_copyRow_3 : decode cX6_copyRow 3 = .ok (.iconst 0, 1) := by decide +kernel
theorem dX6_copyRow_4 : decode cX6_copyRow 4 = .ok (.iconst 5, 1) := by decide +kernel
theorem dX6_copyRow_5 : decode cX6_copyRow 5 = .ok (.invokestatic 306, 3) := by decide +kernel
theorem dX6_copyRow_8 : decode cX6_copyRow 8 = .ok (.return_, 1) := by decide +kernel
theorem dX6_degreeOf_0 : decode cX6_degreeOf 0 = .ok (.iconst 0, 1) := by decide +kernel
theorem dX6_degreeOf_1 : decode cX6_degreeOf 1 = .ok (.istore_n 2, 1) := by decide +kernel
theorem dX6_degreeOf_2 : decode cX6_degreeOf 2 = .ok (.iconst 0, 1) := by decide +kernel
theorem dX6_degreeOf_3 : decode cX6_degreeOf 3 = .ok (.istore_n 3, 1) := by decide +kernel
theorem dX6_degreeOf_4 : decode cX6_degreeOf 4 = .ok (.iload_n 3, 1) := by decide +kernel
theorem dX6_degreeOf_5 : decode cX6_degreeOf 5 = .ok (.iload_n 1, 1) := by decide +kernel
theorem dX6_degreeOf_6 : decode cX6_degreeOf 6 = .ok (.if_icmp .ge 15, 3) := by decide +kernel
theorem dX6_degreeOf_9 : decode cX6_degreeOf 9 = .ok (.iload_n 2, 1) := by decide +kernel
theorem dX6_degreeOf_10 : decode cX6_degreeOf 10 = .ok (.aload_n 0, 1) := by decide +kernel
theorem dX6_degreeOf_11 : decode cX6_degreeOf 11 = .ok (.iload_n 3, 1) := by decide +kernel
theorem dX6_degreeOf_12 : decode cX6_degreeOf 12 = .ok (.iaload, 1) := by decide +kernel
theorem dX6_degreeOf_13 : decode cX6_degreeOf 13 = .ok (.iadd, 1) := by decide +kernel
theorem dX6_degreeOf_14 : decode cX6_degreeOf 14 = .ok (.istore_n 2, 1) := by decide +kernel
theorem dX6_degreeOf_15 : decode cX6_degreeOf 15 = .ok (.iinc 3 1, 3) := by decide +kernel
theorem dX6_degreeOf_18 : decode cX6_degreeOf 18 = .ok (.goto (-14), 3) := by decide +kernel
theorem dX6_degreeOf_21 : decode cX6_degreeOf 21 = .ok (.iload_n 2, 1) := by decide +kernel
theorem dX6_degreeOf_22 : decode cX6_degreeOf 22 = .ok (.ireturn, 1) := by decide +kernel
