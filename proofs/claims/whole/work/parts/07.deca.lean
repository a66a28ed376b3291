/-! rows that decode (printed names) -/
theorem dX0_init_0 : decode cX0_init 0 = .ok (.aload_n 0, 1) := by decide +kernel
theorem dX0_init_1 : decode cX0_init 1 = .ok (.invokespecial 3, 3) := by decide +kernel
theorem dX0_init_4 : decode cX0_init 4 = .ok (.aload_n 0, 1) := by decide +kernel
theorem dX0_init_5 : decode cX0_init 5 = .ok (.new 9, 3) := by decide +kernel
theorem dX0_init_8 : decode cX0_init 8 = .ok (.dup, 1) := by decide +kernel
theorem dX0_init_9 : decode cX0_init 9 = .ok (.invokespecial 11, 3) := by decide +kernel
theorem dX0_init_12 : decode cX0_init 12 = .ok (.putfield 12, 3) := by decide +kernel
theorem dX0_init_15 : decode cX0_init 15 = .ok (.aload_n 0, 1) := by decide +kernel
theorem dX0_init_16 : decode cX0_init 16 = .ok (.new 18, 3) := by decide +kernel
theorem dX0_init_19 : decode cX0_init 19 = .ok (.dup, 1) := by decide +kernel
theorem dX0_init_20 : decode cX0_init 20 = .ok (.invokespecial 20, 3) := by decide +kernel
theorem dX0_init_23 : decode cX0_init 23 = .ok (.putfield 21, 3) := by decide +kernel
theorem dX0_init_26 : decode cX0_init 26 = .ok (.aload_n 0, 1) := by decide +kernel
theorem dX0_init_27 : decode cX0_init 27 = .ok (.iconst 5, 1) := by decide +kernel
theorem dX0_init_28 : decode cX0_init 28 = .ok (.newarray .int, 2) := by decide +kernel
theorem dX0_init_30 : decode cX0_init 30 = .ok (.putfield 25, 3) := by decide +kernel
theorem dX0_init_33 : decode cX0_init 33 = .ok (.aload_n 0, 1) := by decide +kernel
theorem dX0_init_34 : decode cX0_init 34 = .ok (.iconst 5, 1) := by decide +kernel
theorem dX0_init_35 : decode cX0_init 35 = .ok (.newarray .int, 2) := by decide +kernel
theorem dX0_init_37 : decode cX0_init 37 = .ok (.putfield 29, 3) := by decide +kernel
theorem dX0_init_40 : decode cX0_init 40 = .ok (.return_, 1) := by decide +kernel
theorem dX0_startAnew_0 : decode cX0_startAnew 0 = .ok (.iload_n 1, 1) := by decide +kernel
theorem dX0_startAnew_1 : decode cX0_startAnew 1 = .ok (.iconst 2, 1) := by decide +kernel
theorem dX0_startAnew_2 : decode cX0_startAnew 2 = .ok (.if_icmp .lt 8, 3) := by decide +kernel
theorem dX0_startAnew_5 : decode cX0_startAnew 5 = .ok (.iload_n 1, 1) := by decide +kernel
theorem dX0_startAnew_6 : decode cX0_startAnew 6 = .ok (.iconst 5, 1) := by decide +kernel
theorem dX0_startAnew_7 : decode cX0_startAnew 7 = .ok (.if_icmp .le 6, 3) := by decide +kernel
theorem dX0_startAnew_10 : decode cX0_startAnew 10 = .ok (.bipush (-2), 2) := by decide +kernel
theorem dX0_startAnew_12 : decode cX0_startAnew 12 = .ok (.ireturn, 1) := by decide +kernel
theorem dX0_startAnew_13 : decode cX0_startAnew 13 = .ok (.aload_n 0, 1) := by decide +kernel
theorem dX0_startAnew_14 : decode cX0_startAnew 14 = .ok (.getfield 12, 3) := by decide +kernel
theorem dX0_startAnew_17 : decode cX0_startAnew 17 = .ok (.iload_n 1, 1) := by decide +kernel
theorem dX0_startAnew_18 : decode cX0_startAnew 18 = .ok (.invokevirtual 32, 3) := by decide +kernel
theorem dX0_startAnew_21 : decode cX0_startAnew 21 = .ok (.iconst 0, 1) := by decide +kernel
theorem dX0_startAnew_22 : decode cX0_startAnew 22 = .ok (.ireturn, 1) := by decide +kernel
theorem dX0_layLines_0 : decode cX0_layLines 0 = .ok (.aload_n 0, 1) := by decide +kernel
theorem dX0_layLines_1 : decode cX0_layLines 1 = .ok (.getfield 12, 3) := by decide +kernel
theorem dX0_layLines_4 : decode cX0_layLines 4 = .ok (.iload_n 1, 1) := by decide +kernel
theorem dX0_layLines_5 : decode cX0_layLines 5 = .ok (.invokevirtual 36, 3) := by decide +kernel
theorem dX0_layLines_8 : decode cX0_layLines 8 = .ok (.ifCond .eq 28, 3) := by decide +kernel
theorem dX0_layLines_11 : decode cX0_layLines 11 = .ok (.aload_n 0, 1) := by decide +kernel
theorem dX0_layLines_12 : decode cX0_layLines 12 = .ok (.getfield 12, 3) := by decide +kernel
theorem dX0_layLines_15 : decode cX0_layLines 15 = .ok (.iload_n 2, 1) := by decide +kernel
theorem dX0_layLines_16 : decode cX0_layLines 16 = .ok (.invokevirtual 36, 3) := by decide +kernel
theorem dX0_layLines_19 : decode cX0_layLines 19 = .ok (.ifCond .eq 17, 3) := by decide +kernel
theorem dX0_layLines_22 : decode cX0_layLines 22 = .ok (.iload_n 1, 1) := by decide +kernel
theorem dX0_layLines_23 : decode cX0_layLines 23 = .ok (.iload_n 2, 1) := by decide +kernel
theorem dX0_layLines_24 : decode cX0_layLines 24 = .ok (.if_icmp .eq 12, 3) := by decide +kernel
theorem dX0_layLines_27 : decode cX0_layLines 27 = .ok (.iload_n 3, 1) := by decide +kernel
theorem dX0_layLines_28 : decode cX0_layLines 28 = .ok (.ifCond .lt 8, 3) := by decide +kernel
theorem dX0_layLines_31 : decode cX0_layLines 31 = .ok (.iload_n 3, 1) := by decide +kernel
theorem dX0_layLines_32 : decode cX0_layLines 32 = .ok (.iconst 3, 1) := by decide +kernel
theorem dX0_layLines_33 : decode cX0_layLines 33 = .ok (.if_icmp .le 6, 3) := by decide +kernel
theorem dX0_layLines_36 : decode cX0_layLines 36 = .ok (.bipush (-2), 2) := by decide +kernel
theorem dX0_layLines_38 : decode cX0_layLines 38 = .ok (.ireturn, 1) := by decide +kernel
theorem dX0_layLines_39 : decode cX0_layLines 39 = .ok (.aload_n 0, 1) := by decide +kernel
theorem dX0_layLines_40 : decode cX0_layLines 40 = .ok (.getfield 12, 3) := by decide +kernel
theorem dX0_layLines_43 : decode cX0_layLines 43 = .ok (.iload_n 1, 1) := by decide +kernel
theorem dX0_layLines_44 : decode cX0_layLines 44 = .ok (.iload_n 2, 1) := by decide +kernel
theorem dX0_layLines_45 : decode cX0_layLines 45 = .ok (.iload_n 3, 1) := by decide +kernel
theorem dX0_layLines_46 : decode cX0_layLines 46 = .ok (.invokevirtual 40, 3) := by decide +kernel
theorem dX0_layLines_49 : decode cX0_layLines 49 = .ok (.iconst 0, 1) := by decide +kernel
theorem dX0_layLines_50 : decode cX0_layLines 50 = .ok (.ireturn, 1) := by decide +kernel
theorem dX0_addChips_0 : decode cX0_addChips 0 = .ok (.aload_n 0, 1) := by decide +kernel
theorem dX0_addChips_1 : decode cX0_addChips 1 = .ok (.getfield 12, 3) := by decide +kernel
theorem dX0_addChips_4 : decode cX0_addChips 4 = .ok (.iload_n 1, 1) := by decide +kernel
theorem dX0_addChips_5 : decode cX0_addChips 5 = .ok (.invokevirtual 36, 3) := by decide +kernel
theorem dX0_addChips_8 : decode cX0_addChips 8 = .ok (.ifCond .eq 15, 3) := by decide +kernel
theorem dX0_addChips_11 : decode cX0_addChips 11 = .ok (.iload_n 2, 1) := by decide +kernel
theorem dX0_addChips_12 : decode cX0_addChips 12 = .ok (.i2l, 1) := by decide +kernel
theorem dX0_addChips_13 : decode cX0_addChips 13 = .ok (.invokestatic 44, 3) := by decide +kernel
theorem dX0_addChips_16 : decode cX0_addChips 16 = .ok (.ldc2_w 50, 3) := by decide +kernel
theorem dX0_addChips_19 : decode cX0_addChips 19 = .ok (.lcmp, 1) := by decide +kernel
theorem dX0_addChips_20 : decode cX0_addChips 20 = .ok (.ifCond .le 6, 3) := by decide +kernel
theorem dX0_addChips_23 : decode cX0_addChips 23 = .ok (.bipush (-2), 2) := by decide +kernel
theorem dX0_addChips_25 : decode cX0_addChips 25 = .ok (.ireturn, 1) := by decide +kernel
theorem dX0_addChips_26 : decode cX0_addChips 26 = .ok (.aload_n 0, 1) := by decide +kernel
theorem dX0_addChips_27 : decode cX0_addChips 27 = .ok (.getfield 12, 3) := by decide +kernel
theorem dX0_addChips_30 : decode cX0_addChips 30 = .ok (.getfield 52, 3) := by decide +kernel
theorem dX0_addChips_33 : decode cX0_addChips 33 = .ok (.aload_n 0, 1) := by decide +kernel
theorem dX0_addChips_34 : decode cX0_addChips 34 = .ok (.getfield 25, 3) := by decide +kernel
theorem dX0_addChips_37 : decode cX0_addChips 37 = .ok (.invokestatic 55, 3) := by decide +kernel
theorem dX0_addChips_40 : decode cX0_addChips 40 = .ok (.aload_n 0, 1) := by decide +kernel
theorem dX0_addChips_41 : decode cX0_addChips 41 = .ok (.getfield 25, 3) := by decide +kernel
theorem dX0_addChips_44 : decode cX0_addChips 44 = .ok (.iload_n 1, 1) := by decide +kernel
theorem dX0_addChips_45 : decode cX0_addChips 45 = .ok (.dup2, 1) := by decide +kernel
theorem dX0_addChips_46 : decode cX0_addChips 46 = .ok (.iaload, 1) := by decide +kernel
theorem dX0_addChips_47 : decode cX0_addChips 47 = .ok (.iload_n 2, 1) := by decide +kernel
theorem dX0_addChips_48 : decode cX0_addChips 48 = .ok (.iadd, 1) := by decide +kernel
theorem dX0_addChips_49 : decode cX0_addChips 49 = .ok (.iastore, 1) := by decide +kernel
theorem dX0_addChips_50 : decode cX0_addChips 50 = .ok (.aload_n 0, 1) := by decide +kernel
theorem dX0_addChips_51 : decode cX0_addChips 51 = .ok (.invokevirtual 59, 3) := by decide +kernel
theorem dX0_addChips_54 : decode cX0_addChips 54 = .ok (.ireturn, 1) := by decide +kernel
theorem dX0_firePoint_0 : decode cX0_firePoint 0 = .ok (.aload_n 0, 1) := by decide +kernel
theorem dX0_firePoint_1 : decode cX0_firePoint 1 = .ok (.getfield 12, 3) := by decide +kernel
theorem dX0_firePoint_4 : decode cX0_firePoint 4 = .ok (.iload_n 1, 1) := by decide +kernel
theorem dX0_firePoint_5 : decode cX0_firePoint 5 = .ok (.invokevirtual 36, 3) := by decide +kernel
theorem dX0_firePoint_8 : decode cX0_firePoint 8 = .ok (.ifCond .eq 14, 3) := by decide +kernel
theorem dX0_firePoint_11 : decode cX0_firePoint 11 = .ok (.aload_n 0, 1) := by decide +kernel
theorem dX0_firePoint_12 : decode cX0_firePoint 12 = .ok (.iconst 1, 1) := by decide +kernel
theorem dX0_firePoint_13 : decode cX0_firePoint 13 = .ok (.iload_n 1, 1) := by decide +kernel
theorem dX0_firePoint_14 : decode cX0_firePoint 14 = .ok (.ishl, 1) := by decide +kernel
theorem dX0_firePoint_15 : decode cX0_firePoint 15 = .ok (.iload_n 2, 1) := by decide +kernel
theorem dX0_firePoint_16 : decode cX0_firePoint 16 = .ok (.invokevirtual 63, 3) := by decide +kernel
theorem dX0_firePoint_19 : decode cX0_firePoint 19 = .ok (.goto 5, 3) := by decide +kernel
theorem dX0_firePoint_22 : decode cX0_firePoint 22 = .ok (.bipush (-2), 2) := by decide +kernel
theorem dX0_firePoint_24 : decode cX0_firePoint 24 = .ok (.ireturn, 1) := by decide +kernel
theorem dX0_fireSet_0 : decode cX0_fireSet 0 = .ok (.iload_n 1, 1) := by decide +kernel
theorem dX0_fireSet_1 : decode cX0_fireSet 1 = .ok (.iconst 1, 1) := by decide +kernel
theorem dX0_fireSet_2 : decode cX0_fireSet 2 = .ok (.if_icmp .lt 14, 3) := by decide +kernel
theorem dX0_fireSet_5 : decode cX0_fireSet 5 = .ok (.iload_n 1, 1) := by decide +kernel
theorem dX0_fireSet_6 : decode cX0_fireSet 6 = .ok (.aload_n 0, 1) := by decide +kernel
theorem dX0_fireSet_7 : decode cX0_fireSet 7 = .ok (.getfield 12, 3) := by decide +kernel
theorem dX0_fireSet_10 : decode cX0_fireSet 10 = .ok (.invokevirtual 67, 3) := by decide +kernel
theorem dX0_fireSet_13 : decode cX0_fireSet 13 = .ok (.if_icmp .le 6, 3) := by decide +kernel
theorem dX0_fireSet_16 : decode cX0_fireSet 16 = .ok (.bipush (-2), 2) := by decide +kernel
theorem dX0_fireSet_18 : decode cX0_fireSet 18 = .ok (.ireturn, 1) := by decide +kernel
theorem dX0_fireSet_19 : decode cX0_fireSet 19 = .ok (.aload_n 0, 1) := by decide +kernel
theorem dX0_fireSet_20 : decode cX0_fireSet 20 = .ok (.getfield 12, 3) := by decide +kernel
theorem dX0_fireSet_23 : decode cX0_fireSet 23 = .ok (.getfield 52, 3) := by decide +kernel
theorem dX0_fireSet_26 : decode cX0_fireSet 26 = .ok (.aload_n 0, 1) := by decide +kernel
theorem dX0_fireSet_27 : decode cX0_fireSet 27 = .ok (.getfield 25, 3) := by decide +kernel
theorem dX0_fireSet_30 : decode cX0_fireSet 30 = .ok (.invokestatic 55, 3) := by decide +kernel
theorem dX0_fireSet_33 : decode cX0_fireSet 33 = .ok (.aload_n 0, 1) := by decide +kernel
theorem dX0_fireSet_34 : decode cX0_fireSet 34 = .ok (.getfield 21, 3) := by decide +kernel
theorem dX0_fireSet_37 : decode cX0_fireSet 37 = .ok (.aload_n 0, 1) := by decide +kernel
theorem dX0_fireSet_38 : decode cX0_fireSet 38 = .ok (.getfield 12, 3) := by decide +kernel
theorem dX0_fireSet_41 : decode cX0_fireSet 41 = .ok (.iconst 0, 1) := by decide +kernel
theorem dX0_fireSet_42 : decode cX0_fireSet 42 = .ok (.invokevirtual 70, 3) := by decide +kernel
theorem dX0_fireSet_45 : decode cX0_fireSet 45 = .ok (.iconst 0, 1) := by decide +kernel
theorem dX0_fireSet_46 : decode cX0_fireSet 46 = .ok (.istore_n 3, 1) := by decide +kernel
theorem dX0_fireSet_47 : decode cX0_fireSet 47 = .ok (.iload_n 3, 1) := by decide +kernel
theorem dX0_fireSet_48 : decode cX0_fireSet 48 = .ok (.aload_n 0, 1) := by decide +kernel
theorem dX0_fireSet_49 : decode cX0_fireSet 49 = .ok (.getfield 12, 3) := by decide +kernel
theorem dX0_fireSet_52 : decode cX0_fireSet 52 = .ok (.getfield 74, 3) := by decide +kernel
theorem dX0_fireSet_55 : decode cX0_fireSet 55 = .ok (.if_icmp .ge 31, 3) := by decide +kernel
theorem dX0_fireSet_58 : decode cX0_fireSet 58 = .ok (.iload_n 1, 1) := by decide +kernel
theorem dX0_fireSet_59 : decode cX0_fireSet 59 = .ok (.iload_n 3, 1) := by decide +kernel
theorem dX0_fireSet_60 : decode cX0_fireSet 60 = .ok (.ishr, 1) := by decide +kernel
theorem dX0_fireSet_61 : decode cX0_fireSet 61 = .ok (.iconst 1, 1) := by decide +kernel
theorem dX0_fireSet_62 : decode cX0_fireSet 62 = .ok (.iand, 1) := by decide +kernel
theorem dX0_fireSet_63 : decode cX0_fireSet 63 = .ok (.iconst 1, 1) := by decide +kernel
theorem dX0_fireSet_64 : decode cX0_fireSet 64 = .ok (.if_icmp .ne 16, 3) := by decide +kernel
theorem dX0_fireSet_67 : decode cX0_fireSet 67 = .ok (.aload_n 0, 1) := by decide +kernel
theorem dX0_fireSet_68 : decode cX0_fireSet 68 = .ok (.getfield 21, 3) := by decide +kernel
theorem dX0_fireSet_71 : decode cX0_fireSet 71 = .ok (.aload_n 0, 1) := by decide +kernel
theorem dX0_fireSet_72 : decode cX0_fireSet 72 = .ok (.getfield 25, 3) := by decide +kernel
theorem dX0_fireSet_75 : decode cX0_fireSet 75 = .ok (.iload_n 3, 1) := by decide +kernel
theorem dX0_fireSet_76 : decode cX0_fireSet 76 = .ok (.iload_n 2, 1) := by decide +kernel
theorem dX0_fireSet_77 : decode cX0_fireSet 77 = .ok (.invokevirtual 78, 3) := by decide +kernel
theorem dX0_fireSet_80 : decode cX0_fireSet 80 = .ok (.iinc 3 1, 3) := by decide +kernel
theorem dX0_fireSet_83 : decode cX0_fireSet 83 = .ok (.goto (-36), 3) := by decide +kernel
theorem dX0_fireSet_86 : decode cX0_fireSet 86 = .ok (.aload_n 0, 1) := by decide +kernel
theorem dX0_fireSet_87 : decode cX0_fireSet 87 = .ok (.invokevirtual 59, 3) := by decide +kernel
theorem dX0_fireSet_90 : decode cX0_fireSet 90 = .ok (.ireturn, 1) := by decide +kernel
theorem dX0_settleHeap_0 : decode cX0_settleHeap 0 = .ok (.aload_n 0, 1) := by decide +kernel
theorem dX0_settleHeap_1 : decode cX0_settleHeap 1 = .ok (.getfield 12, 3) := by decide +kernel
theorem dX0_settleHeap_4 : decode cX0_settleHeap 4 = .ok (.invokevirtual 82, 3) := by decide +kernel
theorem dX0_settleHeap_7 : decode cX0_settleHeap 7 = .ok (.ifCond .eq 13, 3) := by decide +kernel
theorem dX0_settleHeap_10 : decode cX0_settleHeap 10 = .ok (.aload_n 0, 1) := by decide +kernel
theorem dX0_settleHeap_11 : decode cX0_settleHeap 11 = .ok (.getfield 12, 3) := by decide +kernel
theorem dX0_settleHeap_14 : decode cX0_settleHeap 14 = .ok (.invokevirtual 86, 3) := by decide +kernel
theorem dX0_settleHeap_17 : decode cX0_settleHeap 17 = .ok (.ifCond .ne 6, 3) := by decide +kernel
theorem dX0_settleHeap_20 : decode cX0_settleHeap 20 = .ok (.bipush (-3), 2) := by decide +kernel
theorem dX0_settleHeap_22 : decode cX0_settleHeap 22 = .ok (.ireturn, 1) := by decide +kernel
theorem dX0_settleHeap_23 : decode cX0_settleHeap 23 = .ok (.aload_n 0, 1) := by decide +kernel
theorem dX0_settleHeap_24 : decode cX0_settleHeap 24 = .ok (.getfield 12, 3) := by decide +kernel
theorem dX0_settleHeap_27 : decode cX0_settleHeap 27 = .ok (.getfield 52, 3) := by decide +kernel
theorem dX0_settleHeap_30 : decode cX0_settleHeap 30 = .ok (.aload_n 0, 1) := by decide +kernel
theorem dX0_settleHeap_31 : decode cX0_settleHeap 31 = .ok (.getfield 25, 3) := by decide +kernel
theorem dX0_settleHeap_34 : decode cX0_settleHeap 34 = .ok (.invokestatic 55, 3) := by decide +kernel
theorem dX0_settleHeap_37 : decode cX0_settleHeap 37 = .ok (.aload_n 0, 1) := by decide +kernel
theorem dX0_settleHeap_38 : decode cX0_settleHeap 38 = .ok (.getfield 29, 3) := by decide +kernel
theorem dX0_settleHeap_41 : decode cX0_settleHeap 41 = .ok (.iconst 0, 1) := by decide +kernel
theorem dX0_settleHeap_42 : decode cX0_settleHeap 42 = .ok (.invokestatic 89, 3) := by decide +kernel
theorem dX0_settleHeap_45 : decode cX0_settleHeap 45 = .ok (.aload_n 0, 1) := by decide +kernel
theorem dX0_settleHeap_46 : decode cX0_settleHeap 46 = .ok (.getfield 21, 3) := by decide +kernel
theorem dX0_settleHeap_49 : decode cX0_settleHeap 49 = .ok (.aload_n 0, 1) := by decide +kernel
theorem dX0_settleHeap_50 : decode cX0_settleHeap 50 = .ok (.getfield 12, 3) := by decide +kernel
theorem dX0_settleHeap_53 : decode cX0_settleHeap 53 = .ok (.iconst 0, 1) := by decide +kernel
theorem dX0_settleHeap_54 : decode cX0_settleHeap 54 = .ok (.invokevirtual 70, 3) := by decide +kernel
theorem dX0_settleHeap_57 : decode cX0_settleHeap 57 = .ok (.aload_n 0, 1) := by decide +kernel
theorem dX0_settleHeap_58 : decode cX0_settleHeap 58 = .ok (.getfield 21, 3) := by decide +kernel
theorem dX0_settleHeap_61 : decode cX0_settleHeap 61 = .ok (.aload_n 0, 1) := by decide +kernel
theorem dX0_settleHeap_62 : decode cX0_settleHeap 62 = .ok (.getfield 25, 3) := by decide +kernel
theorem dX0_settleHeap_65 : decode cX0_settleHeap 65 = .ok (.aload_n 0, 1) := by decide +kernel
theorem dX0_settleHeap_66 : decode cX0_settleHeap 66 = .ok (.getfield 29, 3) := by decide +kernel
theorem dX0_settleHeap_69 : decode cX0_settleHeap 69 = .ok (.invokevirtual 95, 3) := by decide +kernel
theorem dX0_settleHeap_72 : decode cX0_settleHeap 72 = .ok (.aload_n 0, 1) := by decide +kernel
theorem dX0_settleHeap_73 : decode cX0_settleHeap 73 = .ok (.invokevirtual 59, 3) := by decide +kernel
theorem dX0_settleHeap_76 : decode cX0_settleHeap 76 = .ok (.istore_n 1, 1) := by decide +kernel
theorem dX0_settleHeap_77 : decode cX0_settleHeap 77 = .ok (.iload_n 1, 1) := by decide +kernel
theorem dX0_settleHeap_78 : decode cX0_settleHeap 78 = .ok (.ifCond .ne 17, 3) := by decide +kernel
theorem dX0_settleHeap_81 : decode cX0_settleHeap 81 = .ok (.aload_n 0, 1) := by decide +kernel
theorem dX0_settleHeap_82 : decode cX0_settleHeap 82 = .ok (.getfield 29, 3) := by decide +kernel
theorem dX0_settleHeap_85 : decode cX0_settleHeap 85 = .ok (.aload_n 0, 1) := by decide +kernel
theorem dX0_settleHeap_86 : decode cX0_settleHeap 86 = .ok (.getfield 12, 3) := by decide +kernel
theorem dX0_settleHeap_89 : decode cX0_settleHeap 89 = .ok (.getfield 98, 3) := by decide +kernel
theorem dX0_settleHeap_92 : decode cX0_settleHeap 92 = .ok (.invokestatic 55, 3) := by decide +kernel
theorem dX0_settleHeap_95 : decode cX0_settleHeap 95 = .ok (.iload_n 1, 1) := by decide +kernel
theorem dX0_settleHeap_96 : decode cX0_settleHeap 96 = .ok (.ireturn, 1) := by decide +kernel
theorem dX0_takePlanned_0 : decode cX0_takePlanned 0 = .ok (.iconst 0, 1) := by decide +kernel
theorem dX0_takePlanned_1 : decode cX0_takePlanned 1 = .ok (.istore_n 1, 1) := by decide +kernel
theorem dX0_takePlanned_2 : decode cX0_takePlanned 2 = .ok (.iload_n 1, 1) := by decide +kernel
theorem dX0_takePlanned_3 : decode cX0_takePlanned 3 = .ok (.aload_n 0, 1) := by decide +kernel
theorem dX0_takePlanned_4 : decode cX0_takePlanned 4 = .ok (.getfield 12, 3) := by decide +kernel
theorem dX0_takePlanned_7 : decode cX0_takePlanned 7 = .ok (.getfield 74, 3) := by decide +kernel
theorem dX0_takePlanned_10 : decode cX0_takePlanned 10 = .ok (.if_icmp .ge 27, 3) := by decide +kernel
theorem dX0_takePlanned_13 : decode cX0_takePlanned 13 = .ok (.aload_n 0, 1) := by decide +kernel
theorem dX0_takePlanned_14 : decode cX0_takePlanned 14 = .ok (.getfield 25, 3) := by decide +kernel
theorem dX0_takePlanned_17 : decode cX0_takePlanned 17 = .ok (.iload_n 1, 1) := by decide +kernel
theorem dX0_takePlanned_18 : decode cX0_takePlanned 18 = .ok (.iaload, 1) := by decide +kernel
theorem dX0_takePlanned_19 : decode cX0_takePlanned 19 = .ok (.invokestatic 101, 3) := by decide +kernel
theorem dX0_takePlanned_22 : decode cX0_takePlanned 22 = .ok (.sipush 999, 3) := by decide +kernel
theorem dX0_takePlanned_25 : decode cX0_takePlanned 25 = .ok (.if_icmp .le 6, 3) := by decide +kernel
theorem dX0_takePlanned_28 : decode cX0_takePlanned 28 = .ok (.bipush (-3), 2) := by decide +kernel
theorem dX0_takePlanned_30 : decode cX0_takePlanned 30 = .ok (.ireturn, 1) := by decide +kernel
theorem dX0_takePlanned_31 : decode cX0_takePlanned 31 = .ok (.iinc 1 1, 3) := by decide +kernel
theorem dX0_takePlanned_34 : decode cX0_takePlanned 34 = .ok (.goto (-32), 3) := by decide +kernel
theorem dX0_takePlanned_37 : decode cX0_takePlanned 37 = .ok (.aload_n 0, 1) := by decide +kernel
theorem dX0_takePlanned_38 : decode cX0_takePlanned 38 = .ok (.getfield 25, 3) := by decide +kernel
theorem dX0_takePlanned_41 : decode cX0_takePlanned 41 = .ok (.aload_n 0, 1) := by decide +kernel
theorem dX0_takePlanned_42 : decode cX0_takePlanned 42 = .ok (.getfield 12, 3) := by decide +kernel
theorem dX0_takePlanned_45 : decode cX0_takePlanned 45 = .ok (.getfield 52, 3) := by decide +kernel
theorem dX0_takePlanned_48 : decode cX0_takePlanned 48 = .ok (.invokestatic 55, 3) := by decide +kernel
theorem dX0_takePlanned_51 : decode cX0_takePlanned 51 = .ok (.iconst 0, 1) := by decide +kernel
theorem dX0_takePlanned_52 : decode cX0_takePlanned 52 = .ok (.ireturn, 1) := by decide +kernel
theorem dX1_init_0 : decode cX1_init 0 = .ok (.aload_n 0, 1) := by decide +kernel
theorem dX1_init_1 : decode cX1_init 1 = .ok (.invokespecial 3, 3) := by decide +kernel
theorem dX1_init_4 : decode cX1_init 4 = .ok (.aload_n 0, 1) := by decide +kernel
theorem dX1_init_5 : decode cX1_init 5 = .ok (.iconst 5, 1) := by decide +kernel
theorem dX1_init_6 : decode cX1_init 6 = .ok (.iconst 5, 1) := by decide +kernel
theorem dX1_init_7 : decode cX1_init 7 = .ok (.multianewarray 9 2, 4) := by decide +kernel
theorem dX1_init_11 : decode cX1_init 11 = .ok (.putfield 11, 3) := by decide +kernel
theorem dX1_init_14 : decode cX1_init 14 = .ok (.aload_n 0, 1) := by decide +kernel
theorem dX1_init_15 : decode cX1_init 15 = .ok (.iconst 5, 1) := by decide +kernel
theorem dX1_init_16 : decode cX1_init 16 = .ok (.iconst 5, 1) := by decide +kernel
theorem dX1_init_17 : decode cX1_init 17 = .ok (.multianewarray 16 2, 4) := by decide +kernel
theorem dX1_init_21 : decode cX1_init 21 = .ok (.putfield 18, 3) := by decide +kernel
theorem dX1_init_24 : decode cX1_init 24 = .ok (.aload_n 0, 1) := by decide +kernel
theorem dX1_init_25 : decode cX1_init 25 = .ok (.iconst 5, 1) := by decide +kernel
theorem dX1_init_26 : decode cX1_init 26 = .ok (.newarray .long, 2) := by decide +kernel
theorem dX1_init_28 : decode cX1_init 28 = .ok (.putfield 21, 3) := by decide +kernel
theorem dX1_init_31 : decode cX1_init 31 = .ok (.aload_n 0, 1) := by decide +kernel
theorem dX1_init_32 : decode cX1_init 32 = .ok (.iconst 5, 1) := by decide +kernel
theorem dX1_init_33 : decode cX1_init 33 = .ok (.newarray .int, 2) := by decide +kernel
theorem dX1_init_35 : decode cX1_init 35 = .ok (.putfield 25, 3) := by decide +kernel
theorem dX1_init_38 : decode cX1_init 38 = .ok (.aload_n 0, 1) := by decide +kernel
theorem dX1_init_39 : decode cX1_init 39 = .ok (.iconst 5, 1) := by decide +kernel
theorem dX1_init_40 : decode cX1_init 40 = .ok (.newarray .int, 2) := by decide +kernel
theorem dX1_init_42 : decode cX1_init 42 = .ok (.putfield 29, 3) := by decide +kernel
theorem dX1_init_45 : decode cX1_init 45 = .ok (.aload_n 0, 1) := by decide +kernel
theorem dX1_init_46 : decode cX1_init 46 = .ok (.iconst 5, 1) := by decide +kernel
theorem dX1_init_47 : decode cX1_init 47 = .ok (.newarray .int, 2) := by decide +kernel
theorem dX1_init_49 : decode cX1_init 49 = .ok (.putfield 32, 3) := by decide +kernel
theorem dX1_init_52 : decode cX1_init 52 = .ok (.aload_n 0, 1) := by decide +kernel
theorem dX1_init_53 : decode cX1_init 53 = .ok (.iconst 2, 1) := by decide +kernel
theorem dX1_init_54 : decode cX1_init 54 = .ok (.putfield 35, 3) := by decide +kernel
theorem dX1_init_57 : decode cX1_init 57 = .ok (.aload_n 0, 1) := by decide +kernel
theorem dX1_init_58 : decode cX1_init 58 = .ok (.iconst 0, 1) := by decide +kernel
theorem dX1_init_59 : decode cX1_init 59 = .ok (.putfield 39, 3) := by decide +kernel
theorem dX1_init_62 : decode cX1_init 62 = .ok (.aload_n 0, 1) := by decide +kernel
theorem dX1_init_63 : decode cX1_init 63 = .ok (.lconst 0, 1) := by decide +kernel
theorem dX1_init_64 : decode cX1_init 64 = .ok (.putfield 42, 3) := by decide +kernel
theorem dX1_init_67 : decode cX1_init 67 = .ok (.return_, 1) := by decide +kernel
theorem dX1_take_0 : decode cX1_take 0 = .ok (.aload_n 0, 1) := by decide +kernel
theorem dX1_take_1 : decode cX1_take 1 = .ok (.aload_n 1, 1) := by decide +kernel
theorem dX1_take_2 : decode cX1_take 2 = .ok (.getfield 46, 3) := by decide +kernel
theorem dX1_take_5 : decode cX1_take 5 = .ok (.putfield 35, 3) := by decide +kernel
theorem dX1_take_8 : decode cX1_take 8 = .ok (.aload_n 0, 1) := by decide +kernel
theorem dX1_take_9 : decode cX1_take 9 = .ok (.iload_n 2, 1) := by decide +kernel
theorem dX1_take_10 : decode cX1_take 10 = .ok (.putfield 39, 3) := by decide +kernel
theorem dX1_take_13 : decode cX1_take 13 = .ok (.iconst 0, 1) := by decide +kernel
theorem dX1_take_14 : decode cX1_take 14 = .ok (.istore_n 3, 1) := by decide +kernel
theorem dX1_take_15 : decode cX1_take 15 = .ok (.iload_n 3, 1) := by decide +kernel
theorem dX1_take_16 : decode cX1_take 16 = .ok (.aload_n 0, 1) := by decide +kernel
theorem dX1_take_17 : decode cX1_take 17 = .ok (.getfield 35, 3) := by decide +kernel
theorem dX1_take_20 : decode cX1_take 20 = .ok (.if_icmp .ge 60, 3) := by decide +kernel
theorem dX1_take_23 : decode cX1_take 23 = .ok (.iconst 0, 1) := by decide +kernel
theorem dX1_take_24 : decode cX1_take 24 = .ok (.istore 4, 2) := by decide +kernel
theorem dX1_take_26 : decode cX1_take 26 = .ok (.iload 4, 2) := by decide +kernel
theorem dX1_take_28 : decode cX1_take 28 = .ok (.aload_n 0, 1) := by decide +kernel
theorem dX1_take_29 : decode cX1_take 29 = .ok (.getfield 35, 3) := by decide +kernel
theorem dX1_take_32 : decode cX1_take 32 = .ok (.if_icmp .ge 42, 3) := by decide +kernel
theorem dX1_take_35 : decode cX1_take 35 = .ok (.aload_n 0, 1) := by decide +kernel
theorem dX1_take_36 : decode cX1_take 36 = .ok (.getfield 11, 3) := by decide +kernel
theorem dX1_take_39 : decode cX1_take 39 = .ok (.iload_n 3, 1) := by decide +kernel
theorem dX1_take_40 : decode cX1_take 40 = .ok (.aaload, 1) := by decide +kernel
theorem dX1_take_41 : decode cX1_take 41 = .ok (.iload 4, 2) := by decide +kernel
theorem dX1_take_43 : decode cX1_take 43 = .ok (.iload_n 3, 1) := by decide +kernel
theorem dX1_take_44 : decode cX1_take 44 = .ok (.iload 4, 2) := by decide +kernel
theorem dX1_take_46 : decode cX1_take 46 = .ok (.if_icmp .ne 11, 3) := by decide +kernel
theorem dX1_take_49 : decode cX1_take 49 = .ok (.aload_n 1, 1) := by decide +kernel
theorem dX1_take_50 : decode cX1_take 50 = .ok (.iload_n 3, 1) := by decide +kernel
theorem dX1_take_51 : decode cX1_take 51 = .ok (.invokevirtual 49, 3) := by decide +kernel
theorem dX1_take_54 : decode cX1_take 54 = .ok (.goto 13, 3) := by decide +kernel
theorem dX1_take_57 : decode cX1_take 57 = .ok (.aload_n 1, 1) := by decide +kernel
theorem dX1_take_58 : decode cX1_take 58 = .ok (.getfield 53, 3) := by decide +kernel
theorem dX1_take_61 : decode cX1_take 61 = .ok (.iload_n 3, 1) := by decide +kernel
theorem dX1_take_62 : decode cX1_take 62 = .ok (.aaload, 1) := by decide +kernel
theorem dX1_take_63 : decode cX1_take 63 = .ok (.iload 4, 2) := by decide +kernel
theorem dX1_take_65 : decode cX1_take 65 = .ok (.iaload, 1) := by decide +kernel
theorem dX1_take_66 : decode cX1_take 66 = .ok (.ineg, 1) := by decide +kernel
theorem dX1_take_67 : decode cX1_take 67 = .ok (.iastore, 1) := by decide +kernel
theorem dX1_take_68 : decode cX1_take 68 = .ok (.iinc 4 1, 3) := by decide +kernel
theorem dX1_take_71 : decode cX1_take 71 = .ok (.goto (-45), 3) := by decide +kernel
theorem dX1_take_74 : decode cX1_take 74 = .ok (.iinc 3 1, 3) := by decide +kernel
theorem dX1_take_77 : decode cX1_take 77 = .ok (.goto (-62), 3) := by decide +kernel
theorem dX1_take_80 : decode cX1_take 80 = .ok (.return_, 1) := by decide +kernel
theorem dX1_takeWhole_0 : decode cX1_takeWhole 0 = .ok (.aload_n 0, 1) := by decide +kernel
theorem dX1_takeWhole_1 : decode cX1_takeWhole 1 = .ok (.aload_n 1, 1) := by decide +kernel
theorem dX1_takeWhole_2 : decode cX1_takeWhole 2 = .ok (.iload_n 2, 1) := by decide +kernel
theorem dX1_takeWhole_3 : decode cX1_takeWhole 3 = .ok (.invokevirtual 56, 3) := by decide +kernel
theorem dX1_takeWhole_6 : decode cX1_takeWhole 6 = .ok (.aload_n 0, 1) := by decide +kernel
theorem dX1_takeWhole_7 : decode cX1_takeWhole 7 = .ok (.aload_n 0, 1) := by decide +kernel
theorem dX1_takeWhole_8 : decode cX1_takeWhole 8 = .ok (.invokevirtual 60, 3) := by decide +kernel
theorem dX1_takeWhole_11 : decode cX1_takeWhole 11 = .ok (.putfield 42, 3) := by decide +kernel
theorem dX1_takeWhole_14 : decode cX1_takeWhole 14 = .ok (.aload_n 0, 1) := by decide +kernel
theorem dX1_takeWhole_15 : decode cX1_takeWhole 15 = .ok (.invokevirtual 64, 3) := by decide +kernel
theorem dX1_takeWhole_18 : decode cX1_takeWhole 18 = .ok (.istore_n 3, 1) := by decide +kernel
theorem dX1_takeWhole_19 : decode cX1_takeWhole 19 = .ok (.iconst 0, 1) := by decide +kernel
theorem dX1_takeWhole_20 : decode cX1_takeWhole 20 = .ok (.istore 4, 2) := by decide +kernel
theorem dX1_takeWhole_22 : decode cX1_takeWhole 22 = .ok (.iload 4, 2) := by decide +kernel
theorem dX1_takeWhole_24 : decode cX1_takeWhole 24 = .ok (.aload_n 0, 1) := by decide +kernel
theorem dX1_takeWhole_25 : decode cX1_takeWhole 25 = .ok (.getfield 35, 3) := by decide +kernel
theorem dX1_takeWhole_28 : decode cX1_takeWhole 28 = .ok (.if_icmp .ge 104, 3) := by decide +kernel
theorem dX1_takeWhole_31 : decode cX1_takeWhole 31 = .ok (.iconst 0, 1) := by decide +kernel
theorem dX1_takeWhole_32 : decode cX1_takeWhole 32 = .ok (.istore 5, 2) := by decide +kernel
theorem dX1_takeWhole_34 : decode cX1_takeWhole 34 = .ok (.iload 5, 2) := by decide +kernel
theorem dX1_takeWhole_36 : decode cX1_takeWhole 36 = .ok (.aload_n 0, 1) := by decide +kernel
theorem dX1_takeWhole_37 : decode cX1_takeWhole 37 = .ok (.getfield 35, 3) := by decide +kernel
theorem dX1_takeWhole_40 : decode cX1_takeWhole 40 = .ok (.if_icmp .ge 86, 3) := by decide +kernel
theorem dX1_takeWhole_43 : decode cX1_takeWhole 43 = .ok (.iload 4, 2) := by decide +kernel
theorem dX1_takeWhole_45 : decode cX1_takeWhole 45 = .ok (.aload_n 0, 1) := by decide +kernel
theorem dX1_takeWhole_46 : decode cX1_takeWhole 46 = .ok (.getfield 39, 3) := by decide +kernel
theorem dX1_takeWhole_49 : decode cX1_takeWhole 49 = .ok (.if_icmp .eq 71, 3) := by decide +kernel
theorem dX1_takeWhole_52 : decode cX1_takeWhole 52 = .ok (.iload 5, 2) := by decide +kernel
theorem dX1_takeWhole_54 : decode cX1_takeWhole 54 = .ok (.aload_n 0, 1) := by decide +kernel
theorem dX1_takeWhole_55 : decode cX1_takeWhole 55 = .ok (.getfield 39, 3) := by decide +kernel
theorem dX1_takeWhole_58 : decode cX1_takeWhole 58 = .ok (.if_icmp .eq 62, 3) := by decide +kernel
theorem dX1_takeWhole_61 : decode cX1_takeWhole 61 = .ok (.aload_n 0, 1) := by decide +kernel
theorem dX1_takeWhole_62 : decode cX1_takeWhole 62 = .ok (.iload_n 3, 1) := by decide +kernel
theorem dX1_takeWhole_63 : decode cX1_takeWhole 63 = .ok (.iconst 1, 1) := by decide +kernel
theorem dX1_takeWhole_64 : decode cX1_takeWhole 64 = .ok (.iload 4, 2) := by decide +kernel
theorem dX1_takeWhole_66 : decode cX1_takeWhole 66 = .ok (.ishl, 1) := by decide +kernel
theorem dX1_takeWhole_67 : decode cX1_takeWhole 67 = .ok (.iconst (-1), 1) := by decide +kernel
theorem dX1_takeWhole_68 : decode cX1_takeWhole 68 = .ok (.ixor, 1) := by decide +kernel
theorem dX1_takeWhole_69 : decode cX1_takeWhole 69 = .ok (.iand, 1) := by decide +kernel
theorem dX1_takeWhole_70 : decode cX1_takeWhole 70 = .ok (.iload_n 3, 1) := by decide +kernel
theorem dX1_takeWhole_71 : decode cX1_takeWhole 71 = .ok (.iconst 1, 1) := by decide +kernel
theorem dX1_takeWhole_72 : decode cX1_takeWhole 72 = .ok (.iload 5, 2) := by decide +kernel
theorem dX1_takeWhole_74 : decode cX1_takeWhole 74 = .ok (.ishl, 1) := by decide +kernel
theorem dX1_takeWhole_75 : decode cX1_takeWhole 75 = .ok (.iconst (-1), 1) := by decide +kernel
theorem dX1_takeWhole_76 : decode cX1_takeWhole 76 = .ok (.ixor, 1) := by decide +kernel
theorem dX1_takeWhole_77 : decode cX1_takeWhole 77 = .ok (.iand, 1) := by decide +kernel
theorem dX1_takeWhole_78 : decode cX1_takeWhole 78 = .ok (.iconst 0, 1) := by decide +kernel
theorem dX1_takeWhole_79 : decode cX1_takeWhole 79 = .ok (.invokevirtual 68, 3) := by decide +kernel
theorem dX1_takeWhole_82 : decode cX1_takeWhole 82 = .ok (.lstore 6, 2) := by decide +kernel
theorem dX1_takeWhole_84 : decode cX1_takeWhole 84 = .ok (.aload_n 0, 1) := by decide +kernel
theorem dX1_takeWhole_85 : decode cX1_takeWhole 85 = .ok (.getfield 18, 3) := by decide +kernel
theorem dX1_takeWhole_88 : decode cX1_takeWhole 88 = .ok (.iload 4, 2) := by decide +kernel
theorem dX1_takeWhole_90 : decode cX1_takeWhole 90 = .ok (.aaload, 1) := by decide +kernel
theorem dX1_takeWhole_91 : decode cX1_takeWhole 91 = .ok (.iload 5, 2) := by decide +kernel
theorem dX1_takeWhole_93 : decode cX1_takeWhole 93 = .ok (.aload_n 0, 1) := by decide +kernel
theorem dX1_takeWhole_94 : decode cX1_takeWhole 94 = .ok (.iload 4, 2) := by decide +kernel
theorem dX1_takeWhole_96 : decode cX1_takeWhole 96 = .ok (.invokevirtual 72, 3) := by decide +kernel
theorem dX1_takeWhole_99 : decode cX1_takeWhole 99 = .ok (.aload_n 0, 1) := by decide +kernel
theorem dX1_takeWhole_100 : decode cX1_takeWhole 100 = .ok (.iload 5, 2) := by decide +kernel
theorem dX1_takeWhole_102 : decode cX1_takeWhole 102 = .ok (.invokevirtual 72, 3) := by decide +kernel
theorem dX1_takeWhole_105 : decode cX1_takeWhole 105 = .ok (.iadd, 1) := by decide +kernel
theorem dX1_takeWhole_106 : decode cX1_takeWhole 106 = .ok (.iconst 2, 1) := by decide +kernel
theorem dX1_takeWhole_107 : decode cX1_takeWhole 107 = .ok (.irem, 1) := by decide +kernel
theorem dX1_takeWhole_108 : decode cX1_takeWhole 108 = .ok (.ifCond .ne 8, 3) := by decide +kernel
theorem dX1_takeWhole_111 : decode cX1_takeWhole 111 = .ok (.lload 6, 2) := by decide +kernel
theorem dX1_takeWhole_113 : decode cX1_takeWhole 113 = .ok (.goto 6, 3) := by decide +kernel
theorem dX1_takeWhole_116 : decode cX1_takeWhole 116 = .ok (.lload 6, 2) := by decide +kernel
theorem dX1_takeWhole_118 : decode cX1_takeWhole 118 = .ok (.lneg, 1) := by decide +kernel
theorem dX1_takeWhole_119 : decode cX1_takeWhole 119 = .ok (.lastore, 1) := by decide +kernel
theorem dX1_takeWhole_120 : decode cX1_takeWhole 120 = .ok (.iinc 5 1, 3) := by decide +kernel
theorem dX1_takeWhole_123 : decode cX1_takeWhole 123 = .ok (.goto (-89), 3) := by decide +kernel
theorem dX1_takeWhole_126 : decode cX1_takeWhole 126 = .ok (.iinc 4 1, 3) := by decide +kernel
theorem dX1_takeWhole_129 : decode cX1_takeWhole 129 = .ok (.goto (-107), 3) := by decide +kernel
theorem dX1_takeWhole_132 : decode cX1_takeWhole 132 = .ok (.aload_n 0, 1) := by decide +kernel
theorem dX1_takeWhole_133 : decode cX1_takeWhole 133 = .ok (.invokevirtual 75, 3) := by decide +kernel
theorem dX1_takeWhole_136 : decode cX1_takeWhole 136 = .ok (.return_, 1) := by decide +kernel
theorem dX1_othersThanSink_0 : decode cX1_othersThanSink 0 = .ok (.iconst 1, 1) := by decide +kernel
theorem dX1_othersThanSink_1 : decode cX1_othersThanSink 1 = .ok (.aload_n 0, 1) := by decide +kernel
theorem dX1_othersThanSink_2 : decode cX1_othersThanSink 2 = .ok (.getfield 35, 3) := by decide +kernel
theorem dX1_othersThanSink_5 : decode cX1_othersThanSink 5 = .ok (.ishl, 1) := by decide +kernel
theorem dX1_othersThanSink_6 : decode cX1_othersThanSink 6 = .ok (.iconst 1, 1) := by decide +kernel
theorem dX1_othersThanSink_7 : decode cX1_othersThanSink 7 = .ok (.isub, 1) := by decide +kernel
theorem dX1_othersThanSink_8 : decode cX1_othersThanSink 8 = .ok (.iconst 1, 1) := by decide +kernel
theorem dX1_othersThanSink_9 : decode cX1_othersThanSink 9 = .ok (.aload_n 0, 1) := by decide +kernel
theorem dX1_othersThanSink_10 : decode cX1_othersThanSink 10 = .ok (.getfield 39, 3) := by decide +kernel
theorem dX1_othersThanSink_13 : decode cX1_othersThanSink 13 = .ok (.ishl, 1) := by decide +kernel
theorem dX1_othersThanSink_14 : decode cX1_othersThanSink 14 = .ok (.iconst (-1), 1) := by decide +kernel
theorem dX1_othersThanSink_15 : decode cX1_othersThanSink 15 = .ok (.ixor, 1) := by decide +kernel
theorem dX1_othersThanSink_16 : decode cX1_othersThanSink 16 = .ok (.iand, 1) := by decide +kernel
theorem dX1_othersThanSink_17 : decode cX1_othersThanSink 17 = .ok (.ireturn, 1) := by decide +kernel
theorem dX1_placeOf_0 : decode cX1_placeOf 0 = .ok (.iload_n 1, 1) := by decide +kernel
theorem dX1_placeOf_1 : decode cX1_placeOf 1 = .ok (.aload_n 0, 1) := by decide +kernel
theorem dX1_placeOf_2 : decode cX1_placeOf 2 = .ok (.getfield 39, 3) := by decide +kernel
theorem dX1_placeOf_5 : decode cX1_placeOf 5 = .ok (.if_icmp .le 9, 3) := by decide +kernel
theorem dX1_placeOf_8 : decode cX1_placeOf 8 = .ok (.iload_n 1, 1) := by decide +kernel
theorem dX1_placeOf_9 : decode cX1_placeOf 9 = .ok (.iconst 1, 1) := by decide +kernel
theorem dX1_placeOf_10 : decode cX1_placeOf 10 = .ok (.isub, 1) := by decide +kernel
theorem dX1_placeOf_11 : decode cX1_placeOf 11 = .ok (.goto 4, 3) := by decide +kernel
theorem dX1_placeOf_14 : decode cX1_placeOf 14 = .ok (.iload_n 1, 1) := by decide +kernel
theorem dX1_placeOf_15 : decode cX1_placeOf 15 = .ok (.ireturn, 1) := by decide +kernel
theorem dX1_treeCount_0 : decode cX1_treeCount 0 = .ok (.aload_n 0, 1) := by decide +kernel
theorem dX1_treeCount_1 : decode cX1_treeCount 1 = .ok (.invokevirtual 64, 3) := by decide +kernel
theorem dX1_treeCount_4 : decode cX1_treeCount 4 = .ok (.istore_n 1, 1) := by decide +kernel
theorem dX1_treeCount_5 : decode cX1_treeCount 5 = .ok (.aload_n 0, 1) := by decide +kernel
theorem dX1_treeCount_6 : decode cX1_treeCount 6 = .ok (.iload_n 1, 1) := by decide +kernel
theorem dX1_treeCount_7 : decode cX1_treeCount 7 = .ok (.iload_n 1, 1) := by decide +kernel
theorem dX1_treeCount_8 : decode cX1_treeCount 8 = .ok (.iconst 0, 1) := by decide +kernel
theorem dX1_treeCount_9 : decode cX1_treeCount 9 = .ok (.invokevirtual 68, 3) := by decide +kernel
theorem dX1_treeCount_12 : decode cX1_treeCount 12 = .ok (.lreturn, 1) := by decide +kernel
theorem dX1_minor_0 : decode cX1_minor 0 = .ok (.iload_n 3, 1) := by decide +kernel
theorem dX1_minor_1 : decode cX1_minor 1 = .ok (.aload_n 0, 1) := by decide +kernel
theorem dX1_minor_2 : decode cX1_minor 2 = .ok (.getfield 35, 3) := by decide +kernel
theorem dX1_minor_5 : decode cX1_minor 5 = .ok (.if_icmp .lt 5, 3) := by decide +kernel
theorem dX1_minor_8 : decode cX1_minor 8 = .ok (.lconst 1, 1) := by decide +kernel
theorem dX1_minor_9 : decode cX1_minor 9 = .ok (.lreturn, 1) := by decide +kernel
theorem dX1_minor_10 : decode cX1_minor 10 = .ok (.iload_n 1, 1) := by decide +kernel
theorem dX1_minor_11 : decode cX1_minor 11 = .ok (.iload_n 3, 1) := by decide +kernel
theorem dX1_minor_12 : decode cX1_minor 12 = .ok (.ishr, 1) := by decide +kernel
theorem dX1_minor_13 : decode cX1_minor 13 = .ok (.iconst 1, 1) := by decide +kernel
theorem dX1_minor_14 : decode cX1_minor 14 = .ok (.iand, 1) := by decide +kernel
theorem dX1_minor_15 : decode cX1_minor 15 = .ok (.ifCond .ne 13, 3) := by decide +kernel
theorem dX1_minor_18 : decode cX1_minor 18 = .ok (.aload_n 0, 1) := by decide +kernel
theorem dX1_minor_19 : decode cX1_minor 19 = .ok (.iload_n 1, 1) := by decide +kernel
theorem dX1_minor_20 : decode cX1_minor 20 = .ok (.iload_n 2, 1) := by decide +kernel
theorem dX1_minor_21 : decode cX1_minor 21 = .ok (.iload_n 3, 1) := by decide +kernel
theorem dX1_minor_22 : decode cX1_minor 22 = .ok (.iconst 1, 1) := by decide +kernel
theorem dX1_minor_23 : decode cX1_minor 23 = .ok (.iadd, 1) := by decide +kernel
theorem dX1_minor_24 : decode cX1_minor 24 = .ok (.invokevirtual 68, 3) := by decide +kernel
theorem dX1_minor_27 : decode cX1_minor 27 = .ok (.lreturn, 1) := by decide +kernel
theorem dX1_minor_28 : decode cX1_minor 28 = .ok (.lconst 0, 1) := by decide +kernel
theorem dX1_minor_29 : decode cX1_minor 29 = .ok (.lstore 4, 2) := by decide +kernel
theorem dX1_minor_31 : decode cX1_minor 31 = .ok (.iconst 1, 1) := by decide +kernel
theorem dX1_minor_32 : decode cX1_minor 32 = .ok (.istore 6, 2) := by decide +kernel
theorem dX1_minor_34 : decode cX1_minor 34 = .ok (.iconst 0, 1) := by decide +kernel
theorem dX1_minor_35 : decode cX1_minor 35 = .ok (.istore 7, 2) := by decide +kernel
theorem dX1_minor_37 : decode cX1_minor 37 = .ok (.iload 7, 2) := by decide +kernel
theorem dX1_minor_39 : decode cX1_minor 39 = .ok (.aload_n 0, 1) := by decide +kernel
theorem dX1_minor_40 : decode cX1_minor 40 = .ok (.getfield 35, 3) := by decide +kernel
theorem dX1_minor_43 : decode cX1_minor 43 = .ok (.if_icmp .ge 68, 3) := by decide +kernel
theorem dX1_minor_46 : decode cX1_minor 46 = .ok (.iload_n 2, 1) := by decide +kernel
theorem dX1_minor_47 : decode cX1_minor 47 = .ok (.iload 7, 2) := by decide +kernel
theorem dX1_minor_49 : decode cX1_minor 49 = .ok (.ishr, 1) := by decide +kernel
theorem dX1_minor_50 : decode cX1_minor 50 = .ok (.iconst 1, 1) := by decide +kernel
theorem dX1_minor_51 : decode cX1_minor 51 = .ok (.iand, 1) := by decide +kernel
theorem dX1_minor_52 : decode cX1_minor 52 = .ok (.iconst 1, 1) := by decide +kernel
theorem dX1_minor_53 : decode cX1_minor 53 = .ok (.if_icmp .ne 52, 3) := by decide +kernel
theorem dX1_minor_56 : decode cX1_minor 56 = .ok (.iload 6, 2) := by decide +kernel
theorem dX1_minor_58 : decode cX1_minor 58 = .ok (.aload_n 0, 1) := by decide +kernel
theorem dX1_minor_59 : decode cX1_minor 59 = .ok (.getfield 11, 3) := by decide +kernel
theorem dX1_minor_62 : decode cX1_minor 62 = .ok (.iload_n 3, 1) := by decide +kernel
theorem dX1_minor_63 : decode cX1_minor 63 = .ok (.aaload, 1) := by decide +kernel
theorem dX1_minor_64 : decode cX1_minor 64 = .ok (.iload 7, 2) := by decide +kernel
theorem dX1_minor_66 : decode cX1_minor 66 = .ok (.iaload, 1) := by decide +kernel
theorem dX1_minor_67 : decode cX1_minor 67 = .ok (.imul, 1) := by decide +kernel
theorem dX1_minor_68 : decode cX1_minor 68 = .ok (.istore 8, 2) := by decide +kernel
theorem dX1_minor_70 : decode cX1_minor 70 = .ok (.iload 8, 2) := by decide +kernel
theorem dX1_minor_72 : decode cX1_minor 72 = .ok (.ifCond .eq 28, 3) := by decide +kernel
theorem dX1_minor_75 : decode cX1_minor 75 = .ok (.lload 4, 2) := by decide +kernel
theorem dX1_minor_77 : decode cX1_minor 77 = .ok (.iload 8, 2) := by decide +kernel
theorem dX1_minor_79 : decode cX1_minor 79 = .ok (.i2l, 1) := by decide +kernel
theorem dX1_minor_80 : decode cX1_minor 80 = .ok (.aload_n 0, 1) := by decide +kernel
theorem dX1_minor_81 : decode cX1_minor 81 = .ok (.iload_n 1, 1) := by decide +kernel
theorem dX1_minor_82 : decode cX1_minor 82 = .ok (.iload_n 2, 1) := by decide +kernel
theorem dX1_minor_83 : decode cX1_minor 83 = .ok (.iconst 1, 1) := by decide +kernel
theorem dX1_minor_84 : decode cX1_minor 84 = .ok (.iload 7, 2) := by decide +kernel
theorem dX1_minor_86 : decode cX1_minor 86 = .ok (.ishl, 1) := by decide +kernel
theorem dX1_minor_87 : decode cX1_minor 87 = .ok (.iconst (-1), 1) := by decide +kernel
theorem dX1_minor_88 : decode cX1_minor 88 = .ok (.ixor, 1) := by decide +kernel
theorem dX1_minor_89 : decode cX1_minor 89 = .ok (.iand, 1) := by decide +kernel
theorem dX1_minor_90 : decode cX1_minor 90 = .ok (.iload_n 3, 1) := by decide +kernel
theorem dX1_minor_91 : decode cX1_minor 91 = .ok (.iconst 1, 1) := by decide +kernel
theorem dX1_minor_92 : decode cX1_minor 92 = .ok (.iadd, 1) := by decide +kernel
theorem dX1_minor_93 : decode cX1_minor 93 = .ok (.invokevirtual 68, 3) := by decide +kernel
theorem dX1_minor_96 : decode cX1_minor 96 = .ok (.lmul, 1) := by decide +kernel
theorem dX1_minor_97 : decode cX1_minor 97 = .ok (.ladd, 1) := by decide +kernel
theorem dX1_minor_98 : decode cX1_minor 98 = .ok (.lstore 4, 2) := by decide +kernel
theorem dX1_minor_100 : decode cX1_minor 100 = .ok (.iload 6, 2) := by decide +kernel
theorem dX1_minor_102 : decode cX1_minor 102 = .ok (.ineg, 1) := by decide +kernel
theorem dX1_minor_103 : decode cX1_minor 103 = .ok (.istore 6, 2) := by decide +kernel
theorem dX1_minor_105 : decode cX1_minor 105 = .ok (.iinc 7 1, 3) := by decide +kernel
theorem dX1_minor_108 : decode cX1_minor 108 = .ok (.goto (-71), 3) := by decide +kernel
theorem dX1_minor_111 : decode cX1_minor 111 = .ok (.lload 4, 2) := by decide +kernel
theorem dX1_minor_113 : decode cX1_minor 113 = .ok (.lreturn, 1) := by decide +kernel
theorem dX1_commonDivisor_0 : decode cX1_commonDivisor 0 = .ok (.lconst 0, 1) := by decide +kernel
theorem dX1_commonDivisor_1 : decode cX1_commonDivisor 1 = .ok (.lstore_n 2, 1) := by decide +kernel
theorem dX1_commonDivisor_2 : decode cX1_commonDivisor 2 = .ok (.aload_n 0, 1) := by decide +kernel
theorem dX1_commonDivisor_3 : decode cX1_commonDivisor 3 = .ok (.invokevirtual 64, 3) := by decide +kernel
theorem dX1_commonDivisor_6 : decode cX1_commonDivisor 6 = .ok (.istore 4, 2) := by decide +kernel
theorem dX1_commonDivisor_8 : decode cX1_commonDivisor 8 = .ok (.iconst 0, 1) := by decide +kernel
theorem dX1_commonDivisor_9 : decode cX1_commonDivisor 9 = .ok (.istore 5, 2) := by decide +kernel
theorem dX1_commonDivisor_11 : decode cX1_commonDivisor 11 = .ok (.iload 5, 2) := by decide +kernel
theorem dX1_commonDivisor_13 : decode cX1_commonDivisor 13 = .ok (.iload 4, 2) := by decide +kernel
theorem dX1_commonDivisor_15 : decode cX1_commonDivisor 15 = .ok (.if_icmp .gt 80, 3) := by decide +kernel
theorem dX1_commonDivisor_18 : decode cX1_commonDivisor 18 = .ok (.iload 5, 2) := by decide +kernel
theorem dX1_commonDivisor_20 : decode cX1_commonDivisor 20 = .ok (.iload 4, 2) := by decide +kernel
theorem dX1_commonDivisor_22 : decode cX1_commonDivisor 22 = .ok (.iconst (-1), 1) := by decide +kernel
theorem dX1_commonDivisor_23 : decode cX1_commonDivisor 23 = .ok (.ixor, 1) := by decide +kernel
theorem dX1_commonDivisor_24 : decode cX1_commonDivisor 24 = .ok (.iand, 1) := by decide +kernel
theorem dX1_commonDivisor_25 : decode cX1_commonDivisor 25 = .ok (.ifCond .ne 64, 3) := by decide +kernel
theorem dX1_commonDivisor_28 : decode cX1_commonDivisor 28 = .ok (.iload 5, 2) := by decide +kernel
theorem dX1_commonDivisor_30 : decode cX1_commonDivisor 30 = .ok (.invokestatic 78, 3) := by decide +kernel
theorem dX1_commonDivisor_33 : decode cX1_commonDivisor 33 = .ok (.iload_n 1, 1) := by decide +kernel
theorem dX1_commonDivisor_34 : decode cX1_commonDivisor 34 = .ok (.if_icmp .eq 6, 3) := by decide +kernel
theorem dX1_commonDivisor_37 : decode cX1_commonDivisor 37 = .ok (.goto 52, 3) := by decide +kernel
theorem dX1_commonDivisor_40 : decode cX1_commonDivisor 40 = .ok (.iconst 0, 1) := by decide +kernel
theorem dX1_commonDivisor_41 : decode cX1_commonDivisor 41 = .ok (.istore 6, 2) := by decide +kernel
theorem dX1_commonDivisor_43 : decode cX1_commonDivisor 43 = .ok (.iload 6, 2) := by decide +kernel
theorem dX1_commonDivisor_45 : decode cX1_commonDivisor 45 = .ok (.iload 4, 2) := by decide +kernel
theorem dX1_commonDivisor_47 : decode cX1_commonDivisor 47 = .ok (.if_icmp .gt 42, 3) := by decide +kernel
theorem dX1_commonDivisor_50 : decode cX1_commonDivisor 50 = .ok (.iload 6, 2) := by decide +kernel
theorem dX1_commonDivisor_52 : decode cX1_commonDivisor 52 = .ok (.iload 4, 2) := by decide +kernel
theorem dX1_commonDivisor_54 : decode cX1_commonDivisor 54 = .ok (.iconst (-1), 1) := by decide +kernel
theorem dX1_commonDivisor_55 : decode cX1_commonDivisor 55 = .ok (.ixor, 1) := by decide +kernel
theorem dX1_commonDivisor_56 : decode cX1_commonDivisor 56 = .ok (.iand, 1) := by decide +kernel
theorem dX1_commonDivisor_57 : decode cX1_commonDivisor 57 = .ok (.ifCond .ne 26, 3) := by decide +kernel
theorem dX1_commonDivisor_60 : decode cX1_commonDivisor 60 = .ok (.iload 6, 2) := by decide +kernel
theorem dX1_commonDivisor_62 : decode cX1_commonDivisor 62 = .ok (.invokestatic 78, 3) := by decide +kernel
theorem dX1_commonDivisor_65 : decode cX1_commonDivisor 65 = .ok (.iload_n 1, 1) := by decide +kernel
theorem dX1_commonDivisor_66 : decode cX1_commonDivisor 66 = .ok (.if_icmp .ne 17, 3) := by decide +kernel
theorem dX1_commonDivisor_69 : decode cX1_commonDivisor 69 = .ok (.lload_n 2, 1) := by decide +kernel
theorem dX1_commonDivisor_70 : decode cX1_commonDivisor 70 = .ok (.aload_n 0, 1) := by decide +kernel
theorem dX1_commonDivisor_71 : decode cX1_commonDivisor 71 = .ok (.iload 5, 2) := by decide +kernel
theorem dX1_commonDivisor_73 : decode cX1_commonDivisor 73 = .ok (.iload 6, 2) := by decide +kernel
theorem dX1_commonDivisor_75 : decode cX1_commonDivisor 75 = .ok (.iconst 0, 1) := by decide +kernel
theorem dX1_commonDivisor_76 : decode cX1_commonDivisor 76 = .ok (.invokevirtual 68, 3) := by decide +kernel
theorem dX1_commonDivisor_79 : decode cX1_commonDivisor 79 = .ok (.invokestatic 83, 3) := by decide +kernel
theorem dX1_commonDivisor_82 : decode cX1_commonDivisor 82 = .ok (.lstore_n 2, 1) := by decide +kernel
theorem dX1_commonDivisor_83 : decode cX1_commonDivisor 83 = .ok (.iinc 6 1, 3) := by decide +kernel
theorem dX1_commonDivisor_86 : decode cX1_commonDivisor 86 = .ok (.goto (-43), 3) := by decide +kernel
theorem dX1_commonDivisor_89 : decode cX1_commonDivisor 89 = .ok (.iinc 5 1, 3) := by decide +kernel
theorem dX1_commonDivisor_92 : decode cX1_commonDivisor 92 = .ok (.goto (-81), 3) := by decide +kernel
theorem dX1_commonDivisor_95 : decode cX1_commonDivisor 95 = .ok (.lload_n 2, 1) := by decide +kernel
theorem dX1_commonDivisor_96 : decode cX1_commonDivisor 96 = .ok (.lreturn, 1) := by decide +kernel
theorem dX1_greatestDivisor_0 : decode cX1_greatestDivisor 0 = .ok (.lload_n 0, 1) := by decide +kernel
theorem dX1_greatestDivisor_1 : decode cX1_greatestDivisor 1 = .ok (.invokestatic 87, 3) := by decide +kernel
theorem dX1_greatestDivisor_4 : decode cX1_greatestDivisor 4 = .ok (.lstore 4, 2) := by decide +kernel
theorem dX1_greatestDivisor_6 : decode cX1_greatestDivisor 6 = .ok (.lload_n 2, 1) := by decide +kernel
theorem dX1_greatestDivisor_7 : decode cX1_greatestDivisor 7 = .ok (.invokestatic 87, 3) := by decide +kernel
theorem dX1_greatestDivisor_10 : decode cX1_greatestDivisor 10 = .ok (.lstore 6, 2) := by decide +kernel
theorem dX1_greatestDivisor_12 : decode cX1_greatestDivisor 12 = .ok (.iconst 0, 1) := by decide +kernel
theorem dX1_greatestDivisor_13 : decode cX1_greatestDivisor 13 = .ok (.istore 8, 2) := by decide +kernel
theorem dX1_greatestDivisor_15 : decode cX1_greatestDivisor 15 = .ok (.iload 8, 2) := by decide +kernel
theorem dX1_greatestDivisor_17 : decode cX1_greatestDivisor 17 = .ok (.ldc 93, 2) := by decide +kernel
theorem dX1_greatestDivisor_19 : decode cX1_greatestDivisor 19 = .ok (.if_icmp .ge 31, 3) := by decide +kernel
theorem dX1_greatestDivisor_22 : decode cX1_greatestDivisor 22 = .ok (.lload 6, 2) := by decide +kernel
theorem dX1_greatestDivisor_24 : decode cX1_greatestDivisor 24 = .ok (.lconst 0, 1) := by decide +kernel
theorem dX1_greatestDivisor_25 : decode cX1_greatestDivisor 25 = .ok (.lcmp, 1) := by decide +kernel
theorem dX1_greatestDivisor_26 : decode cX1_greatestDivisor 26 = .ok (.ifCond .eq 24, 3) := by decide +kernel
theorem dX1_greatestDivisor_29 : decode cX1_greatestDivisor 29 = .ok (.lload 4, 2) := by decide +kernel
theorem dX1_greatestDivisor_31 : decode cX1_greatestDivisor 31 = .ok (.lload 6, 2) := by decide +kernel
theorem dX1_greatestDivisor_33 : decode cX1_greatestDivisor 33 = .ok (.lrem, 1) := by decide +kernel
theorem dX1_greatestDivisor_34 : decode cX1_greatestDivisor 34 = .ok (.lstore 9, 2) := by decide +kernel
theorem dX1_greatestDivisor_36 : decode cX1_greatestDivisor 36 = .ok (.lload 6, 2) := by decide +kernel
theorem dX1_greatestDivisor_38 : decode cX1_greatestDivisor 38 = .ok (.lstore 4, 2) := by decide +kernel
theorem dX1_greatestDivisor_40 : decode cX1_greatestDivisor 40 = .ok (.lload 9, 2) := by decide +kernel
theorem dX1_greatestDivisor_42 : decode cX1_greatestDivisor 42 = .ok (.lstore 6, 2) := by decide +kernel
theorem dX1_greatestDivisor_44 : decode cX1_greatestDivisor 44 = .ok (.iinc 8 1, 3) := by decide +kernel
theorem dX1_greatestDivisor_47 : decode cX1_greatestDivisor 47 = .ok (.goto (-32), 3) := by decide +kernel
theorem dX1_greatestDivisor_50 : decode cX1_greatestDivisor 50 = .ok (.lload 4, 2) := by decide +kernel
theorem dX1_greatestDivisor_52 : decode cX1_greatestDivisor 52 = .ok (.lreturn, 1) := by decide +kernel
theorem dX1_fire_0 : decode cX1_fire 0 = .ok (.iconst 0, 1) := by decide +kernel
theorem dX1_fire_1 : decode cX1_fire 1 = .ok (.istore 4, 2) := by decide +kernel
theorem dX1_fire_3 : decode cX1_fire 3 = .ok (.iload 4, 2) := by decide +kernel
theorem dX1_fire_5 : decode cX1_fire 5 = .ok (.aload_n 0, 1) := by decide +kernel
theorem dX1_fire_6 : decode cX1_fire 6 = .ok (.getfield 35, 3) := by decide +kernel
theorem dX1_fire_9 : decode cX1_fire 9 = .ok (.if_icmp .ge 27, 3) := by decide +kernel
theorem dX1_fire_12 : decode cX1_fire 12 = .ok (.aload_n 1, 1) := by decide +kernel
theorem dX1_fire_13 : decode cX1_fire 13 = .ok (.iload 4, 2) := by decide +kernel
theorem dX1_fire_15 : decode cX1_fire 15 = .ok (.dup2, 1) := by decide +kernel
theorem dX1_fire_16 : decode cX1_fire 16 = .ok (.iaload, 1) := by decide +kernel
theorem dX1_fire_17 : decode cX1_fire 17 = .ok (.iload_n 3, 1) := by decide +kernel
theorem dX1_fire_18 : decode cX1_fire 18 = .ok (.aload_n 0, 1) := by decide +kernel
theorem dX1_fire_19 : decode cX1_fire 19 = .ok (.getfield 11, 3) := by decide +kernel
theorem dX1_fire_22 : decode cX1_fire 22 = .ok (.iload_n 2, 1) := by decide +kernel
theorem dX1_fire_23 : decode cX1_fire 23 = .ok (.aaload, 1) := by decide +kernel
theorem dX1_fire_24 : decode cX1_fire 24 = .ok (.iload 4, 2) := by decide +kernel
theorem dX1_fire_26 : decode cX1_fire 26 = .ok (.iaload, 1) := by decide +kernel
theorem dX1_fire_27 : decode cX1_fire 27 = .ok (.imul, 1) := by decide +kernel
theorem dX1_fire_28 : decode cX1_fire 28 = .ok (.isub, 1) := by decide +kernel
theorem dX1_fire_29 : decode cX1_fire 29 = .ok (.iastore, 1) := by decide +kernel
theorem dX1_fire_30 : decode cX1_fire 30 = .ok (.iinc 4 1, 3) := by decide +kernel
theorem dX1_fire_33 : decode cX1_fire 33 = .ok (.goto (-30), 3) := by decide +kernel
theorem dX1_fire_36 : decode cX1_fire 36 = .ok (.return_, 1) := by decide +kernel
theorem dX1_settle_0 : decode cX1_settle 0 = .ok (.iconst 1, 1) := by decide +kernel
theorem dX1_settle_1 : decode cX1_settle 1 = .ok (.istore_n 3, 1) := by decide +kernel
theorem dX1_settle_2 : decode cX1_settle 2 = .ok (.iconst 0, 1) := by decide +kernel
theorem dX1_settle_3 : decode cX1_settle 3 = .ok (.istore 4, 2) := by decide +kernel
theorem dX1_settle_5 : decode cX1_settle 5 = .ok (.iload 4, 2) := by decide +kernel
theorem dX1_settle_7 : decode cX1_settle 7 = .ok (.ldc 93, 2) := by decide +kernel
theorem dX1_settle_9 : decode cX1_settle 9 = .ok (.if_icmp .ge 97, 3) := by decide +kernel
theorem dX1_settle_12 : decode cX1_settle 12 = .ok (.iload_n 3, 1) := by decide +kernel
theorem dX1_settle_13 : decode cX1_settle 13 = .ok (.ifCond .eq 93, 3) := by decide +kernel
theorem dX1_settle_16 : decode cX1_settle 16 = .ok (.iconst 0, 1) := by decide +kernel
theorem dX1_settle_17 : decode cX1_settle 17 = .ok (.istore_n 3, 1) := by decide +kernel
theorem dX1_settle_18 : decode cX1_settle 18 = .ok (.iconst 0, 1) := by decide +kernel
theorem dX1_settle_19 : decode cX1_settle 19 = .ok (.istore 5, 2) := by decide +kernel
theorem dX1_settle_21 : decode cX1_settle 21 = .ok (.iload 5, 2) := by decide +kernel
theorem dX1_settle_23 : decode cX1_settle 23 = .ok (.aload_n 0, 1) := by decide +kernel
theorem dX1_settle_24 : decode cX1_settle 24 = .ok (.getfield 35, 3) := by decide +kernel
theorem dX1_settle_27 : decode cX1_settle 27 = .ok (.if_icmp .ge 73, 3) := by decide +kernel
theorem dX1_settle_30 : decode cX1_settle 30 = .ok (.aload_n 0, 1) := by decide +kernel
theorem dX1_settle_31 : decode cX1_settle 31 = .ok (.getfield 11, 3) := by decide +kernel
theorem dX1_settle_34 : decode cX1_settle 34 = .ok (.iload 5, 2) := by decide +kernel
theorem dX1_settle_36 : decode cX1_settle 36 = .ok (.aaload, 1) := by decide +kernel
theorem dX1_settle_37 : decode cX1_settle 37 = .ok (.iload 5, 2) := by decide +kernel
theorem dX1_settle_39 : decode cX1_settle 39 = .ok (.iaload, 1) := by decide +kernel
theorem dX1_settle_40 : decode cX1_settle 40 = .ok (.istore 6, 2) := by decide +kernel
theorem dX1_settle_42 : decode cX1_settle 42 = .ok (.iload 5, 2) := by decide +kernel
theorem dX1_settle_44 : decode cX1_settle 44 = .ok (.aload_n 0, 1) := by decide +kernel
theorem dX1_settle_45 : decode cX1_settle 45 = .ok (.getfield 39, 3) := by decide +kernel
theorem dX1_settle_48 : decode cX1_settle 48 = .ok (.if_icmp .eq 46, 3) := by decide +kernel
theorem dX1_settle_51 : decode cX1_settle 51 = .ok (.iload 6, 2) := by decide +kernel
theorem dX1_settle_53 : decode cX1_settle 53 = .ok (.ifCond .le 41, 3) := by decide +kernel
theorem dX1_settle_56 : decode cX1_settle 56 = .ok (.aload_n 1, 1) := by decide +kernel
theorem dX1_settle_57 : decode cX1_settle 57 = .ok (.iload 5, 2) := by decide +kernel
theorem dX1_settle_59 : decode cX1_settle 59 = .ok (.iaload, 1) := by decide +kernel
theorem dX1_settle_60 : decode cX1_settle 60 = .ok (.iload 6, 2) := by decide +kernel
theorem dX1_settle_62 : decode cX1_settle 62 = .ok (.if_icmp .lt 32, 3) := by decide +kernel
theorem dX1_settle_65 : decode cX1_settle 65 = .ok (.aload_n 1, 1) := by decide +kernel
theorem dX1_settle_66 : decode cX1_settle 66 = .ok (.iload 5, 2) := by decide +kernel
theorem dX1_settle_68 : decode cX1_settle 68 = .ok (.iaload, 1) := by decide +kernel
theorem dX1_settle_69 : decode cX1_settle 69 = .ok (.iload 6, 2) := by decide +kernel
theorem dX1_settle_71 : decode cX1_settle 71 = .ok (.idiv, 1) := by decide +kernel
theorem dX1_settle_72 : decode cX1_settle 72 = .ok (.istore 7, 2) := by decide +kernel
theorem dX1_settle_74 : decode cX1_settle 74 = .ok (.aload_n 0, 1) := by decide +kernel
theorem dX1_settle_75 : decode cX1_settle 75 = .ok (.aload_n 1, 1) := by decide +kernel
theorem dX1_settle_76 : decode cX1_settle 76 = .ok (.iload 5, 2) := by decide +kernel
theorem dX1_settle_78 : decode cX1_settle 78 = .ok (.iload 7, 2) := by decide +kernel
theorem dX1_settle_80 : decode cX1_settle 80 = .ok (.invokevirtual 94, 3) := by decide +kernel
theorem dX1_settle_83 : decode cX1_settle 83 = .ok (.aload_n 2, 1) := by decide +kernel
theorem dX1_settle_84 : decode cX1_settle 84 = .ok (.iload 5, 2) := by decide +kernel
theorem dX1_settle_86 : decode cX1_settle 86 = .ok (.dup2, 1) := by decide +kernel
theorem dX1_settle_87 : decode cX1_settle 87 = .ok (.iaload, 1) := by decide +kernel
theorem dX1_settle_88 : decode cX1_settle 88 = .ok (.iload 7, 2) := by decide +kernel
theorem dX1_settle_90 : decode cX1_settle 90 = .ok (.iadd, 1) := by decide +kernel
theorem dX1_settle_91 : decode cX1_settle 91 = .ok (.iastore, 1) := by decide +kernel
theorem dX1_settle_92 : decode cX1_settle 92 = .ok (.iconst 1, 1) := by decide +kernel
theorem dX1_settle_93 : decode cX1_settle 93 = .ok (.istore_n 3, 1) := by decide +kernel
theorem dX1_settle_94 : decode cX1_settle 94 = .ok (.iinc 5 1, 3) := by decide +kernel
theorem dX1_settle_97 : decode cX1_settle 97 = .ok (.goto (-76), 3) := by decide +kernel
theorem dX1_settle_100 : decode cX1_settle 100 = .ok (.iinc 4 1, 3) := by decide +kernel
theorem dX1_settle_103 : decode cX1_settle 103 = .ok (.goto (-98), 3) := by decide +kernel
theorem dX1_settle_106 : decode cX1_settle 106 = .ok (.return_, 1) := by decide +kernel
theorem dX1_findNeutral_0 : decode cX1_findNeutral 0 = .ok (.iconst 0, 1) := by decide +kernel
theorem dX1_findNeutral_1 : decode cX1_findNeutral 1 = .ok (.istore_n 1, 1) := by decide +kernel
theorem dX1_findNeutral_2 : decode cX1_findNeutral 2 = .ok (.iload_n 1, 1) := by decide +kernel
theorem dX1_findNeutral_3 : decode cX1_findNeutral 3 = .ok (.aload_n 0, 1) := by decide +kernel
theorem dX1_findNeutral_4 : decode cX1_findNeutral 4 = .ok (.getfield 35, 3) := by decide +kernel
theorem dX1_findNeutral_7 : decode cX1_findNeutral 7 = .ok (.if_icmp .ge 25, 3) := by decide +kernel
theorem dX1_findNeutral_10 : decode cX1_findNeutral 10 = .ok (.aload_n 0, 1) := by decide +kernel
theorem dX1_findNeutral_11 : decode cX1_findNeutral 11 = .ok (.getfield 25, 3) := by decide +kernel
theorem dX1_findNeutral_14 : decode cX1_findNeutral 14 = .ok (.iload_n 1, 1) := by decide +kernel
theorem dX1_findNeutral_15 : decode cX1_findNeutral 15 = .ok (.iconst 2, 1) := by decide +kernel
theorem dX1_findNeutral_16 : decode cX1_findNeutral 16 = .ok (.aload_n 0, 1) := by decide +kernel
theorem dX1_findNeutral_17 : decode cX1_findNeutral 17 = .ok (.getfield 11, 3) := by decide +kernel
theorem dX1_findNeutral_20 : decode cX1_findNeutral 20 = .ok (.iload_n 1, 1) := by decide +kernel
theorem dX1_findNeutral_21 : decode cX1_findNeutral 21 = .ok (.aaload, 1) := by decide +kernel
theorem dX1_findNeutral_22 : decode cX1_findNeutral 22 = .ok (.iload_n 1, 1) := by decide +kernel
theorem dX1_findNeutral_23 : decode cX1_findNeutral 23 = .ok (.iaload, 1) := by decide +kernel
theorem dX1_findNeutral_24 : decode cX1_findNeutral 24 = .ok (.imul, 1) := by decide +kernel
theorem dX1_findNeutral_25 : decode cX1_findNeutral 25 = .ok (.iastore, 1) := by decide +kernel
theorem dX1_findNeutral_26 : decode cX1_findNeutral 26 = .ok (.iinc 1 1, 3) := by decide +kernel
theorem dX1_findNeutral_29 : decode cX1_findNeutral 29 = .ok (.goto (-27), 3) := by decide +kernel
theorem dX1_findNeutral_32 : decode cX1_findNeutral 32 = .ok (.aload_n 0, 1) := by decide +kernel
theorem dX1_findNeutral_33 : decode cX1_findNeutral 33 = .ok (.aload_n 0, 1) := by decide +kernel
theorem dX1_findNeutral_34 : decode cX1_findNeutral 34 = .ok (.getfield 25, 3) := by decide +kernel
theorem dX1_findNeutral_37 : decode cX1_findNeutral 37 = .ok (.aload_n 0, 1) := by decide +kernel
theorem dX1_findNeutral_38 : decode cX1_findNeutral 38 = .ok (.getfield 32, 3) := by decide +kernel
theorem dX1_findNeutral_41 : decode cX1_findNeutral 41 = .ok (.invokevirtual 98, 3) := by decide +kernel
theorem dX1_findNeutral_44 : decode cX1_findNeutral 44 = .ok (.iconst 0, 1) := by decide +kernel
theorem dX1_findNeutral_45 : decode cX1_findNeutral 45 = .ok (.istore_n 1, 1) := by decide +kernel
theorem dX1_findNeutral_46 : decode cX1_findNeutral 46 = .ok (.iload_n 1, 1) := by decide +kernel
theorem dX1_findNeutral_47 : decode cX1_findNeutral 47 = .ok (.aload_n 0, 1) := by decide +kernel
theorem dX1_findNeutral_48 : decode cX1_findNeutral 48 = .ok (.getfield 35, 3) := by decide +kernel
theorem dX1_findNeutral_51 : decode cX1_findNeutral 51 = .ok (.if_icmp .ge 32, 3) := by decide +kernel
theorem dX1_findNeutral_54 : decode cX1_findNeutral 54 = .ok (.aload_n 0, 1) := by decide +kernel
theorem dX1_findNeutral_55 : decode cX1_findNeutral 55 = .ok (.getfield 29, 3) := by decide +kernel
theorem dX1_findNeutral_58 : decode cX1_findNeutral 58 = .ok (.iload_n 1, 1) := by decide +kernel
theorem dX1_findNeutral_59 : decode cX1_findNeutral 59 = .ok (.iconst 2, 1) := by decide +kernel
theorem dX1_findNeutral_60 : decode cX1_findNeutral 60 = .ok (.aload_n 0, 1) := by decide +kernel
theorem dX1_findNeutral_61 : decode cX1_findNeutral 61 = .ok (.getfield 11, 3) := by decide +kernel
theorem dX1_findNeutral_64 : decode cX1_findNeutral 64 = .ok (.iload_n 1, 1) := by decide +kernel
theorem dX1_findNeutral_65 : decode cX1_findNeutral 65 = .ok (.aaload, 1) := by decide +kernel
theorem dX1_findNeutral_66 : decode cX1_findNeutral 66 = .ok (.iload_n 1, 1) := by decide +kernel
theorem dX1_findNeutral_67 : decode cX1_findNeutral 67 = .ok (.iaload, 1) := by decide +kernel
theorem dX1_findNeutral_68 : decode cX1_findNeutral 68 = .ok (.imul, 1) := by decide +kernel
theorem dX1_findNeutral_69 : decode cX1_findNeutral 69 = .ok (.aload_n 0, 1) := by decide +kernel
theorem dX1_findNeutral_70 : decode cX1_findNeutral 70 = .ok (.getfield 25, 3) := by decide +kernel
theorem dX1_findNeutral_73 : decode cX1_findNeutral 73 = .ok (.iload_n 1, 1) := by decide +kernel
theorem dX1_findNeutral_74 : decode cX1_findNeutral 74 = .ok (.iaload, 1) := by decide +kernel
theorem dX1_findNeutral_75 : decode cX1_findNeutral 75 = .ok (.isub, 1) := by decide +kernel
theorem dX1_findNeutral_76 : decode cX1_findNeutral 76 = .ok (.iastore, 1) := by decide +kernel
theorem dX1_findNeutral_77 : decode cX1_findNeutral 77 = .ok (.iinc 1 1, 3) := by decide +kernel
theorem dX1_findNeutral_80 : decode cX1_findNeutral 80 = .ok (.goto (-34), 3) := by decide +kernel
theorem dX1_findNeutral_83 : decode cX1_findNeutral 83 = .ok (.return_, 1) := by decide +kernel
theorem dX1_solve_0 : decode cX1_solve 0 = .ok (.iconst 0, 1) := by decide +kernel
theorem dX1_solve_1 : decode cX1_solve 1 = .ok (.istore_n 2, 1) := by decide +kernel
theorem dX1_solve_2 : decode cX1_solve 2 = .ok (.iload_n 2, 1) := by decide +kernel
theorem dX1_solve_3 : decode cX1_solve 3 = .ok (.aload_n 0, 1) := by decide +kernel
theorem dX1_solve_4 : decode cX1_solve 4 = .ok (.getfield 35, 3) := by decide +kernel
theorem dX1_solve_7 : decode cX1_solve 7 = .ok (.if_icmp .ge 70, 3) := by decide +kernel
theorem dX1_solve_10 : decode cX1_solve 10 = .ok (.aload_n 0, 1) := by decide +kernel
theorem dX1_solve_11 : decode cX1_solve 11 = .ok (.getfield 21, 3) := by decide +kernel
theorem dX1_solve_14 : decode cX1_solve 14 = .ok (.iload_n 2, 1) := by decide +kernel
theorem dX1_solve_15 : decode cX1_solve 15 = .ok (.lconst 0, 1) := by decide +kernel
theorem dX1_solve_16 : decode cX1_solve 16 = .ok (.lastore, 1) := by decide +kernel
theorem dX1_solve_17 : decode cX1_solve 17 = .ok (.iconst 0, 1) := by decide +kernel
theorem dX1_solve_18 : decode cX1_solve 18 = .ok (.istore_n 3, 1) := by decide +kernel
theorem dX1_solve_19 : decode cX1_solve 19 = .ok (.iload_n 3, 1) := by decide +kernel
theorem dX1_solve_20 : decode cX1_solve 20 = .ok (.aload_n 0, 1) := by decide +kernel
theorem dX1_solve_21 : decode cX1_solve 21 = .ok (.getfield 35, 3) := by decide +kernel
theorem dX1_solve_24 : decode cX1_solve 24 = .ok (.if_icmp .ge 47, 3) := by decide +kernel
theorem dX1_solve_27 : decode cX1_solve 27 = .ok (.iload_n 2, 1) := by decide +kernel
theorem dX1_solve_28 : decode cX1_solve 28 = .ok (.aload_n 0, 1) := by decide +kernel
theorem dX1_solve_29 : decode cX1_solve 29 = .ok (.getfield 39, 3) := by decide +kernel
theorem dX1_solve_32 : decode cX1_solve 32 = .ok (.if_icmp .eq 33, 3) := by decide +kernel
theorem dX1_solve_35 : decode cX1_solve 35 = .ok (.iload_n 3, 1) := by decide +kernel
theorem dX1_solve_36 : decode cX1_solve 36 = .ok (.aload_n 0, 1) := by decide +kernel
theorem dX1_solve_37 : decode cX1_solve 37 = .ok (.getfield 39, 3) := by decide +kernel
theorem dX1_solve_40 : decode cX1_solve 40 = .ok (.if_icmp .eq 25, 3) := by decide +kernel
theorem dX1_solve_43 : decode cX1_solve 43 = .ok (.aload_n 0, 1) := by decide +kernel
theorem dX1_solve_44 : decode cX1_solve 44 = .ok (.getfield 21, 3) := by decide +kernel
theorem dX1_solve_47 : decode cX1_solve 47 = .ok (.iload_n 2, 1) := by decide +kernel
theorem dX1_solve_48 : decode cX1_solve 48 = .ok (.dup2, 1) := by decide +kernel
theorem dX1_solve_49 : decode cX1_solve 49 = .ok (.laload, 1) := by decide +kernel
theorem dX1_solve_50 : decode cX1_solve 50 = .ok (.aload_n 0, 1) := by decide +kernel
theorem dX1_solve_51 : decode cX1_solve 51 = .ok (.getfield 18, 3) := by decide +kernel
theorem dX1_solve_54 : decode cX1_solve 54 = .ok (.iload_n 2, 1) := by decide +kernel
theorem dX1_solve_55 : decode cX1_solve 55 = .ok (.aaload, 1) := by decide +kernel
theorem dX1_solve_56 : decode cX1_solve 56 = .ok (.iload_n 3, 1) := by decide +kernel
theorem dX1_solve_57 : decode cX1_solve 57 = .ok (.laload, 1) := by decide +kernel
theorem dX1_solve_58 : decode cX1_solve 58 = .ok (.aload_n 1, 1) := by decide +kernel
theorem dX1_solve_59 : decode cX1_solve 59 = .ok (.iload_n 3, 1) := by decide +kernel
theorem dX1_solve_60 : decode cX1_solve 60 = .ok (.iaload, 1) := by decide +kernel
theorem dX1_solve_61 : decode cX1_solve 61 = .ok (.i2l, 1) := by decide +kernel
theorem dX1_solve_62 : decode cX1_solve 62 = .ok (.lmul, 1) := by decide +kernel
theorem dX1_solve_63 : decode cX1_solve 63 = .ok (.ladd, 1) := by decide +kernel
theorem dX1_solve_64 : decode cX1_solve 64 = .ok (.lastore, 1) := by decide +kernel
theorem dX1_solve_65 : decode cX1_solve 65 = .ok (.iinc 3 1, 3) := by decide +kernel
theorem dX1_solve_68 : decode cX1_solve 68 = .ok (.goto (-49), 3) := by decide +kernel
theorem dX1_solve_71 : decode cX1_solve 71 = .ok (.iinc 2 1, 3) := by decide +kernel
theorem dX1_solve_74 : decode cX1_solve 74 = .ok (.goto (-72), 3) := by decide +kernel
theorem dX1_solve_77 : decode cX1_solve 77 = .ok (.return_, 1) := by decide +kernel
theorem dX1_makeRecurrent_0 : decode cX1_makeRecurrent 0 = .ok (.aload_n 0, 1) := by decide +kernel
theorem dX1_makeRecurrent_1 : decode cX1_makeRecurrent 1 = .ok (.getfield 42, 3) := by decide +kernel
theorem dX1_makeRecurrent_4 : decode cX1_makeRecurrent 4 = .ok (.lconst 0, 1) := by decide +kernel
theorem dX1_makeRecurrent_5 : decode cX1_makeRecurrent 5 = .ok (.lcmp, 1) := by decide +kernel
theorem dX1_makeRecurrent_6 : decode cX1_makeRecurrent 6 = .ok (.ifCond .gt 4, 3) := by decide +kernel
theorem dX1_makeRecurrent_9 : decode cX1_makeRecurrent 9 = .ok (.return_, 1) := by decide +kernel
theorem dX1_makeRecurrent_10 : decode cX1_makeRecurrent 10 = .ok (.aload_n 0, 1) := by decide +kernel
theorem dX1_makeRecurrent_11 : decode cX1_makeRecurrent 11 = .ok (.aload_n 1, 1) := by decide +kernel
theorem dX1_makeRecurrent_12 : decode cX1_makeRecurrent 12 = .ok (.invokevirtual 102, 3) := by decide +kernel
theorem dX1_makeRecurrent_15 : decode cX1_makeRecurrent 15 = .ok (.iconst 0, 1) := by decide +kernel
theorem dX1_makeRecurrent_16 : decode cX1_makeRecurrent 16 = .ok (.istore_n 2, 1) := by decide +kernel
theorem dX1_makeRecurrent_17 : decode cX1_makeRecurrent 17 = .ok (.iload_n 2, 1) := by decide +kernel
theorem dX1_makeRecurrent_18 : decode cX1_makeRecurrent 18 = .ok (.aload_n 0, 1) := by decide +kernel
theorem dX1_makeRecurrent_19 : decode cX1_makeRecurrent 19 = .ok (.getfield 35, 3) := by decide +kernel
theorem dX1_makeRecurrent_22 : decode cX1_makeRecurrent 22 = .ok (.if_icmp .ge 29, 3) := by decide +kernel
theorem dX1_makeRecurrent_25 : decode cX1_makeRecurrent 25 = .ok (.aload_n 0, 1) := by decide +kernel
theorem dX1_makeRecurrent_26 : decode cX1_makeRecurrent 26 = .ok (.aload_n 1, 1) := by decide +kernel
theorem dX1_makeRecurrent_27 : decode cX1_makeRecurrent 27 = .ok (.iload_n 2, 1) := by decide +kernel
theorem dX1_makeRecurrent_28 : decode cX1_makeRecurrent 28 = .ok (.aload_n 0, 1) := by decide +kernel
theorem dX1_makeRecurrent_29 : decode cX1_makeRecurrent 29 = .ok (.getfield 21, 3) := by decide +kernel
theorem dX1_makeRecurrent_32 : decode cX1_makeRecurrent 32 = .ok (.iload_n 2, 1) := by decide +kernel
theorem dX1_makeRecurrent_33 : decode cX1_makeRecurrent 33 = .ok (.laload, 1) := by decide +kernel
theorem dX1_makeRecurrent_34 : decode cX1_makeRecurrent 34 = .ok (.aload_n 0, 1) := by decide +kernel
theorem dX1_makeRecurrent_35 : decode cX1_makeRecurrent 35 = .ok (.getfield 42, 3) := by decide +kernel
theorem dX1_makeRecurrent_38 : decode cX1_makeRecurrent 38 = .ok (.invokestatic 106, 3) := by decide +kernel
theorem dX1_makeRecurrent_41 : decode cX1_makeRecurrent 41 = .ok (.l2i, 1) := by decide +kernel
theorem dX1_makeRecurrent_42 : decode cX1_makeRecurrent 42 = .ok (.invokevirtual 94, 3) := by decide +kernel
theorem dX1_makeRecurrent_45 : decode cX1_makeRecurrent 45 = .ok (.iinc 2 1, 3) := by decide +kernel
theorem dX1_makeRecurrent_48 : decode cX1_makeRecurrent 48 = .ok (.goto (-31), 3) := by decide +kernel
theorem dX1_makeRecurrent_51 : decode cX1_makeRecurrent 51 = .ok (.iconst 0, 1) := by decide +kernel
theorem dX1_makeRecurrent_52 : decode cX1_makeRecurrent 52 = .ok (.istore_n 2, 1) := by decide +kernel
theorem dX1_makeRecurrent_53 : decode cX1_makeRecurrent 53 = .ok (.iload_n 2, 1) := by decide +kernel
theorem dX1_makeRecurrent_54 : decode cX1_makeRecurrent 54 = .ok (.aload_n 0, 1) := by decide +kernel
theorem dX1_makeRecurrent_55 : decode cX1_makeRecurrent 55 = .ok (.getfield 35, 3) := by decide +kernel
theorem dX1_makeRecurrent_58 : decode cX1_makeRecurrent 58 = .ok (.if_icmp .ge 23, 3) := by decide +kernel
theorem dX1_makeRecurrent_61 : decode cX1_makeRecurrent 61 = .ok (.aload_n 1, 1) := by decide +kernel
theorem dX1_makeRecurrent_62 : decode cX1_makeRecurrent 62 = .ok (.iload_n 2, 1) := by decide +kernel
theorem dX1_makeRecurrent_63 : decode cX1_makeRecurrent 63 = .ok (.dup2, 1) := by decide +kernel
theorem dX1_makeRecurrent_64 : decode cX1_makeRecurrent 64 = .ok (.iaload, 1) := by decide +kernel
theorem dX1_makeRecurrent_65 : decode cX1_makeRecurrent 65 = .ok (.iconst 2, 1) := by decide +kernel
theorem dX1_makeRecurrent_66 : decode cX1_makeRecurrent 66 = .ok (.aload_n 0, 1) := by decide +kernel
theorem dX1_makeRecurrent_67 : decode cX1_makeRecurrent 67 = .ok (.getfield 29, 3) := by decide +kernel
theorem dX1_makeRecurrent_70 : decode cX1_makeRecurrent 70 = .ok (.iload_n 2, 1) := by decide +kernel
theorem dX1_makeRecurrent_71 : decode cX1_makeRecurrent 71 = .ok (.iaload, 1) := by decide +kernel
theorem dX1_makeRecurrent_72 : decode cX1_makeRecurrent 72 = .ok (.imul, 1) := by decide +kernel
theorem dX1_makeRecurrent_73 : decode cX1_makeRecurrent 73 = .ok (.iadd, 1) := by decide +kernel
theorem dX1_makeRecurrent_74 : decode cX1_makeRecurrent 74 = .ok (.iastore, 1) := by decide +kernel
theorem dX1_makeRecurrent_75 : decode cX1_makeRecurrent 75 = .ok (.iinc 2 1, 3) := by decide +kernel
theorem dX1_makeRecurrent_78 : decode cX1_makeRecurrent 78 = .ok (.goto (-25), 3) := by decide +kernel
theorem dX1_makeRecurrent_81 : decode cX1_makeRecurrent 81 = .ok (.aload_n 0, 1) := by decide +kernel
theorem dX1_makeRecurrent_82 : decode cX1_makeRecurrent 82 = .ok (.aload_n 1, 1) := by decide +kernel
theorem dX1_makeRecurrent_83 : decode cX1_makeRecurrent 83 = .ok (.aload_n 0, 1) := by decide +kernel
theorem dX1_makeRecurrent_84 : decode cX1_makeRecurrent 84 = .ok (.getfield 32, 3) := by decide +kernel
theorem dX1_makeRecurrent_87 : decode cX1_makeRecurrent 87 = .ok (.invokevirtual 98, 3) := by decide +kernel
theorem dX1_makeRecurrent_90 : decode cX1_makeRecurrent 90 = .ok (.return_, 1) := by decide +kernel
theorem dX1_complement_0 : decode cX1_complement 0 = .ok (.iconst 0, 1) := by decide +kernel
theorem dX1_complement_1 : decode cX1_complement 1 = .ok (.istore_n 3, 1) := by decide +kernel
theorem dX1_complement_2 : decode cX1_complement 2 = .ok (.iload_n 3, 1) := by decide +kernel
theorem dX1_complement_3 : decode cX1_complement 3 = .ok (.aload_n 0, 1) := by decide +kernel
theorem dX1_complement_4 : decode cX1_complement 4 = .ok (.getfield 35, 3) := by decide +kernel
theorem dX1_complement_7 : decode cX1_complement 7 = .ok (.if_icmp .ge 26, 3) := by decide +kernel
theorem dX1_complement_10 : decode cX1_complement 10 = .ok (.aload_n 2, 1) := by decide +kernel
theorem dX1_complement_11 : decode cX1_complement 11 = .ok (.iload_n 3, 1) := by decide +kernel
theorem dX1_complement_12 : decode cX1_complement 12 = .ok (.aload_n 0, 1) := by decide +kernel
theorem dX1_complement_13 : decode cX1_complement 13 = .ok (.getfield 11, 3) := by decide +kernel
theorem dX1_complement_16 : decode cX1_complement 16 = .ok (.iload_n 3, 1) := by decide +kernel
theorem dX1_complement_17 : decode cX1_complement 17 = .ok (.aaload, 1) := by decide +kernel
theorem dX1_complement_18 : decode cX1_complement 18 = .ok (.iload_n 3, 1) := by decide +kernel
theorem dX1_complement_19 : decode cX1_complement 19 = .ok (.iaload, 1) := by decide +kernel
theorem dX1_complement_20 : decode cX1_complement 20 = .ok (.iconst 1, 1) := by decide +kernel
theorem dX1_complement_21 : decode cX1_complement 21 = .ok (.isub, 1) := by decide +kernel
theorem dX1_complement_22 : decode cX1_complement 22 = .ok (.aload_n 1, 1) := by decide +kernel
theorem dX1_complement_23 : decode cX1_complement 23 = .ok (.iload_n 3, 1) := by decide +kernel
theorem dX1_complement_24 : decode cX1_complement 24 = .ok (.iaload, 1) := by decide +kernel
theorem dX1_complement_25 : decode cX1_complement 25 = .ok (.isub, 1) := by decide +kernel
theorem dX1_complement_26 : decode cX1_complement 26 = .ok (.iastore, 1) := by decide +kernel
theorem dX1_complement_27 : decode cX1_complement 27 = .ok (.iinc 3 1, 3) := by decide +kernel
theorem dX1_complement_30 : decode cX1_complement 30 = .ok (.goto (-28), 3) := by decide +kernel
theorem dX1_complement_33 : decode cX1_complement 33 = .ok (.return_, 1) := by decide +kernel
theorem dX1_makeRecurrentComplement_0 : decode cX1_makeRecurrentComplement 0 = .ok (.aload_n 0, 1) := by decide +kernel
theorem dX1_makeRecurrentComplement_1 : decode cX1_makeRecurrentComplement 1 = .ok (.aload_n 1, 1) := by decide +kernel
theorem dX1_makeRecurrentComplement_2 : decode cX1_makeRecurrentComplement 2 = .ok (.aload_n 2, 1) := by decide +kernel
theorem dX1_makeRecurrentComplement_3 : decode cX1_makeRecurrentComplement 3 = .ok (.invokevirtual 109, 3) := by decide +kernel
theorem dX1_makeRecurrentComplement_6 : decode cX1_makeRecurrentComplement 6 = .ok (.aload_n 0, 1) := by decide +kernel
theorem dX1_makeRecurrentComplement_7 : decode cX1_makeRecurrentComplement 7 = .ok (.aload_n 2, 1) := by decide +kernel
theorem dX1_makeRecurrentComplement_8 : decode cX1_makeRecurrentComplement 8 = .ok (.invokevirtual 112, 3) := by decide +kernel
theorem dX1_makeRecurrentComplement_11 : decode cX1_makeRecurrentComplement 11 = .ok (.return_, 1) := by decide +kernel
theorem dX1_sinkChipsOfComplement_0 : decode cX1_sinkChipsOfComplement 0 = .ok (.aload_n 0, 1) := by decide +kernel
theorem dX1_sinkChipsOfComplement_1 : decode cX1_sinkChipsOfComplement 1 = .ok (.getfield 11, 3) := by decide +kernel
theorem dX1_sinkChipsOfComplement_4 : decode cX1_sinkChipsOfComplement 4 = .ok (.aload_n 0, 1) := by decide +kernel
theorem dX1_sinkChipsOfComplement_5 : decode cX1_sinkChipsOfComplement 5 = .ok (.getfield 39, 3) := by decide +kernel
theorem dX1_sinkChipsOfComplement_8 : decode cX1_sinkChipsOfComplement 8 = .ok (.aaload, 1) := by decide +kernel
theorem dX1_sinkChipsOfComplement_9 : decode cX1_sinkChipsOfComplement 9 = .ok (.aload_n 0, 1) := by decide +kernel
theorem dX1_sinkChipsOfComplement_10 : decode cX1_sinkChipsOfComplement 10 = .ok (.getfield 39, 3) := by decide +kernel
theorem dX1_sinkChipsOfComplement_13 : decode cX1_sinkChipsOfComplement 13 = .ok (.iaload, 1) := by decide +kernel
theorem dX1_sinkChipsOfComplement_14 : decode cX1_sinkChipsOfComplement 14 = .ok (.iconst 1, 1) := by decide +kernel
theorem dX1_sinkChipsOfComplement_15 : decode cX1_sinkChipsOfComplement 15 = .ok (.isub, 1) := by decide +kernel
theorem dX1_sinkChipsOfComplement_16 : decode cX1_sinkChipsOfComplement 16 = .ok (.aload_n 1, 1) := by decide +kernel
theorem dX1_sinkChipsOfComplement_17 : decode cX1_sinkChipsOfComplement 17 = .ok (.aload_n 0, 1) := by decide +kernel
theorem dX1_sinkChipsOfComplement_18 : decode cX1_sinkChipsOfComplement 18 = .ok (.getfield 39, 3) := by decide +kernel
theorem dX1_sinkChipsOfComplement_21 : decode cX1_sinkChipsOfComplement 21 = .ok (.iaload, 1) := by decide +kernel
theorem dX1_sinkChipsOfComplement_22 : decode cX1_sinkChipsOfComplement 22 = .ok (.isub, 1) := by decide +kernel
theorem dX1_sinkChipsOfComplement_23 : decode cX1_sinkChipsOfComplement 23 = .ok (.ireturn, 1) := by decide +kernel
theorem dX1_reduce_0 : decode cX1_reduce 0 = .ok (.aload_n 0, 1) := by decide +kernel
theorem dX1_reduce_1 : decode cX1_reduce 1 = .ok (.aload_n 1, 1) := by decide +kernel
theorem dX1_reduce_2 : decode cX1_reduce 2 = .ok (.aload_n 0, 1) := by decide +kernel
theorem dX1_reduce_3 : decode cX1_reduce 3 = .ok (.getfield 25, 3) := by decide +kernel
theorem dX1_reduce_6 : decode cX1_reduce 6 = .ok (.invokevirtual 115, 3) := by decide +kernel
theorem dX1_reduce_9 : decode cX1_reduce 9 = .ok (.aload_n 0, 1) := by decide +kernel
theorem dX1_reduce_10 : decode cX1_reduce 10 = .ok (.aload_n 0, 1) := by decide +kernel
theorem dX1_reduce_11 : decode cX1_reduce 11 = .ok (.getfield 25, 3) := by decide +kernel
theorem dX1_reduce_14 : decode cX1_reduce 14 = .ok (.aload_n 1, 1) := by decide +kernel
theorem dX1_reduce_15 : decode cX1_reduce 15 = .ok (.invokevirtual 109, 3) := by decide +kernel
theorem dX1_reduce_18 : decode cX1_reduce 18 = .ok (.return_, 1) := by decide +kernel
theorem dX1_leastMultiple_0 : decode cX1_leastMultiple 0 = .ok (.aload_n 0, 1) := by decide +kernel
theorem dX1_leastMultiple_1 : decode cX1_leastMultiple 1 = .ok (.aload_n 1, 1) := by decide +kernel
theorem dX1_leastMultiple_2 : decode cX1_leastMultiple 2 = .ok (.invokevirtual 102, 3) := by decide +kernel
theorem dX1_leastMultiple_5 : decode cX1_leastMultiple 5 = .ok (.aload_n 0, 1) := by decide +kernel
theorem dX1_leastMultiple_6 : decode cX1_leastMultiple 6 = .ok (.getfield 42, 3) := by decide +kernel
theorem dX1_leastMultiple_9 : decode cX1_leastMultiple 9 = .ok (.lstore_n 2, 1) := by decide +kernel
theorem dX1_leastMultiple_10 : decode cX1_leastMultiple 10 = .ok (.iconst 0, 1) := by decide +kernel
theorem dX1_leastMultiple_11 : decode cX1_leastMultiple 11 = .ok (.istore 4, 2) := by decide +kernel
theorem dX1_leastMultiple_13 : decode cX1_leastMultiple 13 = .ok (.iload 4, 2) := by decide +kernel
theorem dX1_leastMultiple_15 : decode cX1_leastMultiple 15 = .ok (.aload_n 0, 1) := by decide +kernel
theorem dX1_leastMultiple_16 : decode cX1_leastMultiple 16 = .ok (.getfield 35, 3) := by decide +kernel
theorem dX1_leastMultiple_19 : decode cX1_leastMultiple 19 = .ok (.if_icmp .ge 21, 3) := by decide +kernel
theorem dX1_leastMultiple_22 : decode cX1_leastMultiple 22 = .ok (.lload_n 2, 1) := by decide +kernel
theorem dX1_leastMultiple_23 : decode cX1_leastMultiple 23 = .ok (.aload_n 0, 1) := by decide +kernel
theorem dX1_leastMultiple_24 : decode cX1_leastMultiple 24 = .ok (.getfield 21, 3) := by decide +kernel
theorem dX1_leastMultiple_27 : decode cX1_leastMultiple 27 = .ok (.iload 4, 2) := by decide +kernel
theorem dX1_leastMultiple_29 : decode cX1_leastMultiple 29 = .ok (.laload, 1) := by decide +kernel
theorem dX1_leastMultiple_30 : decode cX1_leastMultiple 30 = .ok (.invokestatic 83, 3) := by decide +kernel
theorem dX1_leastMultiple_33 : decode cX1_leastMultiple 33 = .ok (.lstore_n 2, 1) := by decide +kernel
theorem dX1_leastMultiple_34 : decode cX1_leastMultiple 34 = .ok (.iinc 4 1, 3) := by decide +kernel
theorem dX1_leastMultiple_37 : decode cX1_leastMultiple 37 = .ok (.goto (-24), 3) := by decide +kernel
theorem dX1_leastMultiple_40 : decode cX1_leastMultiple 40 = .ok (.lload_n 2, 1) := by decide +kernel
theorem dX1_leastMultiple_41 : decode cX1_leastMultiple 41 = .ok (.lconst 0, 1) := by decide +kernel
theorem dX1_leastMultiple_42 : decode cX1_leastMultiple 42 = .ok (.lcmp, 1) := by decide +kernel
theorem dX1_leastMultiple_43 : decode cX1_leastMultiple 43 = .ok (.ifCond .le 12, 3) := by decide +kernel
theorem dX1_leastMultiple_46 : decode cX1_leastMultiple 46 = .ok (.aload_n 0, 1) := by decide +kernel
theorem dX1_leastMultiple_47 : decode cX1_leastMultiple 47 = .ok (.getfield 42, 3) := by decide +kernel
theorem dX1_leastMultiple_50 : decode cX1_leastMultiple 50 = .ok (.lload_n 2, 1) := by decide +kernel
theorem dX1_leastMultiple_51 : decode cX1_leastMultiple 51 = .ok (.ldiv, 1) := by decide +kernel
theorem dX1_leastMultiple_52 : decode cX1_leastMultiple 52 = .ok (.goto 4, 3) := by decide +kernel
theorem dX1_leastMultiple_55 : decode cX1_leastMultiple 55 = .ok (.lconst 1, 1) := by decide +kernel
theorem dX1_leastMultiple_56 : decode cX1_leastMultiple 56 = .ok (.lreturn, 1) := by decide +kernel
theorem dX1_findWay_0 : decode cX1_findWay 0 = .ok (.iconst 0, 1) := by decide +kernel
theorem dX1_findWay_1 : decode cX1_findWay 1 = .ok (.istore_n 3, 1) := by decide +kernel
theorem dX1_findWay_2 : decode cX1_findWay 2 = .ok (.iload_n 3, 1) := by decide +kernel
theorem dX1_findWay_3 : decode cX1_findWay 3 = .ok (.aload_n 0, 1) := by decide +kernel
theorem dX1_findWay_4 : decode cX1_findWay 4 = .ok (.getfield 35, 3) := by decide +kernel
theorem dX1_findWay_7 : decode cX1_findWay 7 = .ok (.if_icmp .ge 22, 3) := by decide +kernel
theorem dX1_findWay_10 : decode cX1_findWay 10 = .ok (.aload_n 0, 1) := by decide +kernel
theorem dX1_findWay_11 : decode cX1_findWay 11 = .ok (.getfield 25, 3) := by decide +kernel
theorem dX1_findWay_14 : decode cX1_findWay 14 = .ok (.iload_n 3, 1) := by decide +kernel
theorem dX1_findWay_15 : decode cX1_findWay 15 = .ok (.aload_n 1, 1) := by decide +kernel
theorem dX1_findWay_16 : decode cX1_findWay 16 = .ok (.iload_n 3, 1) := by decide +kernel
theorem dX1_findWay_17 : decode cX1_findWay 17 = .ok (.iaload, 1) := by decide +kernel
theorem dX1_findWay_18 : decode cX1_findWay 18 = .ok (.aload_n 2, 1) := by decide +kernel
theorem dX1_findWay_19 : decode cX1_findWay 19 = .ok (.iload_n 3, 1) := by decide +kernel
theorem dX1_findWay_20 : decode cX1_findWay 20 = .ok (.iaload, 1) := by decide +kernel
theorem dX1_findWay_21 : decode cX1_findWay 21 = .ok (.isub, 1) := by decide +kernel
theorem dX1_findWay_22 : decode cX1_findWay 22 = .ok (.iastore, 1) := by decide +kernel
theorem dX1_findWay_23 : decode cX1_findWay 23 = .ok (.iinc 3 1, 3) := by decide +kernel
theorem dX1_findWay_26 : decode cX1_findWay 26 = .ok (.goto (-24), 3) := by decide +kernel
theorem dX1_findWay_29 : decode cX1_findWay 29 = .ok (.aload_n 0, 1) := by decide +kernel
theorem dX1_findWay_30 : decode cX1_findWay 30 = .ok (.getfield 42, 3) := by decide +kernel
theorem dX1_findWay_33 : decode cX1_findWay 33 = .ok (.lconst 0, 1) := by decide +kernel
theorem dX1_findWay_34 : decode cX1_findWay 34 = .ok (.lcmp, 1) := by decide +kernel
theorem dX1_findWay_35 : decode cX1_findWay 35 = .ok (.ifCond .le 17, 3) := by decide +kernel
theorem dX1_findWay_38 : decode cX1_findWay 38 = .ok (.aload_n 0, 1) := by decide +kernel
theorem dX1_findWay_39 : decode cX1_findWay 39 = .ok (.getfield 25, 3) := by decide +kernel
theorem dX1_findWay_42 : decode cX1_findWay 42 = .ok (.aload_n 0, 1) := by decide +kernel
theorem dX1_findWay_43 : decode cX1_findWay 43 = .ok (.getfield 35, 3) := by decide +kernel
theorem dX1_findWay_46 : decode cX1_findWay 46 = .ok (.invokestatic 118, 3) := by decide +kernel
theorem dX1_findWay_49 : decode cX1_findWay 49 = .ok (.ifCond .eq 5, 3) := by decide +kernel
theorem dX1_findWay_52 : decode cX1_findWay 52 = .ok (.iconst 0, 1) := by decide +kernel
theorem dX1_findWay_53 : decode cX1_findWay 53 = .ok (.ireturn, 1) := by decide +kernel
theorem dX1_findWay_54 : decode cX1_findWay 54 = .ok (.aload_n 0, 1) := by decide +kernel
theorem dX1_findWay_55 : decode cX1_findWay 55 = .ok (.aload_n 0, 1) := by decide +kernel
theorem dX1_findWay_56 : decode cX1_findWay 56 = .ok (.getfield 25, 3) := by decide +kernel
theorem dX1_findWay_59 : decode cX1_findWay 59 = .ok (.invokevirtual 102, 3) := by decide +kernel
theorem dX1_findWay_62 : decode cX1_findWay 62 = .ok (.iconst 0, 1) := by decide +kernel
theorem dX1_findWay_63 : decode cX1_findWay 63 = .ok (.istore_n 3, 1) := by decide +kernel
theorem dX1_findWay_64 : decode cX1_findWay 64 = .ok (.iload_n 3, 1) := by decide +kernel
theorem dX1_findWay_65 : decode cX1_findWay 65 = .ok (.aload_n 0, 1) := by decide +kernel
theorem dX1_findWay_66 : decode cX1_findWay 66 = .ok (.getfield 35, 3) := by decide +kernel
theorem dX1_findWay_69 : decode cX1_findWay 69 = .ok (.if_icmp .ge 27, 3) := by decide +kernel
theorem dX1_findWay_72 : decode cX1_findWay 72 = .ok (.aload_n 0, 1) := by decide +kernel
theorem dX1_findWay_73 : decode cX1_findWay 73 = .ok (.getfield 21, 3) := by decide +kernel
theorem dX1_findWay_76 : decode cX1_findWay 76 = .ok (.iload_n 3, 1) := by decide +kernel
theorem dX1_findWay_77 : decode cX1_findWay 77 = .ok (.laload, 1) := by decide +kernel
theorem dX1_findWay_78 : decode cX1_findWay 78 = .ok (.aload_n 0, 1) := by decide +kernel
theorem dX1_findWay_79 : decode cX1_findWay 79 = .ok (.getfield 42, 3) := by decide +kernel
theorem dX1_findWay_82 : decode cX1_findWay 82 = .ok (.lrem, 1) := by decide +kernel
theorem dX1_findWay_83 : decode cX1_findWay 83 = .ok (.lconst 0, 1) := by decide +kernel
theorem dX1_findWay_84 : decode cX1_findWay 84 = .ok (.lcmp, 1) := by decide +kernel
theorem dX1_findWay_85 : decode cX1_findWay 85 = .ok (.ifCond .eq 5, 3) := by decide +kernel
theorem dX1_findWay_88 : decode cX1_findWay 88 = .ok (.iconst 0, 1) := by decide +kernel
theorem dX1_findWay_89 : decode cX1_findWay 89 = .ok (.ireturn, 1) := by decide +kernel
theorem dX1_findWay_90 : decode cX1_findWay 90 = .ok (.iinc 3 1, 3) := by decide +kernel
theorem dX1_findWay_93 : decode cX1_findWay 93 = .ok (.goto (-29), 3) := by decide +kernel
theorem dX1_findWay_96 : decode cX1_findWay 96 = .ok (.iconst 1, 1) := by decide +kernel
theorem dX1_findWay_97 : decode cX1_findWay 97 = .ok (.ireturn, 1) := by decide +kernel
theorem dX1_wayOf_0 : decode cX1_wayOf 0 = .ok (.aload_n 0, 1) := by decide +kernel
theorem dX1_wayOf_1 : decode cX1_wayOf 1 = .ok (.getfield 42, 3) := by decide +kernel
theorem dX1_wayOf_4 : decode cX1_wayOf 4 = .ok (.lconst 0, 1) := by decide +kernel
theorem dX1_wayOf_5 : decode cX1_wayOf 5 = .ok (.lcmp, 1) := by decide +kernel
theorem dX1_wayOf_6 : decode cX1_wayOf 6 = .ok (.ifCond .le 18, 3) := by decide +kernel
theorem dX1_wayOf_9 : decode cX1_wayOf 9 = .ok (.aload_n 0, 1) := by decide +kernel
theorem dX1_wayOf_10 : decode cX1_wayOf 10 = .ok (.getfield 21, 3) := by decide +kernel
theorem dX1_wayOf_13 : decode cX1_wayOf 13 = .ok (.iload_n 1, 1) := by decide +kernel
theorem dX1_wayOf_14 : decode cX1_wayOf 14 = .ok (.laload, 1) := by decide +kernel
theorem dX1_wayOf_15 : decode cX1_wayOf 15 = .ok (.aload_n 0, 1) := by decide +kernel
theorem dX1_wayOf_16 : decode cX1_wayOf 16 = .ok (.getfield 42, 3) := by decide +kernel
theorem dX1_wayOf_19 : decode cX1_wayOf 19 = .ok (.ldiv, 1) := by decide +kernel
theorem dX1_wayOf_20 : decode cX1_wayOf 20 = .ok (.l2i, 1) := by decide +kernel
theorem dX1_wayOf_21 : decode cX1_wayOf 21 = .ok (.goto 4, 3) := by decide +kernel
theorem dX1_wayOf_24 : decode cX1_wayOf 24 = .ok (.iconst 0, 1) := by decide +kernel
theorem dX1_wayOf_25 : decode cX1_wayOf 25 = .ok (.ireturn, 1) := by decide +kernel
theorem dX2_init_0 : decode cX2_init 0 = .ok (.aload_n 0, 1) := by decide +kernel
theorem dX2_init_1 : decode cX2_init 1 = .ok (.invokespecial 3, 3) := by decide +kernel
theorem dX2_init_4 : decode cX2_init 4 = .ok (.aload_n 0, 1) := by decide +kernel
theorem dX2_init_5 : decode cX2_init 5 = .ok (.bipush 6, 2) := by decide +kernel
theorem dX2_init_7 : decode cX2_init 7 = .ok (.anewarray 9, 3) := by decide +kernel
theorem dX2_init_10 : decode cX2_init 10 = .ok (.putfield 11, 3) := by decide +kernel
theorem dX2_init_13 : decode cX2_init 13 = .ok (.aload_n 0, 1) := by decide +kernel
theorem dX2_init_14 : decode cX2_init 14 = .ok (.iconst 0, 1) := by decide +kernel
theorem dX2_init_15 : decode cX2_init 15 = .ok (.putfield 17, 3) := by decide +kernel
theorem dX2_init_18 : decode cX2_init 18 = .ok (.aload_n 0, 1) := by decide +kernel
theorem dX2_init_19 : decode cX2_init 19 = .ok (.iconst 0, 1) := by decide +kernel
theorem dX2_init_20 : decode cX2_init 20 = .ok (.putfield 21, 3) := by decide +kernel
theorem dX2_init_23 : decode cX2_init 23 = .ok (.iconst 0, 1) := by decide +kernel
theorem dX2_init_24 : decode cX2_init 24 = .ok (.istore_n 1, 1) := by decide +kernel
theorem dX2_init_25 : decode cX2_init 25 = .ok (.iload_n 1, 1) := by decide +kernel
theorem dX2_init_26 : decode cX2_init 26 = .ok (.aload_n 0, 1) := by decide +kernel
theorem dX2_init_27 : decode cX2_init 27 = .ok (.getfield 11, 3) := by decide +kernel
theorem dX2_init_30 : decode cX2_init 30 = .ok (.arraylength, 1) := by decide +kernel
theorem dX2_init_31 : decode cX2_init 31 = .ok (.if_icmp .ge 22, 3) := by decide +kernel
theorem dX2_init_34 : decode cX2_init 34 = .ok (.aload_n 0, 1) := by decide +kernel
theorem dX2_init_35 : decode cX2_init 35 = .ok (.getfield 11, 3) := by decide +kernel
theorem dX2_init_38 : decode cX2_init 38 = .ok (.iload_n 1, 1) := by decide +kernel
theorem dX2_init_39 : decode cX2_init 39 = .ok (.new 9, 3) := by decide +kernel
theorem dX2_init_42 : decode cX2_init 42 = .ok (.dup, 1) := by decide +kernel
theorem dX2_init_43 : decode cX2_init 43 = .ok (.invokespecial 24, 3) := by decide +kernel
theorem dX2_init_46 : decode cX2_init 46 = .ok (.aastore, 1) := by decide +kernel
theorem dX2_init_47 : decode cX2_init 47 = .ok (.iinc 1 1, 3) := by decide +kernel
theorem dX2_init_50 : decode cX2_init 50 = .ok (.goto (-25), 3) := by decide +kernel
theorem dX2_init_53 : decode cX2_init 53 = .ok (.return_, 1) := by decide +kernel
theorem dX2_held_0 : decode cX2_held 0 = .ok (.aload_n 0, 1) := by decide +kernel
theorem dX2_held_1 : decode cX2_held 1 = .ok (.getfield 11, 3) := by decide +kernel
theorem dX2_held_4 : decode cX2_held 4 = .ok (.aload_n 0, 1) := by decide +kernel
theorem dX2_held_5 : decode cX2_held 5 = .ok (.getfield 17, 3) := by decide +kernel
theorem dX2_held_8 : decode cX2_held 8 = .ok (.iconst 1, 1) := by decide +kernel
theorem dX2_held_9 : decode cX2_held 9 = .ok (.iadd, 1) := by decide +kernel
theorem dX2_held_10 : decode cX2_held 10 = .ok (.bipush 6, 2) := by decide +kernel
theorem dX2_held_12 : decode cX2_held 12 = .ok (.irem, 1) := by decide +kernel
theorem dX2_held_13 : decode cX2_held 13 = .ok (.aaload, 1) := by decide +kernel
theorem dX2_held_14 : decode cX2_held 14 = .ok (.areturn, 1) := by decide +kernel
theorem dX2_hold_0 : decode cX2_hold 0 = .ok (.aload_n 0, 1) := by decide +kernel
theorem dX2_hold_1 : decode cX2_hold 1 = .ok (.invokevirtual 25, 3) := by decide +kernel
theorem dX2_hold_4 : decode cX2_hold 4 = .ok (.aload_n 1, 1) := by decide +kernel
theorem dX2_hold_5 : decode cX2_hold 5 = .ok (.invokevirtual 29, 3) := by decide +kernel
theorem dX2_hold_8 : decode cX2_hold 8 = .ok (.return_, 1) := by decide +kernel
theorem dX2_keepHeld_0 : decode cX2_keepHeld 0 = .ok (.aload_n 0, 1) := by decide +kernel
theorem dX2_keepHeld_1 : decode cX2_keepHeld 1 = .ok (.aload_n 0, 1) := by decide +kernel
theorem dX2_keepHeld_2 : decode cX2_keepHeld 2 = .ok (.getfield 17, 3) := by decide +kernel
theorem dX2_keepHeld_5 : decode cX2_keepHeld 5 = .ok (.iconst 1, 1) := by decide +kernel
theorem dX2_keepHeld_6 : decode cX2_keepHeld 6 = .ok (.iadd, 1) := by decide +kernel
theorem dX2_keepHeld_7 : decode cX2_keepHeld 7 = .ok (.bipush 6, 2) := by decide +kernel
theorem dX2_keepHeld_9 : decode cX2_keepHeld 9 = .ok (.irem, 1) := by decide +kernel
theorem dX2_keepHeld_10 : decode cX2_keepHeld 10 = .ok (.putfield 17, 3) := by decide +kernel
theorem dX2_keepHeld_13 : decode cX2_keepHeld 13 = .ok (.aload_n 0, 1) := by decide +kernel
theorem dX2_keepHeld_14 : decode cX2_keepHeld 14 = .ok (.aload_n 0, 1) := by decide +kernel
theorem dX2_keepHeld_15 : decode cX2_keepHeld 15 = .ok (.getfield 21, 3) := by decide +kernel
theorem dX2_keepHeld_18 : decode cX2_keepHeld 18 = .ok (.iconst 1, 1) := by decide +kernel
theorem dX2_keepHeld_19 : decode cX2_keepHeld 19 = .ok (.iadd, 1) := by decide +kernel
theorem dX2_keepHeld_20 : decode cX2_keepHeld 20 = .ok (.iconst 5, 1) := by decide +kernel
theorem dX2_keepHeld_21 : decode cX2_keepHeld 21 = .ok (.invokestatic 33, 3) := by decide +kernel
theorem dX2_keepHeld_24 : decode cX2_keepHeld 24 = .ok (.putfield 21, 3) := by decide +kernel
theorem dX2_keepHeld_27 : decode cX2_keepHeld 27 = .ok (.return_, 1) := by decide +kernel
theorem dX2_takeNewest_0 : decode cX2_takeNewest 0 = .ok (.aload_n 1, 1) := by decide +kernel
theorem dX2_takeNewest_1 : decode cX2_takeNewest 1 = .ok (.aload_n 0, 1) := by decide +kernel
theorem dX2_takeNewest_2 : decode cX2_takeNewest 2 = .ok (.getfield 11, 3) := by decide +kernel
theorem dX2_takeNewest_5 : decode cX2_takeNewest 5 = .ok (.aload_n 0, 1) := by decide +kernel
theorem dX2_takeNewest_6 : decode cX2_takeNewest 6 = .ok (.getfield 17, 3) := by decide +kernel
theorem dX2_takeNewest_9 : decode cX2_takeNewest 9 = .ok (.aaload, 1) := by decide +kernel
theorem dX2_takeNewest_10 : decode cX2_takeNewest 10 = .ok (.invokevirtual 29, 3) := by decide +kernel
theorem dX2_takeNewest_13 : decode cX2_takeNewest 13 = .ok (.aload_n 0, 1) := by decide +kernel
theorem dX2_takeNewest_14 : decode cX2_takeNewest 14 = .ok (.aload_n 0, 1) := by decide +kernel
theorem dX2_takeNewest_15 : decode cX2_takeNewest 15 = .ok (.getfield 17, 3) := by decide +kernel
theorem dX2_takeNewest_18 : decode cX2_takeNewest 18 = .ok (.iconst 5, 1) := by decide +kernel
theorem dX2_takeNewest_19 : decode cX2_takeNewest 19 = .ok (.iadd, 1) := by decide +kernel
theorem dX2_takeNewest_20 : decode cX2_takeNewest 20 = .ok (.bipush 6, 2) := by decide +kernel
theorem dX2_takeNewest_22 : decode cX2_takeNewest 22 = .ok (.irem, 1) := by decide +kernel
theorem dX2_takeNewest_23 : decode cX2_takeNewest 23 = .ok (.putfield 17, 3) := by decide +kernel
theorem dX2_takeNewest_26 : decode cX2_takeNewest 26 = .ok (.aload_n 0, 1) := by decide +kernel
theorem dX2_takeNewest_27 : decode cX2_takeNewest 27 = .ok (.aload_n 0, 1) := by decide +kernel
theorem dX2_takeNewest_28 : decode cX2_takeNewest 28 = .ok (.getfield 21, 3) := by decide +kernel
theorem dX2_takeNewest_31 : decode cX2_takeNewest 31 = .ok (.iconst 1, 1) := by decide +kernel
theorem dX2_takeNewest_32 : decode cX2_takeNewest 32 = .ok (.isub, 1) := by decide +kernel
theorem dX2_takeNewest_33 : decode cX2_takeNewest 33 = .ok (.iconst 0, 1) := by decide +kernel
theorem dX2_takeNewest_34 : decode cX2_takeNewest 34 = .ok (.invokestatic 39, 3) := by decide +kernel
theorem dX2_takeNewest_37 : decode cX2_takeNewest 37 = .ok (.putfield 21, 3) := by decide +kernel
theorem dX2_takeNewest_40 : decode cX2_takeNewest 40 = .ok (.return_, 1) := by decide +kernel
theorem dX3_init_0 : decode cX3_init 0 = .ok (.aload_n 0, 1) := by decide +kernel
theorem dX3_init_1 : decode cX3_init 1 = .ok (.invokespecial 3, 3) := by decide +kernel
theorem dX3_init_4 : decode cX3_init 4 = .ok (.aload_n 0, 1) := by decide +kernel
theorem dX3_init_5 : decode cX3_init 5 = .ok (.iconst 3, 1) := by decide +kernel
theorem dX3_init_6 : decode cX3_init 6 = .ok (.putfield 9, 3) := by decide +kernel
theorem dX3_init_9 : decode cX3_init 9 = .ok (.aload_n 0, 1) := by decide +kernel
theorem dX3_init_10 : decode cX3_init 10 = .ok (.iconst 5, 1) := by decide +kernel
theorem dX3_init_11 : decode cX3_init 11 = .ok (.iconst 5, 1) := by decide +kernel
theorem dX3_init_12 : decode cX3_init 12 = .ok (.multianewarray 15 2, 4) := by decide +kernel
theorem dX3_init_16 : decode cX3_init 16 = .ok (.putfield 17, 3) := by decide +kernel
theorem dX3_init_19 : decode cX3_init 19 = .ok (.aload_n 0, 1) := by decide +kernel
theorem dX3_init_20 : decode cX3_init 20 = .ok (.iconst 5, 1) := by decide +kernel
theorem dX3_init_21 : decode cX3_init 21 = .ok (.newarray .int, 2) := by decide +kernel
theorem dX3_init_23 : decode cX3_init 23 = .ok (.putfield 20, 3) := by decide +kernel
theorem dX3_init_26 : decode cX3_init 26 = .ok (.aload_n 0, 1) := by decide +kernel
theorem dX3_init_27 : decode cX3_init 27 = .ok (.iconst 5, 1) := by decide +kernel
theorem dX3_init_28 : decode cX3_init 28 = .ok (.newarray .int, 2) := by decide +kernel
theorem dX3_init_30 : decode cX3_init 30 = .ok (.putfield 24, 3) := by decide +kernel
theorem dX3_init_33 : decode cX3_init 33 = .ok (.aload_n 0, 1) := by decide +kernel
theorem dX3_init_34 : decode cX3_init 34 = .ok (.iconst 3, 1) := by decide +kernel
theorem dX3_init_35 : decode cX3_init 35 = .ok (.newarray .int, 2) := by decide +kernel
theorem dX3_init_37 : decode cX3_init 37 = .ok (.putfield 27, 3) := by decide +kernel
theorem dX3_init_40 : decode cX3_init 40 = .ok (.aload_n 0, 1) := by decide +kernel
theorem dX3_init_41 : decode cX3_init 41 = .ok (.iconst 3, 1) := by decide +kernel
theorem dX3_init_42 : decode cX3_init 42 = .ok (.iconst 5, 1) := by decide +kernel
theorem dX3_init_43 : decode cX3_init 43 = .ok (.multianewarray 15 2, 4) := by decide +kernel
theorem dX3_init_47 : decode cX3_init 47 = .ok (.putfield 30, 3) := by decide +kernel
theorem dX3_init_50 : decode cX3_init 50 = .ok (.return_, 1) := by decide +kernel
theorem dX3_copyFrom_0 : decode cX3_copyFrom 0 = .ok (.aload_n 0, 1) := by decide +kernel
theorem dX3_copyFrom_1 : decode cX3_copyFrom 1 = .ok (.aload_n 1, 1) := by decide +kernel
theorem dX3_copyFrom_2 : decode cX3_copyFrom 2 = .ok (.getfield 9, 3) := by decide +kernel
theorem dX3_copyFrom_5 : decode cX3_copyFrom 5 = .ok (.putfield 9, 3) := by decide +kernel
theorem dX3_copyFrom_8 : decode cX3_copyFrom 8 = .ok (.iconst 0, 1) := by decide +kernel
theorem dX3_copyFrom_9 : decode cX3_copyFrom 9 = .ok (.istore_n 2, 1) := by decide +kernel
theorem dX3_copyFrom_10 : decode cX3_copyFrom 10 = .ok (.iload_n 2, 1) := by decide +kernel
theorem dX3_copyFrom_11 : decode cX3_copyFrom 11 = .ok (.iconst 5, 1) := by decide +kernel
theorem dX3_copyFrom_12 : decode cX3_copyFrom 12 = .ok (.if_icmp .ge 24, 3) := by decide +kernel
theorem dX3_copyFrom_15 : decode cX3_copyFrom 15 = .ok (.aload_n 1, 1) := by decide +kernel
theorem dX3_copyFrom_16 : decode cX3_copyFrom 16 = .ok (.getfield 17, 3) := by decide +kernel
theorem dX3_copyFrom_19 : decode cX3_copyFrom 19 = .ok (.iload_n 2, 1) := by decide +kernel
theorem dX3_copyFrom_20 : decode cX3_copyFrom 20 = .ok (.aaload, 1) := by decide +kernel
theorem dX3_copyFrom_21 : decode cX3_copyFrom 21 = .ok (.aload_n 0, 1) := by decide +kernel
theorem dX3_copyFrom_22 : decode cX3_copyFrom 22 = .ok (.getfield 17, 3) := by decide +kernel
theorem dX3_copyFrom_25 : decode cX3_copyFrom 25 = .ok (.iload_n 2, 1) := by decide +kernel
theorem dX3_copyFrom_26 : decode cX3_copyFrom 26 = .ok (.aaload, 1) := by decide +kernel
theorem dX3_copyFrom_27 : decode cX3_copyFrom 27 = .ok (.invokestatic 33, 3) := by decide +kernel
theorem dX3_copyFrom_30 : decode cX3_copyFrom 30 = .ok (.iinc 2 1, 3) := by decide +kernel
theorem dX3_copyFrom_33 : decode cX3_copyFrom 33 = .ok (.goto (-23), 3) := by decide +kernel
theorem dX3_copyFrom_36 : decode cX3_copyFrom 36 = .ok (.aload_n 1, 1) := by decide +kernel
theorem dX3_copyFrom_37 : decode cX3_copyFrom 37 = .ok (.getfield 20, 3) := by decide +kernel
theorem dX3_copyFrom_40 : decode cX3_copyFrom 40 = .ok (.aload_n 0, 1) := by decide +kernel
theorem dX3_copyFrom_41 : decode cX3_copyFrom 41 = .ok (.getfield 20, 3) := by decide +kernel
theorem dX3_copyFrom_44 : decode cX3_copyFrom 44 = .ok (.invokestatic 33, 3) := by decide +kernel
theorem dX3_copyFrom_47 : decode cX3_copyFrom 47 = .ok (.aload_n 1, 1) := by decide +kernel
theorem dX3_copyFrom_48 : decode cX3_copyFrom 48 = .ok (.getfield 24, 3) := by decide +kernel
theorem dX3_copyFrom_51 : decode cX3_copyFrom 51 = .ok (.aload_n 0, 1) := by decide +kernel
theorem dX3_copyFrom_52 : decode cX3_copyFrom 52 = .ok (.getfield 24, 3) := by decide +kernel
theorem dX3_copyFrom_55 : decode cX3_copyFrom 55 = .ok (.invokestatic 33, 3) := by decide +kernel
theorem dX3_copyFrom_58 : decode cX3_copyFrom 58 = .ok (.iconst 0, 1) := by decide +kernel
theorem dX3_copyFrom_59 : decode cX3_copyFrom 59 = .ok (.istore_n 2, 1) := by decide +kernel
theorem dX3_copyFrom_60 : decode cX3_copyFrom 60 = .ok (.iload_n 2, 1) := by decide +kernel
theorem dX3_copyFrom_61 : decode cX3_copyFrom 61 = .ok (.iconst 3, 1) := by decide +kernel
theorem dX3_copyFrom_62 : decode cX3_copyFrom 62 = .ok (.if_icmp .ge 36, 3) := by decide +kernel
theorem dX3_copyFrom_65 : decode cX3_copyFrom 65 = .ok (.aload_n 0, 1) := by decide +kernel
theorem dX3_copyFrom_66 : decode cX3_copyFrom 66 = .ok (.getfield 27, 3) := by decide +kernel
theorem dX3_copyFrom_69 : decode cX3_copyFrom 69 = .ok (.iload_n 2, 1) := by decide +kernel
theorem dX3_copyFrom_70 : decode cX3_copyFrom 70 = .ok (.aload_n 1, 1) := by decide +kernel
theorem dX3_copyFrom_71 : decode cX3_copyFrom 71 = .ok (.getfield 27, 3) := by decide +kernel
theorem dX3_copyFrom_74 : decode cX3_copyFrom 74 = .ok (.iload_n 2, 1) := by decide +kernel
theorem dX3_copyFrom_75 : decode cX3_copyFrom 75 = .ok (.iaload, 1) := by decide +kernel
theorem dX3_copyFrom_76 : decode cX3_copyFrom 76 = .ok (.iastore, 1) := by decide +kernel
theorem dX3_copyFrom_77 : decode cX3_copyFrom 77 = .ok (.aload_n 1, 1) := by decide +kernel
theorem dX3_copyFrom_78 : decode cX3_copyFrom 78 = .ok (.getfield 30, 3) := by decide +kernel
theorem dX3_copyFrom_81 : decode cX3_copyFrom 81 = .ok (.iload_n 2, 1) := by decide +kernel
theorem dX3_copyFrom_82 : decode cX3_copyFrom 82 = .ok (.aaload, 1) := by decide +kernel
theorem dX3_copyFrom_83 : decode cX3_copyFrom 83 = .ok (.aload_n 0, 1) := by decide +kernel
theorem dX3_copyFrom_84 : decode cX3_copyFrom 84 = .ok (.getfield 30, 3) := by decide +kernel
theorem dX3_copyFrom_87 : decode cX3_copyFrom 87 = .ok (.iload_n 2, 1) := by decide +kernel
theorem dX3_copyFrom_88 : decode cX3_copyFrom 88 = .ok (.aaload, 1) := by decide +kernel
theorem dX3_copyFrom_89 : decode cX3_copyFrom 89 = .ok (.invokestatic 33, 3) := by decide +kernel
theorem dX3_copyFrom_92 : decode cX3_copyFrom 92 = .ok (.iinc 2 1, 3) := by decide +kernel
theorem dX3_copyFrom_95 : decode cX3_copyFrom 95 = .ok (.goto (-35), 3) := by decide +kernel
theorem dX3_copyFrom_98 : decode cX3_copyFrom 98 = .ok (.return_, 1) := by decide +kernel
theorem dX3_empty_0 : decode cX3_empty 0 = .ok (.aload_n 0, 1) := by decide +kernel
theorem dX3_empty_1 : decode cX3_empty 1 = .ok (.iload_n 1, 1) := by decide +kernel
theorem dX3_empty_2 : decode cX3_empty 2 = .ok (.putfield 9, 3) := by decide +kernel
theorem dX3_empty_5 : decode cX3_empty 5 = .ok (.iconst 0, 1) := by decide +kernel
theorem dX3_empty_6 : decode cX3_empty 6 = .ok (.istore_n 2, 1) := by decide +kernel
theorem dX3_empty_7 : decode cX3_empty 7 = .ok (.iload_n 2, 1) := by decide +kernel
theorem dX3_empty_8 : decode cX3_empty 8 = .ok (.iconst 5, 1) := by decide +kernel
theorem dX3_empty_9 : decode cX3_empty 9 = .ok (.if_icmp .ge 19, 3) := by decide +kernel
theorem dX3_empty_12 : decode cX3_empty 12 = .ok (.aload_n 0, 1) := by decide +kernel
theorem dX3_empty_13 : decode cX3_empty 13 = .ok (.getfield 17, 3) := by decide +kernel
theorem dX3_empty_16 : decode cX3_empty 16 = .ok (.iload_n 2, 1) := by decide +kernel
theorem dX3_empty_17 : decode cX3_empty 17 = .ok (.aaload, 1) := by decide +kernel
theorem dX3_empty_18 : decode cX3_empty 18 = .ok (.iconst 0, 1) := by decide +kernel
theorem dX3_empty_19 : decode cX3_empty 19 = .ok (.invokestatic 37, 3) := by decide +kernel
theorem dX3_empty_22 : decode cX3_empty 22 = .ok (.iinc 2 1, 3) := by decide +kernel
theorem dX3_empty_25 : decode cX3_empty 25 = .ok (.goto (-18), 3) := by decide +kernel
theorem dX3_empty_28 : decode cX3_empty 28 = .ok (.aload_n 0, 1) := by decide +kernel
theorem dX3_empty_29 : decode cX3_empty 29 = .ok (.getfield 20, 3) := by decide +kernel
theorem dX3_empty_32 : decode cX3_empty 32 = .ok (.iconst 0, 1) := by decide +kernel
theorem dX3_empty_33 : decode cX3_empty 33 = .ok (.invokestatic 37, 3) := by decide +kernel
theorem dX3_empty_36 : decode cX3_empty 36 = .ok (.aload_n 0, 1) := by decide +kernel
theorem dX3_empty_37 : decode cX3_empty 37 = .ok (.getfield 24, 3) := by decide +kernel
theorem dX3_empty_40 : decode cX3_empty 40 = .ok (.iconst 0, 1) := by decide +kernel
theorem dX3_empty_41 : decode cX3_empty 41 = .ok (.invokestatic 37, 3) := by decide +kernel
theorem dX3_empty_44 : decode cX3_empty 44 = .ok (.return_, 1) := by decide +kernel
theorem dX3_draw_0 : decode cX3_draw 0 = .ok (.iload_n 1, 1) := by decide +kernel
theorem dX3_draw_1 : decode cX3_draw 1 = .ok (.i2l, 1) := by decide +kernel
theorem dX3_draw_2 : decode cX3_draw 2 = .ok (.lstore_n 2, 1) := by decide +kernel
theorem dX3_draw_3 : decode cX3_draw 3 = .ok (.iconst 1, 1) := by decide +kernel
theorem dX3_draw_4 : decode cX3_draw 4 = .ok (.istore 4, 2) := by decide +kernel
theorem dX3_draw_6 : decode cX3_draw 6 = .ok (.iload 4, 2) := by decide +kernel
theorem dX3_draw_8 : decode cX3_draw 8 = .ok (.aload_n 0, 1) := by decide +kernel
theorem dX3_draw_9 : decode cX3_draw 9 = .ok (.getfield 9, 3) := by decide +kernel
theorem dX3_draw_12 : decode cX3_draw 12 = .ok (.if_icmp .ge 48, 3) := by decide +kernel
theorem dX3_draw_15 : decode cX3_draw 15 = .ok (.iconst 0, 1) := by decide +kernel
theorem dX3_draw_16 : decode cX3_draw 16 = .ok (.istore 5, 2) := by decide +kernel
theorem dX3_draw_18 : decode cX3_draw 18 = .ok (.iload 5, 2) := by decide +kernel
theorem dX3_draw_20 : decode cX3_draw 20 = .ok (.iload 4, 2) := by decide +kernel
theorem dX3_draw_22 : decode cX3_draw 22 = .ok (.if_icmp .ge 32, 3) := by decide +kernel
theorem dX3_draw_25 : decode cX3_draw 25 = .ok (.lload_n 2, 1) := by decide +kernel
theorem dX3_draw_26 : decode cX3_draw 26 = .ok (.invokestatic 43, 3) := by decide +kernel
theorem dX3_draw_29 : decode cX3_draw 29 = .ok (.lstore_n 2, 1) := by decide +kernel
theorem dX3_draw_30 : decode cX3_draw 30 = .ok (.aload_n 0, 1) := by decide +kernel
theorem dX3_draw_31 : decode cX3_draw 31 = .ok (.iload 5, 2) := by decide +kernel
theorem dX3_draw_33 : decode cX3_draw 33 = .ok (.iload 4, 2) := by decide +kernel
theorem dX3_draw_35 : decode cX3_draw 35 = .ok (.lload_n 2, 1) := by decide +kernel
theorem dX3_draw_36 : decode cX3_draw 36 = .ok (.ldc2_w 47, 3) := by decide +kernel
theorem dX3_draw_39 : decode cX3_draw 39 = .ok (.ldiv, 1) := by decide +kernel
theorem dX3_draw_40 : decode cX3_draw 40 = .ok (.ldc2_w 49, 3) := by decide +kernel
theorem dX3_draw_43 : decode cX3_draw 43 = .ok (.lrem, 1) := by decide +kernel
theorem dX3_draw_44 : decode cX3_draw 44 = .ok (.l2i, 1) := by decide +kernel
theorem dX3_draw_45 : decode cX3_draw 45 = .ok (.invokevirtual 51, 3) := by decide +kernel
theorem dX3_draw_48 : decode cX3_draw 48 = .ok (.iinc 5 1, 3) := by decide +kernel
theorem dX3_draw_51 : decode cX3_draw 51 = .ok (.goto (-33), 3) := by decide +kernel
theorem dX3_draw_54 : decode cX3_draw 54 = .ok (.iinc 4 1, 3) := by decide +kernel
theorem dX3_draw_57 : decode cX3_draw 57 = .ok (.goto (-51), 3) := by decide +kernel
theorem dX3_draw_60 : decode cX3_draw 60 = .ok (.iconst 0, 1) := by decide +kernel
theorem dX3_draw_61 : decode cX3_draw 61 = .ok (.istore 4, 2) := by decide +kernel
theorem dX3_draw_63 : decode cX3_draw 63 = .ok (.iload 4, 2) := by decide +kernel
theorem dX3_draw_65 : decode cX3_draw 65 = .ok (.aload_n 0, 1) := by decide +kernel
theorem dX3_draw_66 : decode cX3_draw 66 = .ok (.getfield 9, 3) := by decide +kernel
theorem dX3_draw_69 : decode cX3_draw 69 = .ok (.if_icmp .ge 31, 3) := by decide +kernel
theorem dX3_draw_72 : decode cX3_draw 72 = .ok (.lload_n 2, 1) := by decide +kernel
theorem dX3_draw_73 : decode cX3_draw 73 = .ok (.invokestatic 43, 3) := by decide +kernel
theorem dX3_draw_76 : decode cX3_draw 76 = .ok (.lstore_n 2, 1) := by decide +kernel
theorem dX3_draw_77 : decode cX3_draw 77 = .ok (.aload_n 0, 1) := by decide +kernel
theorem dX3_draw_78 : decode cX3_draw 78 = .ok (.getfield 20, 3) := by decide +kernel
theorem dX3_draw_81 : decode cX3_draw 81 = .ok (.iload 4, 2) := by decide +kernel
theorem dX3_draw_83 : decode cX3_draw 83 = .ok (.lload_n 2, 1) := by decide +kernel
theorem dX3_draw_84 : decode cX3_draw 84 = .ok (.ldc2_w 47, 3) := by decide +kernel
theorem dX3_draw_87 : decode cX3_draw 87 = .ok (.ldiv, 1) := by decide +kernel
theorem dX3_draw_88 : decode cX3_draw 88 = .ok (.ldc2_w 55, 3) := by decide +kernel
theorem dX3_draw_91 : decode cX3_draw 91 = .ok (.lrem, 1) := by decide +kernel
theorem dX3_draw_92 : decode cX3_draw 92 = .ok (.l2i, 1) := by decide +kernel
theorem dX3_draw_93 : decode cX3_draw 93 = .ok (.iastore, 1) := by decide +kernel
theorem dX3_draw_94 : decode cX3_draw 94 = .ok (.iinc 4 1, 3) := by decide +kernel
theorem dX3_draw_97 : decode cX3_draw 97 = .ok (.goto (-34), 3) := by decide +kernel
theorem dX3_draw_100 : decode cX3_draw 100 = .ok (.return_, 1) := by decide +kernel
theorem dX3_drawnAfter_0 : decode cX3_drawnAfter 0 = .ok (.lload_n 0, 1) := by decide +kernel
theorem dX3_drawnAfter_1 : decode cX3_drawnAfter 1 = .ok (.ldc2_w 57, 3) := by decide +kernel
theorem dX3_drawnAfter_4 : decode cX3_drawnAfter 4 = .ok (.lmul, 1) := by decide +kernel
theorem dX3_drawnAfter_5 : decode cX3_drawnAfter 5 = .ok (.ldc2_w 59, 3) := by decide +kernel
theorem dX3_drawnAfter_8 : decode cX3_drawnAfter 8 = .ok (.ladd, 1) := by decide +kernel
theorem dX3_drawnAfter_9 : decode cX3_drawnAfter 9 = .ok (.ldc2_w 61, 3) := by decide +kernel
theorem dX3_drawnAfter_12 : decode cX3_drawnAfter 12 = .ok (.lrem, 1) := by decide +kernel
theorem dX3_drawnAfter_13 : decode cX3_drawnAfter 13 = .ok (.lreturn, 1) := by decide +kernel
theorem dX3_putLines_0 : decode cX3_putLines 0 = .ok (.aload_n 0, 1) := by decide +kernel
theorem dX3_putLines_1 : decode cX3_putLines 1 = .ok (.getfield 17, 3) := by decide +kernel
theorem dX3_putLines_4 : decode cX3_putLines 4 = .ok (.iload_n 1, 1) := by decide +kernel
theorem dX3_putLines_5 : decode cX3_putLines 5 = .ok (.aaload, 1) := by decide +kernel
theorem dX3_putLines_6 : decode cX3_putLines 6 = .ok (.iload_n 2, 1) := by decide +kernel
theorem dX3_putLines_7 : decode cX3_putLines 7 = .ok (.iload_n 3, 1) := by decide +kernel
theorem dX3_putLines_8 : decode cX3_putLines 8 = .ok (.iastore, 1) := by decide +kernel
theorem dX3_putLines_9 : decode cX3_putLines 9 = .ok (.aload_n 0, 1) := by decide +kernel
theorem dX3_putLines_10 : decode cX3_putLines 10 = .ok (.getfield 17, 3) := by decide +kernel
theorem dX3_putLines_13 : decode cX3_putLines 13 = .ok (.iload_n 2, 1) := by decide +kernel
theorem dX3_putLines_14 : decode cX3_putLines 14 = .ok (.aaload, 1) := by decide +kernel
theorem dX3_putLines_15 : decode cX3_putLines 15 = .ok (.iload_n 1, 1) := by decide +kernel
theorem dX3_putLines_16 : decode cX3_putLines 16 = .ok (.iload_n 3, 1) := by decide +kernel
theorem dX3_putLines_17 : decode cX3_putLines 17 = .ok (.iastore, 1) := by decide +kernel
theorem dX3_putLines_18 : decode cX3_putLines 18 = .ok (.return_, 1) := by decide +kernel
theorem dX3_keepChips_0 : decode cX3_keepChips 0 = .ok (.aload_n 0, 1) := by decide +kernel
theorem dX3_keepChips_1 : decode cX3_keepChips 1 = .ok (.getfield 27, 3) := by decide +kernel
theorem dX3_keepChips_4 : decode cX3_keepChips 4 = .ok (.iload_n 1, 1) := by decide +kernel
theorem dX3_keepChips_5 : decode cX3_keepChips 5 = .ok (.aload_n 0, 1) := by decide +kernel
theorem dX3_keepChips_6 : decode cX3_keepChips 6 = .ok (.getfield 9, 3) := by decide +kernel
theorem dX3_keepChips_9 : decode cX3_keepChips 9 = .ok (.iastore, 1) := by decide +kernel
theorem dX3_keepChips_10 : decode cX3_keepChips 10 = .ok (.aload_n 0, 1) := by decide +kernel
theorem dX3_keepChips_11 : decode cX3_keepChips 11 = .ok (.getfield 20, 3) := by decide +kernel
theorem dX3_keepChips_14 : decode cX3_keepChips 14 = .ok (.aload_n 0, 1) := by decide +kernel
theorem dX3_keepChips_15 : decode cX3_keepChips 15 = .ok (.getfield 30, 3) := by decide +kernel
theorem dX3_keepChips_18 : decode cX3_keepChips 18 = .ok (.iload_n 1, 1) := by decide +kernel
theorem dX3_keepChips_19 : decode cX3_keepChips 19 = .ok (.aaload, 1) := by decide +kernel
theorem dX3_keepChips_20 : decode cX3_keepChips 20 = .ok (.invokestatic 33, 3) := by decide +kernel
theorem dX3_keepChips_23 : decode cX3_keepChips 23 = .ok (.return_, 1) := by decide +kernel
theorem dX3_keptBits_0 : decode cX3_keptBits 0 = .ok (.iconst 0, 1) := by decide +kernel
theorem dX3_keptBits_1 : decode cX3_keptBits 1 = .ok (.istore_n 1, 1) := by decide +kernel
theorem dX3_keptBits_2 : decode cX3_keptBits 2 = .ok (.iconst 0, 1) := by decide +kernel
theorem dX3_keptBits_3 : decode cX3_keptBits 3 = .ok (.istore_n 2, 1) := by decide +kernel
theorem dX3_keptBits_4 : decode cX3_keptBits 4 = .ok (.iload_n 2, 1) := by decide +kernel
theorem dX3_keptBits_5 : decode cX3_keptBits 5 = .ok (.iconst 3, 1) := by decide +kernel
theorem dX3_keptBits_6 : decode cX3_keptBits 6 = .ok (.if_icmp .ge 24, 3) := by decide +kernel
theorem dX3_keptBits_9 : decode cX3_keptBits 9 = .ok (.aload_n 0, 1) := by decide +kernel
theorem dX3_keptBits_10 : decode cX3_keptBits 10 = .ok (.getfield 27, 3) := by decide +kernel
theorem dX3_keptBits_13 : decode cX3_keptBits 13 = .ok (.iload_n 2, 1) := by decide +kernel
theorem dX3_keptBits_14 : decode cX3_keptBits 14 = .ok (.iaload, 1) := by decide +kernel
theorem dX3_keptBits_15 : decode cX3_keptBits 15 = .ok (.ifCond .le 9, 3) := by decide +kernel
theorem dX3_keptBits_18 : decode cX3_keptBits 18 = .ok (.iload_n 1, 1) := by decide +kernel
theorem dX3_keptBits_19 : decode cX3_keptBits 19 = .ok (.iconst 1, 1) := by decide +kernel
theorem dX3_keptBits_20 : decode cX3_keptBits 20 = .ok (.iload_n 2, 1) := by decide +kernel
theorem dX3_keptBits_21 : decode cX3_keptBits 21 = .ok (.ishl, 1) := by decide +kernel
theorem dX3_keptBits_22 : decode cX3_keptBits 22 = .ok (.ior, 1) := by decide +kernel
theorem dX3_keptBits_23 : decode cX3_keptBits 23 = .ok (.istore_n 1, 1) := by decide +kernel
theorem dX3_keptBits_24 : decode cX3_keptBits 24 = .ok (.iinc 2 1, 3) := by decide +kernel
theorem dX3_keptBits_27 : decode cX3_keptBits 27 = .ok (.goto (-23), 3) := by decide +kernel
theorem dX3_keptBits_30 : decode cX3_keptBits 30 = .ok (.iload_n 1, 1) := by decide +kernel
theorem dX3_keptBits_31 : decode cX3_keptBits 31 = .ok (.ireturn, 1) := by decide +kernel
theorem dX3_hasPoint_0 : decode cX3_hasPoint 0 = .ok (.iload_n 1, 1) := by decide +kernel
theorem dX3_hasPoint_1 : decode cX3_hasPoint 1 = .ok (.ifCond .lt 15, 3) := by decide +kernel
theorem dX3_hasPoint_4 : decode cX3_hasPoint 4 = .ok (.iload_n 1, 1) := by decide +kernel
theorem dX3_hasPoint_5 : decode cX3_hasPoint 5 = .ok (.aload_n 0, 1) := by decide +kernel
theorem dX3_hasPoint_6 : decode cX3_hasPoint 6 = .ok (.getfield 9, 3) := by decide +kernel
theorem dX3_hasPoint_9 : decode cX3_hasPoint 9 = .ok (.if_icmp .ge 7, 3) := by decide +kernel
theorem dX3_hasPoint_12 : decode cX3_hasPoint 12 = .ok (.iconst 1, 1) := by decide +kernel
theorem dX3_hasPoint_13 : decode cX3_hasPoint 13 = .ok (.goto 4, 3) := by decide +kernel
theorem dX3_hasPoint_16 : decode cX3_hasPoint 16 = .ok (.iconst 0, 1) := by decide +kernel
theorem dX3_hasPoint_17 : decode cX3_hasPoint 17 = .ok (.ireturn, 1) := by decide +kernel
theorem dX3_allPoints_0 : decode cX3_allPoints 0 = .ok (.iconst 1, 1) := by decide +kernel
theorem dX3_allPoints_1 : decode cX3_allPoints 1 = .ok (.aload_n 0, 1) := by decide +kernel
theorem dX3_allPoints_2 : decode cX3_allPoints 2 = .ok (.getfield 9, 3) := by decide +kernel
theorem dX3_allPoints_5 : decode cX3_allPoints 5 = .ok (.ishl, 1) := by decide +kernel
theorem dX3_allPoints_6 : decode cX3_allPoints 6 = .ok (.iconst 1, 1) := by decide +kernel
theorem dX3_allPoints_7 : decode cX3_allPoints 7 = .ok (.isub, 1) := by decide +kernel
theorem dX3_allPoints_8 : decode cX3_allPoints 8 = .ok (.ireturn, 1) := by decide +kernel
theorem dX3_linesBetween_0 : decode cX3_linesBetween 0 = .ok (.aload_n 0, 1) := by decide +kernel
theorem dX3_linesBetween_1 : decode cX3_linesBetween 1 = .ok (.iload_n 1, 1) := by decide +kernel
theorem dX3_linesBetween_2 : decode cX3_linesBetween 2 = .ok (.invokevirtual 63, 3) := by decide +kernel
theorem dX3_linesBetween_5 : decode cX3_linesBetween 5 = .ok (.ifCond .eq 22, 3) := by decide +kernel
theorem dX3_linesBetween_8 : decode cX3_linesBetween 8 = .ok (.aload_n 0, 1) := by decide +kernel
theorem dX3_linesBetween_9 : decode cX3_linesBetween 9 = .ok (.iload_n 2, 1) := by decide +kernel
theorem dX3_linesBetween_10 : decode cX3_linesBetween 10 = .ok (.invokevirtual 63, 3) := by decide +kernel
theorem dX3_linesBetween_13 : decode cX3_linesBetween 13 = .ok (.ifCond .eq 14, 3) := by decide +kernel
theorem dX3_linesBetween_16 : decode cX3_linesBetween 16 = .ok (.aload_n 0, 1) := by decide +kernel
theorem dX3_linesBetween_17 : decode cX3_linesBetween 17 = .ok (.getfield 17, 3) := by decide +kernel
theorem dX3_linesBetween_20 : decode cX3_linesBetween 20 = .ok (.iload_n 1, 1) := by decide +kernel
theorem dX3_linesBetween_21 : decode cX3_linesBetween 21 = .ok (.aaload, 1) := by decide +kernel
theorem dX3_linesBetween_22 : decode cX3_linesBetween 22 = .ok (.iload_n 2, 1) := by decide +kernel
theorem dX3_linesBetween_23 : decode cX3_linesBetween 23 = .ok (.iaload, 1) := by decide +kernel
theorem dX3_linesBetween_24 : decode cX3_linesBetween 24 = .ok (.goto 4, 3) := by decide +kernel
theorem dX3_linesBetween_27 : decode cX3_linesBetween 27 = .ok (.iconst 0, 1) := by decide +kernel
theorem dX3_linesBetween_28 : decode cX3_linesBetween 28 = .ok (.ireturn, 1) := by decide +kernel
theorem dX3_linesInto_0 : decode cX3_linesInto 0 = .ok (.iconst 0, 1) := by decide +kernel
theorem dX3_linesInto_1 : decode cX3_linesInto 1 = .ok (.istore_n 3, 1) := by decide +kernel
theorem dX3_linesInto_2 : decode cX3_linesInto 2 = .ok (.iconst 0, 1) := by decide +kernel
theorem dX3_linesInto_3 : decode cX3_linesInto 3 = .ok (.istore 4, 2) := by decide +kernel
theorem dX3_linesInto_5 : decode cX3_linesInto 5 = .ok (.iload 4, 2) := by decide +kernel
theorem dX3_linesInto_7 : decode cX3_linesInto 7 = .ok (.aload_n 0, 1) := by decide +kernel
theorem dX3_linesInto_8 : decode cX3_linesInto 8 = .ok (.getfield 9, 3) := by decide +kernel
theorem dX3_linesInto_11 : decode cX3_linesInto 11 = .ok (.if_icmp .ge 31, 3) := by decide +kernel
theorem dX3_linesInto_14 : decode cX3_linesInto 14 = .ok (.iload_n 1, 1) := by decide +kernel
theorem dX3_linesInto_15 : decode cX3_linesInto 15 = .ok (.iload 4, 2) := by decide +kernel
theorem dX3_linesInto_17 : decode cX3_linesInto 17 = .ok (.ishr, 1) := by decide +kernel
theorem dX3_linesInto_18 : decode cX3_linesInto 18 = .ok (.iconst 1, 1) := by decide +kernel
theorem dX3_linesInto_19 : decode cX3_linesInto 19 = .ok (.iand, 1) := by decide +kernel
theorem dX3_linesInto_20 : decode cX3_linesInto 20 = .ok (.iconst 1, 1) := by decide +kernel
theorem dX3_linesInto_21 : decode cX3_linesInto 21 = .ok (.if_icmp .ne 15, 3) := by decide +kernel
theorem dX3_linesInto_24 : decode cX3_linesInto 24 = .ok (.iload_n 3, 1) := by decide +kernel
theorem dX3_linesInto_25 : decode cX3_linesInto 25 = .ok (.aload_n 0, 1) := by decide +kernel
theorem dX3_linesInto_26 : decode cX3_linesInto 26 = .ok (.getfield 17, 3) := by decide +kernel
theorem dX3_linesInto_29 : decode cX3_linesInto 29 = .ok (.iload_n 2, 1) := by decide +kernel
theorem dX3_linesInto_30 : decode cX3_linesInto 30 = .ok (.aaload, 1) := by decide +kernel
theorem dX3_linesInto_31 : decode cX3_linesInto 31 = .ok (.iload 4, 2) := by decide +kernel
theorem dX3_linesInto_33 : decode cX3_linesInto 33 = .ok (.iaload, 1) := by decide +kernel
theorem dX3_linesInto_34 : decode cX3_linesInto 34 = .ok (.iadd, 1) := by decide +kernel
theorem dX3_linesInto_35 : decode cX3_linesInto 35 = .ok (.istore_n 3, 1) := by decide +kernel
theorem dX3_linesInto_36 : decode cX3_linesInto 36 = .ok (.iinc 4 1, 3) := by decide +kernel
theorem dX3_linesInto_39 : decode cX3_linesInto 39 = .ok (.goto (-34), 3) := by decide +kernel
theorem dX3_linesInto_42 : decode cX3_linesInto 42 = .ok (.iload_n 3, 1) := by decide +kernel
theorem dX3_linesInto_43 : decode cX3_linesInto 43 = .ok (.ireturn, 1) := by decide +kernel
theorem dX3_valence_0 : decode cX3_valence 0 = .ok (.aload_n 0, 1) := by decide +kernel
theorem dX3_valence_1 : decode cX3_valence 1 = .ok (.aload_n 0, 1) := by decide +kernel
theorem dX3_valence_2 : decode cX3_valence 2 = .ok (.invokevirtual 67, 3) := by decide +kernel
theorem dX3_valence_5 : decode cX3_valence 5 = .ok (.iload_n 1, 1) := by decide +kernel
theorem dX3_valence_6 : decode cX3_valence 6 = .ok (.invokevirtual 71, 3) := by decide +kernel
theorem dX3_valence_9 : decode cX3_valence 9 = .ok (.ireturn, 1) := by decide +kernel
theorem dX3_lineCount_0 : decode cX3_lineCount 0 = .ok (.iconst 0, 1) := by decide +kernel
theorem dX3_lineCount_1 : decode cX3_lineCount 1 = .ok (.istore_n 1, 1) := by decide +kernel
theorem dX3_lineCount_2 : decode cX3_lineCount 2 = .ok (.iconst 0, 1) := by decide +kernel
theorem dX3_lineCount_3 : decode cX3_lineCount 3 = .ok (.istore_n 2, 1) := by decide +kernel
theorem dX3_lineCount_4 : decode cX3_lineCount 4 = .ok (.iload_n 2, 1) := by decide +kernel
theorem dX3_lineCount_5 : decode cX3_lineCount 5 = .ok (.aload_n 0, 1) := by decide +kernel
theorem dX3_lineCount_6 : decode cX3_lineCount 6 = .ok (.getfield 9, 3) := by decide +kernel
theorem dX3_lineCount_9 : decode cX3_lineCount 9 = .ok (.if_icmp .ge 17, 3) := by decide +kernel
theorem dX3_lineCount_12 : decode cX3_lineCount 12 = .ok (.iload_n 1, 1) := by decide +kernel
theorem dX3_lineCount_13 : decode cX3_lineCount 13 = .ok (.aload_n 0, 1) := by decide +kernel
theorem dX3_lineCount_14 : decode cX3_lineCount 14 = .ok (.iload_n 2, 1) := by decide +kernel
theorem dX3_lineCount_15 : decode cX3_lineCount 15 = .ok (.invokevirtual 75, 3) := by decide +kernel
theorem dX3_lineCount_18 : decode cX3_lineCount 18 = .ok (.iadd, 1) := by decide +kernel
theorem dX3_lineCount_19 : decode cX3_lineCount 19 = .ok (.istore_n 1, 1) := by decide +kernel
theorem dX3_lineCount_20 : decode cX3_lineCount 20 = .ok (.iinc 2 1, 3) := by decide +kernel
theorem dX3_lineCount_23 : decode cX3_lineCount 23 = .ok (.goto (-19), 3) := by decide +kernel
theorem dX3_lineCount_26 : decode cX3_lineCount 26 = .ok (.iload_n 1, 1) := by decide +kernel
theorem dX3_lineCount_27 : decode cX3_lineCount 27 = .ok (.iconst 2, 1) := by decide +kernel
theorem dX3_lineCount_28 : decode cX3_lineCount 28 = .ok (.idiv, 1) := by decide +kernel
theorem dX3_lineCount_29 : decode cX3_lineCount 29 = .ok (.ireturn, 1) := by decide +kernel
theorem dX3_genus_0 : decode cX3_genus 0 = .ok (.aload_n 0, 1) := by decide +kernel
theorem dX3_genus_1 : decode cX3_genus 1 = .ok (.invokevirtual 79, 3) := by decide +kernel
theorem dX3_genus_4 : decode cX3_genus 4 = .ok (.aload_n 0, 1) := by decide +kernel
theorem dX3_genus_5 : decode cX3_genus 5 = .ok (.getfield 9, 3) := by decide +kernel
theorem dX3_genus_8 : decode cX3_genus 8 = .ok (.isub, 1) := by decide +kernel
theorem dX3_genus_9 : decode cX3_genus 9 = .ok (.iconst 1, 1) := by decide +kernel
theorem dX3_genus_10 : decode cX3_genus 10 = .ok (.iadd, 1) := by decide +kernel
theorem dX3_genus_11 : decode cX3_genus 11 = .ok (.ireturn, 1) := by decide +kernel
theorem dX3_isJoined_0 : decode cX3_isJoined 0 = .ok (.iconst 1, 1) := by decide +kernel
theorem dX3_isJoined_1 : decode cX3_isJoined 1 = .ok (.istore_n 1, 1) := by decide +kernel
theorem dX3_isJoined_2 : decode cX3_isJoined 2 = .ok (.iconst 1, 1) := by decide +kernel
theorem dX3_isJoined_3 : decode cX3_isJoined 3 = .ok (.istore_n 2, 1) := by decide +kernel
theorem dX3_isJoined_4 : decode cX3_isJoined 4 = .ok (.iload_n 2, 1) := by decide +kernel
theorem dX3_isJoined_5 : decode cX3_isJoined 5 = .ok (.aload_n 0, 1) := by decide +kernel
theorem dX3_isJoined_6 : decode cX3_isJoined 6 = .ok (.getfield 9, 3) := by decide +kernel
theorem dX3_isJoined_9 : decode cX3_isJoined 9 = .ok (.if_icmp .ge 40, 3) := by decide +kernel
theorem dX3_isJoined_12 : decode cX3_isJoined 12 = .ok (.iconst 0, 1) := by decide +kernel
theorem dX3_isJoined_13 : decode cX3_isJoined 13 = .ok (.istore_n 3, 1) := by decide +kernel
theorem dX3_isJoined_14 : decode cX3_isJoined 14 = .ok (.iload_n 3, 1) := by decide +kernel
theorem dX3_isJoined_15 : decode cX3_isJoined 15 = .ok (.aload_n 0, 1) := by decide +kernel
theorem dX3_isJoined_16 : decode cX3_isJoined 16 = .ok (.getfield 9, 3) := by decide +kernel
theorem dX3_isJoined_19 : decode cX3_isJoined 19 = .ok (.if_icmp .ge 24, 3) := by decide +kernel
theorem dX3_isJoined_22 : decode cX3_isJoined 22 = .ok (.aload_n 0, 1) := by decide +kernel
theorem dX3_isJoined_23 : decode cX3_isJoined 23 = .ok (.iload_n 1, 1) := by decide +kernel
theorem dX3_isJoined_24 : decode cX3_isJoined 24 = .ok (.iload_n 3, 1) := by decide +kernel
theorem dX3_isJoined_25 : decode cX3_isJoined 25 = .ok (.invokevirtual 71, 3) := by decide +kernel
theorem dX3_isJoined_28 : decode cX3_isJoined 28 = .ok (.ifCond .le 9, 3) := by decide +kernel
theorem dX3_isJoined_31 : decode cX3_isJoined 31 = .ok (.iload_n 1, 1) := by decide +kernel
theorem dX3_isJoined_32 : decode cX3_isJoined 32 = .ok (.iconst 1, 1) := by decide +kernel
theorem dX3_isJoined_33 : decode cX3_isJoined 33 = .ok (.iload_n 3, 1) := by decide +kernel
theorem dX3_isJoined_34 : decode cX3_isJoined 34 = .ok (.ishl, 1) := by decide +kernel
theorem dX3_isJoined_35 : decode cX3_isJoined 35 = .ok (.ior, 1) := by decide +kernel
theorem dX3_isJoined_36 : decode cX3_isJoined 36 = .ok (.istore_n 1, 1) := by decide +kernel
theorem dX3_isJoined_37 : decode cX3_isJoined 37 = .ok (.iinc 3 1, 3) := by decide +kernel
theorem dX3_isJoined_40 : decode cX3_isJoined 40 = .ok (.goto (-26), 3) := by decide +kernel
theorem dX3_isJoined_43 : decode cX3_isJoined 43 = .ok (.iinc 2 1, 3) := by decide +kernel
theorem dX3_isJoined_46 : decode cX3_isJoined 46 = .ok (.goto (-42), 3) := by decide +kernel
theorem dX3_isJoined_49 : decode cX3_isJoined 49 = .ok (.iload_n 1, 1) := by decide +kernel
theorem dX3_isJoined_50 : decode cX3_isJoined 50 = .ok (.aload_n 0, 1) := by decide +kernel
theorem dX3_isJoined_51 : decode cX3_isJoined 51 = .ok (.invokevirtual 67, 3) := by decide +kernel
theorem dX3_isJoined_54 : decode cX3_isJoined 54 = .ok (.if_icmp .ne 7, 3) := by decide +kernel
theorem dX3_isJoined_57 : decode cX3_isJoined 57 = .ok (.iconst 1, 1) := by decide +kernel
theorem dX3_isJoined_58 : decode cX3_isJoined 58 = .ok (.goto 4, 3) := by decide +kernel
theorem dX3_isJoined_61 : decode cX3_isJoined 61 = .ok (.iconst 0, 1) := by decide +kernel
theorem dX3_isJoined_62 : decode cX3_isJoined 62 = .ok (.ireturn, 1) := by decide +kernel
theorem dX3_isHeap_0 : decode cX3_isHeap 0 = .ok (.iconst 1, 1) := by decide +kernel
theorem dX3_isHeap_1 : decode cX3_isHeap 1 = .ok (.istore_n 1, 1) := by decide +kernel
theorem dX3_isHeap_2 : decode cX3_isHeap 2 = .ok (.iload_n 1, 1) := by decide +kernel
theorem dX3_isHeap_3 : decode cX3_isHeap 3 = .ok (.aload_n 0, 1) := by decide +kernel
theorem dX3_isHeap_4 : decode cX3_isHeap 4 = .ok (.getfield 9, 3) := by decide +kernel
theorem dX3_isHeap_7 : decode cX3_isHeap 7 = .ok (.if_icmp .ge 20, 3) := by decide +kernel
theorem dX3_isHeap_10 : decode cX3_isHeap 10 = .ok (.aload_n 0, 1) := by decide +kernel
theorem dX3_isHeap_11 : decode cX3_isHeap 11 = .ok (.getfield 20, 3) := by decide +kernel
theorem dX3_isHeap_14 : decode cX3_isHeap 14 = .ok (.iload_n 1, 1) := by decide +kernel
theorem dX3_isHeap_15 : decode cX3_isHeap 15 = .ok (.iaload, 1) := by decide +kernel
theorem dX3_isHeap_16 : decode cX3_isHeap 16 = .ok (.ifCond .ge 5, 3) := by decide +kernel
theorem dX3_isHeap_19 : decode cX3_isHeap 19 = .ok (.iconst 0, 1) := by decide +kernel
theorem dX3_isHeap_20 : decode cX3_isHeap 20 = .ok (.ireturn, 1) := by decide +kernel
theorem dX3_isHeap_21 : decode cX3_isHeap 21 = .ok (.iinc 1 1, 3) := by decide +kernel
theorem dX3_isHeap_24 : decode cX3_isHeap 24 = .ok (.goto (-22), 3) := by decide +kernel
theorem dX3_isHeap_27 : decode cX3_isHeap 27 = .ok (.iconst 1, 1) := by decide +kernel
theorem dX3_isHeap_28 : decode cX3_isHeap 28 = .ok (.ireturn, 1) := by decide +kernel
theorem dX3_isFullAt_0 : decode cX3_isFullAt 0 = .ok (.aload_n 0, 1) := by decide +kernel
theorem dX3_isFullAt_1 : decode cX3_isFullAt 1 = .ok (.iload_n 1, 1) := by decide +kernel
theorem dX3_isFullAt_2 : decode cX3_isFullAt 2 = .ok (.invokevirtual 75, 3) := by decide +kernel
theorem dX3_isFullAt_5 : decode cX3_isFullAt 5 = .ok (.istore_n 2, 1) := by decide +kernel
theorem dX3_isFullAt_6 : decode cX3_isFullAt 6 = .ok (.iload_n 1, 1) := by decide +kernel
theorem dX3_isFullAt_7 : decode cX3_isFullAt 7 = .ok (.ifCond .eq 21, 3) := by decide +kernel
theorem dX3_isFullAt_10 : decode cX3_isFullAt 10 = .ok (.iload_n 2, 1) := by decide +kernel
theorem dX3_isFullAt_11 : decode cX3_isFullAt 11 = .ok (.ifCond .le 17, 3) := by decide +kernel
theorem dX3_isFullAt_14 : decode cX3_isFullAt 14 = .ok (.aload_n 0, 1) := by decide +kernel
theorem dX3_isFullAt_15 : decode cX3_isFullAt 15 = .ok (.getfield 20, 3) := by decide +kernel
theorem dX3_isFullAt_18 : decode cX3_isFullAt 18 = .ok (.iload_n 1, 1) := by decide +kernel
theorem dX3_isFullAt_19 : decode cX3_isFullAt 19 = .ok (.iaload, 1) := by decide +kernel
theorem dX3_isFullAt_20 : decode cX3_isFullAt 20 = .ok (.iload_n 2, 1) := by decide +kernel
theorem dX3_isFullAt_21 : decode cX3_isFullAt 21 = .ok (.if_icmp .lt 7, 3) := by decide +kernel
theorem dX3_isFullAt_24 : decode cX3_isFullAt 24 = .ok (.iconst 1, 1) := by decide +kernel
theorem dX3_isFullAt_25 : decode cX3_isFullAt 25 = .ok (.goto 4, 3) := by decide +kernel
theorem dX3_isFullAt_28 : decode cX3_isFullAt 28 = .ok (.iconst 0, 1) := by decide +kernel
theorem dX3_isFullAt_29 : decode cX3_isFullAt 29 = .ok (.ireturn, 1) := by decide +kernel
theorem dX3_isStableHeap_0 : decode cX3_isStableHeap 0 = .ok (.iconst 1, 1) := by decide +kernel
theorem dX3_isStableHeap_1 : decode cX3_isStableHeap 1 = .ok (.istore_n 1, 1) := by decide +kernel
theorem dX3_isStableHeap_2 : decode cX3_isStableHeap 2 = .ok (.iload_n 1, 1) := by decide +kernel
theorem dX3_isStableHeap_3 : decode cX3_isStableHeap 3 = .ok (.aload_n 0, 1) := by decide +kernel
theorem dX3_isStableHeap_4 : decode cX3_isStableHeap 4 = .ok (.getfield 9, 3) := by decide +kernel
theorem dX3_isStableHeap_7 : decode cX3_isStableHeap 7 = .ok (.if_icmp .ge 19, 3) := by decide +kernel
theorem dX3_isStableHeap_10 : decode cX3_isStableHeap 10 = .ok (.aload_n 0, 1) := by decide +kernel
theorem dX3_isStableHeap_11 : decode cX3_isStableHeap 11 = .ok (.iload_n 1, 1) := by decide +kernel
theorem dX3_isStableHeap_12 : decode cX3_isStableHeap 12 = .ok (.invokevirtual 82, 3) := by decide +kernel
theorem dX3_isStableHeap_15 : decode cX3_isStableHeap 15 = .ok (.ifCond .eq 5, 3) := by decide +kernel
theorem dX3_isStableHeap_18 : decode cX3_isStableHeap 18 = .ok (.iconst 0, 1) := by decide +kernel
theorem dX3_isStableHeap_19 : decode cX3_isStableHeap 19 = .ok (.ireturn, 1) := by decide +kernel
theorem dX3_isStableHeap_20 : decode cX3_isStableHeap 20 = .ok (.iinc 1 1, 3) := by decide +kernel
theorem dX3_isStableHeap_23 : decode cX3_isStableHeap 23 = .ok (.goto (-21), 3) := by decide +kernel
theorem dX3_isStableHeap_26 : decode cX3_isStableHeap 26 = .ok (.aload_n 0, 1) := by decide +kernel
theorem dX3_isStableHeap_27 : decode cX3_isStableHeap 27 = .ok (.invokevirtual 85, 3) := by decide +kernel
theorem dX3_isStableHeap_30 : decode cX3_isStableHeap 30 = .ok (.ireturn, 1) := by decide +kernel
theorem dX3_nextToBurn_0 : decode cX3_nextToBurn 0 = .ok (.iconst 0, 1) := by decide +kernel
theorem dX3_nextToBurn_1 : decode cX3_nextToBurn 1 = .ok (.istore_n 2, 1) := by decide +kernel
theorem dX3_nextToBurn_2 : decode cX3_nextToBurn 2 = .ok (.iconst 0, 1) := by decide +kernel
theorem dX3_nextToBurn_3 : decode cX3_nextToBurn 3 = .ok (.istore_n 3, 1) := by decide +kernel
theorem dX3_nextToBurn_4 : decode cX3_nextToBurn 4 = .ok (.iload_n 3, 1) := by decide +kernel
theorem dX3_nextToBurn_5 : decode cX3_nextToBurn 5 = .ok (.aload_n 0, 1) := by decide +kernel
theorem dX3_nextToBurn_6 : decode cX3_nextToBurn 6 = .ok (.getfield 9, 3) := by decide +kernel
theorem dX3_nextToBurn_9 : decode cX3_nextToBurn 9 = .ok (.if_icmp .ge 57, 3) := by decide +kernel
theorem dX3_nextToBurn_12 : decode cX3_nextToBurn 12 = .ok (.iload_n 1, 1) := by decide +kernel
theorem dX3_nextToBurn_13 : decode cX3_nextToBurn 13 = .ok (.iload_n 3, 1) := by decide +kernel
theorem dX3_nextToBurn_14 : decode cX3_nextToBurn 14 = .ok (.ishr, 1) := by decide +kernel
theorem dX3_nextToBurn_15 : decode cX3_nextToBurn 15 = .ok (.iconst 1, 1) := by decide +kernel
theorem dX3_nextToBurn_16 : decode cX3_nextToBurn 16 = .ok (.iand, 1) := by decide +kernel
theorem dX3_nextToBurn_17 : decode cX3_nextToBurn 17 = .ok (.iconst 1, 1) := by decide +kernel
theorem dX3_nextToBurn_18 : decode cX3_nextToBurn 18 = .ok (.if_icmp .ne 7, 3) := by decide +kernel
theorem dX3_nextToBurn_21 : decode cX3_nextToBurn 21 = .ok (.iconst 1, 1) := by decide +kernel
theorem dX3_nextToBurn_22 : decode cX3_nextToBurn 22 = .ok (.goto 4, 3) := by decide +kernel
theorem dX3_nextToBurn_25 : decode cX3_nextToBurn 25 = .ok (.iconst 0, 1) := by decide +kernel
theorem dX3_nextToBurn_26 : decode cX3_nextToBurn 26 = .ok (.istore 4, 2) := by decide +kernel
theorem dX3_nextToBurn_28 : decode cX3_nextToBurn 28 = .ok (.iload 4, 2) := by decide +kernel
theorem dX3_nextToBurn_30 : decode cX3_nextToBurn 30 = .ok (.ifCond .ne 30, 3) := by decide +kernel
theorem dX3_nextToBurn_33 : decode cX3_nextToBurn 33 = .ok (.aload_n 0, 1) := by decide +kernel
theorem dX3_nextToBurn_34 : decode cX3_nextToBurn 34 = .ok (.getfield 20, 3) := by decide +kernel
theorem dX3_nextToBurn_37 : decode cX3_nextToBurn 37 = .ok (.iload_n 3, 1) := by decide +kernel
theorem dX3_nextToBurn_38 : decode cX3_nextToBurn 38 = .ok (.iaload, 1) := by decide +kernel
theorem dX3_nextToBurn_39 : decode cX3_nextToBurn 39 = .ok (.aload_n 0, 1) := by decide +kernel
theorem dX3_nextToBurn_40 : decode cX3_nextToBurn 40 = .ok (.iload_n 1, 1) := by decide +kernel
theorem dX3_nextToBurn_41 : decode cX3_nextToBurn 41 = .ok (.iload_n 3, 1) := by decide +kernel
theorem dX3_nextToBurn_42 : decode cX3_nextToBurn 42 = .ok (.invokevirtual 71, 3) := by decide +kernel
theorem dX3_nextToBurn_45 : decode cX3_nextToBurn 45 = .ok (.iadd, 1) := by decide +kernel
theorem dX3_nextToBurn_46 : decode cX3_nextToBurn 46 = .ok (.aload_n 0, 1) := by decide +kernel
theorem dX3_nextToBurn_47 : decode cX3_nextToBurn 47 = .ok (.iload_n 3, 1) := by decide +kernel
theorem dX3_nextToBurn_48 : decode cX3_nextToBurn 48 = .ok (.invokevirtual 75, 3) := by decide +kernel
theorem dX3_nextToBurn_51 : decode cX3_nextToBurn 51 = .ok (.if_icmp .lt 9, 3) := by decide +kernel
theorem dX3_nextToBurn_54 : decode cX3_nextToBurn 54 = .ok (.iload_n 2, 1) := by decide +kernel
theorem dX3_nextToBurn_55 : decode cX3_nextToBurn 55 = .ok (.iconst 1, 1) := by decide +kernel
theorem dX3_nextToBurn_56 : decode cX3_nextToBurn 56 = .ok (.iload_n 3, 1) := by decide +kernel
theorem dX3_nextToBurn_57 : decode cX3_nextToBurn 57 = .ok (.ishl, 1) := by decide +kernel
theorem dX3_nextToBurn_58 : decode cX3_nextToBurn 58 = .ok (.ior, 1) := by decide +kernel
theorem dX3_nextToBurn_59 : decode cX3_nextToBurn 59 = .ok (.istore_n 2, 1) := by decide +kernel
theorem dX3_nextToBurn_60 : decode cX3_nextToBurn 60 = .ok (.iinc 3 1, 3) := by decide +kernel
theorem dX3_nextToBurn_63 : decode cX3_nextToBurn 63 = .ok (.goto (-59), 3) := by decide +kernel
theorem dX3_nextToBurn_66 : decode cX3_nextToBurn 66 = .ok (.iload_n 2, 1) := by decide +kernel
theorem dX3_nextToBurn_67 : decode cX3_nextToBurn 67 = .ok (.ireturn, 1) := by decide +kernel
theorem dX3_stableHeapCount_0 : decode cX3_stableHeapCount 0 = .ok (.iconst 1, 1) := by decide +kernel
theorem dX3_stableHeapCount_1 : decode cX3_stableHeapCount 1 = .ok (.istore_n 1, 1) := by decide +kernel
theorem dX3_stableHeapCount_2 : decode cX3_stableHeapCount 2 = .ok (.iconst 1, 1) := by decide +kernel
theorem dX3_stableHeapCount_3 : decode cX3_stableHeapCount 3 = .ok (.istore_n 2, 1) := by decide +kernel
theorem dX3_stableHeapCount_4 : decode cX3_stableHeapCount 4 = .ok (.iload_n 2, 1) := by decide +kernel
theorem dX3_stableHeapCount_5 : decode cX3_stableHeapCount 5 = .ok (.aload_n 0, 1) := by decide +kernel
theorem dX3_stableHeapCount_6 : decode cX3_stableHeapCount 6 = .ok (.getfield 9, 3) := by decide +kernel
theorem dX3_stableHeapCount_9 : decode cX3_stableHeapCount 9 = .ok (.if_icmp .ge 17, 3) := by decide +kernel
theorem dX3_stableHeapCount_12 : decode cX3_stableHeapCount 12 = .ok (.iload_n 1, 1) := by decide +kernel
theorem dX3_stableHeapCount_13 : decode cX3_stableHeapCount 13 = .ok (.aload_n 0, 1) := by decide +kernel
theorem dX3_stableHeapCount_14 : decode cX3_stableHeapCount 14 = .ok (.iload_n 2, 1) := by decide +kernel
theorem dX3_stableHeapCount_15 : decode cX3_stableHeapCount 15 = .ok (.invokevirtual 75, 3) := by decide +kernel
theorem dX3_stableHeapCount_18 : decode cX3_stableHeapCount 18 = .ok (.imul, 1) := by decide +kernel
theorem dX3_stableHeapCount_19 : decode cX3_stableHeapCount 19 = .ok (.istore_n 1, 1) := by decide +kernel
theorem dX3_stableHeapCount_20 : decode cX3_stableHeapCount 20 = .ok (.iinc 2 1, 3) := by decide +kernel
theorem dX3_stableHeapCount_23 : decode cX3_stableHeapCount 23 = .ok (.goto (-19), 3) := by decide +kernel
theorem dX3_stableHeapCount_26 : decode cX3_stableHeapCount 26 = .ok (.iload_n 1, 1) := by decide +kernel
theorem dX3_stableHeapCount_27 : decode cX3_stableHeapCount 27 = .ok (.ireturn, 1) := by decide +kernel
theorem dX3_firedInAll_0 : decode cX3_firedInAll 0 = .ok (.aload_n 0, 1) := by decide +kernel
theorem dX3_firedInAll_1 : decode cX3_firedInAll 1 = .ok (.getfield 24, 3) := by decide +kernel
theorem dX3_firedInAll_4 : decode cX3_firedInAll 4 = .ok (.aload_n 0, 1) := by decide +kernel
theorem dX3_firedInAll_5 : decode cX3_firedInAll 5 = .ok (.getfield 9, 3) := by decide +kernel
theorem dX3_firedInAll_8 : decode cX3_firedInAll 8 = .ok (.invokestatic 89, 3) := by decide +kernel
theorem dX3_firedInAll_11 : decode cX3_firedInAll 11 = .ok (.ireturn, 1) := by decide +kernel
theorem dX3_chipsUnlike_0 : decode cX3_chipsUnlike 0 = .ok (.iconst 0, 1) := by decide +kernel
theorem dX3_chipsUnlike_1 : decode cX3_chipsUnlike 1 = .ok (.istore_n 2, 1) := by decide +kernel
theorem dX3_chipsUnlike_2 : decode cX3_chipsUnlike 2 = .ok (.iconst 0, 1) := by decide +kernel
theorem dX3_chipsUnlike_3 : decode cX3_chipsUnlike 3 = .ok (.istore_n 3, 1) := by decide +kernel
theorem dX3_chipsUnlike_4 : decode cX3_chipsUnlike 4 = .ok (.iload_n 3, 1) := by decide +kernel
theorem dX3_chipsUnlike_5 : decode cX3_chipsUnlike 5 = .ok (.aload_n 0, 1) := by decide +kernel
theorem dX3_chipsUnlike_6 : decode cX3_chipsUnlike 6 = .ok (.getfield 9, 3) := by decide +kernel
theorem dX3_chipsUnlike_9 : decode cX3_chipsUnlike 9 = .ok (.if_icmp .ge 27, 3) := by decide +kernel
theorem dX3_chipsUnlike_12 : decode cX3_chipsUnlike 12 = .ok (.aload_n 0, 1) := by decide +kernel
theorem dX3_chipsUnlike_13 : decode cX3_chipsUnlike 13 = .ok (.getfield 20, 3) := by decide +kernel
theorem dX3_chipsUnlike_16 : decode cX3_chipsUnlike 16 = .ok (.iload_n 3, 1) := by decide +kernel
theorem dX3_chipsUnlike_17 : decode cX3_chipsUnlike 17 = .ok (.iaload, 1) := by decide +kernel
theorem dX3_chipsUnlike_18 : decode cX3_chipsUnlike 18 = .ok (.aload_n 1, 1) := by decide +kernel
theorem dX3_chipsUnlike_19 : decode cX3_chipsUnlike 19 = .ok (.getfield 20, 3) := by decide +kernel
theorem dX3_chipsUnlike_22 : decode cX3_chipsUnlike 22 = .ok (.iload_n 3, 1) := by decide +kernel
theorem dX3_chipsUnlike_23 : decode cX3_chipsUnlike 23 = .ok (.iaload, 1) := by decide +kernel
theorem dX3_chipsUnlike_24 : decode cX3_chipsUnlike 24 = .ok (.if_icmp .eq 6, 3) := by decide +kernel
theorem dX3_chipsUnlike_27 : decode cX3_chipsUnlike 27 = .ok (.iinc 2 1, 3) := by decide +kernel
theorem dX3_chipsUnlike_30 : decode cX3_chipsUnlike 30 = .ok (.iinc 3 1, 3) := by decide +kernel
theorem dX3_chipsUnlike_33 : decode cX3_chipsUnlike 33 = .ok (.goto (-29), 3) := by decide +kernel
theorem dX3_chipsUnlike_36 : decode cX3_chipsUnlike 36 = .ok (.iload_n 2, 1) := by decide +kernel
theorem dX3_chipsUnlike_37 : decode cX3_chipsUnlike 37 = .ok (.ireturn, 1) := by decide +kernel
theorem dX3_writeDual_0 : decode cX3_writeDual 0 = .ok (.iconst 0, 1) := by decide +kernel
theorem dX3_writeDual_1 : decode cX3_writeDual 1 = .ok (.istore_n 2, 1) := by decide +kernel
theorem dX3_writeDual_2 : decode cX3_writeDual 2 = .ok (.iload_n 2, 1) := by decide +kernel
theorem dX3_writeDual_3 : decode cX3_writeDual 3 = .ok (.aload_n 0, 1) := by decide +kernel
theorem dX3_writeDual_4 : decode cX3_writeDual 4 = .ok (.getfield 9, 3) := by decide +kernel
theorem dX3_writeDual_7 : decode cX3_writeDual 7 = .ok (.if_icmp .ge 26, 3) := by decide +kernel
theorem dX3_writeDual_10 : decode cX3_writeDual 10 = .ok (.aload_n 1, 1) := by decide +kernel
theorem dX3_writeDual_11 : decode cX3_writeDual 11 = .ok (.iload_n 2, 1) := by decide +kernel
theorem dX3_writeDual_12 : decode cX3_writeDual 12 = .ok (.aload_n 0, 1) := by decide +kernel
theorem dX3_writeDual_13 : decode cX3_writeDual 13 = .ok (.iload_n 2, 1) := by decide +kernel
theorem dX3_writeDual_14 : decode cX3_writeDual 14 = .ok (.invokevirtual 75, 3) := by decide +kernel
theorem dX3_writeDual_17 : decode cX3_writeDual 17 = .ok (.iconst 2, 1) := by decide +kernel
theorem dX3_writeDual_18 : decode cX3_writeDual 18 = .ok (.isub, 1) := by decide +kernel
theorem dX3_writeDual_19 : decode cX3_writeDual 19 = .ok (.aload_n 0, 1) := by decide +kernel
theorem dX3_writeDual_20 : decode cX3_writeDual 20 = .ok (.getfield 20, 3) := by decide +kernel
theorem dX3_writeDual_23 : decode cX3_writeDual 23 = .ok (.iload_n 2, 1) := by decide +kernel
theorem dX3_writeDual_24 : decode cX3_writeDual 24 = .ok (.iaload, 1) := by decide +kernel
theorem dX3_writeDual_25 : decode cX3_writeDual 25 = .ok (.isub, 1) := by decide +kernel
theorem dX3_writeDual_26 : decode cX3_writeDual 26 = .ok (.iastore, 1) := by decide +kernel
theorem dX3_writeDual_27 : decode cX3_writeDual 27 = .ok (.iinc 2 1, 3) := by decide +kernel
theorem dX3_writeDual_30 : decode cX3_writeDual 30 = .ok (.goto (-28), 3) := by decide +kernel
theorem dX3_writeDual_33 : decode cX3_writeDual 33 = .ok (.return_, 1) := by decide +kernel
theorem dX4_init_0 : decode cX4_init 0 = .ok (.aload_n 0, 1) := by decide +kernel
theorem dX4_init_1 : decode cX4_init 1 = .ok (.invokespecial 3, 3) := by decide +kernel
theorem dX4_init_4 : decode cX4_init 4 = .ok (.aload_n 0, 1) := by decide +kernel
theorem dX4_init_5 : decode cX4_init 5 = .ok (.bipush 14, 2) := by decide +kernel
theorem dX4_init_7 : decode cX4_init 7 = .ok (.iconst 5, 1) := by decide +kernel
theorem dX4_init_8 : decode cX4_init 8 = .ok (.multianewarray 9 2, 4) := by decide +kernel
theorem dX4_init_12 : decode cX4_init 12 = .ok (.putfield 11, 3) := by decide +kernel
theorem dX4_init_15 : decode cX4_init 15 = .ok (.aload_n 0, 1) := by decide +kernel
theorem dX4_init_16 : decode cX4_init 16 = .ok (.iconst 5, 1) := by decide +kernel
theorem dX4_init_17 : decode cX4_init 17 = .ok (.newarray .int, 2) := by decide +kernel
theorem dX4_init_19 : decode cX4_init 19 = .ok (.putfield 16, 3) := by decide +kernel
theorem dX4_init_22 : decode cX4_init 22 = .ok (.aload_n 0, 1) := by decide +kernel
theorem dX4_init_23 : decode cX4_init 23 = .ok (.iconst (-1), 1) := by decide +kernel
theorem dX4_init_24 : decode cX4_init 24 = .ok (.putfield 20, 3) := by decide +kernel
theorem dX4_init_27 : decode cX4_init 27 = .ok (.return_, 1) := by decide +kernel
theorem dX4_rankOf_0 : decode cX4_rankOf 0 = .ok (.aload_n 2, 1) := by decide +kernel
theorem dX4_rankOf_1 : decode cX4_rankOf 1 = .ok (.aload_n 1, 1) := by decide +kernel
theorem dX4_rankOf_2 : decode cX4_rankOf 2 = .ok (.getfield 24, 3) := by decide +kernel
theorem dX4_rankOf_5 : decode cX4_rankOf 5 = .ok (.invokestatic 29, 3) := by decide +kernel
theorem dX4_rankOf_8 : decode cX4_rankOf 8 = .ok (.istore 4, 2) := by decide +kernel
theorem dX4_rankOf_10 : decode cX4_rankOf 10 = .ok (.iload 4, 2) := by decide +kernel
theorem dX4_rankOf_12 : decode cX4_rankOf 12 = .ok (.ifCond .ge 5, 3) := by decide +kernel
theorem dX4_rankOf_15 : decode cX4_rankOf 15 = .ok (.iconst (-1), 1) := by decide +kernel
theorem dX4_rankOf_16 : decode cX4_rankOf 16 = .ok (.ireturn, 1) := by decide +kernel
theorem dX4_rankOf_17 : decode cX4_rankOf 17 = .ok (.iload 4, 2) := by decide +kernel
theorem dX4_rankOf_19 : decode cX4_rankOf 19 = .ok (.iconst 2, 1) := by decide +kernel
theorem dX4_rankOf_20 : decode cX4_rankOf 20 = .ok (.iload_n 3, 1) := by decide +kernel
theorem dX4_rankOf_21 : decode cX4_rankOf 21 = .ok (.imul, 1) := by decide +kernel
theorem dX4_rankOf_22 : decode cX4_rankOf 22 = .ok (.iconst 2, 1) := by decide +kernel
theorem dX4_rankOf_23 : decode cX4_rankOf 23 = .ok (.isub, 1) := by decide +kernel
theorem dX4_rankOf_24 : decode cX4_rankOf 24 = .ok (.if_icmp .le 8, 3) := by decide +kernel
theorem dX4_rankOf_27 : decode cX4_rankOf 27 = .ok (.iload 4, 2) := by decide +kernel
theorem dX4_rankOf_29 : decode cX4_rankOf 29 = .ok (.iload_n 3, 1) := by decide +kernel
theorem dX4_rankOf_30 : decode cX4_rankOf 30 = .ok (.isub, 1) := by decide +kernel
theorem dX4_rankOf_31 : decode cX4_rankOf 31 = .ok (.ireturn, 1) := by decide +kernel
theorem dX4_rankOf_32 : decode cX4_rankOf 32 = .ok (.aload_n 1, 1) := by decide +kernel
theorem dX4_rankOf_33 : decode cX4_rankOf 33 = .ok (.aload_n 2, 1) := by decide +kernel
theorem dX4_rankOf_34 : decode cX4_rankOf 34 = .ok (.aload_n 0, 1) := by decide +kernel
theorem dX4_rankOf_35 : decode cX4_rankOf 35 = .ok (.getfield 11, 3) := by decide +kernel
theorem dX4_rankOf_38 : decode cX4_rankOf 38 = .ok (.iconst 0, 1) := by decide +kernel
theorem dX4_rankOf_39 : decode cX4_rankOf 39 = .ok (.aaload, 1) := by decide +kernel
theorem dX4_rankOf_40 : decode cX4_rankOf 40 = .ok (.invokevirtual 33, 3) := by decide +kernel
theorem dX4_rankOf_43 : decode cX4_rankOf 43 = .ok (.aload_n 0, 1) := by decide +kernel
theorem dX4_rankOf_44 : decode cX4_rankOf 44 = .ok (.aload_n 1, 1) := by decide +kernel
theorem dX4_rankOf_45 : decode cX4_rankOf 45 = .ok (.aload_n 0, 1) := by decide +kernel
theorem dX4_rankOf_46 : decode cX4_rankOf 46 = .ok (.getfield 11, 3) := by decide +kernel
theorem dX4_rankOf_49 : decode cX4_rankOf 49 = .ok (.iconst 0, 1) := by decide +kernel
theorem dX4_rankOf_50 : decode cX4_rankOf 50 = .ok (.aaload, 1) := by decide +kernel
theorem dX4_rankOf_51 : decode cX4_rankOf 51 = .ok (.invokevirtual 37, 3) := by decide +kernel
theorem dX4_rankOf_54 : decode cX4_rankOf 54 = .ok (.iconst (-1), 1) := by decide +kernel
theorem dX4_rankOf_55 : decode cX4_rankOf 55 = .ok (.invokestatic 41, 3) := by decide +kernel
theorem dX4_rankOf_58 : decode cX4_rankOf 58 = .ok (.putfield 20, 3) := by decide +kernel
theorem dX4_rankOf_61 : decode cX4_rankOf 61 = .ok (.aload_n 0, 1) := by decide +kernel
theorem dX4_rankOf_62 : decode cX4_rankOf 62 = .ok (.aload_n 1, 1) := by decide +kernel
theorem dX4_rankOf_63 : decode cX4_rankOf 63 = .ok (.iconst 0, 1) := by decide +kernel
theorem dX4_rankOf_64 : decode cX4_rankOf 64 = .ok (.iconst 1, 1) := by decide +kernel
theorem dX4_rankOf_65 : decode cX4_rankOf 65 = .ok (.invokevirtual 47, 3) := by decide +kernel
theorem dX4_rankOf_68 : decode cX4_rankOf 68 = .ok (.aload_n 0, 1) := by decide +kernel
theorem dX4_rankOf_69 : decode cX4_rankOf 69 = .ok (.getfield 20, 3) := by decide +kernel
theorem dX4_rankOf_72 : decode cX4_rankOf 72 = .ok (.ireturn, 1) := by decide +kernel
theorem dX4_takeOff_0 : decode cX4_takeOff 0 = .ok (.iload_n 3, 1) := by decide +kernel
theorem dX4_takeOff_1 : decode cX4_takeOff 1 = .ok (.istore 4, 2) := by decide +kernel
theorem dX4_takeOff_3 : decode cX4_takeOff 3 = .ok (.iload 4, 2) := by decide +kernel
theorem dX4_takeOff_5 : decode cX4_takeOff 5 = .ok (.aload_n 1, 1) := by decide +kernel
theorem dX4_takeOff_6 : decode cX4_takeOff 6 = .ok (.getfield 24, 3) := by decide +kernel
theorem dX4_takeOff_9 : decode cX4_takeOff 9 = .ok (.if_icmp .ge 108, 3) := by decide +kernel
theorem dX4_takeOff_12 : decode cX4_takeOff 12 = .ok (.iload_n 2, 1) := by decide +kernel
theorem dX4_takeOff_13 : decode cX4_takeOff 13 = .ok (.aload_n 0, 1) := by decide +kernel
theorem dX4_takeOff_14 : decode cX4_takeOff 14 = .ok (.getfield 20, 3) := by decide +kernel
theorem dX4_takeOff_17 : decode cX4_takeOff 17 = .ok (.if_icmp .ge 14, 3) := by decide +kernel
theorem dX4_takeOff_20 : decode cX4_takeOff 20 = .ok (.iload_n 2, 1) := by decide +kernel
theorem dX4_takeOff_21 : decode cX4_takeOff 21 = .ok (.iconst 1, 1) := by decide +kernel
theorem dX4_takeOff_22 : decode cX4_takeOff 22 = .ok (.iadd, 1) := by decide +kernel
theorem dX4_takeOff_23 : decode cX4_takeOff 23 = .ok (.aload_n 0, 1) := by decide +kernel
theorem dX4_takeOff_24 : decode cX4_takeOff 24 = .ok (.getfield 11, 3) := by decide +kernel
theorem dX4_takeOff_27 : decode cX4_takeOff 27 = .ok (.arraylength, 1) := by decide +kernel
theorem dX4_takeOff_28 : decode cX4_takeOff 28 = .ok (.if_icmp .lt 4, 3) := by decide +kernel
theorem dX4_takeOff_31 : decode cX4_takeOff 31 = .ok (.return_, 1) := by decide +kernel
theorem dX4_takeOff_32 : decode cX4_takeOff 32 = .ok (.aload_n 0, 1) := by decide +kernel
theorem dX4_takeOff_33 : decode cX4_takeOff 33 = .ok (.getfield 11, 3) := by decide +kernel
theorem dX4_takeOff_36 : decode cX4_takeOff 36 = .ok (.iload_n 2, 1) := by decide +kernel
theorem dX4_takeOff_37 : decode cX4_takeOff 37 = .ok (.iconst 1, 1) := by decide +kernel
theorem dX4_takeOff_38 : decode cX4_takeOff 38 = .ok (.iadd, 1) := by decide +kernel
theorem dX4_takeOff_39 : decode cX4_takeOff 39 = .ok (.aaload, 1) := by decide +kernel
theorem dX4_takeOff_40 : decode cX4_takeOff 40 = .ok (.astore 5, 2) := by decide +kernel
theorem dX4_takeOff_42 : decode cX4_takeOff 42 = .ok (.aload_n 0, 1) := by decide +kernel
theorem dX4_takeOff_43 : decode cX4_takeOff 43 = .ok (.getfield 11, 3) := by decide +kernel
theorem dX4_takeOff_46 : decode cX4_takeOff 46 = .ok (.iload_n 2, 1) := by decide +kernel
theorem dX4_takeOff_47 : decode cX4_takeOff 47 = .ok (.aaload, 1) := by decide +kernel
theorem dX4_takeOff_48 : decode cX4_takeOff 48 = .ok (.aload 5, 2) := by decide +kernel
theorem dX4_takeOff_50 : decode cX4_takeOff 50 = .ok (.invokestatic 51, 3) := by decide +kernel
theorem dX4_takeOff_53 : decode cX4_takeOff 53 = .ok (.aload 5, 2) := by decide +kernel
theorem dX4_takeOff_55 : decode cX4_takeOff 55 = .ok (.iload 4, 2) := by decide +kernel
theorem dX4_takeOff_57 : decode cX4_takeOff 57 = .ok (.dup2, 1) := by decide +kernel
theorem dX4_takeOff_58 : decode cX4_takeOff 58 = .ok (.iaload, 1) := by decide +kernel
theorem dX4_takeOff_59 : decode cX4_takeOff 59 = .ok (.iconst 1, 1) := by decide +kernel
theorem dX4_takeOff_60 : decode cX4_takeOff 60 = .ok (.iadd, 1) := by decide +kernel
theorem dX4_takeOff_61 : decode cX4_takeOff 61 = .ok (.iastore, 1) := by decide +kernel
theorem dX4_takeOff_62 : decode cX4_takeOff 62 = .ok (.aload_n 1, 1) := by decide +kernel
theorem dX4_takeOff_63 : decode cX4_takeOff 63 = .ok (.aload 5, 2) := by decide +kernel
theorem dX4_takeOff_65 : decode cX4_takeOff 65 = .ok (.aload_n 0, 1) := by decide +kernel
theorem dX4_takeOff_66 : decode cX4_takeOff 66 = .ok (.getfield 16, 3) := by decide +kernel
theorem dX4_takeOff_69 : decode cX4_takeOff 69 = .ok (.invokevirtual 54, 3) := by decide +kernel
theorem dX4_takeOff_72 : decode cX4_takeOff 72 = .ok (.aload_n 1, 1) := by decide +kernel
theorem dX4_takeOff_73 : decode cX4_takeOff 73 = .ok (.aload 5, 2) := by decide +kernel
theorem dX4_takeOff_75 : decode cX4_takeOff 75 = .ok (.invokevirtual 37, 3) := by decide +kernel
theorem dX4_takeOff_78 : decode cX4_takeOff 78 = .ok (.istore 6, 2) := by decide +kernel
theorem dX4_takeOff_80 : decode cX4_takeOff 80 = .ok (.aload_n 0, 1) := by decide +kernel
theorem dX4_takeOff_81 : decode cX4_takeOff 81 = .ok (.aload_n 0, 1) := by decide +kernel
theorem dX4_takeOff_82 : decode cX4_takeOff 82 = .ok (.getfield 20, 3) := by decide +kernel
theorem dX4_takeOff_85 : decode cX4_takeOff 85 = .ok (.iload_n 2, 1) := by decide +kernel
theorem dX4_takeOff_86 : decode cX4_takeOff 86 = .ok (.iconst 1, 1) := by decide +kernel
theorem dX4_takeOff_87 : decode cX4_takeOff 87 = .ok (.iadd, 1) := by decide +kernel
theorem dX4_takeOff_88 : decode cX4_takeOff 88 = .ok (.iload 6, 2) := by decide +kernel
theorem dX4_takeOff_90 : decode cX4_takeOff 90 = .ok (.iconst (-1), 1) := by decide +kernel
theorem dX4_takeOff_91 : decode cX4_takeOff 91 = .ok (.invokestatic 41, 3) := by decide +kernel
theorem dX4_takeOff_94 : decode cX4_takeOff 94 = .ok (.iadd, 1) := by decide +kernel
theorem dX4_takeOff_95 : decode cX4_takeOff 95 = .ok (.invokestatic 57, 3) := by decide +kernel
theorem dX4_takeOff_98 : decode cX4_takeOff 98 = .ok (.putfield 20, 3) := by decide +kernel
theorem dX4_takeOff_101 : decode cX4_takeOff 101 = .ok (.aload_n 0, 1) := by decide +kernel
theorem dX4_takeOff_102 : decode cX4_takeOff 102 = .ok (.aload_n 1, 1) := by decide +kernel
theorem dX4_takeOff_103 : decode cX4_takeOff 103 = .ok (.iload_n 2, 1) := by decide +kernel
theorem dX4_takeOff_104 : decode cX4_takeOff 104 = .ok (.iconst 1, 1) := by decide +kernel
theorem dX4_takeOff_105 : decode cX4_takeOff 105 = .ok (.iadd, 1) := by decide +kernel
theorem dX4_takeOff_106 : decode cX4_takeOff 106 = .ok (.iload 4, 2) := by decide +kernel
theorem dX4_takeOff_108 : decode cX4_takeOff 108 = .ok (.invokevirtual 47, 3) := by decide +kernel
theorem dX4_takeOff_111 : decode cX4_takeOff 111 = .ok (.iinc 4 1, 3) := by decide +kernel
theorem dX4_takeOff_114 : decode cX4_takeOff 114 = .ok (.goto (-111), 3) := by decide +kernel
theorem dX4_takeOff_117 : decode cX4_takeOff 117 = .ok (.return_, 1) := by decide +kernel
theorem dX5_init_0 : decode cX5_init 0 = .ok (.aload_n 0, 1) := by decide +kernel
theorem dX5_init_1 : decode cX5_init 1 = .ok (.invokespecial 3, 3) := by decide +kernel
theorem dX5_init_4 : decode cX5_init 4 = .ok (.aload_n 0, 1) := by decide +kernel
theorem dX5_init_5 : decode cX5_init 5 = .ok (.bipush 120, 2) := by decide +kernel
theorem dX5_init_7 : decode cX5_init 7 = .ok (.newarray .int, 2) := by decide +kernel
theorem dX5_init_9 : decode cX5_init 9 = .ok (.putfield 9, 3) := by decide +kernel
theorem dX5_init_12 : decode cX5_init 12 = .ok (.aload_n 0, 1) := by decide +kernel
theorem dX5_init_13 : decode cX5_init 13 = .ok (.iconst 0, 1) := by decide +kernel
theorem dX5_init_14 : decode cX5_init 14 = .ok (.putfield 15, 3) := by decide +kernel
theorem dX5_init_17 : decode cX5_init 17 = .ok (.aload_n 0, 1) := by decide +kernel
theorem dX5_init_18 : decode cX5_init 18 = .ok (.bipush 120, 2) := by decide +kernel
theorem dX5_init_20 : decode cX5_init 20 = .ok (.newarray .int, 2) := by decide +kernel
theorem dX5_init_22 : decode cX5_init 22 = .ok (.putfield 19, 3) := by decide +kernel
theorem dX5_init_25 : decode cX5_init 25 = .ok (.aload_n 0, 1) := by decide +kernel
theorem dX5_init_26 : decode cX5_init 26 = .ok (.iconst 0, 1) := by decide +kernel
theorem dX5_init_27 : decode cX5_init 27 = .ok (.putfield 22, 3) := by decide +kernel
theorem dX5_init_30 : decode cX5_init 30 = .ok (.aload_n 0, 1) := by decide +kernel
theorem dX5_init_31 : decode cX5_init 31 = .ok (.iconst 0, 1) := by decide +kernel
theorem dX5_init_32 : decode cX5_init 32 = .ok (.putfield 25, 3) := by decide +kernel
theorem dX5_init_35 : decode cX5_init 35 = .ok (.aload_n 0, 1) := by decide +kernel
theorem dX5_init_36 : decode cX5_init 36 = .ok (.iconst 0, 1) := by decide +kernel
theorem dX5_init_37 : decode cX5_init 37 = .ok (.putfield 28, 3) := by decide +kernel
theorem dX5_init_40 : decode cX5_init 40 = .ok (.aload_n 0, 1) := by decide +kernel
theorem dX5_init_41 : decode cX5_init 41 = .ok (.iconst 0, 1) := by decide +kernel
theorem dX5_init_42 : decode cX5_init 42 = .ok (.putfield 31, 3) := by decide +kernel
theorem dX5_init_45 : decode cX5_init 45 = .ok (.aload_n 0, 1) := by decide +kernel
theorem dX5_init_46 : decode cX5_init 46 = .ok (.iconst (-1), 1) := by decide +kernel
theorem dX5_init_47 : decode cX5_init 47 = .ok (.putfield 34, 3) := by decide +kernel
theorem dX5_init_50 : decode cX5_init 50 = .ok (.aload_n 0, 1) := by decide +kernel
theorem dX5_init_51 : decode cX5_init 51 = .ok (.iconst 3, 1) := by decide +kernel
theorem dX5_init_52 : decode cX5_init 52 = .ok (.putfield 37, 3) := by decide +kernel
theorem dX5_init_55 : decode cX5_init 55 = .ok (.return_, 1) := by decide +kernel
theorem dX5_append_0 : decode cX5_append 0 = .ok (.aload_n 0, 1) := by decide +kernel
theorem dX5_append_1 : decode cX5_append 1 = .ok (.getfield 15, 3) := by decide +kernel
theorem dX5_append_4 : decode cX5_append 4 = .ok (.bipush 120, 2) := by decide +kernel
theorem dX5_append_6 : decode cX5_append 6 = .ok (.if_icmp .ge 23, 3) := by decide +kernel
theorem dX5_append_9 : decode cX5_append 9 = .ok (.aload_n 0, 1) := by decide +kernel
theorem dX5_append_10 : decode cX5_append 10 = .ok (.getfield 9, 3) := by decide +kernel
theorem dX5_append_13 : decode cX5_append 13 = .ok (.aload_n 0, 1) := by decide +kernel
theorem dX5_append_14 : decode cX5_append 14 = .ok (.getfield 15, 3) := by decide +kernel
theorem dX5_append_17 : decode cX5_append 17 = .ok (.iload_n 1, 1) := by decide +kernel
theorem dX5_append_18 : decode cX5_append 18 = .ok (.iastore, 1) := by decide +kernel
theorem dX5_append_19 : decode cX5_append 19 = .ok (.aload_n 0, 1) := by decide +kernel
theorem dX5_append_20 : decode cX5_append 20 = .ok (.dup, 1) := by decide +kernel
theorem dX5_append_21 : decode cX5_append 21 = .ok (.getfield 15, 3) := by decide +kernel
theorem dX5_append_24 : decode cX5_append 24 = .ok (.iconst 1, 1) := by decide +kernel
theorem dX5_append_25 : decode cX5_append 25 = .ok (.iadd, 1) := by decide +kernel
theorem dX5_append_26 : decode cX5_append 26 = .ok (.putfield 15, 3) := by decide +kernel
theorem dX5_append_29 : decode cX5_append 29 = .ok (.return_, 1) := by decide +kernel
theorem dX5_parse_0 : decode cX5_parse 0 = .ok (.aload_n 0, 1) := by decide +kernel
theorem dX5_parse_1 : decode cX5_parse 1 = .ok (.iload_n 1, 1) := by decide +kernel
theorem dX5_parse_2 : decode cX5_parse 2 = .ok (.putfield 37, 3) := by decide +kernel
theorem dX5_parse_5 : decode cX5_parse 5 = .ok (.aload_n 0, 1) := by decide +kernel
theorem dX5_parse_6 : decode cX5_parse 6 = .ok (.iconst 0, 1) := by decide +kernel
theorem dX5_parse_7 : decode cX5_parse 7 = .ok (.putfield 22, 3) := by decide +kernel
theorem dX5_parse_10 : decode cX5_parse 10 = .ok (.aload_n 0, 1) := by decide +kernel
theorem dX5_parse_11 : decode cX5_parse 11 = .ok (.iconst 0, 1) := by decide +kernel
theorem dX5_parse_12 : decode cX5_parse 12 = .ok (.putfield 28, 3) := by decide +kernel
theorem dX5_parse_15 : decode cX5_parse 15 = .ok (.aload_n 0, 1) := by decide +kernel
theorem dX5_parse_16 : decode cX5_parse 16 = .ok (.iconst 0, 1) := by decide +kernel
theorem dX5_parse_17 : decode cX5_parse 17 = .ok (.putfield 31, 3) := by decide +kernel
theorem dX5_parse_20 : decode cX5_parse 20 = .ok (.aload_n 0, 1) := by decide +kernel
theorem dX5_parse_21 : decode cX5_parse 21 = .ok (.iconst (-1), 1) := by decide +kernel
theorem dX5_parse_22 : decode cX5_parse 22 = .ok (.putfield 34, 3) := by decide +kernel
theorem dX5_parse_25 : decode cX5_parse 25 = .ok (.iconst 0, 1) := by decide +kernel
theorem dX5_parse_26 : decode cX5_parse 26 = .ok (.istore_n 2, 1) := by decide +kernel
theorem dX5_parse_27 : decode cX5_parse 27 = .ok (.iload_n 2, 1) := by decide +kernel
theorem dX5_parse_28 : decode cX5_parse 28 = .ok (.bipush 120, 2) := by decide +kernel
theorem dX5_parse_30 : decode cX5_parse 30 = .ok (.if_icmp .gt 48, 3) := by decide +kernel
theorem dX5_parse_33 : decode cX5_parse 33 = .ok (.aload_n 0, 1) := by decide +kernel
theorem dX5_parse_34 : decode cX5_parse 34 = .ok (.invokevirtual 40, 3) := by decide +kernel
theorem dX5_parse_37 : decode cX5_parse 37 = .ok (.aload_n 0, 1) := by decide +kernel
theorem dX5_parse_38 : decode cX5_parse 38 = .ok (.getfield 34, 3) := by decide +kernel
theorem dX5_parse_41 : decode cX5_parse 41 = .ok (.iconst (-1), 1) := by decide +kernel
theorem dX5_parse_42 : decode cX5_parse 42 = .ok (.if_icmp .ne 21, 3) := by decide +kernel
theorem dX5_parse_45 : decode cX5_parse 45 = .ok (.aload_n 0, 1) := by decide +kernel
theorem dX5_parse_46 : decode cX5_parse 46 = .ok (.getfield 28, 3) := by decide +kernel
theorem dX5_parse_49 : decode cX5_parse 49 = .ok (.ifCond .le 19, 3) := by decide +kernel
theorem dX5_parse_52 : decode cX5_parse 52 = .ok (.aload_n 0, 1) := by decide +kernel
theorem dX5_parse_53 : decode cX5_parse 53 = .ok (.getfield 31, 3) := by decide +kernel
theorem dX5_parse_56 : decode cX5_parse 56 = .ok (.aload_n 0, 1) := by decide +kernel
theorem dX5_parse_57 : decode cX5_parse 57 = .ok (.getfield 15, 3) := by decide +kernel
theorem dX5_parse_60 : decode cX5_parse 60 = .ok (.if_icmp .lt 8, 3) := by decide +kernel
theorem dX5_parse_63 : decode cX5_parse 63 = .ok (.aload_n 0, 1) := by decide +kernel
theorem dX5_parse_64 : decode cX5_parse 64 = .ok (.getfield 34, 3) := by decide +kernel
theorem dX5_parse_67 : decode cX5_parse 67 = .ok (.ireturn, 1) := by decide +kernel
theorem dX5_parse_68 : decode cX5_parse 68 = .ok (.aload_n 0, 1) := by decide +kernel
theorem dX5_parse_69 : decode cX5_parse 69 = .ok (.invokevirtual 43, 3) := by decide +kernel
theorem dX5_parse_72 : decode cX5_parse 72 = .ok (.iinc 2 1, 3) := by decide +kernel
theorem dX5_parse_75 : decode cX5_parse 75 = .ok (.goto (-48), 3) := by decide +kernel
theorem dX5_parse_78 : decode cX5_parse 78 = .ok (.aload_n 0, 1) := by decide +kernel
theorem dX5_parse_79 : decode cX5_parse 79 = .ok (.getfield 34, 3) := by decide +kernel
theorem dX5_parse_82 : decode cX5_parse 82 = .ok (.ireturn, 1) := by decide +kernel
theorem dX5_rewind_0 : decode cX5_rewind 0 = .ok (.aload_n 0, 1) := by decide +kernel
theorem dX5_rewind_1 : decode cX5_rewind 1 = .ok (.iconst 0, 1) := by decide +kernel
theorem dX5_rewind_2 : decode cX5_rewind 2 = .ok (.putfield 25, 3) := by decide +kernel
theorem dX5_rewind_5 : decode cX5_rewind 5 = .ok (.return_, 1) := by decide +kernel
theorem dX5_nextItem_0 : decode cX5_nextItem 0 = .ok (.aload_n 0, 1) := by decide +kernel
theorem dX5_nextItem_1 : decode cX5_nextItem 1 = .ok (.getfield 25, 3) := by decide +kernel
theorem dX5_nextItem_4 : decode cX5_nextItem 4 = .ok (.aload_n 0, 1) := by decide +kernel
theorem dX5_nextItem_5 : decode cX5_nextItem 5 = .ok (.getfield 22, 3) := by decide +kernel
theorem dX5_nextItem_8 : decode cX5_nextItem 8 = .ok (.if_icmp .lt 5, 3) := by decide +kernel
theorem dX5_nextItem_11 : decode cX5_nextItem 11 = .ok (.iconst (-1), 1) := by decide +kernel
theorem dX5_nextItem_12 : decode cX5_nextItem 12 = .ok (.ireturn, 1) := by decide +kernel
theorem dX5_nextItem_13 : decode cX5_nextItem 13 = .ok (.aload_n 0, 1) := by decide +kernel
theorem dX5_nextItem_14 : decode cX5_nextItem 14 = .ok (.dup, 1) := by decide +kernel
theorem dX5_nextItem_15 : decode cX5_nextItem 15 = .ok (.getfield 25, 3) := by decide +kernel
theorem dX5_nextItem_18 : decode cX5_nextItem 18 = .ok (.iconst 1, 1) := by decide +kernel
theorem dX5_nextItem_19 : decode cX5_nextItem 19 = .ok (.iadd, 1) := by decide +kernel
theorem dX5_nextItem_20 : decode cX5_nextItem 20 = .ok (.putfield 25, 3) := by decide +kernel
theorem dX5_nextItem_23 : decode cX5_nextItem 23 = .ok (.aload_n 0, 1) := by decide +kernel
theorem dX5_nextItem_24 : decode cX5_nextItem 24 = .ok (.getfield 19, 3) := by decide +kernel
theorem dX5_nextItem_27 : decode cX5_nextItem 27 = .ok (.aload_n 0, 1) := by decide +kernel
theorem dX5_nextItem_28 : decode cX5_nextItem 28 = .ok (.getfield 25, 3) := by decide +kernel
theorem dX5_nextItem_31 : decode cX5_nextItem 31 = .ok (.iconst 1, 1) := by decide +kernel
theorem dX5_nextItem_32 : decode cX5_nextItem 32 = .ok (.isub, 1) := by decide +kernel
theorem dX5_nextItem_33 : decode cX5_nextItem 33 = .ok (.iaload, 1) := by decide +kernel
theorem dX5_nextItem_34 : decode cX5_nextItem 34 = .ok (.ireturn, 1) := by decide +kernel
theorem dX5_parseOrder_0 : decode cX5_parseOrder 0 = .ok (.aload_n 0, 1) := by decide +kernel
theorem dX5_parseOrder_1 : decode cX5_parseOrder 1 = .ok (.invokevirtual 46, 3) := by decide +kernel
theorem dX5_parseOrder_4 : decode cX5_parseOrder 4 = .ok (.istore_n 1, 1) := by decide +kernel
theorem dX5_parseOrder_5 : decode cX5_parseOrder 5 = .ok (.aload_n 0, 1) := by decide +kernel
theorem dX5_parseOrder_6 : decode cX5_parseOrder 6 = .ok (.iload_n 1, 1) := by decide +kernel
theorem dX5_parseOrder_7 : decode cX5_parseOrder 7 = .ok (.invokevirtual 50, 3) := by decide +kernel
theorem dX5_parseOrder_10 : decode cX5_parseOrder 10 = .ok (.istore_n 2, 1) := by decide +kernel
theorem dX5_parseOrder_11 : decode cX5_parseOrder 11 = .ok (.iload_n 2, 1) := by decide +kernel
theorem dX5_parseOrder_12 : decode cX5_parseOrder 12 = .ok (.ifCond .ge 12, 3) := by decide +kernel
theorem dX5_parseOrder_15 : decode cX5_parseOrder 15 = .ok (.aload_n 0, 1) := by decide +kernel
theorem dX5_parseOrder_16 : decode cX5_parseOrder 16 = .ok (.aload_n 0, 1) := by decide +kernel
theorem dX5_parseOrder_17 : decode cX5_parseOrder 17 = .ok (.getfield 31, 3) := by decide +kernel
theorem dX5_parseOrder_20 : decode cX5_parseOrder 20 = .ok (.putfield 34, 3) := by decide +kernel
theorem dX5_parseOrder_23 : decode cX5_parseOrder 23 = .ok (.return_, 1) := by decide +kernel
theorem dX5_parseOrder_24 : decode cX5_parseOrder 24 = .ok (.aload_n 0, 1) := by decide +kernel
theorem dX5_parseOrder_25 : decode cX5_parseOrder 25 = .ok (.dup, 1) := by decide +kernel
theorem dX5_parseOrder_26 : decode cX5_parseOrder 26 = .ok (.getfield 31, 3) := by decide +kernel
theorem dX5_parseOrder_29 : decode cX5_parseOrder 29 = .ok (.iconst 1, 1) := by decide +kernel
theorem dX5_parseOrder_30 : decode cX5_parseOrder 30 = .ok (.iadd, 1) := by decide +kernel
theorem dX5_parseOrder_31 : decode cX5_parseOrder 31 = .ok (.putfield 31, 3) := by decide +kernel
theorem dX5_parseOrder_34 : decode cX5_parseOrder 34 = .ok (.aload_n 0, 1) := by decide +kernel
theorem dX5_parseOrder_35 : decode cX5_parseOrder 35 = .ok (.iload_n 1, 1) := by decide +kernel
theorem dX5_parseOrder_36 : decode cX5_parseOrder 36 = .ok (.invokevirtual 54, 3) := by decide +kernel
theorem dX5_parseOrder_39 : decode cX5_parseOrder 39 = .ok (.iconst 0, 1) := by decide +kernel
theorem dX5_parseOrder_40 : decode cX5_parseOrder 40 = .ok (.istore_n 3, 1) := by decide +kernel
theorem dX5_parseOrder_41 : decode cX5_parseOrder 41 = .ok (.iload_n 3, 1) := by decide +kernel
theorem dX5_parseOrder_42 : decode cX5_parseOrder 42 = .ok (.iload_n 2, 1) := by decide +kernel
theorem dX5_parseOrder_43 : decode cX5_parseOrder 43 = .ok (.if_icmp .ge 83, 3) := by decide +kernel
theorem dX5_parseOrder_46 : decode cX5_parseOrder 46 = .ok (.aload_n 0, 1) := by decide +kernel
theorem dX5_parseOrder_47 : decode cX5_parseOrder 47 = .ok (.getfield 34, 3) := by decide +kernel
theorem dX5_parseOrder_50 : decode cX5_parseOrder 50 = .ok (.iconst (-1), 1) := by decide +kernel
theorem dX5_parseOrder_51 : decode cX5_parseOrder 51 = .ok (.if_icmp .ne 75, 3) := by decide +kernel
theorem dX5_parseOrder_54 : decode cX5_parseOrder 54 = .ok (.aload_n 0, 1) := by decide +kernel
theorem dX5_parseOrder_55 : decode cX5_parseOrder 55 = .ok (.invokevirtual 40, 3) := by decide +kernel
theorem dX5_parseOrder_58 : decode cX5_parseOrder 58 = .ok (.aload_n 0, 1) := by decide +kernel
theorem dX5_parseOrder_59 : decode cX5_parseOrder 59 = .ok (.getfield 31, 3) := by decide +kernel
theorem dX5_parseOrder_62 : decode cX5_parseOrder 62 = .ok (.istore 4, 2) := by decide +kernel
theorem dX5_parseOrder_64 : decode cX5_parseOrder 64 = .ok (.aload_n 0, 1) := by decide +kernel
theorem dX5_parseOrder_65 : decode cX5_parseOrder 65 = .ok (.iload_n 1, 1) := by decide +kernel
theorem dX5_parseOrder_66 : decode cX5_parseOrder 66 = .ok (.bipush 99, 2) := by decide +kernel
theorem dX5_parseOrder_68 : decode cX5_parseOrder 68 = .ok (.if_icmp .eq 14, 3) := by decide +kernel
theorem dX5_parseOrder_71 : decode cX5_parseOrder 71 = .ok (.iload_n 1, 1) := by decide +kernel
theorem dX5_parseOrder_72 : decode cX5_parseOrder 72 = .ok (.bipush 97, 2) := by decide +kernel
theorem dX5_parseOrder_74 : decode cX5_parseOrder 74 = .ok (.if_icmp .ne 12, 3) := by decide +kernel
theorem dX5_parseOrder_77 : decode cX5_parseOrder 77 = .ok (.iload_n 3, 1) := by decide +kernel
theorem dX5_parseOrder_78 : decode cX5_parseOrder 78 = .ok (.iconst 1, 1) := by decide +kernel
theorem dX5_parseOrder_79 : decode cX5_parseOrder 79 = .ok (.if_icmp .ne 7, 3) := by decide +kernel
theorem dX5_parseOrder_82 : decode cX5_parseOrder 82 = .ok (.iconst 1, 1) := by decide +kernel
theorem dX5_parseOrder_83 : decode cX5_parseOrder 83 = .ok (.goto 4, 3) := by decide +kernel
theorem dX5_parseOrder_86 : decode cX5_parseOrder 86 = .ok (.iconst 0, 1) := by decide +kernel
theorem dX5_parseOrder_87 : decode cX5_parseOrder 87 = .ok (.invokevirtual 58, 3) := by decide +kernel
theorem dX5_parseOrder_90 : decode cX5_parseOrder 90 = .ok (.istore 5, 2) := by decide +kernel
theorem dX5_parseOrder_92 : decode cX5_parseOrder 92 = .ok (.aload_n 0, 1) := by decide +kernel
theorem dX5_parseOrder_93 : decode cX5_parseOrder 93 = .ok (.iload 5, 2) := by decide +kernel
theorem dX5_parseOrder_95 : decode cX5_parseOrder 95 = .ok (.invokevirtual 54, 3) := by decide +kernel
theorem dX5_parseOrder_98 : decode cX5_parseOrder 98 = .ok (.iload_n 1, 1) := by decide +kernel
theorem dX5_parseOrder_99 : decode cX5_parseOrder 99 = .ok (.bipush 110, 2) := by decide +kernel
theorem dX5_parseOrder_101 : decode cX5_parseOrder 101 = .ok (.if_icmp .ne 19, 3) := by decide +kernel
theorem dX5_parseOrder_104 : decode cX5_parseOrder 104 = .ok (.aload_n 0, 1) := by decide +kernel
theorem dX5_parseOrder_105 : decode cX5_parseOrder 105 = .ok (.getfield 34, 3) := by decide +kernel
theorem dX5_parseOrder_108 : decode cX5_parseOrder 108 = .ok (.iconst (-1), 1) := by decide +kernel
theorem dX5_parseOrder_109 : decode cX5_parseOrder 109 = .ok (.if_icmp .ne 11, 3) := by decide +kernel
theorem dX5_parseOrder_112 : decode cX5_parseOrder 112 = .ok (.aload_n 0, 1) := by decide +kernel
theorem dX5_parseOrder_113 : decode cX5_parseOrder 113 = .ok (.iload 5, 2) := by decide +kernel
theorem dX5_parseOrder_115 : decode cX5_parseOrder 115 = .ok (.iload 4, 2) := by decide +kernel
theorem dX5_parseOrder_117 : decode cX5_parseOrder 117 = .ok (.invokevirtual 62, 3) := by decide +kernel
theorem dX5_parseOrder_120 : decode cX5_parseOrder 120 = .ok (.iinc 3 1, 3) := by decide +kernel
theorem dX5_parseOrder_123 : decode cX5_parseOrder 123 = .ok (.goto (-82), 3) := by decide +kernel
theorem dX5_parseOrder_126 : decode cX5_parseOrder 126 = .ok (.aload_n 0, 1) := by decide +kernel
theorem dX5_parseOrder_127 : decode cX5_parseOrder 127 = .ok (.getfield 34, 3) := by decide +kernel
theorem dX5_parseOrder_130 : decode cX5_parseOrder 130 = .ok (.iconst (-1), 1) := by decide +kernel
theorem dX5_parseOrder_131 : decode cX5_parseOrder 131 = .ok (.if_icmp .ne 7, 3) := by decide +kernel
theorem dX5_parseOrder_134 : decode cX5_parseOrder 134 = .ok (.aload_n 0, 1) := by decide +kernel
theorem dX5_parseOrder_135 : decode cX5_parseOrder 135 = .ok (.invokevirtual 66, 3) := by decide +kernel
theorem dX5_parseOrder_138 : decode cX5_parseOrder 138 = .ok (.return_, 1) := by decide +kernel
theorem dX5_endOrder_0 : decode cX5_endOrder 0 = .ok (.aload_n 0, 1) := by decide +kernel
theorem dX5_endOrder_1 : decode cX5_endOrder 1 = .ok (.invokevirtual 40, 3) := by decide +kernel
theorem dX5_endOrder_4 : decode cX5_endOrder 4 = .ok (.aload_n 0, 1) := by decide +kernel
theorem dX5_endOrder_5 : decode cX5_endOrder 5 = .ok (.invokevirtual 46, 3) := by decide +kernel
theorem dX5_endOrder_8 : decode cX5_endOrder 8 = .ok (.bipush 59, 2) := by decide +kernel
theorem dX5_endOrder_10 : decode cX5_endOrder 10 = .ok (.if_icmp .eq 12, 3) := by decide +kernel
theorem dX5_endOrder_13 : decode cX5_endOrder 13 = .ok (.aload_n 0, 1) := by decide +kernel
theorem dX5_endOrder_14 : decode cX5_endOrder 14 = .ok (.aload_n 0, 1) := by decide +kernel
theorem dX5_endOrder_15 : decode cX5_endOrder 15 = .ok (.getfield 31, 3) := by decide +kernel
theorem dX5_endOrder_18 : decode cX5_endOrder 18 = .ok (.putfield 34, 3) := by decide +kernel
theorem dX5_endOrder_21 : decode cX5_endOrder 21 = .ok (.return_, 1) := by decide +kernel
theorem dX5_endOrder_22 : decode cX5_endOrder 22 = .ok (.aload_n 0, 1) := by decide +kernel
theorem dX5_endOrder_23 : decode cX5_endOrder 23 = .ok (.dup, 1) := by decide +kernel
theorem dX5_endOrder_24 : decode cX5_endOrder 24 = .ok (.getfield 31, 3) := by decide +kernel
theorem dX5_endOrder_27 : decode cX5_endOrder 27 = .ok (.iconst 1, 1) := by decide +kernel
theorem dX5_endOrder_28 : decode cX5_endOrder 28 = .ok (.iadd, 1) := by decide +kernel
theorem dX5_endOrder_29 : decode cX5_endOrder 29 = .ok (.putfield 31, 3) := by decide +kernel
theorem dX5_endOrder_32 : decode cX5_endOrder 32 = .ok (.aload_n 0, 1) := by decide +kernel
theorem dX5_endOrder_33 : decode cX5_endOrder 33 = .ok (.dup, 1) := by decide +kernel
theorem dX5_endOrder_34 : decode cX5_endOrder 34 = .ok (.getfield 28, 3) := by decide +kernel
theorem dX5_endOrder_37 : decode cX5_endOrder 37 = .ok (.iconst 1, 1) := by decide +kernel
theorem dX5_endOrder_38 : decode cX5_endOrder 38 = .ok (.iadd, 1) := by decide +kernel
theorem dX5_endOrder_39 : decode cX5_endOrder 39 = .ok (.putfield 28, 3) := by decide +kernel
theorem dX5_endOrder_42 : decode cX5_endOrder 42 = .ok (.return_, 1) := by decide +kernel
theorem dX5_takePoints_0 : decode cX5_takePoints 0 = .ok (.iload_n 1, 1) := by decide +kernel
theorem dX5_takePoints_1 : decode cX5_takePoints 1 = .ok (.iconst 2, 1) := by decide +kernel
theorem dX5_takePoints_2 : decode cX5_takePoints 2 = .ok (.if_icmp .lt 8, 3) := by decide +kernel
theorem dX5_takePoints_5 : decode cX5_takePoints 5 = .ok (.iload_n 1, 1) := by decide +kernel
theorem dX5_takePoints_6 : decode cX5_takePoints 6 = .ok (.iconst 5, 1) := by decide +kernel
theorem dX5_takePoints_7 : decode cX5_takePoints 7 = .ok (.if_icmp .le 11, 3) := by decide +kernel
theorem dX5_takePoints_10 : decode cX5_takePoints 10 = .ok (.aload_n 0, 1) := by decide +kernel
theorem dX5_takePoints_11 : decode cX5_takePoints 11 = .ok (.iload_n 2, 1) := by decide +kernel
theorem dX5_takePoints_12 : decode cX5_takePoints 12 = .ok (.putfield 34, 3) := by decide +kernel
theorem dX5_takePoints_15 : decode cX5_takePoints 15 = .ok (.goto 8, 3) := by decide +kernel
theorem dX5_takePoints_18 : decode cX5_takePoints 18 = .ok (.aload_n 0, 1) := by decide +kernel
theorem dX5_takePoints_19 : decode cX5_takePoints 19 = .ok (.iload_n 1, 1) := by decide +kernel
theorem dX5_takePoints_20 : decode cX5_takePoints 20 = .ok (.putfield 37, 3) := by decide +kernel
theorem dX5_takePoints_23 : decode cX5_takePoints 23 = .ok (.return_, 1) := by decide +kernel
theorem dX5_numbersOf_0 : decode cX5_numbersOf 0 = .ok (.iload_n 1, 1) := by decide +kernel
theorem dX5_numbersOf_1 : decode cX5_numbersOf 1 = .ok (.lookupswitch 80 #[(97, 71), (98, 69), (99, 75), (102, 69), (108, 73), (110, 69), (122, 67)], 67) := by decide +kernel
theorem dX5_numbersOf_68 : decode cX5_numbersOf 68 = .ok (.iconst 0, 1) := by decide +kernel
theorem dX5_numbersOf_69 : decode cX5_numbersOf 69 = .ok (.ireturn, 1) := by decide +kernel
theorem dX5_numbersOf_70 : decode cX5_numbersOf 70 = .ok (.iconst 1, 1) := by decide +kernel
theorem dX5_numbersOf_71 : decode cX5_numbersOf 71 = .ok (.ireturn, 1) := by decide +kernel
theorem dX5_numbersOf_72 : decode cX5_numbersOf 72 = .ok (.iconst 2, 1) := by decide +kernel
theorem dX5_numbersOf_73 : decode cX5_numbersOf 73 = .ok (.ireturn, 1) := by decide +kernel
theorem dX5_numbersOf_74 : decode cX5_numbersOf 74 = .ok (.iconst 3, 1) := by decide +kernel
theorem dX5_numbersOf_75 : decode cX5_numbersOf 75 = .ok (.ireturn, 1) := by decide +kernel
theorem dX5_numbersOf_76 : decode cX5_numbersOf 76 = .ok (.aload_n 0, 1) := by decide +kernel
theorem dX5_numbersOf_77 : decode cX5_numbersOf 77 = .ok (.getfield 37, 3) := by decide +kernel
theorem dX5_numbersOf_80 : decode cX5_numbersOf 80 = .ok (.ireturn, 1) := by decide +kernel
theorem dX5_numbersOf_81 : decode cX5_numbersOf 81 = .ok (.iconst (-1), 1) := by decide +kernel
theorem dX5_numbersOf_82 : decode cX5_numbersOf 82 = .ok (.ireturn, 1) := by decide +kernel
theorem dX5_parseNumber_0 : decode cX5_parseNumber 0 = .ok (.iload_n 1, 1) := by decide +kernel
theorem dX5_parseNumber_1 : decode cX5_parseNumber 1 = .ok (.ifCond .eq 16, 3) := by decide +kernel
theorem dX5_parseNumber_4 : decode cX5_parseNumber 4 = .ok (.aload_n 0, 1) := by decide +kernel
theorem dX5_parseNumber_5 : decode cX5_parseNumber 5 = .ok (.invokevirtual 46, 3) := by decide +kernel
theorem dX5_parseNumber_8 : decode cX5_parseNumber 8 = .ok (.bipush 45, 2) := by decide +kernel
theorem dX5_parseNumber_10 : decode cX5_parseNumber 10 = .ok (.if_icmp .ne 7, 3) := by decide +kernel
theorem dX5_parseNumber_13 : decode cX5_parseNumber 13 = .ok (.iconst 1, 1) := by decide +kernel
theorem dX5_parseNumber_14 : decode cX5_parseNumber 14 = .ok (.goto 4, 3) := by decide +kernel
theorem dX5_parseNumber_17 : decode cX5_parseNumber 17 = .ok (.iconst 0, 1) := by decide +kernel
theorem dX5_parseNumber_18 : decode cX5_parseNumber 18 = .ok (.istore_n 2, 1) := by decide +kernel
theorem dX5_parseNumber_19 : decode cX5_parseNumber 19 = .ok (.iload_n 2, 1) := by decide +kernel
theorem dX5_parseNumber_20 : decode cX5_parseNumber 20 = .ok (.ifCond .eq 13, 3) := by decide +kernel
theorem dX5_parseNumber_23 : decode cX5_parseNumber 23 = .ok (.aload_n 0, 1) := by decide +kernel
theorem dX5_parseNumber_24 : decode cX5_parseNumber 24 = .ok (.dup, 1) := by decide +kernel
theorem dX5_parseNumber_25 : decode cX5_parseNumber 25 = .ok (.getfield 31, 3) := by decide +kernel
theorem dX5_parseNumber_28 : decode cX5_parseNumber 28 = .ok (.iconst 1, 1) := by decide +kernel
theorem dX5_parseNumber_29 : decode cX5_parseNumber 29 = .ok (.iadd, 1) := by decide +kernel
theorem dX5_parseNumber_30 : decode cX5_parseNumber 30 = .ok (.putfield 31, 3) := by decide +kernel
theorem dX5_parseNumber_33 : decode cX5_parseNumber 33 = .ok (.iconst 0, 1) := by decide +kernel
theorem dX5_parseNumber_34 : decode cX5_parseNumber 34 = .ok (.istore_n 3, 1) := by decide +kernel
theorem dX5_parseNumber_35 : decode cX5_parseNumber 35 = .ok (.iconst 0, 1) := by decide +kernel
theorem dX5_parseNumber_36 : decode cX5_parseNumber 36 = .ok (.istore 4, 2) := by decide +kernel
theorem dX5_parseNumber_38 : decode cX5_parseNumber 38 = .ok (.iconst 0, 1) := by decide +kernel
theorem dX5_parseNumber_39 : decode cX5_parseNumber 39 = .ok (.istore 5, 2) := by decide +kernel
theorem dX5_parseNumber_41 : decode cX5_parseNumber 41 = .ok (.iload 5, 2) := by decide +kernel
theorem dX5_parseNumber_43 : decode cX5_parseNumber 43 = .ok (.iconst 3, 1) := by decide +kernel
theorem dX5_parseNumber_44 : decode cX5_parseNumber 44 = .ok (.if_icmp .ge 42, 3) := by decide +kernel
theorem dX5_parseNumber_47 : decode cX5_parseNumber 47 = .ok (.aload_n 0, 1) := by decide +kernel
theorem dX5_parseNumber_48 : decode cX5_parseNumber 48 = .ok (.invokevirtual 69, 3) := by decide +kernel
theorem dX5_parseNumber_51 : decode cX5_parseNumber 51 = .ok (.ifCond .eq 35, 3) := by decide +kernel
theorem dX5_parseNumber_54 : decode cX5_parseNumber 54 = .ok (.bipush 10, 2) := by decide +kernel
theorem dX5_parseNumber_56 : decode cX5_parseNumber 56 = .ok (.iload_n 3, 1) := by decide +kernel
theorem dX5_parseNumber_57 : decode cX5_parseNumber 57 = .ok (.imul, 1) := by decide +kernel
theorem dX5_parseNumber_58 : decode cX5_parseNumber 58 = .ok (.aload_n 0, 1) := by decide +kernel
theorem dX5_parseNumber_59 : decode cX5_parseNumber 59 = .ok (.invokevirtual 46, 3) := by decide +kernel
theorem dX5_parseNumber_62 : decode cX5_parseNumber 62 = .ok (.iadd, 1) := by decide +kernel
theorem dX5_parseNumber_63 : decode cX5_parseNumber 63 = .ok (.bipush 48, 2) := by decide +kernel
theorem dX5_parseNumber_65 : decode cX5_parseNumber 65 = .ok (.isub, 1) := by decide +kernel
theorem dX5_parseNumber_66 : decode cX5_parseNumber 66 = .ok (.istore_n 3, 1) := by decide +kernel
theorem dX5_parseNumber_67 : decode cX5_parseNumber 67 = .ok (.iinc 4 1, 3) := by decide +kernel
theorem dX5_parseNumber_70 : decode cX5_parseNumber 70 = .ok (.aload_n 0, 1) := by decide +kernel
theorem dX5_parseNumber_71 : decode cX5_parseNumber 71 = .ok (.dup, 1) := by decide +kernel
theorem dX5_parseNumber_72 : decode cX5_parseNumber 72 = .ok (.getfield 31, 3) := by decide +kernel
theorem dX5_parseNumber_75 : decode cX5_parseNumber 75 = .ok (.iconst 1, 1) := by decide +kernel
theorem dX5_parseNumber_76 : decode cX5_parseNumber 76 = .ok (.iadd, 1) := by decide +kernel
theorem dX5_parseNumber_77 : decode cX5_parseNumber 77 = .ok (.putfield 31, 3) := by decide +kernel
theorem dX5_parseNumber_80 : decode cX5_parseNumber 80 = .ok (.iinc 5 1, 3) := by decide +kernel
theorem dX5_parseNumber_83 : decode cX5_parseNumber 83 = .ok (.goto (-42), 3) := by decide +kernel
theorem dX5_parseNumber_86 : decode cX5_parseNumber 86 = .ok (.iload 4, 2) := by decide +kernel
theorem dX5_parseNumber_88 : decode cX5_parseNumber 88 = .ok (.ifCond .eq 10, 3) := by decide +kernel
theorem dX5_parseNumber_91 : decode cX5_parseNumber 91 = .ok (.aload_n 0, 1) := by decide +kernel
theorem dX5_parseNumber_92 : decode cX5_parseNumber 92 = .ok (.invokevirtual 69, 3) := by decide +kernel
theorem dX5_parseNumber_95 : decode cX5_parseNumber 95 = .ok (.ifCond .eq 11, 3) := by decide +kernel
theorem dX5_parseNumber_98 : decode cX5_parseNumber 98 = .ok (.aload_n 0, 1) := by decide +kernel
theorem dX5_parseNumber_99 : decode cX5_parseNumber 99 = .ok (.aload_n 0, 1) := by decide +kernel
theorem dX5_parseNumber_100 : decode cX5_parseNumber 100 = .ok (.getfield 31, 3) := by decide +kernel
theorem dX5_parseNumber_103 : decode cX5_parseNumber 103 = .ok (.putfield 34, 3) := by decide +kernel
theorem dX5_parseNumber_106 : decode cX5_parseNumber 106 = .ok (.iload_n 2, 1) := by decide +kernel
theorem dX5_parseNumber_107 : decode cX5_parseNumber 107 = .ok (.ifCond .eq 8, 3) := by decide +kernel
theorem dX5_parseNumber_110 : decode cX5_parseNumber 110 = .ok (.iload_n 3, 1) := by decide +kernel
theorem dX5_parseNumber_111 : decode cX5_parseNumber 111 = .ok (.ineg, 1) := by decide +kernel
theorem dX5_parseNumber_112 : decode cX5_parseNumber 112 = .ok (.goto 4, 3) := by decide +kernel
theorem dX5_parseNumber_115 : decode cX5_parseNumber 115 = .ok (.iload_n 3, 1) := by decide +kernel
theorem dX5_parseNumber_116 : decode cX5_parseNumber 116 = .ok (.ireturn, 1) := by decide +kernel
theorem dX5_addItem_0 : decode cX5_addItem 0 = .ok (.aload_n 0, 1) := by decide +kernel
theorem dX5_addItem_1 : decode cX5_addItem 1 = .ok (.getfield 22, 3) := by decide +kernel
theorem dX5_addItem_4 : decode cX5_addItem 4 = .ok (.aload_n 0, 1) := by decide +kernel
theorem dX5_addItem_5 : decode cX5_addItem 5 = .ok (.getfield 19, 3) := by decide +kernel
theorem dX5_addItem_8 : decode cX5_addItem 8 = .ok (.arraylength, 1) := by decide +kernel
theorem dX5_addItem_9 : decode cX5_addItem 9 = .ok (.if_icmp .ge 23, 3) := by decide +kernel
theorem dX5_addItem_12 : decode cX5_addItem 12 = .ok (.aload_n 0, 1) := by decide +kernel
theorem dX5_addItem_13 : decode cX5_addItem 13 = .ok (.getfield 19, 3) := by decide +kernel
theorem dX5_addItem_16 : decode cX5_addItem 16 = .ok (.aload_n 0, 1) := by decide +kernel
theorem dX5_addItem_17 : decode cX5_addItem 17 = .ok (.getfield 22, 3) := by decide +kernel
theorem dX5_addItem_20 : decode cX5_addItem 20 = .ok (.iload_n 1, 1) := by decide +kernel
theorem dX5_addItem_21 : decode cX5_addItem 21 = .ok (.iastore, 1) := by decide +kernel
theorem dX5_addItem_22 : decode cX5_addItem 22 = .ok (.aload_n 0, 1) := by decide +kernel
theorem dX5_addItem_23 : decode cX5_addItem 23 = .ok (.dup, 1) := by decide +kernel
theorem dX5_addItem_24 : decode cX5_addItem 24 = .ok (.getfield 22, 3) := by decide +kernel
theorem dX5_addItem_27 : decode cX5_addItem 27 = .ok (.iconst 1, 1) := by decide +kernel
theorem dX5_addItem_28 : decode cX5_addItem 28 = .ok (.iadd, 1) := by decide +kernel
theorem dX5_addItem_29 : decode cX5_addItem 29 = .ok (.putfield 22, 3) := by decide +kernel
theorem dX5_addItem_32 : decode cX5_addItem 32 = .ok (.return_, 1) := by decide +kernel
theorem dX5_byteHere_0 : decode cX5_byteHere 0 = .ok (.aload_n 0, 1) := by decide +kernel
theorem dX5_byteHere_1 : decode cX5_byteHere 1 = .ok (.getfield 31, 3) := by decide +kernel
theorem dX5_byteHere_4 : decode cX5_byteHere 4 = .ok (.aload_n 0, 1) := by decide +kernel
theorem dX5_byteHere_5 : decode cX5_byteHere 5 = .ok (.getfield 15, 3) := by decide +kernel
theorem dX5_byteHere_8 : decode cX5_byteHere 8 = .ok (.if_icmp .ge 15, 3) := by decide +kernel
theorem dX5_byteHere_11 : decode cX5_byteHere 11 = .ok (.aload_n 0, 1) := by decide +kernel
theorem dX5_byteHere_12 : decode cX5_byteHere 12 = .ok (.getfield 9, 3) := by decide +kernel
theorem dX5_byteHere_15 : decode cX5_byteHere 15 = .ok (.aload_n 0, 1) := by decide +kernel
theorem dX5_byteHere_16 : decode cX5_byteHere 16 = .ok (.getfield 31, 3) := by decide +kernel
theorem dX5_byteHere_19 : decode cX5_byteHere 19 = .ok (.iaload, 1) := by decide +kernel
theorem dX5_byteHere_20 : decode cX5_byteHere 20 = .ok (.goto 4, 3) := by decide +kernel
theorem dX5_byteHere_23 : decode cX5_byteHere 23 = .ok (.iconst (-1), 1) := by decide +kernel
theorem dX5_byteHere_24 : decode cX5_byteHere 24 = .ok (.ireturn, 1) := by decide +kernel
theorem dX5_isFigureHere_0 : decode cX5_isFigureHere 0 = .ok (.aload_n 0, 1) := by decide +kernel
theorem dX5_isFigureHere_1 : decode cX5_isFigureHere 1 = .ok (.invokevirtual 46, 3) := by decide +kernel
theorem dX5_isFigureHere_4 : decode cX5_isFigureHere 4 = .ok (.bipush 48, 2) := by decide +kernel
theorem dX5_isFigureHere_6 : decode cX5_isFigureHere 6 = .ok (.if_icmp .lt 16, 3) := by decide +kernel
theorem dX5_isFigureHere_9 : decode cX5_isFigureHere 9 = .ok (.aload_n 0, 1) := by decide +kernel
theorem dX5_isFigureHere_10 : decode cX5_isFigureHere 10 = .ok (.invokevirtual 46, 3) := by decide +kernel
theorem dX5_isFigureHere_13 : decode cX5_isFigureHere 13 = .ok (.bipush 57, 2) := by decide +kernel
theorem dX5_isFigureHere_15 : decode cX5_isFigureHere 15 = .ok (.if_icmp .gt 7, 3) := by decide +kernel
theorem dX5_isFigureHere_18 : decode cX5_isFigureHere 18 = .ok (.iconst 1, 1) := by decide +kernel
theorem dX5_isFigureHere_19 : decode cX5_isFigureHere 19 = .ok (.goto 4, 3) := by decide +kernel
theorem dX5_isFigureHere_22 : decode cX5_isFigureHere 22 = .ok (.iconst 0, 1) := by decide +kernel
theorem dX5_isFigureHere_23 : decode cX5_isFigureHere 23 = .ok (.ireturn, 1) := by decide +kernel
theorem dX5_skipBlanks_0 : decode cX5_skipBlanks 0 = .ok (.iconst 0, 1) := by decide +kernel
theorem dX5_skipBlanks_1 : decode cX5_skipBlanks 1 = .ok (.istore_n 1, 1) := by decide +kernel
theorem dX5_skipBlanks_2 : decode cX5_skipBlanks 2 = .ok (.iload_n 1, 1) := by decide +kernel
theorem dX5_skipBlanks_3 : decode cX5_skipBlanks 3 = .ok (.bipush 120, 2) := by decide +kernel
theorem dX5_skipBlanks_5 : decode cX5_skipBlanks 5 = .ok (.if_icmp .ge 28, 3) := by decide +kernel
theorem dX5_skipBlanks_8 : decode cX5_skipBlanks 8 = .ok (.aload_n 0, 1) := by decide +kernel
theorem dX5_skipBlanks_9 : decode cX5_skipBlanks 9 = .ok (.invokevirtual 46, 3) := by decide +kernel
theorem dX5_skipBlanks_12 : decode cX5_skipBlanks 12 = .ok (.bipush 32, 2) := by decide +kernel
theorem dX5_skipBlanks_14 : decode cX5_skipBlanks 14 = .ok (.if_icmp .ne 19, 3) := by decide +kernel
theorem dX5_skipBlanks_17 : decode cX5_skipBlanks 17 = .ok (.aload_n 0, 1) := by decide +kernel
theorem dX5_skipBlanks_18 : decode cX5_skipBlanks 18 = .ok (.dup, 1) := by decide +kernel
theorem dX5_skipBlanks_19 : decode cX5_skipBlanks 19 = .ok (.getfield 31, 3) := by decide +kernel
theorem dX5_skipBlanks_22 : decode cX5_skipBlanks 22 = .ok (.iconst 1, 1) := by decide +kernel
theorem dX5_skipBlanks_23 : decode cX5_skipBlanks 23 = .ok (.iadd, 1) := by decide +kernel
theorem dX5_skipBlanks_24 : decode cX5_skipBlanks 24 = .ok (.putfield 31, 3) := by decide +kernel
theorem dX5_skipBlanks_27 : decode cX5_skipBlanks 27 = .ok (.iinc 1 1, 3) := by decide +kernel
theorem dX5_skipBlanks_30 : decode cX5_skipBlanks 30 = .ok (.goto (-28), 3) := by decide +kernel
theorem dX5_skipBlanks_33 : decode cX5_skipBlanks 33 = .ok (.return_, 1) := by decide +kernel
theorem dJ6_bitCount_0f7a4_0 : decode cJ6_bitCount_0f7a4 0 = .ok (.iload_n 0, 1) := by decide +kernel
theorem dJ6_bitCount_0f7a4_1 : decode cJ6_bitCount_0f7a4 1 = .ok (.iload_n 0, 1) := by decide +kernel
theorem dJ6_bitCount_0f7a4_2 : decode cJ6_bitCount_0f7a4 2 = .ok (.iconst 1, 1) := by decide +kernel
theorem dJ6_bitCount_0f7a4_3 : decode cJ6_bitCount_0f7a4 3 = .ok (.iushr, 1) := by decide +kernel
theorem dJ6_bitCount_0f7a4_4 : decode cJ6_bitCount_0f7a4 4 = .ok (.ldc_w 265, 3) := by decide +kernel
theorem dJ6_bitCount_0f7a4_7 : decode cJ6_bitCount_0f7a4 7 = .ok (.iand, 1) := by decide +kernel
theorem dJ6_bitCount_0f7a4_8 : decode cJ6_bitCount_0f7a4 8 = .ok (.isub, 1) := by decide +kernel
theorem dJ6_bitCount_0f7a4_9 : decode cJ6_bitCount_0f7a4 9 = .ok (.istore_n 0, 1) := by decide +kernel
theorem dJ6_bitCount_0f7a4_10 : decode cJ6_bitCount_0f7a4 10 = .ok (.iload_n 0, 1) := by decide +kernel
theorem dJ6_bitCount_0f7a4_11 : decode cJ6_bitCount_0f7a4 11 = .ok (.ldc_w 266, 3) := by decide +kernel
theorem dJ6_bitCount_0f7a4_14 : decode cJ6_bitCount_0f7a4 14 = .ok (.iand, 1) := by decide +kernel
theorem dJ6_bitCount_0f7a4_15 : decode cJ6_bitCount_0f7a4 15 = .ok (.iload_n 0, 1) := by decide +kernel
theorem dJ6_bitCount_0f7a4_16 : decode cJ6_bitCount_0f7a4 16 = .ok (.iconst 2, 1) := by decide +kernel
theorem dJ6_bitCount_0f7a4_17 : decode cJ6_bitCount_0f7a4 17 = .ok (.iushr, 1) := by decide +kernel
theorem dJ6_bitCount_0f7a4_18 : decode cJ6_bitCount_0f7a4 18 = .ok (.ldc_w 266, 3) := by decide +kernel
theorem dJ6_bitCount_0f7a4_21 : decode cJ6_bitCount_0f7a4 21 = .ok (.iand, 1) := by decide +kernel
theorem dJ6_bitCount_0f7a4_22 : decode cJ6_bitCount_0f7a4 22 = .ok (.iadd, 1) := by decide +kernel
theorem dJ6_bitCount_0f7a4_23 : decode cJ6_bitCount_0f7a4 23 = .ok (.istore_n 0, 1) := by decide +kernel
theorem dJ6_bitCount_0f7a4_24 : decode cJ6_bitCount_0f7a4 24 = .ok (.iload_n 0, 1) := by decide +kernel
theorem dJ6_bitCount_0f7a4_25 : decode cJ6_bitCount_0f7a4 25 = .ok (.iload_n 0, 1) := by decide +kernel
theorem dJ6_bitCount_0f7a4_26 : decode cJ6_bitCount_0f7a4 26 = .ok (.iconst 4, 1) := by decide +kernel
theorem dJ6_bitCount_0f7a4_27 : decode cJ6_bitCount_0f7a4 27 = .ok (.iushr, 1) := by decide +kernel
theorem dJ6_bitCount_0f7a4_28 : decode cJ6_bitCount_0f7a4 28 = .ok (.iadd, 1) := by decide +kernel
theorem dJ6_bitCount_0f7a4_29 : decode cJ6_bitCount_0f7a4 29 = .ok (.ldc_w 267, 3) := by decide +kernel
theorem dJ6_bitCount_0f7a4_32 : decode cJ6_bitCount_0f7a4 32 = .ok (.iand, 1) := by decide +kernel
theorem dJ6_bitCount_0f7a4_33 : decode cJ6_bitCount_0f7a4 33 = .ok (.istore_n 0, 1) := by decide +kernel
theorem dJ6_bitCount_0f7a4_34 : decode cJ6_bitCount_0f7a4 34 = .ok (.iload_n 0, 1) := by decide +kernel
theorem dJ6_bitCount_0f7a4_35 : decode cJ6_bitCount_0f7a4 35 = .ok (.iload_n 0, 1) := by decide +kernel
theorem dJ6_bitCount_0f7a4_36 : decode cJ6_bitCount_0f7a4 36 = .ok (.bipush 8, 2) := by decide +kernel
theorem dJ6_bitCount_0f7a4_38 : decode cJ6_bitCount_0f7a4 38 = .ok (.iushr, 1) := by decide +kernel
theorem dJ6_bitCount_0f7a4_39 : decode cJ6_bitCount_0f7a4 39 = .ok (.iadd, 1) := by decide +kernel
theorem dJ6_bitCount_0f7a4_40 : decode cJ6_bitCount_0f7a4 40 = .ok (.istore_n 0, 1) := by decide +kernel
theorem dJ6_bitCount_0f7a4_41 : decode cJ6_bitCount_0f7a4 41 = .ok (.iload_n 0, 1) := by decide +kernel
theorem dJ6_bitCount_0f7a4_42 : decode cJ6_bitCount_0f7a4 42 = .ok (.iload_n 0, 1) := by decide +kernel
theorem dJ6_bitCount_0f7a4_43 : decode cJ6_bitCount_0f7a4 43 = .ok (.bipush 16, 2) := by decide +kernel
theorem dJ6_bitCount_0f7a4_45 : decode cJ6_bitCount_0f7a4 45 = .ok (.iushr, 1) := by decide +kernel
theorem dJ6_bitCount_0f7a4_46 : decode cJ6_bitCount_0f7a4 46 = .ok (.iadd, 1) := by decide +kernel
theorem dJ6_bitCount_0f7a4_47 : decode cJ6_bitCount_0f7a4 47 = .ok (.istore_n 0, 1) := by decide +kernel
theorem dJ6_bitCount_0f7a4_48 : decode cJ6_bitCount_0f7a4 48 = .ok (.iload_n 0, 1) := by decide +kernel
theorem dJ6_bitCount_0f7a4_49 : decode cJ6_bitCount_0f7a4 49 = .ok (.bipush 63, 2) := by decide +kernel
theorem dJ6_bitCount_0f7a4_51 : decode cJ6_bitCount_0f7a4 51 = .ok (.iand, 1) := by decide +kernel
theorem dJ6_bitCount_0f7a4_52 : decode cJ6_bitCount_0f7a4 52 = .ok (.ireturn, 1) := by decide +kernel
theorem dJ9_floorDiv_f86c9_0 : decode cJ9_floorDiv_f86c9 0 = .ok (.lload_n 0, 1) := by decide +kernel
theorem dJ9_floorDiv_f86c9_1 : decode cJ9_floorDiv_f86c9 1 = .ok (.lload_n 2, 1) := by decide +kernel
theorem dJ9_floorDiv_f86c9_2 : decode cJ9_floorDiv_f86c9 2 = .ok (.ldiv, 1) := by decide +kernel
theorem dJ9_floorDiv_f86c9_3 : decode cJ9_floorDiv_f86c9 3 = .ok (.lstore 4, 2) := by decide +kernel
theorem dJ9_floorDiv_f86c9_5 : decode cJ9_floorDiv_f86c9 5 = .ok (.lload_n 0, 1) := by decide +kernel
theorem dJ9_floorDiv_f86c9_6 : decode cJ9_floorDiv_f86c9 6 = .ok (.lload_n 2, 1) := by decide +kernel
theorem dJ9_floorDiv_f86c9_7 : decode cJ9_floorDiv_f86c9 7 = .ok (.lxor, 1) := by decide +kernel
theorem dJ9_floorDiv_f86c9_8 : decode cJ9_floorDiv_f86c9 8 = .ok (.lconst 0, 1) := by decide +kernel
theorem dJ9_floorDiv_f86c9_9 : decode cJ9_floorDiv_f86c9 9 = .ok (.lcmp, 1) := by decide +kernel
theorem dJ9_floorDiv_f86c9_10 : decode cJ9_floorDiv_f86c9 10 = .ok (.ifCond .ge 17, 3) := by decide +kernel
theorem dJ9_floorDiv_f86c9_13 : decode cJ9_floorDiv_f86c9 13 = .ok (.lload 4, 2) := by decide +kernel
theorem dJ9_floorDiv_f86c9_15 : decode cJ9_floorDiv_f86c9 15 = .ok (.lload_n 2, 1) := by decide +kernel
theorem dJ9_floorDiv_f86c9_16 : decode cJ9_floorDiv_f86c9 16 = .ok (.lmul, 1) := by decide +kernel
theorem dJ9_floorDiv_f86c9_17 : decode cJ9_floorDiv_f86c9 17 = .ok (.lload_n 0, 1) := by decide +kernel
theorem dJ9_floorDiv_f86c9_18 : decode cJ9_floorDiv_f86c9 18 = .ok (.lcmp, 1) := by decide +kernel
theorem dJ9_floorDiv_f86c9_19 : decode cJ9_floorDiv_f86c9 19 = .ok (.ifCond .eq 8, 3) := by decide +kernel
theorem dJ9_floorDiv_f86c9_22 : decode cJ9_floorDiv_f86c9 22 = .ok (.lload 4, 2) := by decide +kernel
theorem dJ9_floorDiv_f86c9_24 : decode cJ9_floorDiv_f86c9 24 = .ok (.lconst 1, 1) := by decide +kernel
theorem dJ9_floorDiv_f86c9_25 : decode cJ9_floorDiv_f86c9 25 = .ok (.lsub, 1) := by decide +kernel
theorem dJ9_floorDiv_f86c9_26 : decode cJ9_floorDiv_f86c9 26 = .ok (.lreturn, 1) := by decide +kernel
theorem dJ9_floorDiv_f86c9_27 : decode cJ9_floorDiv_f86c9 27 = .ok (.lload 4, 2) := by decide +kernel
theorem dJ9_floorDiv_f86c9_29 : decode cJ9_floorDiv_f86c9 29 = .ok (.lreturn, 1) := by decide +kernel
theorem dJ9_abs_0f7a4_0 : decode cJ9_abs_0f7a4 0 = .ok (.iload_n 0, 1) := by decide +kernel
theorem dJ9_abs_0f7a4_1 : decode cJ9_abs_0f7a4 1 = .ok (.ifCond .ge 8, 3) := by decide +kernel
theorem dJ9_abs_0f7a4_4 : decode cJ9_abs_0f7a4 4 = .ok (.iload_n 0, 1) := by decide +kernel
theorem dJ9_abs_0f7a4_5 : decode cJ9_abs_0f7a4 5 = .ok (.ineg, 1) := by decide +kernel
theorem dJ9_abs_0f7a4_6 : decode cJ9_abs_0f7a4 6 = .ok (.goto 4, 3) := by decide +kernel
theorem dJ9_abs_0f7a4_9 : decode cJ9_abs_0f7a4 9 = .ok (.iload_n 0, 1) := by decide +kernel
theorem dJ9_abs_0f7a4_10 : decode cJ9_abs_0f7a4 10 = .ok (.ireturn, 1) := by decide +kernel
theorem dJ9_abs_067f4_0 : decode cJ9_abs_067f4 0 = .ok (.lload_n 0, 1) := by decide +kernel
theorem dJ9_abs_067f4_1 : decode cJ9_abs_067f4 1 = .ok (.lconst 0, 1) := by decide +kernel
theorem dJ9_abs_067f4_2 : decode cJ9_abs_067f4 2 = .ok (.lcmp, 1) := by decide +kernel
theorem dJ9_abs_067f4_3 : decode cJ9_abs_067f4 3 = .ok (.ifCond .ge 8, 3) := by decide +kernel
theorem dJ9_abs_067f4_6 : decode cJ9_abs_067f4 6 = .ok (.lload_n 0, 1) := by decide +kernel
theorem dJ9_abs_067f4_7 : decode cJ9_abs_067f4 7 = .ok (.lneg, 1) := by decide +kernel
theorem dJ9_abs_067f4_8 : decode cJ9_abs_067f4 8 = .ok (.goto 4, 3) := by decide +kernel
theorem dJ9_abs_067f4_11 : decode cJ9_abs_067f4 11 = .ok (.lload_n 0, 1) := by decide +kernel
theorem dJ9_abs_067f4_12 : decode cJ9_abs_067f4 12 = .ok (.lreturn, 1) := by decide +kernel
theorem dJ9_max_7cf53_0 : decode cJ9_max_7cf53 0 = .ok (.iload_n 0, 1) := by decide +kernel
theorem dJ9_max_7cf53_1 : decode cJ9_max_7cf53 1 = .ok (.iload_n 1, 1) := by decide +kernel
theorem dJ9_max_7cf53_2 : decode cJ9_max_7cf53 2 = .ok (.if_icmp .lt 7, 3) := by decide +kernel
theorem dJ9_max_7cf53_5 : decode cJ9_max_7cf53 5 = .ok (.iload_n 0, 1) := by decide +kernel
theorem dJ9_max_7cf53_6 : decode cJ9_max_7cf53 6 = .ok (.goto 4, 3) := by decide +kernel
theorem dJ9_max_7cf53_9 : decode cJ9_max_7cf53 9 = .ok (.iload_n 1, 1) := by decide +kernel
theorem dJ9_max_7cf53_10 : decode cJ9_max_7cf53 10 = .ok (.ireturn, 1) := by decide +kernel
theorem dJ9_min_7cf53_0 : decode cJ9_min_7cf53 0 = .ok (.iload_n 0, 1) := by decide +kernel
theorem dJ9_min_7cf53_1 : decode cJ9_min_7cf53 1 = .ok (.iload_n 1, 1) := by decide +kernel
theorem dJ9_min_7cf53_2 : decode cJ9_min_7cf53 2 = .ok (.if_icmp .gt 7, 3) := by decide +kernel
theorem dJ9_min_7cf53_5 : decode cJ9_min_7cf53 5 = .ok (.iload_n 0, 1) := by decide +kernel
theorem dJ9_min_7cf53_6 : decode cJ9_min_7cf53 6 = .ok (.goto 4, 3) := by decide +kernel
theorem dJ9_min_7cf53_9 : decode cJ9_min_7cf53 9 = .ok (.iload_n 1, 1) := by decide +kernel
theorem dJ9_min_7cf53_10 : decode cJ9_min_7cf53 10 = .ok (.ireturn, 1) := by decide +kernel
theorem dJ7_fill_53178_0 : decode cJ7_fill_53178 0 = .ok (.iconst 0, 1) := by decide +kernel
theorem dJ7_fill_53178_1 : decode cJ7_fill_53178 1 = .ok (.istore_n 2, 1) := by decide +kernel
theorem dJ7_fill_53178_2 : decode cJ7_fill_53178 2 = .ok (.aload_n 0, 1) := by decide +kernel
theorem dJ7_fill_53178_3 : decode cJ7_fill_53178 3 = .ok (.arraylength, 1) := by decide +kernel
theorem dJ7_fill_53178_4 : decode cJ7_fill_53178 4 = .ok (.istore_n 3, 1) := by decide +kernel
theorem dJ7_fill_53178_5 : decode cJ7_fill_53178 5 = .ok (.iload_n 2, 1) := by decide +kernel
theorem dJ7_fill_53178_6 : decode cJ7_fill_53178 6 = .ok (.iload_n 3, 1) := by decide +kernel
theorem dJ7_fill_53178_7 : decode cJ7_fill_53178 7 = .ok (.if_icmp .ge 13, 3) := by decide +kernel
theorem dJ7_fill_53178_10 : decode cJ7_fill_53178 10 = .ok (.aload_n 0, 1) := by decide +kernel
theorem dJ7_fill_53178_11 : decode cJ7_fill_53178 11 = .ok (.iload_n 2, 1) := by decide +kernel
theorem dJ7_fill_53178_12 : decode cJ7_fill_53178 12 = .ok (.iload_n 1, 1) := by decide +kernel
theorem dJ7_fill_53178_13 : decode cJ7_fill_53178 13 = .ok (.iastore, 1) := by decide +kernel
theorem dJ7_fill_53178_14 : decode cJ7_fill_53178 14 = .ok (.iinc 2 1, 3) := by decide +kernel
theorem dJ7_fill_53178_17 : decode cJ7_fill_53178 17 = .ok (.goto (-12), 3) := by decide +kernel
theorem dJ7_fill_53178_20 : decode cJ7_fill_53178 20 = .ok (.return_, 1) := by decide +kernel
