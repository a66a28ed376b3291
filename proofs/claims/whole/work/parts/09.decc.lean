/-! rows that decode (printed names) -/
theorem dX7_init_0 : decode cX7_init 0 = .ok (.aload_n 0, 1) := by decide +kernel
theorem dX7_init_1 : decode cX7_init 1 = .ok (.invokespecial 1, 3) := by decide +kernel
theorem dX7_init_4 : decode cX7_init 4 = .ok (.aload_n 0, 1) := by decide +kernel
theorem dX7_init_5 : decode cX7_init 5 = .ok (.bipush 54, 2) := by decide +kernel
theorem dX7_init_7 : decode cX7_init 7 = .ok (.newarray .int, 2) := by decide +kernel
theorem dX7_init_9 : decode cX7_init 9 = .ok (.putfield 7, 3) := by decide +kernel
theorem dX7_init_12 : decode cX7_init 12 = .ok (.aload_n 0, 1) := by decide +kernel
theorem dX7_init_13 : decode cX7_init 13 = .ok (.sipush 270, 3) := by decide +kernel
theorem dX7_init_16 : decode cX7_init 16 = .ok (.newarray .int, 2) := by decide +kernel
theorem dX7_init_18 : decode cX7_init 18 = .ok (.putfield 13, 3) := by decide +kernel
theorem dX7_init_21 : decode cX7_init 21 = .ok (.aload_n 0, 1) := by decide +kernel
theorem dX7_init_22 : decode cX7_init 22 = .ok (.bipush 54, 2) := by decide +kernel
theorem dX7_init_24 : decode cX7_init 24 = .ok (.newarray .int, 2) := by decide +kernel
theorem dX7_init_26 : decode cX7_init 26 = .ok (.putfield 16, 3) := by decide +kernel
theorem dX7_init_29 : decode cX7_init 29 = .ok (.aload_n 0, 1) := by decide +kernel
theorem dX7_init_30 : decode cX7_init 30 = .ok (.iconst 3, 1) := by decide +kernel
theorem dX7_init_31 : decode cX7_init 31 = .ok (.newarray .int, 2) := by decide +kernel
theorem dX7_init_33 : decode cX7_init 33 = .ok (.putfield 19, 3) := by decide +kernel
theorem dX7_init_36 : decode cX7_init 36 = .ok (.aload_n 0, 1) := by decide +kernel
theorem dX7_init_37 : decode cX7_init 37 = .ok (.iconst 5, 1) := by decide +kernel
theorem dX7_init_38 : decode cX7_init 38 = .ok (.newarray .long, 2) := by decide +kernel
theorem dX7_init_40 : decode cX7_init 40 = .ok (.putfield 22, 3) := by decide +kernel
theorem dX7_init_43 : decode cX7_init 43 = .ok (.aload_n 0, 1) := by decide +kernel
theorem dX7_init_44 : decode cX7_init 44 = .ok (.iconst 5, 1) := by decide +kernel
theorem dX7_init_45 : decode cX7_init 45 = .ok (.newarray .long, 2) := by decide +kernel
theorem dX7_init_47 : decode cX7_init 47 = .ok (.putfield 26, 3) := by decide +kernel
theorem dX7_init_50 : decode cX7_init 50 = .ok (.aload_n 0, 1) := by decide +kernel
theorem dX7_init_51 : decode cX7_init 51 = .ok (.bipush 16, 2) := by decide +kernel
theorem dX7_init_53 : decode cX7_init 53 = .ok (.newarray .long, 2) := by decide +kernel
theorem dX7_init_55 : decode cX7_init 55 = .ok (.putfield 29, 3) := by decide +kernel
theorem dX7_init_58 : decode cX7_init 58 = .ok (.aload_n 0, 1) := by decide +kernel
theorem dX7_init_59 : decode cX7_init 59 = .ok (.iconst 5, 1) := by decide +kernel
theorem dX7_init_60 : decode cX7_init 60 = .ok (.newarray .long, 2) := by decide +kernel
theorem dX7_init_62 : decode cX7_init 62 = .ok (.putfield 32, 3) := by decide +kernel
theorem dX7_init_65 : decode cX7_init 65 = .ok (.aload_n 0, 1) := by decide +kernel
theorem dX7_init_66 : decode cX7_init 66 = .ok (.iconst 5, 1) := by decide +kernel
theorem dX7_init_67 : decode cX7_init 67 = .ok (.newarray .long, 2) := by decide +kernel
theorem dX7_init_69 : decode cX7_init 69 = .ok (.putfield 35, 3) := by decide +kernel
theorem dX7_init_72 : decode cX7_init 72 = .ok (.aload_n 0, 1) := by decide +kernel
theorem dX7_init_73 : decode cX7_init 73 = .ok (.iconst 5, 1) := by decide +kernel
theorem dX7_init_74 : decode cX7_init 74 = .ok (.newarray .long, 2) := by decide +kernel
theorem dX7_init_76 : decode cX7_init 76 = .ok (.putfield 38, 3) := by decide +kernel
theorem dX7_init_79 : decode cX7_init 79 = .ok (.aload_n 0, 1) := by decide +kernel
theorem dX7_init_80 : decode cX7_init 80 = .ok (.iconst 5, 1) := by decide +kernel
theorem dX7_init_81 : decode cX7_init 81 = .ok (.newarray .long, 2) := by decide +kernel
theorem dX7_init_83 : decode cX7_init 83 = .ok (.putfield 41, 3) := by decide +kernel
theorem dX7_init_86 : decode cX7_init 86 = .ok (.aload_n 0, 1) := by decide +kernel
theorem dX7_init_87 : decode cX7_init 87 = .ok (.iconst 5, 1) := by decide +kernel
theorem dX7_init_88 : decode cX7_init 88 = .ok (.newarray .int, 2) := by decide +kernel
theorem dX7_init_90 : decode cX7_init 90 = .ok (.putfield 44, 3) := by decide +kernel
theorem dX7_init_93 : decode cX7_init 93 = .ok (.aload_n 0, 1) := by decide +kernel
theorem dX7_init_94 : decode cX7_init 94 = .ok (.iconst 5, 1) := by decide +kernel
theorem dX7_init_95 : decode cX7_init 95 = .ok (.newarray .long, 2) := by decide +kernel
theorem dX7_init_97 : decode cX7_init 97 = .ok (.putfield 47, 3) := by decide +kernel
theorem dX7_init_100 : decode cX7_init 100 = .ok (.aload_n 0, 1) := by decide +kernel
theorem dX7_init_101 : decode cX7_init 101 = .ok (.bipush 120, 2) := by decide +kernel
theorem dX7_init_103 : decode cX7_init 103 = .ok (.newarray .int, 2) := by decide +kernel
theorem dX7_init_105 : decode cX7_init 105 = .ok (.putfield 50, 3) := by decide +kernel
theorem dX7_init_108 : decode cX7_init 108 = .ok (.aload_n 0, 1) := by decide +kernel
theorem dX7_init_109 : decode cX7_init 109 = .ok (.iconst 5, 1) := by decide +kernel
theorem dX7_init_110 : decode cX7_init 110 = .ok (.newarray .int, 2) := by decide +kernel
theorem dX7_init_112 : decode cX7_init 112 = .ok (.putfield 53, 3) := by decide +kernel
theorem dX7_init_115 : decode cX7_init 115 = .ok (.aload_n 0, 1) := by decide +kernel
theorem dX7_init_116 : decode cX7_init 116 = .ok (.getfield 7, 3) := by decide +kernel
theorem dX7_init_119 : decode cX7_init 119 = .ok (.iconst 0, 1) := by decide +kernel
theorem dX7_init_120 : decode cX7_init 120 = .ok (.iconst 3, 1) := by decide +kernel
theorem dX7_init_121 : decode cX7_init 121 = .ok (.iastore, 1) := by decide +kernel
theorem dX7_init_122 : decode cX7_init 122 = .ok (.return_, 1) := by decide +kernel
theorem dX7_in_0 : decode cX7_in 0 = .ok (.lload_n 0, 1) := by decide +kernel
theorem dX7_in_1 : decode cX7_in 1 = .ok (.lload_n 2, 1) := by decide +kernel
theorem dX7_in_2 : decode cX7_in 2 = .ok (.lcmp, 1) := by decide +kernel
theorem dX7_in_3 : decode cX7_in 3 = .ok (.ifCond .lt 14, 3) := by decide +kernel
theorem dX7_in_6 : decode cX7_in 6 = .ok (.lload_n 0, 1) := by decide +kernel
theorem dX7_in_7 : decode cX7_in 7 = .ok (.lload 4, 2) := by decide +kernel
theorem dX7_in_9 : decode cX7_in 9 = .ok (.lcmp, 1) := by decide +kernel
theorem dX7_in_10 : decode cX7_in 10 = .ok (.ifCond .gt 7, 3) := by decide +kernel
theorem dX7_in_13 : decode cX7_in 13 = .ok (.iconst 1, 1) := by decide +kernel
theorem dX7_in_14 : decode cX7_in 14 = .ok (.goto 4, 3) := by decide +kernel
theorem dX7_in_17 : decode cX7_in 17 = .ok (.iconst 0, 1) := by decide +kernel
theorem dX7_in_18 : decode cX7_in 18 = .ok (.ireturn, 1) := by decide +kernel
theorem dX7_refuses_0 : decode cX7_refuses 0 = .ok (.aload_n 0, 1) := by decide +kernel
theorem dX7_refuses_1 : decode cX7_refuses 1 = .ok (.getfield 19, 3) := by decide +kernel
theorem dX7_refuses_4 : decode cX7_refuses 4 = .ok (.bipush (-2), 2) := by decide +kernel
theorem dX7_refuses_6 : decode cX7_refuses 6 = .ok (.iload_n 1, 1) := by decide +kernel
theorem dX7_refuses_7 : decode cX7_refuses 7 = .ok (.isub, 1) := by decide +kernel
theorem dX7_refuses_8 : decode cX7_refuses 8 = .ok (.dup2, 1) := by decide +kernel
theorem dX7_refuses_9 : decode cX7_refuses 9 = .ok (.iaload, 1) := by decide +kernel
theorem dX7_refuses_10 : decode cX7_refuses 10 = .ok (.iconst 1, 1) := by decide +kernel
theorem dX7_refuses_11 : decode cX7_refuses 11 = .ok (.iadd, 1) := by decide +kernel
theorem dX7_refuses_12 : decode cX7_refuses 12 = .ok (.iastore, 1) := by decide +kernel
theorem dX7_refuses_13 : decode cX7_refuses 13 = .ok (.iload_n 1, 1) := by decide +kernel
theorem dX7_refuses_14 : decode cX7_refuses 14 = .ok (.ireturn, 1) := by decide +kernel
theorem dX7_keep_0 : decode cX7_keep 0 = .ok (.aload_n 0, 1) := by decide +kernel
theorem dX7_keep_1 : decode cX7_keep 1 = .ok (.getfield 56, 3) := by decide +kernel
theorem dX7_keep_4 : decode cX7_keep 4 = .ok (.iconst 5, 1) := by decide +kernel
theorem dX7_keep_5 : decode cX7_keep 5 = .ok (.if_icmp .ne 43, 3) := by decide +kernel
theorem dX7_keep_8 : decode cX7_keep 8 = .ok (.iconst 0, 1) := by decide +kernel
theorem dX7_keep_9 : decode cX7_keep 9 = .ok (.istore_n 1, 1) := by decide +kernel
theorem dX7_keep_10 : decode cX7_keep 10 = .ok (.iload_n 1, 1) := by decide +kernel
theorem dX7_keep_11 : decode cX7_keep 11 = .ok (.sipush 216, 3) := by decide +kernel
theorem dX7_keep_14 : decode cX7_keep 14 = .ok (.if_icmp .ge 24, 3) := by decide +kernel
theorem dX7_keep_17 : decode cX7_keep 17 = .ok (.aload_n 0, 1) := by decide +kernel
theorem dX7_keep_18 : decode cX7_keep 18 = .ok (.getfield 13, 3) := by decide +kernel
theorem dX7_keep_21 : decode cX7_keep 21 = .ok (.iload_n 1, 1) := by decide +kernel
theorem dX7_keep_22 : decode cX7_keep 22 = .ok (.aload_n 0, 1) := by decide +kernel
theorem dX7_keep_23 : decode cX7_keep 23 = .ok (.getfield 13, 3) := by decide +kernel
theorem dX7_keep_26 : decode cX7_keep 26 = .ok (.iload_n 1, 1) := by decide +kernel
theorem dX7_keep_27 : decode cX7_keep 27 = .ok (.bipush 54, 2) := by decide +kernel
theorem dX7_keep_29 : decode cX7_keep 29 = .ok (.iadd, 1) := by decide +kernel
theorem dX7_keep_30 : decode cX7_keep 30 = .ok (.iaload, 1) := by decide +kernel
theorem dX7_keep_31 : decode cX7_keep 31 = .ok (.iastore, 1) := by decide +kernel
theorem dX7_keep_32 : decode cX7_keep 32 = .ok (.iinc 1 1, 3) := by decide +kernel
theorem dX7_keep_35 : decode cX7_keep 35 = .ok (.goto (-25), 3) := by decide +kernel
theorem dX7_keep_38 : decode cX7_keep 38 = .ok (.aload_n 0, 1) := by decide +kernel
theorem dX7_keep_39 : decode cX7_keep 39 = .ok (.dup, 1) := by decide +kernel
theorem dX7_keep_40 : decode cX7_keep 40 = .ok (.getfield 56, 3) := by decide +kernel
theorem dX7_keep_43 : decode cX7_keep 43 = .ok (.iconst 1, 1) := by decide +kernel
theorem dX7_keep_44 : decode cX7_keep 44 = .ok (.isub, 1) := by decide +kernel
theorem dX7_keep_45 : decode cX7_keep 45 = .ok (.putfield 56, 3) := by decide +kernel
theorem dX7_keep_48 : decode cX7_keep 48 = .ok (.iconst 0, 1) := by decide +kernel
theorem dX7_keep_49 : decode cX7_keep 49 = .ok (.istore_n 1, 1) := by decide +kernel
theorem dX7_keep_50 : decode cX7_keep 50 = .ok (.iload_n 1, 1) := by decide +kernel
theorem dX7_keep_51 : decode cX7_keep 51 = .ok (.bipush 54, 2) := by decide +kernel
theorem dX7_keep_53 : decode cX7_keep 53 = .ok (.if_icmp .ge 29, 3) := by decide +kernel
theorem dX7_keep_56 : decode cX7_keep 56 = .ok (.aload_n 0, 1) := by decide +kernel
theorem dX7_keep_57 : decode cX7_keep 57 = .ok (.getfield 13, 3) := by decide +kernel
theorem dX7_keep_60 : decode cX7_keep 60 = .ok (.bipush 54, 2) := by decide +kernel
theorem dX7_keep_62 : decode cX7_keep 62 = .ok (.aload_n 0, 1) := by decide +kernel
theorem dX7_keep_63 : decode cX7_keep 63 = .ok (.getfield 56, 3) := by decide +kernel
theorem dX7_keep_66 : decode cX7_keep 66 = .ok (.imul, 1) := by decide +kernel
theorem dX7_keep_67 : decode cX7_keep 67 = .ok (.iload_n 1, 1) := by decide +kernel
theorem dX7_keep_68 : decode cX7_keep 68 = .ok (.iadd, 1) := by decide +kernel
theorem dX7_keep_69 : decode cX7_keep 69 = .ok (.aload_n 0, 1) := by decide +kernel
theorem dX7_keep_70 : decode cX7_keep 70 = .ok (.getfield 7, 3) := by decide +kernel
theorem dX7_keep_73 : decode cX7_keep 73 = .ok (.iload_n 1, 1) := by decide +kernel
theorem dX7_keep_74 : decode cX7_keep 74 = .ok (.iaload, 1) := by decide +kernel
theorem dX7_keep_75 : decode cX7_keep 75 = .ok (.iastore, 1) := by decide +kernel
theorem dX7_keep_76 : decode cX7_keep 76 = .ok (.iinc 1 1, 3) := by decide +kernel
theorem dX7_keep_79 : decode cX7_keep 79 = .ok (.goto (-29), 3) := by decide +kernel
theorem dX7_keep_82 : decode cX7_keep 82 = .ok (.aload_n 0, 1) := by decide +kernel
theorem dX7_keep_83 : decode cX7_keep 83 = .ok (.dup, 1) := by decide +kernel
theorem dX7_keep_84 : decode cX7_keep 84 = .ok (.getfield 56, 3) := by decide +kernel
theorem dX7_keep_87 : decode cX7_keep 87 = .ok (.iconst 1, 1) := by decide +kernel
theorem dX7_keep_88 : decode cX7_keep 88 = .ok (.iadd, 1) := by decide +kernel
theorem dX7_keep_89 : decode cX7_keep 89 = .ok (.putfield 56, 3) := by decide +kernel
theorem dX7_keep_92 : decode cX7_keep 92 = .ok (.return_, 1) := by decide +kernel
theorem dX7_many_0 : decode cX7_many 0 = .ok (.aload_n 0, 1) := by decide +kernel
theorem dX7_many_1 : decode cX7_many 1 = .ok (.getfield 7, 3) := by decide +kernel
theorem dX7_many_4 : decode cX7_many 4 = .ok (.iconst 0, 1) := by decide +kernel
theorem dX7_many_5 : decode cX7_many 5 = .ok (.iaload, 1) := by decide +kernel
theorem dX7_many_6 : decode cX7_many 6 = .ok (.ireturn, 1) := by decide +kernel
theorem dX7_isPoint_0 : decode cX7_isPoint 0 = .ok (.iload_n 1, 1) := by decide +kernel
theorem dX7_isPoint_1 : decode cX7_isPoint 1 = .ok (.i2l, 1) := by decide +kernel
theorem dX7_isPoint_2 : decode cX7_isPoint 2 = .ok (.lconst 0, 1) := by decide +kernel
theorem dX7_isPoint_3 : decode cX7_isPoint 3 = .ok (.aload_n 0, 1) := by decide +kernel
theorem dX7_isPoint_4 : decode cX7_isPoint 4 = .ok (.invokevirtual 60, 3) := by decide +kernel
theorem dX7_isPoint_7 : decode cX7_isPoint 7 = .ok (.iconst 1, 1) := by decide +kernel
theorem dX7_isPoint_8 : decode cX7_isPoint 8 = .ok (.isub, 1) := by decide +kernel
theorem dX7_isPoint_9 : decode cX7_isPoint 9 = .ok (.i2l, 1) := by decide +kernel
theorem dX7_isPoint_10 : decode cX7_isPoint 10 = .ok (.invokestatic 64, 3) := by decide +kernel
theorem dX7_isPoint_13 : decode cX7_isPoint 13 = .ok (.ireturn, 1) := by decide +kernel
theorem dX7_linesOf_0 : decode cX7_linesOf 0 = .ok (.aload_n 0, 1) := by decide +kernel
theorem dX7_linesOf_1 : decode cX7_linesOf 1 = .ok (.getfield 7, 3) := by decide +kernel
theorem dX7_linesOf_4 : decode cX7_linesOf 4 = .ok (.iconst 1, 1) := by decide +kernel
theorem dX7_linesOf_5 : decode cX7_linesOf 5 = .ok (.iconst 5, 1) := by decide +kernel
theorem dX7_linesOf_6 : decode cX7_linesOf 6 = .ok (.iload_n 1, 1) := by decide +kernel
theorem dX7_linesOf_7 : decode cX7_linesOf 7 = .ok (.imul, 1) := by decide +kernel
theorem dX7_linesOf_8 : decode cX7_linesOf 8 = .ok (.iadd, 1) := by decide +kernel
theorem dX7_linesOf_9 : decode cX7_linesOf 9 = .ok (.iload_n 2, 1) := by decide +kernel
theorem dX7_linesOf_10 : decode cX7_linesOf 10 = .ok (.iadd, 1) := by decide +kernel
theorem dX7_linesOf_11 : decode cX7_linesOf 11 = .ok (.iaload, 1) := by decide +kernel
theorem dX7_linesOf_12 : decode cX7_linesOf 12 = .ok (.ireturn, 1) := by decide +kernel
theorem dX7_valence_0 : decode cX7_valence 0 = .ok (.iconst 0, 1) := by decide +kernel
theorem dX7_valence_1 : decode cX7_valence 1 = .ok (.istore_n 2, 1) := by decide +kernel
theorem dX7_valence_2 : decode cX7_valence 2 = .ok (.iconst 0, 1) := by decide +kernel
theorem dX7_valence_3 : decode cX7_valence 3 = .ok (.istore_n 3, 1) := by decide +kernel
theorem dX7_valence_4 : decode cX7_valence 4 = .ok (.iload_n 3, 1) := by decide +kernel
theorem dX7_valence_5 : decode cX7_valence 5 = .ok (.aload_n 0, 1) := by decide +kernel
theorem dX7_valence_6 : decode cX7_valence 6 = .ok (.invokevirtual 60, 3) := by decide +kernel
theorem dX7_valence_9 : decode cX7_valence 9 = .ok (.if_icmp .ge 18, 3) := by decide +kernel
theorem dX7_valence_12 : decode cX7_valence 12 = .ok (.iload_n 2, 1) := by decide +kernel
theorem dX7_valence_13 : decode cX7_valence 13 = .ok (.aload_n 0, 1) := by decide +kernel
theorem dX7_valence_14 : decode cX7_valence 14 = .ok (.iload_n 1, 1) := by decide +kernel
theorem dX7_valence_15 : decode cX7_valence 15 = .ok (.iload_n 3, 1) := by decide +kernel
theorem dX7_valence_16 : decode cX7_valence 16 = .ok (.invokevirtual 68, 3) := by decide +kernel
theorem dX7_valence_19 : decode cX7_valence 19 = .ok (.iadd, 1) := by decide +kernel
theorem dX7_valence_20 : decode cX7_valence 20 = .ok (.istore_n 2, 1) := by decide +kernel
theorem dX7_valence_21 : decode cX7_valence 21 = .ok (.iinc 3 1, 3) := by decide +kernel
theorem dX7_valence_24 : decode cX7_valence 24 = .ok (.goto (-20), 3) := by decide +kernel
theorem dX7_valence_27 : decode cX7_valence 27 = .ok (.iload_n 2, 1) := by decide +kernel
theorem dX7_valence_28 : decode cX7_valence 28 = .ok (.ireturn, 1) := by decide +kernel
theorem dX7_allLines_0 : decode cX7_allLines 0 = .ok (.iconst 0, 1) := by decide +kernel
theorem dX7_allLines_1 : decode cX7_allLines 1 = .ok (.istore_n 1, 1) := by decide +kernel
theorem dX7_allLines_2 : decode cX7_allLines 2 = .ok (.iconst 0, 1) := by decide +kernel
theorem dX7_allLines_3 : decode cX7_allLines 3 = .ok (.istore_n 2, 1) := by decide +kernel
theorem dX7_allLines_4 : decode cX7_allLines 4 = .ok (.iload_n 2, 1) := by decide +kernel
theorem dX7_allLines_5 : decode cX7_allLines 5 = .ok (.aload_n 0, 1) := by decide +kernel
theorem dX7_allLines_6 : decode cX7_allLines 6 = .ok (.invokevirtual 60, 3) := by decide +kernel
theorem dX7_allLines_9 : decode cX7_allLines 9 = .ok (.if_icmp .ge 17, 3) := by decide +kernel
theorem dX7_allLines_12 : decode cX7_allLines 12 = .ok (.iload_n 1, 1) := by decide +kernel
theorem dX7_allLines_13 : decode cX7_allLines 13 = .ok (.aload_n 0, 1) := by decide +kernel
theorem dX7_allLines_14 : decode cX7_allLines 14 = .ok (.iload_n 2, 1) := by decide +kernel
theorem dX7_allLines_15 : decode cX7_allLines 15 = .ok (.invokevirtual 72, 3) := by decide +kernel
theorem dX7_allLines_18 : decode cX7_allLines 18 = .ok (.iadd, 1) := by decide +kernel
theorem dX7_allLines_19 : decode cX7_allLines 19 = .ok (.istore_n 1, 1) := by decide +kernel
theorem dX7_allLines_20 : decode cX7_allLines 20 = .ok (.iinc 2 1, 3) := by decide +kernel
theorem dX7_allLines_23 : decode cX7_allLines 23 = .ok (.goto (-19), 3) := by decide +kernel
theorem dX7_allLines_26 : decode cX7_allLines 26 = .ok (.iload_n 1, 1) := by decide +kernel
theorem dX7_allLines_27 : decode cX7_allLines 27 = .ok (.iconst 2, 1) := by decide +kernel
theorem dX7_allLines_28 : decode cX7_allLines 28 = .ok (.idiv, 1) := by decide +kernel
theorem dX7_allLines_29 : decode cX7_allLines 29 = .ok (.ireturn, 1) := by decide +kernel
theorem dX7_isJoined_0 : decode cX7_isJoined 0 = .ok (.iconst 1, 1) := by decide +kernel
theorem dX7_isJoined_1 : decode cX7_isJoined 1 = .ok (.istore_n 1, 1) := by decide +kernel
theorem dX7_isJoined_2 : decode cX7_isJoined 2 = .ok (.iconst 0, 1) := by decide +kernel
theorem dX7_isJoined_3 : decode cX7_isJoined 3 = .ok (.istore_n 2, 1) := by decide +kernel
theorem dX7_isJoined_4 : decode cX7_isJoined 4 = .ok (.iload_n 1, 1) := by decide +kernel
theorem dX7_isJoined_5 : decode cX7_isJoined 5 = .ok (.iload_n 2, 1) := by decide +kernel
theorem dX7_isJoined_6 : decode cX7_isJoined 6 = .ok (.if_icmp .eq 72, 3) := by decide +kernel
theorem dX7_isJoined_9 : decode cX7_isJoined 9 = .ok (.iload_n 1, 1) := by decide +kernel
theorem dX7_isJoined_10 : decode cX7_isJoined 10 = .ok (.istore_n 2, 1) := by decide +kernel
theorem dX7_isJoined_11 : decode cX7_isJoined 11 = .ok (.iconst 0, 1) := by decide +kernel
theorem dX7_isJoined_12 : decode cX7_isJoined 12 = .ok (.istore_n 3, 1) := by decide +kernel
theorem dX7_isJoined_13 : decode cX7_isJoined 13 = .ok (.iload_n 3, 1) := by decide +kernel
theorem dX7_isJoined_14 : decode cX7_isJoined 14 = .ok (.aload_n 0, 1) := by decide +kernel
theorem dX7_isJoined_15 : decode cX7_isJoined 15 = .ok (.invokevirtual 60, 3) := by decide +kernel
theorem dX7_isJoined_18 : decode cX7_isJoined 18 = .ok (.if_icmp .ge 57, 3) := by decide +kernel
theorem dX7_isJoined_21 : decode cX7_isJoined 21 = .ok (.iconst 0, 1) := by decide +kernel
theorem dX7_isJoined_22 : decode cX7_isJoined 22 = .ok (.istore 4, 2) := by decide +kernel
theorem dX7_isJoined_24 : decode cX7_isJoined 24 = .ok (.iload 4, 2) := by decide +kernel
theorem dX7_isJoined_26 : decode cX7_isJoined 26 = .ok (.aload_n 0, 1) := by decide +kernel
theorem dX7_isJoined_27 : decode cX7_isJoined 27 = .ok (.invokevirtual 60, 3) := by decide +kernel
theorem dX7_isJoined_30 : decode cX7_isJoined 30 = .ok (.if_icmp .ge 39, 3) := by decide +kernel
theorem dX7_isJoined_33 : decode cX7_isJoined 33 = .ok (.iload_n 1, 1) := by decide +kernel
theorem dX7_isJoined_34 : decode cX7_isJoined 34 = .ok (.iload_n 2, 1) := by decide +kernel
theorem dX7_isJoined_35 : decode cX7_isJoined 35 = .ok (.iload_n 3, 1) := by decide +kernel
theorem dX7_isJoined_36 : decode cX7_isJoined 36 = .ok (.ishr, 1) := by decide +kernel
theorem dX7_isJoined_37 : decode cX7_isJoined 37 = .ok (.iconst 1, 1) := by decide +kernel
theorem dX7_isJoined_38 : decode cX7_isJoined 38 = .ok (.iand, 1) := by decide +kernel
theorem dX7_isJoined_39 : decode cX7_isJoined 39 = .ok (.iconst 1, 1) := by decide +kernel
theorem dX7_isJoined_40 : decode cX7_isJoined 40 = .ok (.if_icmp .ne 20, 3) := by decide +kernel
theorem dX7_isJoined_43 : decode cX7_isJoined 43 = .ok (.aload_n 0, 1) := by decide +kernel
theorem dX7_isJoined_44 : decode cX7_isJoined 44 = .ok (.iload_n 3, 1) := by decide +kernel
theorem dX7_isJoined_45 : decode cX7_isJoined 45 = .ok (.iload 4, 2) := by decide +kernel
theorem dX7_isJoined_47 : decode cX7_isJoined 47 = .ok (.invokevirtual 68, 3) := by decide +kernel
theorem dX7_isJoined_50 : decode cX7_isJoined 50 = .ok (.ifCond .le 10, 3) := by decide +kernel
theorem dX7_isJoined_53 : decode cX7_isJoined 53 = .ok (.iconst 1, 1) := by decide +kernel
theorem dX7_isJoined_54 : decode cX7_isJoined 54 = .ok (.iload 4, 2) := by decide +kernel
theorem dX7_isJoined_56 : decode cX7_isJoined 56 = .ok (.ishl, 1) := by decide +kernel
theorem dX7_isJoined_57 : decode cX7_isJoined 57 = .ok (.goto 4, 3) := by decide +kernel
theorem dX7_isJoined_60 : decode cX7_isJoined 60 = .ok (.iconst 0, 1) := by decide +kernel
theorem dX7_isJoined_61 : decode cX7_isJoined 61 = .ok (.ior, 1) := by decide +kernel
theorem dX7_isJoined_62 : decode cX7_isJoined 62 = .ok (.istore_n 1, 1) := by decide +kernel
theorem dX7_isJoined_63 : decode cX7_isJoined 63 = .ok (.iinc 4 1, 3) := by decide +kernel
theorem dX7_isJoined_66 : decode cX7_isJoined 66 = .ok (.goto (-42), 3) := by decide +kernel
theorem dX7_isJoined_69 : decode cX7_isJoined 69 = .ok (.iinc 3 1, 3) := by decide +kernel
theorem dX7_isJoined_72 : decode cX7_isJoined 72 = .ok (.goto (-59), 3) := by decide +kernel
theorem dX7_isJoined_75 : decode cX7_isJoined 75 = .ok (.goto (-71), 3) := by decide +kernel
theorem dX7_isJoined_78 : decode cX7_isJoined 78 = .ok (.iload_n 1, 1) := by decide +kernel
theorem dX7_isJoined_79 : decode cX7_isJoined 79 = .ok (.iconst 1, 1) := by decide +kernel
theorem dX7_isJoined_80 : decode cX7_isJoined 80 = .ok (.aload_n 0, 1) := by decide +kernel
theorem dX7_isJoined_81 : decode cX7_isJoined 81 = .ok (.invokevirtual 60, 3) := by decide +kernel
theorem dX7_isJoined_84 : decode cX7_isJoined 84 = .ok (.ishl, 1) := by decide +kernel
theorem dX7_isJoined_85 : decode cX7_isJoined 85 = .ok (.iconst 1, 1) := by decide +kernel
theorem dX7_isJoined_86 : decode cX7_isJoined 86 = .ok (.isub, 1) := by decide +kernel
theorem dX7_isJoined_87 : decode cX7_isJoined 87 = .ok (.if_icmp .ne 7, 3) := by decide +kernel
theorem dX7_isJoined_90 : decode cX7_isJoined 90 = .ok (.iconst 1, 1) := by decide +kernel
theorem dX7_isJoined_91 : decode cX7_isJoined 91 = .ok (.goto 4, 3) := by decide +kernel
theorem dX7_isJoined_94 : decode cX7_isJoined 94 = .ok (.iconst 0, 1) := by decide +kernel
theorem dX7_isJoined_95 : decode cX7_isJoined 95 = .ok (.ireturn, 1) := by decide +kernel
theorem dX7_pointsNow_0 : decode cX7_pointsNow 0 = .ok (.aload_n 0, 1) := by decide +kernel
theorem dX7_pointsNow_1 : decode cX7_pointsNow 1 = .ok (.invokevirtual 60, 3) := by decide +kernel
theorem dX7_pointsNow_4 : decode cX7_pointsNow 4 = .ok (.istore_n 2, 1) := by decide +kernel
theorem dX7_pointsNow_5 : decode cX7_pointsNow 5 = .ok (.aload_n 0, 1) := by decide +kernel
theorem dX7_pointsNow_6 : decode cX7_pointsNow 6 = .ok (.getfield 7, 3) := by decide +kernel
theorem dX7_pointsNow_9 : decode cX7_pointsNow 9 = .ok (.iconst 0, 1) := by decide +kernel
theorem dX7_pointsNow_10 : decode cX7_pointsNow 10 = .ok (.iload_n 1, 1) := by decide +kernel
theorem dX7_pointsNow_11 : decode cX7_pointsNow 11 = .ok (.iastore, 1) := by decide +kernel
theorem dX7_pointsNow_12 : decode cX7_pointsNow 12 = .ok (.iconst 1, 1) := by decide +kernel
theorem dX7_pointsNow_13 : decode cX7_pointsNow 13 = .ok (.istore_n 3, 1) := by decide +kernel
theorem dX7_pointsNow_14 : decode cX7_pointsNow 14 = .ok (.iload_n 3, 1) := by decide +kernel
theorem dX7_pointsNow_15 : decode cX7_pointsNow 15 = .ok (.bipush 36, 2) := by decide +kernel
theorem dX7_pointsNow_17 : decode cX7_pointsNow 17 = .ok (.if_icmp .ge 16, 3) := by decide +kernel
theorem dX7_pointsNow_20 : decode cX7_pointsNow 20 = .ok (.aload_n 0, 1) := by decide +kernel
theorem dX7_pointsNow_21 : decode cX7_pointsNow 21 = .ok (.getfield 7, 3) := by decide +kernel
theorem dX7_pointsNow_24 : decode cX7_pointsNow 24 = .ok (.iload_n 3, 1) := by decide +kernel
theorem dX7_pointsNow_25 : decode cX7_pointsNow 25 = .ok (.iconst 0, 1) := by decide +kernel
theorem dX7_pointsNow_26 : decode cX7_pointsNow 26 = .ok (.iastore, 1) := by decide +kernel
theorem dX7_pointsNow_27 : decode cX7_pointsNow 27 = .ok (.iinc 3 1, 3) := by decide +kernel
theorem dX7_pointsNow_30 : decode cX7_pointsNow 30 = .ok (.goto (-16), 3) := by decide +kernel
theorem dX7_pointsNow_33 : decode cX7_pointsNow 33 = .ok (.iload_n 2, 1) := by decide +kernel
theorem dX7_pointsNow_34 : decode cX7_pointsNow 34 = .ok (.ireturn, 1) := by decide +kernel
theorem dX7_points_0 : decode cX7_points 0 = .ok (.iload_n 1, 1) := by decide +kernel
theorem dX7_points_1 : decode cX7_points 1 = .ok (.i2l, 1) := by decide +kernel
theorem dX7_points_2 : decode cX7_points 2 = .ok (.ldc2_w 76, 3) := by decide +kernel
theorem dX7_points_5 : decode cX7_points 5 = .ok (.ldc2_w 78, 3) := by decide +kernel
theorem dX7_points_8 : decode cX7_points 8 = .ok (.invokestatic 64, 3) := by decide +kernel
theorem dX7_points_11 : decode cX7_points 11 = .ok (.ifCond .ne 10, 3) := by decide +kernel
theorem dX7_points_14 : decode cX7_points 14 = .ok (.aload_n 0, 1) := by decide +kernel
theorem dX7_points_15 : decode cX7_points 15 = .ok (.bipush (-2), 2) := by decide +kernel
theorem dX7_points_17 : decode cX7_points 17 = .ok (.invokevirtual 80, 3) := by decide +kernel
theorem dX7_points_20 : decode cX7_points 20 = .ok (.ireturn, 1) := by decide +kernel
theorem dX7_points_21 : decode cX7_points 21 = .ok (.aload_n 0, 1) := by decide +kernel
theorem dX7_points_22 : decode cX7_points 22 = .ok (.invokevirtual 83, 3) := by decide +kernel
theorem dX7_points_25 : decode cX7_points 25 = .ok (.aload_n 0, 1) := by decide +kernel
theorem dX7_points_26 : decode cX7_points 26 = .ok (.iload_n 1, 1) := by decide +kernel
theorem dX7_points_27 : decode cX7_points 27 = .ok (.invokevirtual 86, 3) := by decide +kernel
theorem dX7_points_30 : decode cX7_points 30 = .ok (.ireturn, 1) := by decide +kernel
theorem dX7_areLines_0 : decode cX7_areLines 0 = .ok (.aload_n 0, 1) := by decide +kernel
theorem dX7_areLines_1 : decode cX7_areLines 1 = .ok (.iload_n 1, 1) := by decide +kernel
theorem dX7_areLines_2 : decode cX7_areLines 2 = .ok (.invokevirtual 89, 3) := by decide +kernel
theorem dX7_areLines_5 : decode cX7_areLines 5 = .ok (.ifCond .eq 32, 3) := by decide +kernel
theorem dX7_areLines_8 : decode cX7_areLines 8 = .ok (.aload_n 0, 1) := by decide +kernel
theorem dX7_areLines_9 : decode cX7_areLines 9 = .ok (.iload_n 2, 1) := by decide +kernel
theorem dX7_areLines_10 : decode cX7_areLines 10 = .ok (.invokevirtual 89, 3) := by decide +kernel
theorem dX7_areLines_13 : decode cX7_areLines 13 = .ok (.ifCond .eq 24, 3) := by decide +kernel
theorem dX7_areLines_16 : decode cX7_areLines 16 = .ok (.iload_n 1, 1) := by decide +kernel
theorem dX7_areLines_17 : decode cX7_areLines 17 = .ok (.iload_n 2, 1) := by decide +kernel
theorem dX7_areLines_18 : decode cX7_areLines 18 = .ok (.if_icmp .eq 19, 3) := by decide +kernel
theorem dX7_areLines_21 : decode cX7_areLines 21 = .ok (.iload_n 3, 1) := by decide +kernel
theorem dX7_areLines_22 : decode cX7_areLines 22 = .ok (.i2l, 1) := by decide +kernel
theorem dX7_areLines_23 : decode cX7_areLines 23 = .ok (.lconst 0, 1) := by decide +kernel
theorem dX7_areLines_24 : decode cX7_areLines 24 = .ok (.ldc2_w 93, 3) := by decide +kernel
theorem dX7_areLines_27 : decode cX7_areLines 27 = .ok (.invokestatic 64, 3) := by decide +kernel
theorem dX7_areLines_30 : decode cX7_areLines 30 = .ok (.ifCond .eq 7, 3) := by decide +kernel
theorem dX7_areLines_33 : decode cX7_areLines 33 = .ok (.iconst 1, 1) := by decide +kernel
theorem dX7_areLines_34 : decode cX7_areLines 34 = .ok (.goto 4, 3) := by decide +kernel
theorem dX7_areLines_37 : decode cX7_areLines 37 = .ok (.iconst 0, 1) := by decide +kernel
theorem dX7_areLines_38 : decode cX7_areLines 38 = .ok (.ireturn, 1) := by decide +kernel
theorem dX7_linesNow_0 : decode cX7_linesNow 0 = .ok (.aload_n 0, 1) := by decide +kernel
theorem dX7_linesNow_1 : decode cX7_linesNow 1 = .ok (.iload_n 1, 1) := by decide +kernel
theorem dX7_linesNow_2 : decode cX7_linesNow 2 = .ok (.iload_n 2, 1) := by decide +kernel
theorem dX7_linesNow_3 : decode cX7_linesNow 3 = .ok (.invokevirtual 68, 3) := by decide +kernel
theorem dX7_linesNow_6 : decode cX7_linesNow 6 = .ok (.istore 4, 2) := by decide +kernel
theorem dX7_linesNow_8 : decode cX7_linesNow 8 = .ok (.aload_n 0, 1) := by decide +kernel
theorem dX7_linesNow_9 : decode cX7_linesNow 9 = .ok (.getfield 7, 3) := by decide +kernel
theorem dX7_linesNow_12 : decode cX7_linesNow 12 = .ok (.iconst 1, 1) := by decide +kernel
theorem dX7_linesNow_13 : decode cX7_linesNow 13 = .ok (.iconst 5, 1) := by decide +kernel
theorem dX7_linesNow_14 : decode cX7_linesNow 14 = .ok (.iload_n 1, 1) := by decide +kernel
theorem dX7_linesNow_15 : decode cX7_linesNow 15 = .ok (.imul, 1) := by decide +kernel
theorem dX7_linesNow_16 : decode cX7_linesNow 16 = .ok (.iadd, 1) := by decide +kernel
theorem dX7_linesNow_17 : decode cX7_linesNow 17 = .ok (.iload_n 2, 1) := by decide +kernel
theorem dX7_linesNow_18 : decode cX7_linesNow 18 = .ok (.iadd, 1) := by decide +kernel
theorem dX7_linesNow_19 : decode cX7_linesNow 19 = .ok (.iload_n 3, 1) := by decide +kernel
theorem dX7_linesNow_20 : decode cX7_linesNow 20 = .ok (.iastore, 1) := by decide +kernel
theorem dX7_linesNow_21 : decode cX7_linesNow 21 = .ok (.aload_n 0, 1) := by decide +kernel
theorem dX7_linesNow_22 : decode cX7_linesNow 22 = .ok (.getfield 7, 3) := by decide +kernel
theorem dX7_linesNow_25 : decode cX7_linesNow 25 = .ok (.iconst 1, 1) := by decide +kernel
theorem dX7_linesNow_26 : decode cX7_linesNow 26 = .ok (.iconst 5, 1) := by decide +kernel
theorem dX7_linesNow_27 : decode cX7_linesNow 27 = .ok (.iload_n 2, 1) := by decide +kernel
theorem dX7_linesNow_28 : decode cX7_linesNow 28 = .ok (.imul, 1) := by decide +kernel
theorem dX7_linesNow_29 : decode cX7_linesNow 29 = .ok (.iadd, 1) := by decide +kernel
theorem dX7_linesNow_30 : decode cX7_linesNow 30 = .ok (.iload_n 1, 1) := by decide +kernel
theorem dX7_linesNow_31 : decode cX7_linesNow 31 = .ok (.iadd, 1) := by decide +kernel
theorem dX7_linesNow_32 : decode cX7_linesNow 32 = .ok (.iload_n 3, 1) := by decide +kernel
theorem dX7_linesNow_33 : decode cX7_linesNow 33 = .ok (.iastore, 1) := by decide +kernel
theorem dX7_linesNow_34 : decode cX7_linesNow 34 = .ok (.iload 4, 2) := by decide +kernel
theorem dX7_linesNow_36 : decode cX7_linesNow 36 = .ok (.ireturn, 1) := by decide +kernel
theorem dX7_lines_0 : decode cX7_lines 0 = .ok (.aload_n 0, 1) := by decide +kernel
theorem dX7_lines_1 : decode cX7_lines 1 = .ok (.iload_n 1, 1) := by decide +kernel
theorem dX7_lines_2 : decode cX7_lines 2 = .ok (.iload_n 2, 1) := by decide +kernel
theorem dX7_lines_3 : decode cX7_lines 3 = .ok (.iload_n 3, 1) := by decide +kernel
theorem dX7_lines_4 : decode cX7_lines 4 = .ok (.invokevirtual 95, 3) := by decide +kernel
theorem dX7_lines_7 : decode cX7_lines 7 = .ok (.ifCond .ne 10, 3) := by decide +kernel
theorem dX7_lines_10 : decode cX7_lines 10 = .ok (.aload_n 0, 1) := by decide +kernel
theorem dX7_lines_11 : decode cX7_lines 11 = .ok (.bipush (-2), 2) := by decide +kernel
theorem dX7_lines_13 : decode cX7_lines 13 = .ok (.invokevirtual 80, 3) := by decide +kernel
theorem dX7_lines_16 : decode cX7_lines 16 = .ok (.ireturn, 1) := by decide +kernel
theorem dX7_lines_17 : decode cX7_lines 17 = .ok (.aload_n 0, 1) := by decide +kernel
theorem dX7_lines_18 : decode cX7_lines 18 = .ok (.invokevirtual 83, 3) := by decide +kernel
theorem dX7_lines_21 : decode cX7_lines 21 = .ok (.aload_n 0, 1) := by decide +kernel
theorem dX7_lines_22 : decode cX7_lines 22 = .ok (.iload_n 1, 1) := by decide +kernel
theorem dX7_lines_23 : decode cX7_lines 23 = .ok (.iload_n 2, 1) := by decide +kernel
theorem dX7_lines_24 : decode cX7_lines 24 = .ok (.iload_n 3, 1) := by decide +kernel
theorem dX7_lines_25 : decode cX7_lines 25 = .ok (.invokevirtual 99, 3) := by decide +kernel
theorem dX7_lines_28 : decode cX7_lines 28 = .ok (.ireturn, 1) := by decide +kernel
theorem dX7_draws_0 : decode cX7_draws 0 = .ok (.iload_n 1, 1) := by decide +kernel
theorem dX7_draws_1 : decode cX7_draws 1 = .ok (.i2l, 1) := by decide +kernel
theorem dX7_draws_2 : decode cX7_draws 2 = .ok (.lconst 0, 1) := by decide +kernel
theorem dX7_draws_3 : decode cX7_draws 3 = .ok (.ldc2_w 103, 3) := by decide +kernel
theorem dX7_draws_6 : decode cX7_draws 6 = .ok (.invokestatic 64, 3) := by decide +kernel
theorem dX7_draws_9 : decode cX7_draws 9 = .ok (.ifCond .ne 10, 3) := by decide +kernel
theorem dX7_draws_12 : decode cX7_draws 12 = .ok (.aload_n 0, 1) := by decide +kernel
theorem dX7_draws_13 : decode cX7_draws 13 = .ok (.bipush (-2), 2) := by decide +kernel
theorem dX7_draws_15 : decode cX7_draws 15 = .ok (.invokevirtual 80, 3) := by decide +kernel
theorem dX7_draws_18 : decode cX7_draws 18 = .ok (.ireturn, 1) := by decide +kernel
theorem dX7_draws_19 : decode cX7_draws 19 = .ok (.aload_n 0, 1) := by decide +kernel
theorem dX7_draws_20 : decode cX7_draws 20 = .ok (.invokevirtual 83, 3) := by decide +kernel
theorem dX7_draws_23 : decode cX7_draws 23 = .ok (.iload_n 1, 1) := by decide +kernel
theorem dX7_draws_24 : decode cX7_draws 24 = .ok (.i2l, 1) := by decide +kernel
theorem dX7_draws_25 : decode cX7_draws 25 = .ok (.lstore_n 2, 1) := by decide +kernel
theorem dX7_draws_26 : decode cX7_draws 26 = .ok (.iconst 1, 1) := by decide +kernel
theorem dX7_draws_27 : decode cX7_draws 27 = .ok (.istore 4, 2) := by decide +kernel
theorem dX7_draws_29 : decode cX7_draws 29 = .ok (.iload 4, 2) := by decide +kernel
theorem dX7_draws_31 : decode cX7_draws 31 = .ok (.aload_n 0, 1) := by decide +kernel
theorem dX7_draws_32 : decode cX7_draws 32 = .ok (.invokevirtual 60, 3) := by decide +kernel
theorem dX7_draws_35 : decode cX7_draws 35 = .ok (.if_icmp .ge 59, 3) := by decide +kernel
theorem dX7_draws_38 : decode cX7_draws 38 = .ok (.iconst 0, 1) := by decide +kernel
theorem dX7_draws_39 : decode cX7_draws 39 = .ok (.istore 5, 2) := by decide +kernel
theorem dX7_draws_41 : decode cX7_draws 41 = .ok (.iload 5, 2) := by decide +kernel
theorem dX7_draws_43 : decode cX7_draws 43 = .ok (.iload 4, 2) := by decide +kernel
theorem dX7_draws_45 : decode cX7_draws 45 = .ok (.if_icmp .ge 43, 3) := by decide +kernel
theorem dX7_draws_48 : decode cX7_draws 48 = .ok (.lload_n 2, 1) := by decide +kernel
theorem dX7_draws_49 : decode cX7_draws 49 = .ok (.ldc2_w 105, 3) := by decide +kernel
theorem dX7_draws_52 : decode cX7_draws 52 = .ok (.lmul, 1) := by decide +kernel
theorem dX7_draws_53 : decode cX7_draws 53 = .ok (.ldc2_w 107, 3) := by decide +kernel
theorem dX7_draws_56 : decode cX7_draws 56 = .ok (.ladd, 1) := by decide +kernel
theorem dX7_draws_57 : decode cX7_draws 57 = .ok (.ldc2_w 109, 3) := by decide +kernel
theorem dX7_draws_60 : decode cX7_draws 60 = .ok (.lrem, 1) := by decide +kernel
theorem dX7_draws_61 : decode cX7_draws 61 = .ok (.lstore_n 2, 1) := by decide +kernel
theorem dX7_draws_62 : decode cX7_draws 62 = .ok (.aload_n 0, 1) := by decide +kernel
theorem dX7_draws_63 : decode cX7_draws 63 = .ok (.iload 5, 2) := by decide +kernel
theorem dX7_draws_65 : decode cX7_draws 65 = .ok (.iload 4, 2) := by decide +kernel
theorem dX7_draws_67 : decode cX7_draws 67 = .ok (.lload_n 2, 1) := by decide +kernel
theorem dX7_draws_68 : decode cX7_draws 68 = .ok (.ldc2_w 111, 3) := by decide +kernel
theorem dX7_draws_71 : decode cX7_draws 71 = .ok (.ldiv, 1) := by decide +kernel
theorem dX7_draws_72 : decode cX7_draws 72 = .ok (.ldc2_w 93, 3) := by decide +kernel
theorem dX7_draws_75 : decode cX7_draws 75 = .ok (.lrem, 1) := by decide +kernel
theorem dX7_draws_76 : decode cX7_draws 76 = .ok (.l2i, 1) := by decide +kernel
theorem dX7_draws_77 : decode cX7_draws 77 = .ok (.invokevirtual 99, 3) := by decide +kernel
theorem dX7_draws_80 : decode cX7_draws 80 = .ok (.istore 6, 2) := by decide +kernel
theorem dX7_draws_82 : decode cX7_draws 82 = .ok (.iinc 5 1, 3) := by decide +kernel
theorem dX7_draws_85 : decode cX7_draws 85 = .ok (.goto (-44), 3) := by decide +kernel
theorem dX7_draws_88 : decode cX7_draws 88 = .ok (.iinc 4 1, 3) := by decide +kernel
theorem dX7_draws_91 : decode cX7_draws 91 = .ok (.goto (-62), 3) := by decide +kernel
theorem dX7_draws_94 : decode cX7_draws 94 = .ok (.iconst 0, 1) := by decide +kernel
theorem dX7_draws_95 : decode cX7_draws 95 = .ok (.istore 4, 2) := by decide +kernel
theorem dX7_draws_97 : decode cX7_draws 97 = .ok (.iload 4, 2) := by decide +kernel
theorem dX7_draws_99 : decode cX7_draws 99 = .ok (.aload_n 0, 1) := by decide +kernel
theorem dX7_draws_100 : decode cX7_draws 100 = .ok (.invokevirtual 60, 3) := by decide +kernel
theorem dX7_draws_103 : decode cX7_draws 103 = .ok (.if_icmp .ge 43, 3) := by decide +kernel
theorem dX7_draws_106 : decode cX7_draws 106 = .ok (.lload_n 2, 1) := by decide +kernel
theorem dX7_draws_107 : decode cX7_draws 107 = .ok (.ldc2_w 105, 3) := by decide +kernel
theorem dX7_draws_110 : decode cX7_draws 110 = .ok (.lmul, 1) := by decide +kernel
theorem dX7_draws_111 : decode cX7_draws 111 = .ok (.ldc2_w 107, 3) := by decide +kernel
theorem dX7_draws_114 : decode cX7_draws 114 = .ok (.ladd, 1) := by decide +kernel
theorem dX7_draws_115 : decode cX7_draws 115 = .ok (.ldc2_w 109, 3) := by decide +kernel
theorem dX7_draws_118 : decode cX7_draws 118 = .ok (.lrem, 1) := by decide +kernel
theorem dX7_draws_119 : decode cX7_draws 119 = .ok (.lstore_n 2, 1) := by decide +kernel
theorem dX7_draws_120 : decode cX7_draws 120 = .ok (.aload_n 0, 1) := by decide +kernel
theorem dX7_draws_121 : decode cX7_draws 121 = .ok (.getfield 7, 3) := by decide +kernel
theorem dX7_draws_124 : decode cX7_draws 124 = .ok (.bipush 26, 2) := by decide +kernel
theorem dX7_draws_126 : decode cX7_draws 126 = .ok (.iload 4, 2) := by decide +kernel
theorem dX7_draws_128 : decode cX7_draws 128 = .ok (.iadd, 1) := by decide +kernel
theorem dX7_draws_129 : decode cX7_draws 129 = .ok (.lload_n 2, 1) := by decide +kernel
theorem dX7_draws_130 : decode cX7_draws 130 = .ok (.ldc2_w 111, 3) := by decide +kernel
theorem dX7_draws_133 : decode cX7_draws 133 = .ok (.ldiv, 1) := by decide +kernel
theorem dX7_draws_134 : decode cX7_draws 134 = .ok (.ldc2_w 113, 3) := by decide +kernel
theorem dX7_draws_137 : decode cX7_draws 137 = .ok (.lrem, 1) := by decide +kernel
theorem dX7_draws_138 : decode cX7_draws 138 = .ok (.l2i, 1) := by decide +kernel
theorem dX7_draws_139 : decode cX7_draws 139 = .ok (.iastore, 1) := by decide +kernel
theorem dX7_draws_140 : decode cX7_draws 140 = .ok (.iinc 4 1, 3) := by decide +kernel
theorem dX7_draws_143 : decode cX7_draws 143 = .ok (.goto (-46), 3) := by decide +kernel
theorem dX7_draws_146 : decode cX7_draws 146 = .ok (.aload_n 0, 1) := by decide +kernel
theorem dX7_draws_147 : decode cX7_draws 147 = .ok (.invokevirtual 115, 3) := by decide +kernel
theorem dX7_draws_150 : decode cX7_draws 150 = .ok (.ireturn, 1) := by decide +kernel
theorem dX7_net_0 : decode cX7_net 0 = .ok (.aload_n 0, 1) := by decide +kernel
theorem dX7_net_1 : decode cX7_net 1 = .ok (.iload_n 1, 1) := by decide +kernel
theorem dX7_net_2 : decode cX7_net 2 = .ok (.invokevirtual 89, 3) := by decide +kernel
theorem dX7_net_5 : decode cX7_net 5 = .ok (.ifCond .eq 33, 3) := by decide +kernel
theorem dX7_net_8 : decode cX7_net 8 = .ok (.aload_n 0, 1) := by decide +kernel
theorem dX7_net_9 : decode cX7_net 9 = .ok (.iload_n 2, 1) := by decide +kernel
theorem dX7_net_10 : decode cX7_net 10 = .ok (.invokevirtual 89, 3) := by decide +kernel
theorem dX7_net_13 : decode cX7_net 13 = .ok (.ifCond .eq 25, 3) := by decide +kernel
theorem dX7_net_16 : decode cX7_net 16 = .ok (.iload_n 1, 1) := by decide +kernel
theorem dX7_net_17 : decode cX7_net 17 = .ok (.iload_n 2, 1) := by decide +kernel
theorem dX7_net_18 : decode cX7_net 18 = .ok (.if_icmp .ne 11, 3) := by decide +kernel
theorem dX7_net_21 : decode cX7_net 21 = .ok (.aload_n 0, 1) := by decide +kernel
theorem dX7_net_22 : decode cX7_net 22 = .ok (.iload_n 1, 1) := by decide +kernel
theorem dX7_net_23 : decode cX7_net 23 = .ok (.invokevirtual 72, 3) := by decide +kernel
theorem dX7_net_26 : decode cX7_net 26 = .ok (.goto 18, 3) := by decide +kernel
theorem dX7_net_29 : decode cX7_net 29 = .ok (.aload_n 0, 1) := by decide +kernel
theorem dX7_net_30 : decode cX7_net 30 = .ok (.iload_n 1, 1) := by decide +kernel
theorem dX7_net_31 : decode cX7_net 31 = .ok (.iload_n 2, 1) := by decide +kernel
theorem dX7_net_32 : decode cX7_net 32 = .ok (.invokevirtual 68, 3) := by decide +kernel
theorem dX7_net_35 : decode cX7_net 35 = .ok (.goto 9, 3) := by decide +kernel
theorem dX7_net_38 : decode cX7_net 38 = .ok (.aload_n 0, 1) := by decide +kernel
theorem dX7_net_39 : decode cX7_net 39 = .ok (.bipush (-2), 2) := by decide +kernel
theorem dX7_net_41 : decode cX7_net 41 = .ok (.invokevirtual 80, 3) := by decide +kernel
theorem dX7_net_44 : decode cX7_net 44 = .ok (.ireturn, 1) := by decide +kernel
theorem dX7_joined_0 : decode cX7_joined 0 = .ok (.aload_n 0, 1) := by decide +kernel
theorem dX7_joined_1 : decode cX7_joined 1 = .ok (.invokevirtual 118, 3) := by decide +kernel
theorem dX7_joined_4 : decode cX7_joined 4 = .ok (.ifCond .eq 7, 3) := by decide +kernel
theorem dX7_joined_7 : decode cX7_joined 7 = .ok (.iconst 1, 1) := by decide +kernel
theorem dX7_joined_8 : decode cX7_joined 8 = .ok (.goto 4, 3) := by decide +kernel
theorem dX7_joined_11 : decode cX7_joined 11 = .ok (.iconst 0, 1) := by decide +kernel
theorem dX7_joined_12 : decode cX7_joined 12 = .ok (.ireturn, 1) := by decide +kernel
theorem dX7_chips_0 : decode cX7_chips 0 = .ok (.aload_n 0, 1) := by decide +kernel
theorem dX7_chips_1 : decode cX7_chips 1 = .ok (.getfield 7, 3) := by decide +kernel
theorem dX7_chips_4 : decode cX7_chips 4 = .ok (.bipush 26, 2) := by decide +kernel
theorem dX7_chips_6 : decode cX7_chips 6 = .ok (.iload_n 1, 1) := by decide +kernel
theorem dX7_chips_7 : decode cX7_chips 7 = .ok (.iadd, 1) := by decide +kernel
theorem dX7_chips_8 : decode cX7_chips 8 = .ok (.iaload, 1) := by decide +kernel
theorem dX7_chips_9 : decode cX7_chips 9 = .ok (.ireturn, 1) := by decide +kernel
theorem dX7_sets_0 : decode cX7_sets 0 = .ok (.aload_n 0, 1) := by decide +kernel
theorem dX7_sets_1 : decode cX7_sets 1 = .ok (.iload_n 1, 1) := by decide +kernel
theorem dX7_sets_2 : decode cX7_sets 2 = .ok (.invokevirtual 89, 3) := by decide +kernel
theorem dX7_sets_5 : decode cX7_sets 5 = .ok (.ifCond .eq 17, 3) := by decide +kernel
theorem dX7_sets_8 : decode cX7_sets 8 = .ok (.iload_n 2, 1) := by decide +kernel
theorem dX7_sets_9 : decode cX7_sets 9 = .ok (.i2l, 1) := by decide +kernel
theorem dX7_sets_10 : decode cX7_sets 10 = .ok (.ldc2_w 122, 3) := by decide +kernel
theorem dX7_sets_13 : decode cX7_sets 13 = .ok (.ldc2_w 124, 3) := by decide +kernel
theorem dX7_sets_16 : decode cX7_sets 16 = .ok (.invokestatic 64, 3) := by decide +kernel
theorem dX7_sets_19 : decode cX7_sets 19 = .ok (.ifCond .ne 10, 3) := by decide +kernel
theorem dX7_sets_22 : decode cX7_sets 22 = .ok (.aload_n 0, 1) := by decide +kernel
theorem dX7_sets_23 : decode cX7_sets 23 = .ok (.bipush (-2), 2) := by decide +kernel
theorem dX7_sets_25 : decode cX7_sets 25 = .ok (.invokevirtual 80, 3) := by decide +kernel
theorem dX7_sets_28 : decode cX7_sets 28 = .ok (.ireturn, 1) := by decide +kernel
theorem dX7_sets_29 : decode cX7_sets 29 = .ok (.aload_n 0, 1) := by decide +kernel
theorem dX7_sets_30 : decode cX7_sets 30 = .ok (.invokevirtual 83, 3) := by decide +kernel
theorem dX7_sets_33 : decode cX7_sets 33 = .ok (.aload_n 0, 1) := by decide +kernel
theorem dX7_sets_34 : decode cX7_sets 34 = .ok (.iload_n 1, 1) := by decide +kernel
theorem dX7_sets_35 : decode cX7_sets 35 = .ok (.invokevirtual 126, 3) := by decide +kernel
theorem dX7_sets_38 : decode cX7_sets 38 = .ok (.istore_n 3, 1) := by decide +kernel
theorem dX7_sets_39 : decode cX7_sets 39 = .ok (.aload_n 0, 1) := by decide +kernel
theorem dX7_sets_40 : decode cX7_sets 40 = .ok (.getfield 7, 3) := by decide +kernel
theorem dX7_sets_43 : decode cX7_sets 43 = .ok (.bipush 26, 2) := by decide +kernel
theorem dX7_sets_45 : decode cX7_sets 45 = .ok (.iload_n 1, 1) := by decide +kernel
theorem dX7_sets_46 : decode cX7_sets 46 = .ok (.iadd, 1) := by decide +kernel
theorem dX7_sets_47 : decode cX7_sets 47 = .ok (.iload_n 2, 1) := by decide +kernel
theorem dX7_sets_48 : decode cX7_sets 48 = .ok (.iastore, 1) := by decide +kernel
theorem dX7_sets_49 : decode cX7_sets 49 = .ok (.iload_n 3, 1) := by decide +kernel
theorem dX7_sets_50 : decode cX7_sets 50 = .ok (.ireturn, 1) := by decide +kernel
theorem dX7_isRoom_0 : decode cX7_isRoom 0 = .ok (.iload_n 0, 1) := by decide +kernel
theorem dX7_isRoom_1 : decode cX7_isRoom 1 = .ok (.i2l, 1) := by decide +kernel
theorem dX7_isRoom_2 : decode cX7_isRoom 2 = .ok (.ldc2_w 129, 3) := by decide +kernel
theorem dX7_isRoom_5 : decode cX7_isRoom 5 = .ok (.ldc2_w 131, 3) := by decide +kernel
theorem dX7_isRoom_8 : decode cX7_isRoom 8 = .ok (.invokestatic 64, 3) := by decide +kernel
theorem dX7_isRoom_11 : decode cX7_isRoom 11 = .ok (.ireturn, 1) := by decide +kernel
theorem dX7_canAdd_0 : decode cX7_canAdd 0 = .ok (.aload_n 0, 1) := by decide +kernel
theorem dX7_canAdd_1 : decode cX7_canAdd 1 = .ok (.iload_n 1, 1) := by decide +kernel
theorem dX7_canAdd_2 : decode cX7_canAdd 2 = .ok (.invokevirtual 89, 3) := by decide +kernel
theorem dX7_canAdd_5 : decode cX7_canAdd 5 = .ok (.ifCond .eq 17, 3) := by decide +kernel
theorem dX7_canAdd_8 : decode cX7_canAdd 8 = .ok (.iload_n 2, 1) := by decide +kernel
theorem dX7_canAdd_9 : decode cX7_canAdd 9 = .ok (.i2l, 1) := by decide +kernel
theorem dX7_canAdd_10 : decode cX7_canAdd 10 = .ok (.ldc2_w 122, 3) := by decide +kernel
theorem dX7_canAdd_13 : decode cX7_canAdd 13 = .ok (.ldc2_w 124, 3) := by decide +kernel
theorem dX7_canAdd_16 : decode cX7_canAdd 16 = .ok (.invokestatic 64, 3) := by decide +kernel
theorem dX7_canAdd_19 : decode cX7_canAdd 19 = .ok (.ifCond .ne 8, 3) := by decide +kernel
theorem dX7_canAdd_22 : decode cX7_canAdd 22 = .ok (.bipush (-2), 2) := by decide +kernel
theorem dX7_canAdd_24 : decode cX7_canAdd 24 = .ok (.goto 22, 3) := by decide +kernel
theorem dX7_canAdd_27 : decode cX7_canAdd 27 = .ok (.aload_n 0, 1) := by decide +kernel
theorem dX7_canAdd_28 : decode cX7_canAdd 28 = .ok (.iload_n 1, 1) := by decide +kernel
theorem dX7_canAdd_29 : decode cX7_canAdd 29 = .ok (.invokevirtual 126, 3) := by decide +kernel
theorem dX7_canAdd_32 : decode cX7_canAdd 32 = .ok (.iload_n 2, 1) := by decide +kernel
theorem dX7_canAdd_33 : decode cX7_canAdd 33 = .ok (.iadd, 1) := by decide +kernel
theorem dX7_canAdd_34 : decode cX7_canAdd 34 = .ok (.invokestatic 133, 3) := by decide +kernel
theorem dX7_canAdd_37 : decode cX7_canAdd 37 = .ok (.ifCond .eq 7, 3) := by decide +kernel
theorem dX7_canAdd_40 : decode cX7_canAdd 40 = .ok (.iconst 0, 1) := by decide +kernel
theorem dX7_canAdd_41 : decode cX7_canAdd 41 = .ok (.goto 5, 3) := by decide +kernel
theorem dX7_canAdd_44 : decode cX7_canAdd 44 = .ok (.bipush (-3), 2) := by decide +kernel
theorem dX7_canAdd_46 : decode cX7_canAdd 46 = .ok (.ireturn, 1) := by decide +kernel
theorem dX7_addNow_0 : decode cX7_addNow 0 = .ok (.aload_n 0, 1) := by decide +kernel
theorem dX7_addNow_1 : decode cX7_addNow 1 = .ok (.getfield 7, 3) := by decide +kernel
theorem dX7_addNow_4 : decode cX7_addNow 4 = .ok (.bipush 26, 2) := by decide +kernel
theorem dX7_addNow_6 : decode cX7_addNow 6 = .ok (.iload_n 1, 1) := by decide +kernel
theorem dX7_addNow_7 : decode cX7_addNow 7 = .ok (.iadd, 1) := by decide +kernel
theorem dX7_addNow_8 : decode cX7_addNow 8 = .ok (.dup2, 1) := by decide +kernel
theorem dX7_addNow_9 : decode cX7_addNow 9 = .ok (.iaload, 1) := by decide +kernel
theorem dX7_addNow_10 : decode cX7_addNow 10 = .ok (.iload_n 2, 1) := by decide +kernel
theorem dX7_addNow_11 : decode cX7_addNow 11 = .ok (.iadd, 1) := by decide +kernel
theorem dX7_addNow_12 : decode cX7_addNow 12 = .ok (.iastore, 1) := by decide +kernel
theorem dX7_addNow_13 : decode cX7_addNow 13 = .ok (.aload_n 0, 1) := by decide +kernel
theorem dX7_addNow_14 : decode cX7_addNow 14 = .ok (.iload_n 1, 1) := by decide +kernel
theorem dX7_addNow_15 : decode cX7_addNow 15 = .ok (.invokevirtual 126, 3) := by decide +kernel
theorem dX7_addNow_18 : decode cX7_addNow 18 = .ok (.ireturn, 1) := by decide +kernel
theorem dX7_adds_0 : decode cX7_adds 0 = .ok (.aload_n 0, 1) := by decide +kernel
theorem dX7_adds_1 : decode cX7_adds 1 = .ok (.iload_n 1, 1) := by decide +kernel
theorem dX7_adds_2 : decode cX7_adds 2 = .ok (.iload_n 2, 1) := by decide +kernel
theorem dX7_adds_3 : decode cX7_adds 3 = .ok (.invokevirtual 136, 3) := by decide +kernel
theorem dX7_adds_6 : decode cX7_adds 6 = .ok (.istore_n 3, 1) := by decide +kernel
theorem dX7_adds_7 : decode cX7_adds 7 = .ok (.iload_n 3, 1) := by decide +kernel
theorem dX7_adds_8 : decode cX7_adds 8 = .ok (.ifCond .ge 9, 3) := by decide +kernel
theorem dX7_adds_11 : decode cX7_adds 11 = .ok (.aload_n 0, 1) := by decide +kernel
theorem dX7_adds_12 : decode cX7_adds 12 = .ok (.iload_n 3, 1) := by decide +kernel
theorem dX7_adds_13 : decode cX7_adds 13 = .ok (.invokevirtual 80, 3) := by decide +kernel
theorem dX7_adds_16 : decode cX7_adds 16 = .ok (.ireturn, 1) := by decide +kernel
theorem dX7_adds_17 : decode cX7_adds 17 = .ok (.aload_n 0, 1) := by decide +kernel
theorem dX7_adds_18 : decode cX7_adds 18 = .ok (.invokevirtual 83, 3) := by decide +kernel
theorem dX7_adds_21 : decode cX7_adds 21 = .ok (.aload_n 0, 1) := by decide +kernel
theorem dX7_adds_22 : decode cX7_adds 22 = .ok (.iload_n 1, 1) := by decide +kernel
theorem dX7_adds_23 : decode cX7_adds 23 = .ok (.iload_n 2, 1) := by decide +kernel
theorem dX7_adds_24 : decode cX7_adds 24 = .ok (.invokevirtual 139, 3) := by decide +kernel
theorem dX7_adds_27 : decode cX7_adds 27 = .ok (.ireturn, 1) := by decide +kernel
theorem dX7_more_0 : decode cX7_more 0 = .ok (.iconst 0, 1) := by decide +kernel
theorem dX7_more_1 : decode cX7_more 1 = .ok (.istore 4, 2) := by decide +kernel
theorem dX7_more_3 : decode cX7_more 3 = .ok (.iconst 0, 1) := by decide +kernel
theorem dX7_more_4 : decode cX7_more 4 = .ok (.istore 5, 2) := by decide +kernel
theorem dX7_more_6 : decode cX7_more 6 = .ok (.iload 5, 2) := by decide +kernel
theorem dX7_more_8 : decode cX7_more 8 = .ok (.aload_n 0, 1) := by decide +kernel
theorem dX7_more_9 : decode cX7_more 9 = .ok (.invokevirtual 60, 3) := by decide +kernel
theorem dX7_more_12 : decode cX7_more 12 = .ok (.if_icmp .ge 71, 3) := by decide +kernel
theorem dX7_more_15 : decode cX7_more 15 = .ok (.iload_n 2, 1) := by decide +kernel
theorem dX7_more_16 : decode cX7_more 16 = .ok (.iload 5, 2) := by decide +kernel
theorem dX7_more_18 : decode cX7_more 18 = .ok (.ishr, 1) := by decide +kernel
theorem dX7_more_19 : decode cX7_more 19 = .ok (.iconst 1, 1) := by decide +kernel
theorem dX7_more_20 : decode cX7_more 20 = .ok (.iand, 1) := by decide +kernel
theorem dX7_more_21 : decode cX7_more 21 = .ok (.iconst 1, 1) := by decide +kernel
theorem dX7_more_22 : decode cX7_more 22 = .ok (.if_icmp .ne 7, 3) := by decide +kernel
theorem dX7_more_25 : decode cX7_more 25 = .ok (.iconst 1, 1) := by decide +kernel
theorem dX7_more_26 : decode cX7_more 26 = .ok (.goto 4, 3) := by decide +kernel
theorem dX7_more_29 : decode cX7_more 29 = .ok (.iconst 0, 1) := by decide +kernel
theorem dX7_more_30 : decode cX7_more 30 = .ok (.istore 6, 2) := by decide +kernel
theorem dX7_more_32 : decode cX7_more 32 = .ok (.iload 4, 2) := by decide +kernel
theorem dX7_more_34 : decode cX7_more 34 = .ok (.iload 5, 2) := by decide +kernel
theorem dX7_more_36 : decode cX7_more 36 = .ok (.iload_n 1, 1) := by decide +kernel
theorem dX7_more_37 : decode cX7_more 37 = .ok (.if_icmp .ne 21, 3) := by decide +kernel
theorem dX7_more_40 : decode cX7_more 40 = .ok (.iload 6, 2) := by decide +kernel
theorem dX7_more_42 : decode cX7_more 42 = .ok (.ifCond .eq 12, 3) := by decide +kernel
theorem dX7_more_45 : decode cX7_more 45 = .ok (.aload_n 0, 1) := by decide +kernel
theorem dX7_more_46 : decode cX7_more 46 = .ok (.iload_n 1, 1) := by decide +kernel
theorem dX7_more_47 : decode cX7_more 47 = .ok (.invokevirtual 72, 3) := by decide +kernel
theorem dX7_more_50 : decode cX7_more 50 = .ok (.ineg, 1) := by decide +kernel
theorem dX7_more_51 : decode cX7_more 51 = .ok (.goto 23, 3) := by decide +kernel
theorem dX7_more_54 : decode cX7_more 54 = .ok (.iconst 0, 1) := by decide +kernel
theorem dX7_more_55 : decode cX7_more 55 = .ok (.goto 19, 3) := by decide +kernel
theorem dX7_more_58 : decode cX7_more 58 = .ok (.iload 6, 2) := by decide +kernel
theorem dX7_more_60 : decode cX7_more 60 = .ok (.ifCond .eq 13, 3) := by decide +kernel
theorem dX7_more_63 : decode cX7_more 63 = .ok (.aload_n 0, 1) := by decide +kernel
theorem dX7_more_64 : decode cX7_more 64 = .ok (.iload 5, 2) := by decide +kernel
theorem dX7_more_66 : decode cX7_more 66 = .ok (.iload_n 1, 1) := by decide +kernel
theorem dX7_more_67 : decode cX7_more 67 = .ok (.invokevirtual 68, 3) := by decide +kernel
theorem dX7_more_70 : decode cX7_more 70 = .ok (.goto 4, 3) := by decide +kernel
theorem dX7_more_73 : decode cX7_more 73 = .ok (.iconst 0, 1) := by decide +kernel
theorem dX7_more_74 : decode cX7_more 74 = .ok (.iadd, 1) := by decide +kernel
theorem dX7_more_75 : decode cX7_more 75 = .ok (.istore 4, 2) := by decide +kernel
theorem dX7_more_77 : decode cX7_more 77 = .ok (.iinc 5 1, 3) := by decide +kernel
theorem dX7_more_80 : decode cX7_more 80 = .ok (.goto (-74), 3) := by decide +kernel
theorem dX7_more_83 : decode cX7_more 83 = .ok (.iload_n 3, 1) := by decide +kernel
theorem dX7_more_84 : decode cX7_more 84 = .ok (.iload 4, 2) := by decide +kernel
theorem dX7_more_86 : decode cX7_more 86 = .ok (.imul, 1) := by decide +kernel
theorem dX7_more_87 : decode cX7_more 87 = .ok (.ireturn, 1) := by decide +kernel
theorem dX7_canFire_0 : decode cX7_canFire 0 = .ok (.iload_n 1, 1) := by decide +kernel
theorem dX7_canFire_1 : decode cX7_canFire 1 = .ok (.i2l, 1) := by decide +kernel
theorem dX7_canFire_2 : decode cX7_canFire 2 = .ok (.lconst 1, 1) := by decide +kernel
theorem dX7_canFire_3 : decode cX7_canFire 3 = .ok (.iconst 1, 1) := by decide +kernel
theorem dX7_canFire_4 : decode cX7_canFire 4 = .ok (.aload_n 0, 1) := by decide +kernel
theorem dX7_canFire_5 : decode cX7_canFire 5 = .ok (.invokevirtual 60, 3) := by decide +kernel
theorem dX7_canFire_8 : decode cX7_canFire 8 = .ok (.ishl, 1) := by decide +kernel
theorem dX7_canFire_9 : decode cX7_canFire 9 = .ok (.iconst 1, 1) := by decide +kernel
theorem dX7_canFire_10 : decode cX7_canFire 10 = .ok (.isub, 1) := by decide +kernel
theorem dX7_canFire_11 : decode cX7_canFire 11 = .ok (.i2l, 1) := by decide +kernel
theorem dX7_canFire_12 : decode cX7_canFire 12 = .ok (.invokestatic 64, 3) := by decide +kernel
theorem dX7_canFire_15 : decode cX7_canFire 15 = .ok (.ifCond .ne 6, 3) := by decide +kernel
theorem dX7_canFire_18 : decode cX7_canFire 18 = .ok (.bipush (-2), 2) := by decide +kernel
theorem dX7_canFire_20 : decode cX7_canFire 20 = .ok (.ireturn, 1) := by decide +kernel
theorem dX7_canFire_21 : decode cX7_canFire 21 = .ok (.iconst 0, 1) := by decide +kernel
theorem dX7_canFire_22 : decode cX7_canFire 22 = .ok (.istore_n 3, 1) := by decide +kernel
theorem dX7_canFire_23 : decode cX7_canFire 23 = .ok (.iload_n 3, 1) := by decide +kernel
theorem dX7_canFire_24 : decode cX7_canFire 24 = .ok (.aload_n 0, 1) := by decide +kernel
theorem dX7_canFire_25 : decode cX7_canFire 25 = .ok (.invokevirtual 60, 3) := by decide +kernel
theorem dX7_canFire_28 : decode cX7_canFire 28 = .ok (.if_icmp .ge 31, 3) := by decide +kernel
theorem dX7_canFire_31 : decode cX7_canFire 31 = .ok (.aload_n 0, 1) := by decide +kernel
theorem dX7_canFire_32 : decode cX7_canFire 32 = .ok (.iload_n 3, 1) := by decide +kernel
theorem dX7_canFire_33 : decode cX7_canFire 33 = .ok (.invokevirtual 126, 3) := by decide +kernel
theorem dX7_canFire_36 : decode cX7_canFire 36 = .ok (.aload_n 0, 1) := by decide +kernel
theorem dX7_canFire_37 : decode cX7_canFire 37 = .ok (.iload_n 3, 1) := by decide +kernel
theorem dX7_canFire_38 : decode cX7_canFire 38 = .ok (.iload_n 1, 1) := by decide +kernel
theorem dX7_canFire_39 : decode cX7_canFire 39 = .ok (.iload_n 2, 1) := by decide +kernel
theorem dX7_canFire_40 : decode cX7_canFire 40 = .ok (.invokevirtual 142, 3) := by decide +kernel
theorem dX7_canFire_43 : decode cX7_canFire 43 = .ok (.iadd, 1) := by decide +kernel
theorem dX7_canFire_44 : decode cX7_canFire 44 = .ok (.invokestatic 133, 3) := by decide +kernel
theorem dX7_canFire_47 : decode cX7_canFire 47 = .ok (.ifCond .ne 6, 3) := by decide +kernel
theorem dX7_canFire_50 : decode cX7_canFire 50 = .ok (.bipush (-3), 2) := by decide +kernel
theorem dX7_canFire_52 : decode cX7_canFire 52 = .ok (.ireturn, 1) := by decide +kernel
theorem dX7_canFire_53 : decode cX7_canFire 53 = .ok (.iinc 3 1, 3) := by decide +kernel
theorem dX7_canFire_56 : decode cX7_canFire 56 = .ok (.goto (-33), 3) := by decide +kernel
theorem dX7_canFire_59 : decode cX7_canFire 59 = .ok (.iconst 0, 1) := by decide +kernel
theorem dX7_canFire_60 : decode cX7_canFire 60 = .ok (.ireturn, 1) := by decide +kernel
theorem dX7_fireNow_0 : decode cX7_fireNow 0 = .ok (.iconst 0, 1) := by decide +kernel
theorem dX7_fireNow_1 : decode cX7_fireNow 1 = .ok (.istore_n 3, 1) := by decide +kernel
theorem dX7_fireNow_2 : decode cX7_fireNow 2 = .ok (.iconst 0, 1) := by decide +kernel
theorem dX7_fireNow_3 : decode cX7_fireNow 3 = .ok (.istore 4, 2) := by decide +kernel
theorem dX7_fireNow_5 : decode cX7_fireNow 5 = .ok (.iload 4, 2) := by decide +kernel
theorem dX7_fireNow_7 : decode cX7_fireNow 7 = .ok (.aload_n 0, 1) := by decide +kernel
theorem dX7_fireNow_8 : decode cX7_fireNow 8 = .ok (.invokevirtual 60, 3) := by decide +kernel
theorem dX7_fireNow_11 : decode cX7_fireNow 11 = .ok (.if_icmp .ge 47, 3) := by decide +kernel
theorem dX7_fireNow_14 : decode cX7_fireNow 14 = .ok (.aload_n 0, 1) := by decide +kernel
theorem dX7_fireNow_15 : decode cX7_fireNow 15 = .ok (.iload 4, 2) := by decide +kernel
theorem dX7_fireNow_17 : decode cX7_fireNow 17 = .ok (.iload_n 1, 1) := by decide +kernel
theorem dX7_fireNow_18 : decode cX7_fireNow 18 = .ok (.iload_n 2, 1) := by decide +kernel
theorem dX7_fireNow_19 : decode cX7_fireNow 19 = .ok (.invokevirtual 142, 3) := by decide +kernel
theorem dX7_fireNow_22 : decode cX7_fireNow 22 = .ok (.istore 5, 2) := by decide +kernel
theorem dX7_fireNow_24 : decode cX7_fireNow 24 = .ok (.aload_n 0, 1) := by decide +kernel
theorem dX7_fireNow_25 : decode cX7_fireNow 25 = .ok (.getfield 7, 3) := by decide +kernel
theorem dX7_fireNow_28 : decode cX7_fireNow 28 = .ok (.bipush 26, 2) := by decide +kernel
theorem dX7_fireNow_30 : decode cX7_fireNow 30 = .ok (.iload 4, 2) := by decide +kernel
theorem dX7_fireNow_32 : decode cX7_fireNow 32 = .ok (.iadd, 1) := by decide +kernel
theorem dX7_fireNow_33 : decode cX7_fireNow 33 = .ok (.dup2, 1) := by decide +kernel
theorem dX7_fireNow_34 : decode cX7_fireNow 34 = .ok (.iaload, 1) := by decide +kernel
theorem dX7_fireNow_35 : decode cX7_fireNow 35 = .ok (.iload 5, 2) := by decide +kernel
theorem dX7_fireNow_37 : decode cX7_fireNow 37 = .ok (.iadd, 1) := by decide +kernel
theorem dX7_fireNow_38 : decode cX7_fireNow 38 = .ok (.iastore, 1) := by decide +kernel
theorem dX7_fireNow_39 : decode cX7_fireNow 39 = .ok (.iload_n 3, 1) := by decide +kernel
theorem dX7_fireNow_40 : decode cX7_fireNow 40 = .ok (.iload 5, 2) := by decide +kernel
theorem dX7_fireNow_42 : decode cX7_fireNow 42 = .ok (.ifCond .ne 7, 3) := by decide +kernel
theorem dX7_fireNow_45 : decode cX7_fireNow 45 = .ok (.iconst 0, 1) := by decide +kernel
theorem dX7_fireNow_46 : decode cX7_fireNow 46 = .ok (.goto 4, 3) := by decide +kernel
theorem dX7_fireNow_49 : decode cX7_fireNow 49 = .ok (.iconst 1, 1) := by decide +kernel
theorem dX7_fireNow_50 : decode cX7_fireNow 50 = .ok (.iadd, 1) := by decide +kernel
theorem dX7_fireNow_51 : decode cX7_fireNow 51 = .ok (.istore_n 3, 1) := by decide +kernel
theorem dX7_fireNow_52 : decode cX7_fireNow 52 = .ok (.iinc 4 1, 3) := by decide +kernel
theorem dX7_fireNow_55 : decode cX7_fireNow 55 = .ok (.goto (-50), 3) := by decide +kernel
theorem dX7_fireNow_58 : decode cX7_fireNow 58 = .ok (.iload_n 3, 1) := by decide +kernel
theorem dX7_fireNow_59 : decode cX7_fireNow 59 = .ok (.ireturn, 1) := by decide +kernel
theorem dX7_canFireOne_0 : decode cX7_canFireOne 0 = .ok (.aload_n 0, 1) := by decide +kernel
theorem dX7_canFireOne_1 : decode cX7_canFireOne 1 = .ok (.iload_n 1, 1) := by decide +kernel
theorem dX7_canFireOne_2 : decode cX7_canFireOne 2 = .ok (.invokevirtual 89, 3) := by decide +kernel
theorem dX7_canFireOne_5 : decode cX7_canFireOne 5 = .ok (.ifCond .eq 14, 3) := by decide +kernel
theorem dX7_canFireOne_8 : decode cX7_canFireOne 8 = .ok (.aload_n 0, 1) := by decide +kernel
theorem dX7_canFireOne_9 : decode cX7_canFireOne 9 = .ok (.iconst 1, 1) := by decide +kernel
theorem dX7_canFireOne_10 : decode cX7_canFireOne 10 = .ok (.iload_n 1, 1) := by decide +kernel
theorem dX7_canFireOne_11 : decode cX7_canFireOne 11 = .ok (.ishl, 1) := by decide +kernel
theorem dX7_canFireOne_12 : decode cX7_canFireOne 12 = .ok (.iload_n 2, 1) := by decide +kernel
theorem dX7_canFireOne_13 : decode cX7_canFireOne 13 = .ok (.invokevirtual 145, 3) := by decide +kernel
theorem dX7_canFireOne_16 : decode cX7_canFireOne 16 = .ok (.goto 5, 3) := by decide +kernel
theorem dX7_canFireOne_19 : decode cX7_canFireOne 19 = .ok (.bipush (-2), 2) := by decide +kernel
theorem dX7_canFireOne_21 : decode cX7_canFireOne 21 = .ok (.ireturn, 1) := by decide +kernel
theorem dX7_one_0 : decode cX7_one 0 = .ok (.aload_n 0, 1) := by decide +kernel
theorem dX7_one_1 : decode cX7_one 1 = .ok (.iload_n 1, 1) := by decide +kernel
theorem dX7_one_2 : decode cX7_one 2 = .ok (.iload_n 2, 1) := by decide +kernel
theorem dX7_one_3 : decode cX7_one 3 = .ok (.invokevirtual 148, 3) := by decide +kernel
theorem dX7_one_6 : decode cX7_one 6 = .ok (.istore_n 3, 1) := by decide +kernel
theorem dX7_one_7 : decode cX7_one 7 = .ok (.iload_n 3, 1) := by decide +kernel
theorem dX7_one_8 : decode cX7_one 8 = .ok (.ifCond .ge 9, 3) := by decide +kernel
theorem dX7_one_11 : decode cX7_one 11 = .ok (.aload_n 0, 1) := by decide +kernel
theorem dX7_one_12 : decode cX7_one 12 = .ok (.iload_n 3, 1) := by decide +kernel
theorem dX7_one_13 : decode cX7_one 13 = .ok (.invokevirtual 80, 3) := by decide +kernel
theorem dX7_one_16 : decode cX7_one 16 = .ok (.ireturn, 1) := by decide +kernel
theorem dX7_one_17 : decode cX7_one 17 = .ok (.aload_n 0, 1) := by decide +kernel
theorem dX7_one_18 : decode cX7_one 18 = .ok (.invokevirtual 83, 3) := by decide +kernel
theorem dX7_one_21 : decode cX7_one 21 = .ok (.aload_n 0, 1) := by decide +kernel
theorem dX7_one_22 : decode cX7_one 22 = .ok (.iconst 1, 1) := by decide +kernel
theorem dX7_one_23 : decode cX7_one 23 = .ok (.iload_n 1, 1) := by decide +kernel
theorem dX7_one_24 : decode cX7_one 24 = .ok (.ishl, 1) := by decide +kernel
theorem dX7_one_25 : decode cX7_one 25 = .ok (.iload_n 2, 1) := by decide +kernel
theorem dX7_one_26 : decode cX7_one 26 = .ok (.invokevirtual 151, 3) := by decide +kernel
theorem dX7_one_29 : decode cX7_one 29 = .ok (.istore 4, 2) := by decide +kernel
theorem dX7_one_31 : decode cX7_one 31 = .ok (.iconst 1, 1) := by decide +kernel
theorem dX7_one_32 : decode cX7_one 32 = .ok (.ireturn, 1) := by decide +kernel
theorem dX7_fires_0 : decode cX7_fires 0 = .ok (.aload_n 0, 1) := by decide +kernel
theorem dX7_fires_1 : decode cX7_fires 1 = .ok (.iload_n 1, 1) := by decide +kernel
theorem dX7_fires_2 : decode cX7_fires 2 = .ok (.iconst 1, 1) := by decide +kernel
theorem dX7_fires_3 : decode cX7_fires 3 = .ok (.invokevirtual 154, 3) := by decide +kernel
theorem dX7_fires_6 : decode cX7_fires 6 = .ok (.ireturn, 1) := by decide +kernel
theorem dX7_borrows_0 : decode cX7_borrows 0 = .ok (.aload_n 0, 1) := by decide +kernel
theorem dX7_borrows_1 : decode cX7_borrows 1 = .ok (.iload_n 1, 1) := by decide +kernel
theorem dX7_borrows_2 : decode cX7_borrows 2 = .ok (.iconst (-1), 1) := by decide +kernel
theorem dX7_borrows_3 : decode cX7_borrows 3 = .ok (.invokevirtual 154, 3) := by decide +kernel
theorem dX7_borrows_6 : decode cX7_borrows 6 = .ok (.ireturn, 1) := by decide +kernel
theorem dX7_together_0 : decode cX7_together 0 = .ok (.aload_n 0, 1) := by decide +kernel
theorem dX7_together_1 : decode cX7_together 1 = .ok (.iload_n 1, 1) := by decide +kernel
theorem dX7_together_2 : decode cX7_together 2 = .ok (.iconst 1, 1) := by decide +kernel
theorem dX7_together_3 : decode cX7_together 3 = .ok (.invokevirtual 145, 3) := by decide +kernel
theorem dX7_together_6 : decode cX7_together 6 = .ok (.istore_n 2, 1) := by decide +kernel
theorem dX7_together_7 : decode cX7_together 7 = .ok (.iload_n 2, 1) := by decide +kernel
theorem dX7_together_8 : decode cX7_together 8 = .ok (.ifCond .ge 9, 3) := by decide +kernel
theorem dX7_together_11 : decode cX7_together 11 = .ok (.aload_n 0, 1) := by decide +kernel
theorem dX7_together_12 : decode cX7_together 12 = .ok (.iload_n 2, 1) := by decide +kernel
theorem dX7_together_13 : decode cX7_together 13 = .ok (.invokevirtual 80, 3) := by decide +kernel
theorem dX7_together_16 : decode cX7_together 16 = .ok (.ireturn, 1) := by decide +kernel
theorem dX7_together_17 : decode cX7_together 17 = .ok (.aload_n 0, 1) := by decide +kernel
theorem dX7_together_18 : decode cX7_together 18 = .ok (.invokevirtual 83, 3) := by decide +kernel
theorem dX7_together_21 : decode cX7_together 21 = .ok (.aload_n 0, 1) := by decide +kernel
theorem dX7_together_22 : decode cX7_together 22 = .ok (.iload_n 1, 1) := by decide +kernel
theorem dX7_together_23 : decode cX7_together 23 = .ok (.iconst 1, 1) := by decide +kernel
theorem dX7_together_24 : decode cX7_together 24 = .ok (.invokevirtual 151, 3) := by decide +kernel
theorem dX7_together_27 : decode cX7_together 27 = .ok (.ireturn, 1) := by decide +kernel
theorem dX7_settlesAt_0 : decode cX7_settlesAt 0 = .ok (.iconst 1, 1) := by decide +kernel
theorem dX7_settlesAt_1 : decode cX7_settlesAt 1 = .ok (.istore_n 2, 1) := by decide +kernel
theorem dX7_settlesAt_2 : decode cX7_settlesAt 2 = .ok (.iconst 0, 1) := by decide +kernel
theorem dX7_settlesAt_3 : decode cX7_settlesAt 3 = .ok (.istore_n 3, 1) := by decide +kernel
theorem dX7_settlesAt_4 : decode cX7_settlesAt 4 = .ok (.iload_n 3, 1) := by decide +kernel
theorem dX7_settlesAt_5 : decode cX7_settlesAt 5 = .ok (.aload_n 0, 1) := by decide +kernel
theorem dX7_settlesAt_6 : decode cX7_settlesAt 6 = .ok (.invokevirtual 60, 3) := by decide +kernel
theorem dX7_settlesAt_9 : decode cX7_settlesAt 9 = .ok (.if_icmp .ge 16, 3) := by decide +kernel
theorem dX7_settlesAt_12 : decode cX7_settlesAt 12 = .ok (.aload_n 0, 1) := by decide +kernel
theorem dX7_settlesAt_13 : decode cX7_settlesAt 13 = .ok (.getfield 26, 3) := by decide +kernel
theorem dX7_settlesAt_16 : decode cX7_settlesAt 16 = .ok (.iload_n 3, 1) := by decide +kernel
theorem dX7_settlesAt_17 : decode cX7_settlesAt 17 = .ok (.lconst 0, 1) := by decide +kernel
theorem dX7_settlesAt_18 : decode cX7_settlesAt 18 = .ok (.lastore, 1) := by decide +kernel
theorem dX7_settlesAt_19 : decode cX7_settlesAt 19 = .ok (.iinc 3 1, 3) := by decide +kernel
theorem dX7_settlesAt_22 : decode cX7_settlesAt 22 = .ok (.goto (-18), 3) := by decide +kernel
theorem dX7_settlesAt_25 : decode cX7_settlesAt 25 = .ok (.iload_n 2, 1) := by decide +kernel
theorem dX7_settlesAt_26 : decode cX7_settlesAt 26 = .ok (.ifCond .eq 143, 3) := by decide +kernel
theorem dX7_settlesAt_29 : decode cX7_settlesAt 29 = .ok (.iconst 0, 1) := by decide +kernel
theorem dX7_settlesAt_30 : decode cX7_settlesAt 30 = .ok (.istore_n 2, 1) := by decide +kernel
theorem dX7_settlesAt_31 : decode cX7_settlesAt 31 = .ok (.iconst 0, 1) := by decide +kernel
theorem dX7_settlesAt_32 : decode cX7_settlesAt 32 = .ok (.istore_n 3, 1) := by decide +kernel
theorem dX7_settlesAt_33 : decode cX7_settlesAt 33 = .ok (.iload_n 3, 1) := by decide +kernel
theorem dX7_settlesAt_34 : decode cX7_settlesAt 34 = .ok (.aload_n 0, 1) := by decide +kernel
theorem dX7_settlesAt_35 : decode cX7_settlesAt 35 = .ok (.invokevirtual 60, 3) := by decide +kernel
theorem dX7_settlesAt_38 : decode cX7_settlesAt 38 = .ok (.if_icmp .ge 128, 3) := by decide +kernel
theorem dX7_settlesAt_41 : decode cX7_settlesAt 41 = .ok (.aload_n 0, 1) := by decide +kernel
theorem dX7_settlesAt_42 : decode cX7_settlesAt 42 = .ok (.iload_n 3, 1) := by decide +kernel
theorem dX7_settlesAt_43 : decode cX7_settlesAt 43 = .ok (.invokevirtual 72, 3) := by decide +kernel
theorem dX7_settlesAt_46 : decode cX7_settlesAt 46 = .ok (.istore 4, 2) := by decide +kernel
theorem dX7_settlesAt_48 : decode cX7_settlesAt 48 = .ok (.iload_n 3, 1) := by decide +kernel
theorem dX7_settlesAt_49 : decode cX7_settlesAt 49 = .ok (.iload_n 1, 1) := by decide +kernel
theorem dX7_settlesAt_50 : decode cX7_settlesAt 50 = .ok (.if_icmp .eq 110, 3) := by decide +kernel
theorem dX7_settlesAt_53 : decode cX7_settlesAt 53 = .ok (.iload 4, 2) := by decide +kernel
theorem dX7_settlesAt_55 : decode cX7_settlesAt 55 = .ok (.ifCond .le 105, 3) := by decide +kernel
theorem dX7_settlesAt_58 : decode cX7_settlesAt 58 = .ok (.aload_n 0, 1) := by decide +kernel
theorem dX7_settlesAt_59 : decode cX7_settlesAt 59 = .ok (.getfield 22, 3) := by decide +kernel
theorem dX7_settlesAt_62 : decode cX7_settlesAt 62 = .ok (.iload_n 3, 1) := by decide +kernel
theorem dX7_settlesAt_63 : decode cX7_settlesAt 63 = .ok (.laload, 1) := by decide +kernel
theorem dX7_settlesAt_64 : decode cX7_settlesAt 64 = .ok (.iload 4, 2) := by decide +kernel
theorem dX7_settlesAt_66 : decode cX7_settlesAt 66 = .ok (.i2l, 1) := by decide +kernel
theorem dX7_settlesAt_67 : decode cX7_settlesAt 67 = .ok (.lcmp, 1) := by decide +kernel
theorem dX7_settlesAt_68 : decode cX7_settlesAt 68 = .ok (.ifCond .lt 92, 3) := by decide +kernel
theorem dX7_settlesAt_71 : decode cX7_settlesAt 71 = .ok (.aload_n 0, 1) := by decide +kernel
theorem dX7_settlesAt_72 : decode cX7_settlesAt 72 = .ok (.getfield 22, 3) := by decide +kernel
theorem dX7_settlesAt_75 : decode cX7_settlesAt 75 = .ok (.iload_n 3, 1) := by decide +kernel
theorem dX7_settlesAt_76 : decode cX7_settlesAt 76 = .ok (.laload, 1) := by decide +kernel
theorem dX7_settlesAt_77 : decode cX7_settlesAt 77 = .ok (.iload 4, 2) := by decide +kernel
theorem dX7_settlesAt_79 : decode cX7_settlesAt 79 = .ok (.i2l, 1) := by decide +kernel
theorem dX7_settlesAt_80 : decode cX7_settlesAt 80 = .ok (.ldiv, 1) := by decide +kernel
theorem dX7_settlesAt_81 : decode cX7_settlesAt 81 = .ok (.lstore 5, 2) := by decide +kernel
theorem dX7_settlesAt_83 : decode cX7_settlesAt 83 = .ok (.aload_n 0, 1) := by decide +kernel
theorem dX7_settlesAt_84 : decode cX7_settlesAt 84 = .ok (.getfield 26, 3) := by decide +kernel
theorem dX7_settlesAt_87 : decode cX7_settlesAt 87 = .ok (.iload_n 3, 1) := by decide +kernel
theorem dX7_settlesAt_88 : decode cX7_settlesAt 88 = .ok (.dup2, 1) := by decide +kernel
theorem dX7_settlesAt_89 : decode cX7_settlesAt 89 = .ok (.laload, 1) := by decide +kernel
theorem dX7_settlesAt_90 : decode cX7_settlesAt 90 = .ok (.lload 5, 2) := by decide +kernel
theorem dX7_settlesAt_92 : decode cX7_settlesAt 92 = .ok (.ladd, 1) := by decide +kernel
theorem dX7_settlesAt_93 : decode cX7_settlesAt 93 = .ok (.lastore, 1) := by decide +kernel
theorem dX7_settlesAt_94 : decode cX7_settlesAt 94 = .ok (.aload_n 0, 1) := by decide +kernel
theorem dX7_settlesAt_95 : decode cX7_settlesAt 95 = .ok (.getfield 22, 3) := by decide +kernel
theorem dX7_settlesAt_98 : decode cX7_settlesAt 98 = .ok (.iload_n 3, 1) := by decide +kernel
theorem dX7_settlesAt_99 : decode cX7_settlesAt 99 = .ok (.dup2, 1) := by decide +kernel
theorem dX7_settlesAt_100 : decode cX7_settlesAt 100 = .ok (.laload, 1) := by decide +kernel
theorem dX7_settlesAt_101 : decode cX7_settlesAt 101 = .ok (.lload 5, 2) := by decide +kernel
theorem dX7_settlesAt_103 : decode cX7_settlesAt 103 = .ok (.iload 4, 2) := by decide +kernel
theorem dX7_settlesAt_105 : decode cX7_settlesAt 105 = .ok (.i2l, 1) := by decide +kernel
theorem dX7_settlesAt_106 : decode cX7_settlesAt 106 = .ok (.lmul, 1) := by decide +kernel
theorem dX7_settlesAt_107 : decode cX7_settlesAt 107 = .ok (.lsub, 1) := by decide +kernel
theorem dX7_settlesAt_108 : decode cX7_settlesAt 108 = .ok (.lastore, 1) := by decide +kernel
theorem dX7_settlesAt_109 : decode cX7_settlesAt 109 = .ok (.iconst 0, 1) := by decide +kernel
theorem dX7_settlesAt_110 : decode cX7_settlesAt 110 = .ok (.istore 7, 2) := by decide +kernel
theorem dX7_settlesAt_112 : decode cX7_settlesAt 112 = .ok (.iload 7, 2) := by decide +kernel
theorem dX7_settlesAt_114 : decode cX7_settlesAt 114 = .ok (.aload_n 0, 1) := by decide +kernel
theorem dX7_settlesAt_115 : decode cX7_settlesAt 115 = .ok (.invokevirtual 60, 3) := by decide +kernel
theorem dX7_settlesAt_118 : decode cX7_settlesAt 118 = .ok (.if_icmp .ge 40, 3) := by decide +kernel
theorem dX7_settlesAt_121 : decode cX7_settlesAt 121 = .ok (.aload_n 0, 1) := by decide +kernel
theorem dX7_settlesAt_122 : decode cX7_settlesAt 122 = .ok (.getfield 22, 3) := by decide +kernel
theorem dX7_settlesAt_125 : decode cX7_settlesAt 125 = .ok (.iload 7, 2) := by decide +kernel
theorem dX7_settlesAt_127 : decode cX7_settlesAt 127 = .ok (.dup2, 1) := by decide +kernel
theorem dX7_settlesAt_128 : decode cX7_settlesAt 128 = .ok (.laload, 1) := by decide +kernel
theorem dX7_settlesAt_129 : decode cX7_settlesAt 129 = .ok (.iload 7, 2) := by decide +kernel
theorem dX7_settlesAt_131 : decode cX7_settlesAt 131 = .ok (.iload_n 3, 1) := by decide +kernel
theorem dX7_settlesAt_132 : decode cX7_settlesAt 132 = .ok (.if_icmp .ne 7, 3) := by decide +kernel
theorem dX7_settlesAt_135 : decode cX7_settlesAt 135 = .ok (.lconst 0, 1) := by decide +kernel
theorem dX7_settlesAt_136 : decode cX7_settlesAt 136 = .ok (.goto 14, 3) := by decide +kernel
theorem dX7_settlesAt_139 : decode cX7_settlesAt 139 = .ok (.lload 5, 2) := by decide +kernel
theorem dX7_settlesAt_141 : decode cX7_settlesAt 141 = .ok (.aload_n 0, 1) := by decide +kernel
theorem dX7_settlesAt_142 : decode cX7_settlesAt 142 = .ok (.iload_n 3, 1) := by decide +kernel
theorem dX7_settlesAt_143 : decode cX7_settlesAt 143 = .ok (.iload 7, 2) := by decide +kernel
theorem dX7_settlesAt_145 : decode cX7_settlesAt 145 = .ok (.invokevirtual 68, 3) := by decide +kernel
theorem dX7_settlesAt_148 : decode cX7_settlesAt 148 = .ok (.i2l, 1) := by decide +kernel
theorem dX7_settlesAt_149 : decode cX7_settlesAt 149 = .ok (.lmul, 1) := by decide +kernel
theorem dX7_settlesAt_150 : decode cX7_settlesAt 150 = .ok (.ladd, 1) := by decide +kernel
theorem dX7_settlesAt_151 : decode cX7_settlesAt 151 = .ok (.lastore, 1) := by decide +kernel
theorem dX7_settlesAt_152 : decode cX7_settlesAt 152 = .ok (.iinc 7 1, 3) := by decide +kernel
theorem dX7_settlesAt_155 : decode cX7_settlesAt 155 = .ok (.goto (-43), 3) := by decide +kernel
theorem dX7_settlesAt_158 : decode cX7_settlesAt 158 = .ok (.iconst 1, 1) := by decide +kernel
theorem dX7_settlesAt_159 : decode cX7_settlesAt 159 = .ok (.istore_n 2, 1) := by decide +kernel
theorem dX7_settlesAt_160 : decode cX7_settlesAt 160 = .ok (.iinc 3 1, 3) := by decide +kernel
theorem dX7_settlesAt_163 : decode cX7_settlesAt 163 = .ok (.goto (-130), 3) := by decide +kernel
theorem dX7_settlesAt_166 : decode cX7_settlesAt 166 = .ok (.goto (-141), 3) := by decide +kernel
theorem dX7_settlesAt_169 : decode cX7_settlesAt 169 = .ok (.return_, 1) := by decide +kernel
theorem dX7_laysChips_0 : decode cX7_laysChips 0 = .ok (.iconst 0, 1) := by decide +kernel
theorem dX7_laysChips_1 : decode cX7_laysChips 1 = .ok (.istore_n 1, 1) := by decide +kernel
theorem dX7_laysChips_2 : decode cX7_laysChips 2 = .ok (.iload_n 1, 1) := by decide +kernel
theorem dX7_laysChips_3 : decode cX7_laysChips 3 = .ok (.aload_n 0, 1) := by decide +kernel
theorem dX7_laysChips_4 : decode cX7_laysChips 4 = .ok (.invokevirtual 60, 3) := by decide +kernel
theorem dX7_laysChips_7 : decode cX7_laysChips 7 = .ok (.if_icmp .ge 21, 3) := by decide +kernel
theorem dX7_laysChips_10 : decode cX7_laysChips 10 = .ok (.aload_n 0, 1) := by decide +kernel
theorem dX7_laysChips_11 : decode cX7_laysChips 11 = .ok (.getfield 22, 3) := by decide +kernel
theorem dX7_laysChips_14 : decode cX7_laysChips 14 = .ok (.iload_n 1, 1) := by decide +kernel
theorem dX7_laysChips_15 : decode cX7_laysChips 15 = .ok (.aload_n 0, 1) := by decide +kernel
theorem dX7_laysChips_16 : decode cX7_laysChips 16 = .ok (.iload_n 1, 1) := by decide +kernel
theorem dX7_laysChips_17 : decode cX7_laysChips 17 = .ok (.invokevirtual 126, 3) := by decide +kernel
theorem dX7_laysChips_20 : decode cX7_laysChips 20 = .ok (.i2l, 1) := by decide +kernel
theorem dX7_laysChips_21 : decode cX7_laysChips 21 = .ok (.lastore, 1) := by decide +kernel
theorem dX7_laysChips_22 : decode cX7_laysChips 22 = .ok (.iinc 1 1, 3) := by decide +kernel
theorem dX7_laysChips_25 : decode cX7_laysChips 25 = .ok (.goto (-23), 3) := by decide +kernel
theorem dX7_laysChips_28 : decode cX7_laysChips 28 = .ok (.return_, 1) := by decide +kernel
theorem dX7_isHeap_0 : decode cX7_isHeap 0 = .ok (.iconst 1, 1) := by decide +kernel
theorem dX7_isHeap_1 : decode cX7_isHeap 1 = .ok (.istore_n 1, 1) := by decide +kernel
theorem dX7_isHeap_2 : decode cX7_isHeap 2 = .ok (.iconst 1, 1) := by decide +kernel
theorem dX7_isHeap_3 : decode cX7_isHeap 3 = .ok (.istore_n 2, 1) := by decide +kernel
theorem dX7_isHeap_4 : decode cX7_isHeap 4 = .ok (.iload_n 2, 1) := by decide +kernel
theorem dX7_isHeap_5 : decode cX7_isHeap 5 = .ok (.aload_n 0, 1) := by decide +kernel
theorem dX7_isHeap_6 : decode cX7_isHeap 6 = .ok (.invokevirtual 60, 3) := by decide +kernel
theorem dX7_isHeap_9 : decode cX7_isHeap 9 = .ok (.if_icmp .ge 27, 3) := by decide +kernel
theorem dX7_isHeap_12 : decode cX7_isHeap 12 = .ok (.iload_n 1, 1) := by decide +kernel
theorem dX7_isHeap_13 : decode cX7_isHeap 13 = .ok (.ifCond .eq 15, 3) := by decide +kernel
theorem dX7_isHeap_16 : decode cX7_isHeap 16 = .ok (.aload_n 0, 1) := by decide +kernel
theorem dX7_isHeap_17 : decode cX7_isHeap 17 = .ok (.iload_n 2, 1) := by decide +kernel
theorem dX7_isHeap_18 : decode cX7_isHeap 18 = .ok (.invokevirtual 126, 3) := by decide +kernel
theorem dX7_isHeap_21 : decode cX7_isHeap 21 = .ok (.ifCond .lt 7, 3) := by decide +kernel
theorem dX7_isHeap_24 : decode cX7_isHeap 24 = .ok (.iconst 1, 1) := by decide +kernel
theorem dX7_isHeap_25 : decode cX7_isHeap 25 = .ok (.goto 4, 3) := by decide +kernel
theorem dX7_isHeap_28 : decode cX7_isHeap 28 = .ok (.iconst 0, 1) := by decide +kernel
theorem dX7_isHeap_29 : decode cX7_isHeap 29 = .ok (.istore_n 1, 1) := by decide +kernel
theorem dX7_isHeap_30 : decode cX7_isHeap 30 = .ok (.iinc 2 1, 3) := by decide +kernel
theorem dX7_isHeap_33 : decode cX7_isHeap 33 = .ok (.goto (-29), 3) := by decide +kernel
theorem dX7_isHeap_36 : decode cX7_isHeap 36 = .ok (.iload_n 1, 1) := by decide +kernel
theorem dX7_isHeap_37 : decode cX7_isHeap 37 = .ok (.ireturn, 1) := by decide +kernel
theorem dX7_canSettle_0 : decode cX7_canSettle 0 = .ok (.aload_n 0, 1) := by decide +kernel
theorem dX7_canSettle_1 : decode cX7_canSettle 1 = .ok (.invokevirtual 118, 3) := by decide +kernel
theorem dX7_canSettle_4 : decode cX7_canSettle 4 = .ok (.ifCond .eq 10, 3) := by decide +kernel
theorem dX7_canSettle_7 : decode cX7_canSettle 7 = .ok (.aload_n 0, 1) := by decide +kernel
theorem dX7_canSettle_8 : decode cX7_canSettle 8 = .ok (.invokevirtual 157, 3) := by decide +kernel
theorem dX7_canSettle_11 : decode cX7_canSettle 11 = .ok (.ifCond .ne 6, 3) := by decide +kernel
theorem dX7_canSettle_14 : decode cX7_canSettle 14 = .ok (.bipush (-3), 2) := by decide +kernel
theorem dX7_canSettle_16 : decode cX7_canSettle 16 = .ok (.ireturn, 1) := by decide +kernel
theorem dX7_canSettle_17 : decode cX7_canSettle 17 = .ok (.aload_n 0, 1) := by decide +kernel
theorem dX7_canSettle_18 : decode cX7_canSettle 18 = .ok (.invokevirtual 160, 3) := by decide +kernel
theorem dX7_canSettle_21 : decode cX7_canSettle 21 = .ok (.aload_n 0, 1) := by decide +kernel
theorem dX7_canSettle_22 : decode cX7_canSettle 22 = .ok (.iconst 0, 1) := by decide +kernel
theorem dX7_canSettle_23 : decode cX7_canSettle 23 = .ok (.invokevirtual 163, 3) := by decide +kernel
theorem dX7_canSettle_26 : decode cX7_canSettle 26 = .ok (.aload_n 0, 1) := by decide +kernel
theorem dX7_canSettle_27 : decode cX7_canSettle 27 = .ok (.getfield 22, 3) := by decide +kernel
theorem dX7_canSettle_30 : decode cX7_canSettle 30 = .ok (.iconst 0, 1) := by decide +kernel
theorem dX7_canSettle_31 : decode cX7_canSettle 31 = .ok (.laload, 1) := by decide +kernel
theorem dX7_canSettle_32 : decode cX7_canSettle 32 = .ok (.ldc2_w 131, 3) := by decide +kernel
theorem dX7_canSettle_35 : decode cX7_canSettle 35 = .ok (.lcmp, 1) := by decide +kernel
theorem dX7_canSettle_36 : decode cX7_canSettle 36 = .ok (.ifCond .le 8, 3) := by decide +kernel
theorem dX7_canSettle_39 : decode cX7_canSettle 39 = .ok (.bipush (-3), 2) := by decide +kernel
theorem dX7_canSettle_41 : decode cX7_canSettle 41 = .ok (.goto 4, 3) := by decide +kernel
theorem dX7_canSettle_44 : decode cX7_canSettle 44 = .ok (.iconst 0, 1) := by decide +kernel
theorem dX7_canSettle_45 : decode cX7_canSettle 45 = .ok (.ireturn, 1) := by decide +kernel
theorem dX7_settleNow_0 : decode cX7_settleNow 0 = .ok (.iconst 0, 1) := by decide +kernel
theorem dX7_settleNow_1 : decode cX7_settleNow 1 = .ok (.istore_n 1, 1) := by decide +kernel
theorem dX7_settleNow_2 : decode cX7_settleNow 2 = .ok (.iconst 0, 1) := by decide +kernel
theorem dX7_settleNow_3 : decode cX7_settleNow 3 = .ok (.istore_n 2, 1) := by decide +kernel
theorem dX7_settleNow_4 : decode cX7_settleNow 4 = .ok (.iload_n 2, 1) := by decide +kernel
theorem dX7_settleNow_5 : decode cX7_settleNow 5 = .ok (.aload_n 0, 1) := by decide +kernel
theorem dX7_settleNow_6 : decode cX7_settleNow 6 = .ok (.invokevirtual 60, 3) := by decide +kernel
theorem dX7_settleNow_9 : decode cX7_settleNow 9 = .ok (.if_icmp .ge 51, 3) := by decide +kernel
theorem dX7_settleNow_12 : decode cX7_settleNow 12 = .ok (.aload_n 0, 1) := by decide +kernel
theorem dX7_settleNow_13 : decode cX7_settleNow 13 = .ok (.getfield 7, 3) := by decide +kernel
theorem dX7_settleNow_16 : decode cX7_settleNow 16 = .ok (.bipush 26, 2) := by decide +kernel
theorem dX7_settleNow_18 : decode cX7_settleNow 18 = .ok (.iload_n 2, 1) := by decide +kernel
theorem dX7_settleNow_19 : decode cX7_settleNow 19 = .ok (.iadd, 1) := by decide +kernel
theorem dX7_settleNow_20 : decode cX7_settleNow 20 = .ok (.aload_n 0, 1) := by decide +kernel
theorem dX7_settleNow_21 : decode cX7_settleNow 21 = .ok (.getfield 22, 3) := by decide +kernel
theorem dX7_settleNow_24 : decode cX7_settleNow 24 = .ok (.iload_n 2, 1) := by decide +kernel
theorem dX7_settleNow_25 : decode cX7_settleNow 25 = .ok (.laload, 1) := by decide +kernel
theorem dX7_settleNow_26 : decode cX7_settleNow 26 = .ok (.l2i, 1) := by decide +kernel
theorem dX7_settleNow_27 : decode cX7_settleNow 27 = .ok (.iastore, 1) := by decide +kernel
theorem dX7_settleNow_28 : decode cX7_settleNow 28 = .ok (.aload_n 0, 1) := by decide +kernel
theorem dX7_settleNow_29 : decode cX7_settleNow 29 = .ok (.getfield 7, 3) := by decide +kernel
theorem dX7_settleNow_32 : decode cX7_settleNow 32 = .ok (.bipush 31, 2) := by decide +kernel
theorem dX7_settleNow_34 : decode cX7_settleNow 34 = .ok (.iload_n 2, 1) := by decide +kernel
theorem dX7_settleNow_35 : decode cX7_settleNow 35 = .ok (.iadd, 1) := by decide +kernel
theorem dX7_settleNow_36 : decode cX7_settleNow 36 = .ok (.aload_n 0, 1) := by decide +kernel
theorem dX7_settleNow_37 : decode cX7_settleNow 37 = .ok (.getfield 26, 3) := by decide +kernel
theorem dX7_settleNow_40 : decode cX7_settleNow 40 = .ok (.iload_n 2, 1) := by decide +kernel
theorem dX7_settleNow_41 : decode cX7_settleNow 41 = .ok (.laload, 1) := by decide +kernel
theorem dX7_settleNow_42 : decode cX7_settleNow 42 = .ok (.l2i, 1) := by decide +kernel
theorem dX7_settleNow_43 : decode cX7_settleNow 43 = .ok (.iastore, 1) := by decide +kernel
theorem dX7_settleNow_44 : decode cX7_settleNow 44 = .ok (.iload_n 1, 1) := by decide +kernel
theorem dX7_settleNow_45 : decode cX7_settleNow 45 = .ok (.aload_n 0, 1) := by decide +kernel
theorem dX7_settleNow_46 : decode cX7_settleNow 46 = .ok (.getfield 26, 3) := by decide +kernel
theorem dX7_settleNow_49 : decode cX7_settleNow 49 = .ok (.iload_n 2, 1) := by decide +kernel
theorem dX7_settleNow_50 : decode cX7_settleNow 50 = .ok (.laload, 1) := by decide +kernel
theorem dX7_settleNow_51 : decode cX7_settleNow 51 = .ok (.l2i, 1) := by decide +kernel
theorem dX7_settleNow_52 : decode cX7_settleNow 52 = .ok (.iadd, 1) := by decide +kernel
theorem dX7_settleNow_53 : decode cX7_settleNow 53 = .ok (.istore_n 1, 1) := by decide +kernel
theorem dX7_settleNow_54 : decode cX7_settleNow 54 = .ok (.iinc 2 1, 3) := by decide +kernel
theorem dX7_settleNow_57 : decode cX7_settleNow 57 = .ok (.goto (-53), 3) := by decide +kernel
theorem dX7_settleNow_60 : decode cX7_settleNow 60 = .ok (.iload_n 1, 1) := by decide +kernel
theorem dX7_settleNow_61 : decode cX7_settleNow 61 = .ok (.ireturn, 1) := by decide +kernel
theorem dX7_settles_0 : decode cX7_settles 0 = .ok (.aload_n 0, 1) := by decide +kernel
theorem dX7_settles_1 : decode cX7_settles 1 = .ok (.invokevirtual 167, 3) := by decide +kernel
theorem dX7_settles_4 : decode cX7_settles 4 = .ok (.istore_n 1, 1) := by decide +kernel
theorem dX7_settles_5 : decode cX7_settles 5 = .ok (.iload_n 1, 1) := by decide +kernel
theorem dX7_settles_6 : decode cX7_settles 6 = .ok (.ifCond .ge 9, 3) := by decide +kernel
theorem dX7_settles_9 : decode cX7_settles 9 = .ok (.aload_n 0, 1) := by decide +kernel
theorem dX7_settles_10 : decode cX7_settles 10 = .ok (.iload_n 1, 1) := by decide +kernel
theorem dX7_settles_11 : decode cX7_settles 11 = .ok (.invokevirtual 80, 3) := by decide +kernel
theorem dX7_settles_14 : decode cX7_settles 14 = .ok (.ireturn, 1) := by decide +kernel
theorem dX7_settles_15 : decode cX7_settles 15 = .ok (.aload_n 0, 1) := by decide +kernel
theorem dX7_settles_16 : decode cX7_settles 16 = .ok (.invokevirtual 83, 3) := by decide +kernel
theorem dX7_settles_19 : decode cX7_settles 19 = .ok (.aload_n 0, 1) := by decide +kernel
theorem dX7_settles_20 : decode cX7_settles 20 = .ok (.invokevirtual 170, 3) := by decide +kernel
theorem dX7_settles_23 : decode cX7_settles 23 = .ok (.ireturn, 1) := by decide +kernel
theorem dX7_script_0 : decode cX7_script 0 = .ok (.aload_n 0, 1) := by decide +kernel
theorem dX7_script_1 : decode cX7_script 1 = .ok (.iload_n 1, 1) := by decide +kernel
theorem dX7_script_2 : decode cX7_script 2 = .ok (.invokevirtual 89, 3) := by decide +kernel
theorem dX7_script_5 : decode cX7_script 5 = .ok (.ifCond .eq 15, 3) := by decide +kernel
theorem dX7_script_8 : decode cX7_script 8 = .ok (.aload_n 0, 1) := by decide +kernel
theorem dX7_script_9 : decode cX7_script 9 = .ok (.getfield 7, 3) := by decide +kernel
theorem dX7_script_12 : decode cX7_script 12 = .ok (.bipush 31, 2) := by decide +kernel
theorem dX7_script_14 : decode cX7_script 14 = .ok (.iload_n 1, 1) := by decide +kernel
theorem dX7_script_15 : decode cX7_script 15 = .ok (.iadd, 1) := by decide +kernel
theorem dX7_script_16 : decode cX7_script 16 = .ok (.iaload, 1) := by decide +kernel
theorem dX7_script_17 : decode cX7_script 17 = .ok (.goto 9, 3) := by decide +kernel
theorem dX7_script_20 : decode cX7_script 20 = .ok (.aload_n 0, 1) := by decide +kernel
theorem dX7_script_21 : decode cX7_script 21 = .ok (.bipush (-2), 2) := by decide +kernel
theorem dX7_script_23 : decode cX7_script 23 = .ok (.invokevirtual 80, 3) := by decide +kernel
theorem dX7_script_26 : decode cX7_script 26 = .ok (.ireturn, 1) := by decide +kernel
theorem dX7_isFull_0 : decode cX7_isFull 0 = .ok (.iload_n 1, 1) := by decide +kernel
theorem dX7_isFull_1 : decode cX7_isFull 1 = .ok (.ifCond .le 28, 3) := by decide +kernel
theorem dX7_isFull_4 : decode cX7_isFull 4 = .ok (.aload_n 0, 1) := by decide +kernel
theorem dX7_isFull_5 : decode cX7_isFull 5 = .ok (.iload_n 1, 1) := by decide +kernel
theorem dX7_isFull_6 : decode cX7_isFull 6 = .ok (.invokevirtual 72, 3) := by decide +kernel
theorem dX7_isFull_9 : decode cX7_isFull 9 = .ok (.ifCond .le 20, 3) := by decide +kernel
theorem dX7_isFull_12 : decode cX7_isFull 12 = .ok (.aload_n 0, 1) := by decide +kernel
theorem dX7_isFull_13 : decode cX7_isFull 13 = .ok (.iload_n 1, 1) := by decide +kernel
theorem dX7_isFull_14 : decode cX7_isFull 14 = .ok (.invokevirtual 126, 3) := by decide +kernel
theorem dX7_isFull_17 : decode cX7_isFull 17 = .ok (.aload_n 0, 1) := by decide +kernel
theorem dX7_isFull_18 : decode cX7_isFull 18 = .ok (.iload_n 1, 1) := by decide +kernel
theorem dX7_isFull_19 : decode cX7_isFull 19 = .ok (.invokevirtual 72, 3) := by decide +kernel
theorem dX7_isFull_22 : decode cX7_isFull 22 = .ok (.if_icmp .lt 7, 3) := by decide +kernel
theorem dX7_isFull_25 : decode cX7_isFull 25 = .ok (.iconst 1, 1) := by decide +kernel
theorem dX7_isFull_26 : decode cX7_isFull 26 = .ok (.goto 4, 3) := by decide +kernel
theorem dX7_isFull_29 : decode cX7_isFull 29 = .ok (.iconst 0, 1) := by decide +kernel
theorem dX7_isFull_30 : decode cX7_isFull 30 = .ok (.ireturn, 1) := by decide +kernel
theorem dX7_ofNow_0 : decode cX7_ofNow 0 = .ok (.iload_n 2, 1) := by decide +kernel
theorem dX7_ofNow_1 : decode cX7_ofNow 1 = .ok (.ifCond .ne 15, 3) := by decide +kernel
theorem dX7_ofNow_4 : decode cX7_ofNow 4 = .ok (.aload_n 0, 1) := by decide +kernel
theorem dX7_ofNow_5 : decode cX7_ofNow 5 = .ok (.iload_n 1, 1) := by decide +kernel
theorem dX7_ofNow_6 : decode cX7_ofNow 6 = .ok (.invokevirtual 126, 3) := by decide +kernel
theorem dX7_ofNow_9 : decode cX7_ofNow 9 = .ok (.sipush 1000, 3) := by decide +kernel
theorem dX7_ofNow_12 : decode cX7_ofNow 12 = .ok (.iadd, 1) := by decide +kernel
theorem dX7_ofNow_13 : decode cX7_ofNow 13 = .ok (.goto 29, 3) := by decide +kernel
theorem dX7_ofNow_16 : decode cX7_ofNow 16 = .ok (.iload_n 2, 1) := by decide +kernel
theorem dX7_ofNow_17 : decode cX7_ofNow 17 = .ok (.iconst 1, 1) := by decide +kernel
theorem dX7_ofNow_18 : decode cX7_ofNow 18 = .ok (.if_icmp .ne 11, 3) := by decide +kernel
theorem dX7_ofNow_21 : decode cX7_ofNow 21 = .ok (.aload_n 0, 1) := by decide +kernel
theorem dX7_ofNow_22 : decode cX7_ofNow 22 = .ok (.iload_n 1, 1) := by decide +kernel
theorem dX7_ofNow_23 : decode cX7_ofNow 23 = .ok (.invokevirtual 72, 3) := by decide +kernel
theorem dX7_ofNow_26 : decode cX7_ofNow 26 = .ok (.goto 16, 3) := by decide +kernel
theorem dX7_ofNow_29 : decode cX7_ofNow 29 = .ok (.aload_n 0, 1) := by decide +kernel
theorem dX7_ofNow_30 : decode cX7_ofNow 30 = .ok (.iload_n 1, 1) := by decide +kernel
theorem dX7_ofNow_31 : decode cX7_ofNow 31 = .ok (.invokevirtual 173, 3) := by decide +kernel
theorem dX7_ofNow_34 : decode cX7_ofNow 34 = .ok (.ifCond .eq 7, 3) := by decide +kernel
theorem dX7_ofNow_37 : decode cX7_ofNow 37 = .ok (.iconst 1, 1) := by decide +kernel
theorem dX7_ofNow_38 : decode cX7_ofNow 38 = .ok (.goto 4, 3) := by decide +kernel
theorem dX7_ofNow_41 : decode cX7_ofNow 41 = .ok (.iconst 0, 1) := by decide +kernel
theorem dX7_ofNow_42 : decode cX7_ofNow 42 = .ok (.ireturn, 1) := by decide +kernel
theorem dX7_of_0 : decode cX7_of 0 = .ok (.aload_n 0, 1) := by decide +kernel
theorem dX7_of_1 : decode cX7_of 1 = .ok (.iload_n 1, 1) := by decide +kernel
theorem dX7_of_2 : decode cX7_of 2 = .ok (.invokevirtual 89, 3) := by decide +kernel
theorem dX7_of_5 : decode cX7_of 5 = .ok (.ifCond .eq 24, 3) := by decide +kernel
theorem dX7_of_8 : decode cX7_of 8 = .ok (.iload_n 2, 1) := by decide +kernel
theorem dX7_of_9 : decode cX7_of 9 = .ok (.i2l, 1) := by decide +kernel
theorem dX7_of_10 : decode cX7_of 10 = .ok (.lconst 0, 1) := by decide +kernel
theorem dX7_of_11 : decode cX7_of 11 = .ok (.ldc2_w 76, 3) := by decide +kernel
theorem dX7_of_14 : decode cX7_of 14 = .ok (.invokestatic 64, 3) := by decide +kernel
theorem dX7_of_17 : decode cX7_of 17 = .ok (.ifCond .eq 12, 3) := by decide +kernel
theorem dX7_of_20 : decode cX7_of 20 = .ok (.aload_n 0, 1) := by decide +kernel
theorem dX7_of_21 : decode cX7_of 21 = .ok (.iload_n 1, 1) := by decide +kernel
theorem dX7_of_22 : decode cX7_of 22 = .ok (.iload_n 2, 1) := by decide +kernel
theorem dX7_of_23 : decode cX7_of 23 = .ok (.invokevirtual 176, 3) := by decide +kernel
theorem dX7_of_26 : decode cX7_of 26 = .ok (.goto 9, 3) := by decide +kernel
theorem dX7_of_29 : decode cX7_of 29 = .ok (.aload_n 0, 1) := by decide +kernel
theorem dX7_of_30 : decode cX7_of 30 = .ok (.bipush (-2), 2) := by decide +kernel
theorem dX7_of_32 : decode cX7_of 32 = .ok (.invokevirtual 80, 3) := by decide +kernel
theorem dX7_of_35 : decode cX7_of 35 = .ok (.ireturn, 1) := by decide +kernel
theorem dX7_isStable_0 : decode cX7_isStable 0 = .ok (.aload_n 0, 1) := by decide +kernel
theorem dX7_isStable_1 : decode cX7_isStable 1 = .ok (.invokevirtual 157, 3) := by decide +kernel
theorem dX7_isStable_4 : decode cX7_isStable 4 = .ok (.istore_n 1, 1) := by decide +kernel
theorem dX7_isStable_5 : decode cX7_isStable 5 = .ok (.iconst 1, 1) := by decide +kernel
theorem dX7_isStable_6 : decode cX7_isStable 6 = .ok (.istore_n 2, 1) := by decide +kernel
theorem dX7_isStable_7 : decode cX7_isStable 7 = .ok (.iload_n 2, 1) := by decide +kernel
theorem dX7_isStable_8 : decode cX7_isStable 8 = .ok (.aload_n 0, 1) := by decide +kernel
theorem dX7_isStable_9 : decode cX7_isStable 9 = .ok (.invokevirtual 60, 3) := by decide +kernel
theorem dX7_isStable_12 : decode cX7_isStable 12 = .ok (.if_icmp .ge 27, 3) := by decide +kernel
theorem dX7_isStable_15 : decode cX7_isStable 15 = .ok (.iload_n 1, 1) := by decide +kernel
theorem dX7_isStable_16 : decode cX7_isStable 16 = .ok (.ifCond .eq 15, 3) := by decide +kernel
theorem dX7_isStable_19 : decode cX7_isStable 19 = .ok (.aload_n 0, 1) := by decide +kernel
theorem dX7_isStable_20 : decode cX7_isStable 20 = .ok (.iload_n 2, 1) := by decide +kernel
theorem dX7_isStable_21 : decode cX7_isStable 21 = .ok (.invokevirtual 173, 3) := by decide +kernel
theorem dX7_isStable_24 : decode cX7_isStable 24 = .ok (.ifCond .ne 7, 3) := by decide +kernel
theorem dX7_isStable_27 : decode cX7_isStable 27 = .ok (.iconst 1, 1) := by decide +kernel
theorem dX7_isStable_28 : decode cX7_isStable 28 = .ok (.goto 4, 3) := by decide +kernel
theorem dX7_isStable_31 : decode cX7_isStable 31 = .ok (.iconst 0, 1) := by decide +kernel
theorem dX7_isStable_32 : decode cX7_isStable 32 = .ok (.istore_n 1, 1) := by decide +kernel
theorem dX7_isStable_33 : decode cX7_isStable 33 = .ok (.iinc 2 1, 3) := by decide +kernel
theorem dX7_isStable_36 : decode cX7_isStable 36 = .ok (.goto (-29), 3) := by decide +kernel
theorem dX7_isStable_39 : decode cX7_isStable 39 = .ok (.iload_n 1, 1) := by decide +kernel
theorem dX7_isStable_40 : decode cX7_isStable 40 = .ok (.ireturn, 1) := by decide +kernel
theorem dX7_stable_0 : decode cX7_stable 0 = .ok (.aload_n 0, 1) := by decide +kernel
theorem dX7_stable_1 : decode cX7_stable 1 = .ok (.invokevirtual 179, 3) := by decide +kernel
theorem dX7_stable_4 : decode cX7_stable 4 = .ok (.ifCond .eq 7, 3) := by decide +kernel
theorem dX7_stable_7 : decode cX7_stable 7 = .ok (.iconst 1, 1) := by decide +kernel
theorem dX7_stable_8 : decode cX7_stable 8 = .ok (.goto 4, 3) := by decide +kernel
theorem dX7_stable_11 : decode cX7_stable 11 = .ok (.iconst 0, 1) := by decide +kernel
theorem dX7_stable_12 : decode cX7_stable 12 = .ok (.ireturn, 1) := by decide +kernel
theorem dX7_linesTo_0 : decode cX7_linesTo 0 = .ok (.iconst 0, 1) := by decide +kernel
theorem dX7_linesTo_1 : decode cX7_linesTo 1 = .ok (.istore_n 3, 1) := by decide +kernel
theorem dX7_linesTo_2 : decode cX7_linesTo 2 = .ok (.iconst 0, 1) := by decide +kernel
theorem dX7_linesTo_3 : decode cX7_linesTo 3 = .ok (.istore 4, 2) := by decide +kernel
theorem dX7_linesTo_5 : decode cX7_linesTo 5 = .ok (.iload 4, 2) := by decide +kernel
theorem dX7_linesTo_7 : decode cX7_linesTo 7 = .ok (.aload_n 0, 1) := by decide +kernel
theorem dX7_linesTo_8 : decode cX7_linesTo 8 = .ok (.invokevirtual 60, 3) := by decide +kernel
theorem dX7_linesTo_11 : decode cX7_linesTo 11 = .ok (.if_icmp .ge 33, 3) := by decide +kernel
theorem dX7_linesTo_14 : decode cX7_linesTo 14 = .ok (.iload_n 3, 1) := by decide +kernel
theorem dX7_linesTo_15 : decode cX7_linesTo 15 = .ok (.iload_n 2, 1) := by decide +kernel
theorem dX7_linesTo_16 : decode cX7_linesTo 16 = .ok (.iload 4, 2) := by decide +kernel
theorem dX7_linesTo_18 : decode cX7_linesTo 18 = .ok (.ishr, 1) := by decide +kernel
theorem dX7_linesTo_19 : decode cX7_linesTo 19 = .ok (.iconst 1, 1) := by decide +kernel
theorem dX7_linesTo_20 : decode cX7_linesTo 20 = .ok (.iand, 1) := by decide +kernel
theorem dX7_linesTo_21 : decode cX7_linesTo 21 = .ok (.iconst 1, 1) := by decide +kernel
theorem dX7_linesTo_22 : decode cX7_linesTo 22 = .ok (.if_icmp .ne 13, 3) := by decide +kernel
theorem dX7_linesTo_25 : decode cX7_linesTo 25 = .ok (.aload_n 0, 1) := by decide +kernel
theorem dX7_linesTo_26 : decode cX7_linesTo 26 = .ok (.iload_n 1, 1) := by decide +kernel
theorem dX7_linesTo_27 : decode cX7_linesTo 27 = .ok (.iload 4, 2) := by decide +kernel
theorem dX7_linesTo_29 : decode cX7_linesTo 29 = .ok (.invokevirtual 68, 3) := by decide +kernel
theorem dX7_linesTo_32 : decode cX7_linesTo 32 = .ok (.goto 4, 3) := by decide +kernel
theorem dX7_linesTo_35 : decode cX7_linesTo 35 = .ok (.iconst 0, 1) := by decide +kernel
theorem dX7_linesTo_36 : decode cX7_linesTo 36 = .ok (.iadd, 1) := by decide +kernel
theorem dX7_linesTo_37 : decode cX7_linesTo 37 = .ok (.istore_n 3, 1) := by decide +kernel
theorem dX7_linesTo_38 : decode cX7_linesTo 38 = .ok (.iinc 4 1, 3) := by decide +kernel
theorem dX7_linesTo_41 : decode cX7_linesTo 41 = .ok (.goto (-36), 3) := by decide +kernel
theorem dX7_linesTo_44 : decode cX7_linesTo 44 = .ok (.iload_n 3, 1) := by decide +kernel
theorem dX7_linesTo_45 : decode cX7_linesTo 45 = .ok (.ireturn, 1) := by decide +kernel
theorem dX7_burnsNow_0 : decode cX7_burnsNow 0 = .ok (.iconst 1, 1) := by decide +kernel
theorem dX7_burnsNow_1 : decode cX7_burnsNow 1 = .ok (.istore_n 2, 1) := by decide +kernel
theorem dX7_burnsNow_2 : decode cX7_burnsNow 2 = .ok (.iconst 0, 1) := by decide +kernel
theorem dX7_burnsNow_3 : decode cX7_burnsNow 3 = .ok (.istore_n 3, 1) := by decide +kernel
theorem dX7_burnsNow_4 : decode cX7_burnsNow 4 = .ok (.iconst 0, 1) := by decide +kernel
theorem dX7_burnsNow_5 : decode cX7_burnsNow 5 = .ok (.istore 4, 2) := by decide +kernel
theorem dX7_burnsNow_7 : decode cX7_burnsNow 7 = .ok (.iload_n 2, 1) := by decide +kernel
theorem dX7_burnsNow_8 : decode cX7_burnsNow 8 = .ok (.iload_n 3, 1) := by decide +kernel
theorem dX7_burnsNow_9 : decode cX7_burnsNow 9 = .ok (.if_icmp .eq 75, 3) := by decide +kernel
theorem dX7_burnsNow_12 : decode cX7_burnsNow 12 = .ok (.iload_n 2, 1) := by decide +kernel
theorem dX7_burnsNow_13 : decode cX7_burnsNow 13 = .ok (.istore_n 3, 1) := by decide +kernel
theorem dX7_burnsNow_14 : decode cX7_burnsNow 14 = .ok (.iconst 1, 1) := by decide +kernel
theorem dX7_burnsNow_15 : decode cX7_burnsNow 15 = .ok (.istore 5, 2) := by decide +kernel
theorem dX7_burnsNow_17 : decode cX7_burnsNow 17 = .ok (.iload 5, 2) := by decide +kernel
theorem dX7_burnsNow_19 : decode cX7_burnsNow 19 = .ok (.aload_n 0, 1) := by decide +kernel
theorem dX7_burnsNow_20 : decode cX7_burnsNow 20 = .ok (.invokevirtual 60, 3) := by decide +kernel
theorem dX7_burnsNow_23 : decode cX7_burnsNow 23 = .ok (.if_icmp .ge 43, 3) := by decide +kernel
theorem dX7_burnsNow_26 : decode cX7_burnsNow 26 = .ok (.iload_n 2, 1) := by decide +kernel
theorem dX7_burnsNow_27 : decode cX7_burnsNow 27 = .ok (.aload_n 0, 1) := by decide +kernel
theorem dX7_burnsNow_28 : decode cX7_burnsNow 28 = .ok (.iload 5, 2) := by decide +kernel
theorem dX7_burnsNow_30 : decode cX7_burnsNow 30 = .ok (.invokevirtual 126, 3) := by decide +kernel
theorem dX7_burnsNow_33 : decode cX7_burnsNow 33 = .ok (.aload_n 0, 1) := by decide +kernel
theorem dX7_burnsNow_34 : decode cX7_burnsNow 34 = .ok (.iload 5, 2) := by decide +kernel
theorem dX7_burnsNow_36 : decode cX7_burnsNow 36 = .ok (.iload_n 3, 1) := by decide +kernel
theorem dX7_burnsNow_37 : decode cX7_burnsNow 37 = .ok (.invokevirtual 182, 3) := by decide +kernel
theorem dX7_burnsNow_40 : decode cX7_burnsNow 40 = .ok (.iadd, 1) := by decide +kernel
theorem dX7_burnsNow_41 : decode cX7_burnsNow 41 = .ok (.aload_n 0, 1) := by decide +kernel
theorem dX7_burnsNow_42 : decode cX7_burnsNow 42 = .ok (.iload 5, 2) := by decide +kernel
theorem dX7_burnsNow_44 : decode cX7_burnsNow 44 = .ok (.invokevirtual 72, 3) := by decide +kernel
theorem dX7_burnsNow_47 : decode cX7_burnsNow 47 = .ok (.if_icmp .lt 10, 3) := by decide +kernel
theorem dX7_burnsNow_50 : decode cX7_burnsNow 50 = .ok (.iconst 1, 1) := by decide +kernel
theorem dX7_burnsNow_51 : decode cX7_burnsNow 51 = .ok (.iload 5, 2) := by decide +kernel
theorem dX7_burnsNow_53 : decode cX7_burnsNow 53 = .ok (.ishl, 1) := by decide +kernel
theorem dX7_burnsNow_54 : decode cX7_burnsNow 54 = .ok (.goto 4, 3) := by decide +kernel
theorem dX7_burnsNow_57 : decode cX7_burnsNow 57 = .ok (.iconst 0, 1) := by decide +kernel
theorem dX7_burnsNow_58 : decode cX7_burnsNow 58 = .ok (.ior, 1) := by decide +kernel
theorem dX7_burnsNow_59 : decode cX7_burnsNow 59 = .ok (.istore_n 2, 1) := by decide +kernel
theorem dX7_burnsNow_60 : decode cX7_burnsNow 60 = .ok (.iinc 5 1, 3) := by decide +kernel
theorem dX7_burnsNow_63 : decode cX7_burnsNow 63 = .ok (.goto (-46), 3) := by decide +kernel
theorem dX7_burnsNow_66 : decode cX7_burnsNow 66 = .ok (.iload 4, 2) := by decide +kernel
theorem dX7_burnsNow_68 : decode cX7_burnsNow 68 = .ok (.iload_n 2, 1) := by decide +kernel
theorem dX7_burnsNow_69 : decode cX7_burnsNow 69 = .ok (.iload_n 3, 1) := by decide +kernel
theorem dX7_burnsNow_70 : decode cX7_burnsNow 70 = .ok (.if_icmp .eq 7, 3) := by decide +kernel
theorem dX7_burnsNow_73 : decode cX7_burnsNow 73 = .ok (.iconst 1, 1) := by decide +kernel
theorem dX7_burnsNow_74 : decode cX7_burnsNow 74 = .ok (.goto 4, 3) := by decide +kernel
theorem dX7_burnsNow_77 : decode cX7_burnsNow 77 = .ok (.iconst 0, 1) := by decide +kernel
theorem dX7_burnsNow_78 : decode cX7_burnsNow 78 = .ok (.iadd, 1) := by decide +kernel
theorem dX7_burnsNow_79 : decode cX7_burnsNow 79 = .ok (.istore 4, 2) := by decide +kernel
theorem dX7_burnsNow_81 : decode cX7_burnsNow 81 = .ok (.goto (-74), 3) := by decide +kernel
theorem dX7_burnsNow_84 : decode cX7_burnsNow 84 = .ok (.iload_n 1, 1) := by decide +kernel
theorem dX7_burnsNow_85 : decode cX7_burnsNow 85 = .ok (.ifCond .ne 7, 3) := by decide +kernel
theorem dX7_burnsNow_88 : decode cX7_burnsNow 88 = .ok (.iload_n 2, 1) := by decide +kernel
theorem dX7_burnsNow_89 : decode cX7_burnsNow 89 = .ok (.goto 30, 3) := by decide +kernel
theorem dX7_burnsNow_92 : decode cX7_burnsNow 92 = .ok (.iload_n 1, 1) := by decide +kernel
theorem dX7_burnsNow_93 : decode cX7_burnsNow 93 = .ok (.iconst 1, 1) := by decide +kernel
theorem dX7_burnsNow_94 : decode cX7_burnsNow 94 = .ok (.if_icmp .ne 8, 3) := by decide +kernel
theorem dX7_burnsNow_97 : decode cX7_burnsNow 97 = .ok (.iload 4, 2) := by decide +kernel
theorem dX7_burnsNow_99 : decode cX7_burnsNow 99 = .ok (.goto 20, 3) := by decide +kernel
theorem dX7_burnsNow_102 : decode cX7_burnsNow 102 = .ok (.iload_n 2, 1) := by decide +kernel
theorem dX7_burnsNow_103 : decode cX7_burnsNow 103 = .ok (.iconst 1, 1) := by decide +kernel
theorem dX7_burnsNow_104 : decode cX7_burnsNow 104 = .ok (.aload_n 0, 1) := by decide +kernel
theorem dX7_burnsNow_105 : decode cX7_burnsNow 105 = .ok (.invokevirtual 60, 3) := by decide +kernel
theorem dX7_burnsNow_108 : decode cX7_burnsNow 108 = .ok (.ishl, 1) := by decide +kernel
theorem dX7_burnsNow_109 : decode cX7_burnsNow 109 = .ok (.iconst 1, 1) := by decide +kernel
theorem dX7_burnsNow_110 : decode cX7_burnsNow 110 = .ok (.isub, 1) := by decide +kernel
theorem dX7_burnsNow_111 : decode cX7_burnsNow 111 = .ok (.if_icmp .ne 7, 3) := by decide +kernel
theorem dX7_burnsNow_114 : decode cX7_burnsNow 114 = .ok (.iconst 1, 1) := by decide +kernel
theorem dX7_burnsNow_115 : decode cX7_burnsNow 115 = .ok (.goto 4, 3) := by decide +kernel
theorem dX7_burnsNow_118 : decode cX7_burnsNow 118 = .ok (.iconst 0, 1) := by decide +kernel
theorem dX7_burnsNow_119 : decode cX7_burnsNow 119 = .ok (.ireturn, 1) := by decide +kernel
theorem dX7_burns_0 : decode cX7_burns 0 = .ok (.iload_n 1, 1) := by decide +kernel
theorem dX7_burns_1 : decode cX7_burns 1 = .ok (.i2l, 1) := by decide +kernel
theorem dX7_burns_2 : decode cX7_burns 2 = .ok (.lconst 0, 1) := by decide +kernel
theorem dX7_burns_3 : decode cX7_burns 3 = .ok (.ldc2_w 76, 3) := by decide +kernel
theorem dX7_burns_6 : decode cX7_burns 6 = .ok (.invokestatic 64, 3) := by decide +kernel
theorem dX7_burns_9 : decode cX7_burns 9 = .ok (.ifCond .ne 10, 3) := by decide +kernel
theorem dX7_burns_12 : decode cX7_burns 12 = .ok (.aload_n 0, 1) := by decide +kernel
theorem dX7_burns_13 : decode cX7_burns 13 = .ok (.bipush (-2), 2) := by decide +kernel
theorem dX7_burns_15 : decode cX7_burns 15 = .ok (.invokevirtual 80, 3) := by decide +kernel
theorem dX7_burns_18 : decode cX7_burns 18 = .ok (.ireturn, 1) := by decide +kernel
theorem dX7_burns_19 : decode cX7_burns 19 = .ok (.aload_n 0, 1) := by decide +kernel
theorem dX7_burns_20 : decode cX7_burns 20 = .ok (.invokevirtual 179, 3) := by decide +kernel
theorem dX7_burns_23 : decode cX7_burns 23 = .ok (.ifCond .eq 11, 3) := by decide +kernel
theorem dX7_burns_26 : decode cX7_burns 26 = .ok (.aload_n 0, 1) := by decide +kernel
theorem dX7_burns_27 : decode cX7_burns 27 = .ok (.iload_n 1, 1) := by decide +kernel
theorem dX7_burns_28 : decode cX7_burns 28 = .ok (.invokevirtual 185, 3) := by decide +kernel
theorem dX7_burns_31 : decode cX7_burns 31 = .ok (.goto 9, 3) := by decide +kernel
theorem dX7_burns_34 : decode cX7_burns 34 = .ok (.aload_n 0, 1) := by decide +kernel
theorem dX7_burns_35 : decode cX7_burns 35 = .ok (.bipush (-3), 2) := by decide +kernel
theorem dX7_burns_37 : decode cX7_burns 37 = .ok (.invokevirtual 80, 3) := by decide +kernel
theorem dX7_burns_40 : decode cX7_burns 40 = .ok (.ireturn, 1) := by decide +kernel
theorem dX7_side_0 : decode cX7_side 0 = .ok (.aload_n 0, 1) := by decide +kernel
theorem dX7_side_1 : decode cX7_side 1 = .ok (.invokevirtual 60, 3) := by decide +kernel
theorem dX7_side_4 : decode cX7_side 4 = .ok (.iconst 1, 1) := by decide +kernel
theorem dX7_side_5 : decode cX7_side 5 = .ok (.isub, 1) := by decide +kernel
theorem dX7_side_6 : decode cX7_side 6 = .ok (.ireturn, 1) := by decide +kernel
theorem dX7_laysTable_0 : decode cX7_laysTable 0 = .ok (.iconst 0, 1) := by decide +kernel
theorem dX7_laysTable_1 : decode cX7_laysTable 1 = .ok (.istore_n 1, 1) := by decide +kernel
theorem dX7_laysTable_2 : decode cX7_laysTable 2 = .ok (.iload_n 1, 1) := by decide +kernel
theorem dX7_laysTable_3 : decode cX7_laysTable 3 = .ok (.aload_n 0, 1) := by decide +kernel
theorem dX7_laysTable_4 : decode cX7_laysTable 4 = .ok (.invokevirtual 188, 3) := by decide +kernel
theorem dX7_laysTable_7 : decode cX7_laysTable 7 = .ok (.if_icmp .ge 63, 3) := by decide +kernel
theorem dX7_laysTable_10 : decode cX7_laysTable 10 = .ok (.iconst 0, 1) := by decide +kernel
theorem dX7_laysTable_11 : decode cX7_laysTable 11 = .ok (.istore_n 2, 1) := by decide +kernel
theorem dX7_laysTable_12 : decode cX7_laysTable 12 = .ok (.iload_n 2, 1) := by decide +kernel
theorem dX7_laysTable_13 : decode cX7_laysTable 13 = .ok (.aload_n 0, 1) := by decide +kernel
theorem dX7_laysTable_14 : decode cX7_laysTable 14 = .ok (.invokevirtual 188, 3) := by decide +kernel
theorem dX7_laysTable_17 : decode cX7_laysTable 17 = .ok (.if_icmp .ge 47, 3) := by decide +kernel
theorem dX7_laysTable_20 : decode cX7_laysTable 20 = .ok (.aload_n 0, 1) := by decide +kernel
theorem dX7_laysTable_21 : decode cX7_laysTable 21 = .ok (.getfield 29, 3) := by decide +kernel
theorem dX7_laysTable_24 : decode cX7_laysTable 24 = .ok (.iconst 4, 1) := by decide +kernel
theorem dX7_laysTable_25 : decode cX7_laysTable 25 = .ok (.iload_n 1, 1) := by decide +kernel
theorem dX7_laysTable_26 : decode cX7_laysTable 26 = .ok (.imul, 1) := by decide +kernel
theorem dX7_laysTable_27 : decode cX7_laysTable 27 = .ok (.iload_n 2, 1) := by decide +kernel
theorem dX7_laysTable_28 : decode cX7_laysTable 28 = .ok (.iadd, 1) := by decide +kernel
theorem dX7_laysTable_29 : decode cX7_laysTable 29 = .ok (.iload_n 1, 1) := by decide +kernel
theorem dX7_laysTable_30 : decode cX7_laysTable 30 = .ok (.iload_n 2, 1) := by decide +kernel
theorem dX7_laysTable_31 : decode cX7_laysTable 31 = .ok (.if_icmp .ne 14, 3) := by decide +kernel
theorem dX7_laysTable_34 : decode cX7_laysTable 34 = .ok (.aload_n 0, 1) := by decide +kernel
theorem dX7_laysTable_35 : decode cX7_laysTable 35 = .ok (.iload_n 1, 1) := by decide +kernel
theorem dX7_laysTable_36 : decode cX7_laysTable 36 = .ok (.iconst 1, 1) := by decide +kernel
theorem dX7_laysTable_37 : decode cX7_laysTable 37 = .ok (.iadd, 1) := by decide +kernel
theorem dX7_laysTable_38 : decode cX7_laysTable 38 = .ok (.invokevirtual 72, 3) := by decide +kernel
theorem dX7_laysTable_41 : decode cX7_laysTable 41 = .ok (.i2l, 1) := by decide +kernel
theorem dX7_laysTable_42 : decode cX7_laysTable 42 = .ok (.goto 15, 3) := by decide +kernel
theorem dX7_laysTable_45 : decode cX7_laysTable 45 = .ok (.aload_n 0, 1) := by decide +kernel
theorem dX7_laysTable_46 : decode cX7_laysTable 46 = .ok (.iload_n 1, 1) := by decide +kernel
theorem dX7_laysTable_47 : decode cX7_laysTable 47 = .ok (.iconst 1, 1) := by decide +kernel
theorem dX7_laysTable_48 : decode cX7_laysTable 48 = .ok (.iadd, 1) := by decide +kernel
theorem dX7_laysTable_49 : decode cX7_laysTable 49 = .ok (.iload_n 2, 1) := by decide +kernel
theorem dX7_laysTable_50 : decode cX7_laysTable 50 = .ok (.iconst 1, 1) := by decide +kernel
theorem dX7_laysTable_51 : decode cX7_laysTable 51 = .ok (.iadd, 1) := by decide +kernel
theorem dX7_laysTable_52 : decode cX7_laysTable 52 = .ok (.invokevirtual 68, 3) := by decide +kernel
theorem dX7_laysTable_55 : decode cX7_laysTable 55 = .ok (.ineg, 1) := by decide +kernel
theorem dX7_laysTable_56 : decode cX7_laysTable 56 = .ok (.i2l, 1) := by decide +kernel
theorem dX7_laysTable_57 : decode cX7_laysTable 57 = .ok (.lastore, 1) := by decide +kernel
theorem dX7_laysTable_58 : decode cX7_laysTable 58 = .ok (.iinc 2 1, 3) := by decide +kernel
theorem dX7_laysTable_61 : decode cX7_laysTable 61 = .ok (.goto (-49), 3) := by decide +kernel
theorem dX7_laysTable_64 : decode cX7_laysTable 64 = .ok (.iinc 1 1, 3) := by decide +kernel
theorem dX7_laysTable_67 : decode cX7_laysTable 67 = .ok (.goto (-65), 3) := by decide +kernel
theorem dX7_laysTable_70 : decode cX7_laysTable 70 = .ok (.return_, 1) := by decide +kernel
theorem dX7_exchangesRows_0 : decode cX7_exchangesRows 0 = .ok (.iconst 0, 1) := by decide +kernel
theorem dX7_exchangesRows_1 : decode cX7_exchangesRows 1 = .ok (.istore_n 3, 1) := by decide +kernel
theorem dX7_exchangesRows_2 : decode cX7_exchangesRows 2 = .ok (.iload_n 3, 1) := by decide +kernel
theorem dX7_exchangesRows_3 : decode cX7_exchangesRows 3 = .ok (.aload_n 0, 1) := by decide +kernel
theorem dX7_exchangesRows_4 : decode cX7_exchangesRows 4 = .ok (.invokevirtual 188, 3) := by decide +kernel
theorem dX7_exchangesRows_7 : decode cX7_exchangesRows 7 = .ok (.if_icmp .ge 53, 3) := by decide +kernel
theorem dX7_exchangesRows_10 : decode cX7_exchangesRows 10 = .ok (.aload_n 0, 1) := by decide +kernel
theorem dX7_exchangesRows_11 : decode cX7_exchangesRows 11 = .ok (.getfield 29, 3) := by decide +kernel
theorem dX7_exchangesRows_14 : decode cX7_exchangesRows 14 = .ok (.iconst 4, 1) := by decide +kernel
theorem dX7_exchangesRows_15 : decode cX7_exchangesRows 15 = .ok (.iload_n 1, 1) := by decide +kernel
theorem dX7_exchangesRows_16 : decode cX7_exchangesRows 16 = .ok (.imul, 1) := by decide +kernel
theorem dX7_exchangesRows_17 : decode cX7_exchangesRows 17 = .ok (.iload_n 3, 1) := by decide +kernel
theorem dX7_exchangesRows_18 : decode cX7_exchangesRows 18 = .ok (.iadd, 1) := by decide +kernel
theorem dX7_exchangesRows_19 : decode cX7_exchangesRows 19 = .ok (.laload, 1) := by decide +kernel
theorem dX7_exchangesRows_20 : decode cX7_exchangesRows 20 = .ok (.lstore 4, 2) := by decide +kernel
theorem dX7_exchangesRows_22 : decode cX7_exchangesRows 22 = .ok (.aload_n 0, 1) := by decide +kernel
theorem dX7_exchangesRows_23 : decode cX7_exchangesRows 23 = .ok (.getfield 29, 3) := by decide +kernel
theorem dX7_exchangesRows_26 : decode cX7_exchangesRows 26 = .ok (.iconst 4, 1) := by decide +kernel
theorem dX7_exchangesRows_27 : decode cX7_exchangesRows 27 = .ok (.iload_n 1, 1) := by decide +kernel
theorem dX7_exchangesRows_28 : decode cX7_exchangesRows 28 = .ok (.imul, 1) := by decide +kernel
theorem dX7_exchangesRows_29 : decode cX7_exchangesRows 29 = .ok (.iload_n 3, 1) := by decide +kernel
theorem dX7_exchangesRows_30 : decode cX7_exchangesRows 30 = .ok (.iadd, 1) := by decide +kernel
theorem dX7_exchangesRows_31 : decode cX7_exchangesRows 31 = .ok (.aload_n 0, 1) := by decide +kernel
theorem dX7_exchangesRows_32 : decode cX7_exchangesRows 32 = .ok (.getfield 29, 3) := by decide +kernel
theorem dX7_exchangesRows_35 : decode cX7_exchangesRows 35 = .ok (.iconst 4, 1) := by decide +kernel
theorem dX7_exchangesRows_36 : decode cX7_exchangesRows 36 = .ok (.iload_n 2, 1) := by decide +kernel
theorem dX7_exchangesRows_37 : decode cX7_exchangesRows 37 = .ok (.imul, 1) := by decide +kernel
theorem dX7_exchangesRows_38 : decode cX7_exchangesRows 38 = .ok (.iload_n 3, 1) := by decide +kernel
theorem dX7_exchangesRows_39 : decode cX7_exchangesRows 39 = .ok (.iadd, 1) := by decide +kernel
theorem dX7_exchangesRows_40 : decode cX7_exchangesRows 40 = .ok (.laload, 1) := by decide +kernel
theorem dX7_exchangesRows_41 : decode cX7_exchangesRows 41 = .ok (.lastore, 1) := by decide +kernel
theorem dX7_exchangesRows_42 : decode cX7_exchangesRows 42 = .ok (.aload_n 0, 1) := by decide +kernel
theorem dX7_exchangesRows_43 : decode cX7_exchangesRows 43 = .ok (.getfield 29, 3) := by decide +kernel
theorem dX7_exchangesRows_46 : decode cX7_exchangesRows 46 = .ok (.iconst 4, 1) := by decide +kernel
theorem dX7_exchangesRows_47 : decode cX7_exchangesRows 47 = .ok (.iload_n 2, 1) := by decide +kernel
theorem dX7_exchangesRows_48 : decode cX7_exchangesRows 48 = .ok (.imul, 1) := by decide +kernel
theorem dX7_exchangesRows_49 : decode cX7_exchangesRows 49 = .ok (.iload_n 3, 1) := by decide +kernel
theorem dX7_exchangesRows_50 : decode cX7_exchangesRows 50 = .ok (.iadd, 1) := by decide +kernel
theorem dX7_exchangesRows_51 : decode cX7_exchangesRows 51 = .ok (.lload 4, 2) := by decide +kernel
theorem dX7_exchangesRows_53 : decode cX7_exchangesRows 53 = .ok (.lastore, 1) := by decide +kernel
theorem dX7_exchangesRows_54 : decode cX7_exchangesRows 54 = .ok (.iinc 3 1, 3) := by decide +kernel
theorem dX7_exchangesRows_57 : decode cX7_exchangesRows 57 = .ok (.goto (-55), 3) := by decide +kernel
theorem dX7_exchangesRows_60 : decode cX7_exchangesRows 60 = .ok (.return_, 1) := by decide +kernel
theorem dX7_exchangesColumns_0 : decode cX7_exchangesColumns 0 = .ok (.iconst 0, 1) := by decide +kernel
theorem dX7_exchangesColumns_1 : decode cX7_exchangesColumns 1 = .ok (.istore_n 3, 1) := by decide +kernel
theorem dX7_exchangesColumns_2 : decode cX7_exchangesColumns 2 = .ok (.iload_n 3, 1) := by decide +kernel
theorem dX7_exchangesColumns_3 : decode cX7_exchangesColumns 3 = .ok (.aload_n 0, 1) := by decide +kernel
theorem dX7_exchangesColumns_4 : decode cX7_exchangesColumns 4 = .ok (.invokevirtual 188, 3) := by decide +kernel
theorem dX7_exchangesColumns_7 : decode cX7_exchangesColumns 7 = .ok (.if_icmp .ge 53, 3) := by decide +kernel
theorem dX7_exchangesColumns_10 : decode cX7_exchangesColumns 10 = .ok (.aload_n 0, 1) := by decide +kernel
theorem dX7_exchangesColumns_11 : decode cX7_exchangesColumns 11 = .ok (.getfield 29, 3) := by decide +kernel
theorem dX7_exchangesColumns_14 : decode cX7_exchangesColumns 14 = .ok (.iconst 4, 1) := by decide +kernel
theorem dX7_exchangesColumns_15 : decode cX7_exchangesColumns 15 = .ok (.iload_n 3, 1) := by decide +kernel
theorem dX7_exchangesColumns_16 : decode cX7_exchangesColumns 16 = .ok (.imul, 1) := by decide +kernel
theorem dX7_exchangesColumns_17 : decode cX7_exchangesColumns 17 = .ok (.iload_n 1, 1) := by decide +kernel
theorem dX7_exchangesColumns_18 : decode cX7_exchangesColumns 18 = .ok (.iadd, 1) := by decide +kernel
theorem dX7_exchangesColumns_19 : decode cX7_exchangesColumns 19 = .ok (.laload, 1) := by decide +kernel
theorem dX7_exchangesColumns_20 : decode cX7_exchangesColumns 20 = .ok (.lstore 4, 2) := by decide +kernel
theorem dX7_exchangesColumns_22 : decode cX7_exchangesColumns 22 = .ok (.aload_n 0, 1) := by decide +kernel
theorem dX7_exchangesColumns_23 : decode cX7_exchangesColumns 23 = .ok (.getfield 29, 3) := by decide +kernel
theorem dX7_exchangesColumns_26 : decode cX7_exchangesColumns 26 = .ok (.iconst 4, 1) := by decide +kernel
theorem dX7_exchangesColumns_27 : decode cX7_exchangesColumns 27 = .ok (.iload_n 3, 1) := by decide +kernel
theorem dX7_exchangesColumns_28 : decode cX7_exchangesColumns 28 = .ok (.imul, 1) := by decide +kernel
theorem dX7_exchangesColumns_29 : decode cX7_exchangesColumns 29 = .ok (.iload_n 1, 1) := by decide +kernel
theorem dX7_exchangesColumns_30 : decode cX7_exchangesColumns 30 = .ok (.iadd, 1) := by decide +kernel
theorem dX7_exchangesColumns_31 : decode cX7_exchangesColumns 31 = .ok (.aload_n 0, 1) := by decide +kernel
theorem dX7_exchangesColumns_32 : decode cX7_exchangesColumns 32 = .ok (.getfield 29, 3) := by decide +kernel
theorem dX7_exchangesColumns_35 : decode cX7_exchangesColumns 35 = .ok (.iconst 4, 1) := by decide +kernel
theorem dX7_exchangesColumns_36 : decode cX7_exchangesColumns 36 = .ok (.iload_n 3, 1) := by decide +kernel
theorem dX7_exchangesColumns_37 : decode cX7_exchangesColumns 37 = .ok (.imul, 1) := by decide +kernel
theorem dX7_exchangesColumns_38 : decode cX7_exchangesColumns 38 = .ok (.iload_n 2, 1) := by decide +kernel
theorem dX7_exchangesColumns_39 : decode cX7_exchangesColumns 39 = .ok (.iadd, 1) := by decide +kernel
theorem dX7_exchangesColumns_40 : decode cX7_exchangesColumns 40 = .ok (.laload, 1) := by decide +kernel
theorem dX7_exchangesColumns_41 : decode cX7_exchangesColumns 41 = .ok (.lastore, 1) := by decide +kernel
theorem dX7_exchangesColumns_42 : decode cX7_exchangesColumns 42 = .ok (.aload_n 0, 1) := by decide +kernel
theorem dX7_exchangesColumns_43 : decode cX7_exchangesColumns 43 = .ok (.getfield 29, 3) := by decide +kernel
theorem dX7_exchangesColumns_46 : decode cX7_exchangesColumns 46 = .ok (.iconst 4, 1) := by decide +kernel
theorem dX7_exchangesColumns_47 : decode cX7_exchangesColumns 47 = .ok (.iload_n 3, 1) := by decide +kernel
theorem dX7_exchangesColumns_48 : decode cX7_exchangesColumns 48 = .ok (.imul, 1) := by decide +kernel
theorem dX7_exchangesColumns_49 : decode cX7_exchangesColumns 49 = .ok (.iload_n 2, 1) := by decide +kernel
theorem dX7_exchangesColumns_50 : decode cX7_exchangesColumns 50 = .ok (.iadd, 1) := by decide +kernel
theorem dX7_exchangesColumns_51 : decode cX7_exchangesColumns 51 = .ok (.lload 4, 2) := by decide +kernel
theorem dX7_exchangesColumns_53 : decode cX7_exchangesColumns 53 = .ok (.lastore, 1) := by decide +kernel
theorem dX7_exchangesColumns_54 : decode cX7_exchangesColumns 54 = .ok (.iinc 3 1, 3) := by decide +kernel
theorem dX7_exchangesColumns_57 : decode cX7_exchangesColumns 57 = .ok (.goto (-55), 3) := by decide +kernel
theorem dX7_exchangesColumns_60 : decode cX7_exchangesColumns 60 = .ok (.return_, 1) := by decide +kernel
theorem dX7_pivotRow_0 : decode cX7_pivotRow 0 = .ok (.iload_n 1, 1) := by decide +kernel
theorem dX7_pivotRow_1 : decode cX7_pivotRow 1 = .ok (.istore_n 2, 1) := by decide +kernel
theorem dX7_pivotRow_2 : decode cX7_pivotRow 2 = .ok (.iload_n 2, 1) := by decide +kernel
theorem dX7_pivotRow_3 : decode cX7_pivotRow 3 = .ok (.aload_n 0, 1) := by decide +kernel
theorem dX7_pivotRow_4 : decode cX7_pivotRow 4 = .ok (.invokevirtual 188, 3) := by decide +kernel
theorem dX7_pivotRow_7 : decode cX7_pivotRow 7 = .ok (.if_icmp .ge 26, 3) := by decide +kernel
theorem dX7_pivotRow_10 : decode cX7_pivotRow 10 = .ok (.aload_n 0, 1) := by decide +kernel
theorem dX7_pivotRow_11 : decode cX7_pivotRow 11 = .ok (.getfield 29, 3) := by decide +kernel
theorem dX7_pivotRow_14 : decode cX7_pivotRow 14 = .ok (.iconst 4, 1) := by decide +kernel
theorem dX7_pivotRow_15 : decode cX7_pivotRow 15 = .ok (.iload_n 2, 1) := by decide +kernel
theorem dX7_pivotRow_16 : decode cX7_pivotRow 16 = .ok (.imul, 1) := by decide +kernel
theorem dX7_pivotRow_17 : decode cX7_pivotRow 17 = .ok (.iload_n 1, 1) := by decide +kernel
theorem dX7_pivotRow_18 : decode cX7_pivotRow 18 = .ok (.iadd, 1) := by decide +kernel
theorem dX7_pivotRow_19 : decode cX7_pivotRow 19 = .ok (.laload, 1) := by decide +kernel
theorem dX7_pivotRow_20 : decode cX7_pivotRow 20 = .ok (.lconst 0, 1) := by decide +kernel
theorem dX7_pivotRow_21 : decode cX7_pivotRow 21 = .ok (.lcmp, 1) := by decide +kernel
theorem dX7_pivotRow_22 : decode cX7_pivotRow 22 = .ok (.ifCond .eq 5, 3) := by decide +kernel
theorem dX7_pivotRow_25 : decode cX7_pivotRow 25 = .ok (.iload_n 2, 1) := by decide +kernel
theorem dX7_pivotRow_26 : decode cX7_pivotRow 26 = .ok (.ireturn, 1) := by decide +kernel
theorem dX7_pivotRow_27 : decode cX7_pivotRow 27 = .ok (.iinc 2 1, 3) := by decide +kernel
theorem dX7_pivotRow_30 : decode cX7_pivotRow 30 = .ok (.goto (-28), 3) := by decide +kernel
theorem dX7_pivotRow_33 : decode cX7_pivotRow 33 = .ok (.iconst (-1), 1) := by decide +kernel
theorem dX7_pivotRow_34 : decode cX7_pivotRow 34 = .ok (.ireturn, 1) := by decide +kernel
theorem dX7_determinant_0 : decode cX7_determinant 0 = .ok (.lconst 1, 1) := by decide +kernel
theorem dX7_determinant_1 : decode cX7_determinant 1 = .ok (.lstore_n 1, 1) := by decide +kernel
theorem dX7_determinant_2 : decode cX7_determinant 2 = .ok (.lconst 1, 1) := by decide +kernel
theorem dX7_determinant_3 : decode cX7_determinant 3 = .ok (.lstore_n 3, 1) := by decide +kernel
theorem dX7_determinant_4 : decode cX7_determinant 4 = .ok (.iconst 0, 1) := by decide +kernel
theorem dX7_determinant_5 : decode cX7_determinant 5 = .ok (.istore 5, 2) := by decide +kernel
theorem dX7_determinant_7 : decode cX7_determinant 7 = .ok (.iload 5, 2) := by decide +kernel
theorem dX7_determinant_9 : decode cX7_determinant 9 = .ok (.aload_n 0, 1) := by decide +kernel
theorem dX7_determinant_10 : decode cX7_determinant 10 = .ok (.invokevirtual 188, 3) := by decide +kernel
theorem dX7_determinant_13 : decode cX7_determinant 13 = .ok (.if_icmp .ge 154, 3) := by decide +kernel
theorem dX7_determinant_16 : decode cX7_determinant 16 = .ok (.aload_n 0, 1) := by decide +kernel
theorem dX7_determinant_17 : decode cX7_determinant 17 = .ok (.iload 5, 2) := by decide +kernel
theorem dX7_determinant_19 : decode cX7_determinant 19 = .ok (.invokevirtual 191, 3) := by decide +kernel
theorem dX7_determinant_22 : decode cX7_determinant 22 = .ok (.istore 6, 2) := by decide +kernel
theorem dX7_determinant_24 : decode cX7_determinant 24 = .ok (.iload 6, 2) := by decide +kernel
theorem dX7_determinant_26 : decode cX7_determinant 26 = .ok (.iconst (-1), 1) := by decide +kernel
theorem dX7_determinant_27 : decode cX7_determinant 27 = .ok (.if_icmp .ne 5, 3) := by decide +kernel
theorem dX7_determinant_30 : decode cX7_determinant 30 = .ok (.lconst 0, 1) := by decide +kernel
theorem dX7_determinant_31 : decode cX7_determinant 31 = .ok (.lreturn, 1) := by decide +kernel
theorem dX7_determinant_32 : decode cX7_determinant 32 = .ok (.iload 6, 2) := by decide +kernel
theorem dX7_determinant_34 : decode cX7_determinant 34 = .ok (.iload 5, 2) := by decide +kernel
theorem dX7_determinant_36 : decode cX7_determinant 36 = .ok (.if_icmp .eq 14, 3) := by decide +kernel
theorem dX7_determinant_39 : decode cX7_determinant 39 = .ok (.aload_n 0, 1) := by decide +kernel
theorem dX7_determinant_40 : decode cX7_determinant 40 = .ok (.iload 6, 2) := by decide +kernel
theorem dX7_determinant_42 : decode cX7_determinant 42 = .ok (.iload 5, 2) := by decide +kernel
theorem dX7_determinant_44 : decode cX7_determinant 44 = .ok (.invokevirtual 194, 3) := by decide +kernel
theorem dX7_determinant_47 : decode cX7_determinant 47 = .ok (.lload_n 3, 1) := by decide +kernel
theorem dX7_determinant_48 : decode cX7_determinant 48 = .ok (.lneg, 1) := by decide +kernel
theorem dX7_determinant_49 : decode cX7_determinant 49 = .ok (.lstore_n 3, 1) := by decide +kernel
theorem dX7_determinant_50 : decode cX7_determinant 50 = .ok (.aload_n 0, 1) := by decide +kernel
theorem dX7_determinant_51 : decode cX7_determinant 51 = .ok (.getfield 29, 3) := by decide +kernel
theorem dX7_determinant_54 : decode cX7_determinant 54 = .ok (.iconst 5, 1) := by decide +kernel
theorem dX7_determinant_55 : decode cX7_determinant 55 = .ok (.iload 5, 2) := by decide +kernel
theorem dX7_determinant_57 : decode cX7_determinant 57 = .ok (.imul, 1) := by decide +kernel
theorem dX7_determinant_58 : decode cX7_determinant 58 = .ok (.laload, 1) := by decide +kernel
theorem dX7_determinant_59 : decode cX7_determinant 59 = .ok (.lstore 7, 2) := by decide +kernel
theorem dX7_determinant_61 : decode cX7_determinant 61 = .ok (.iload 5, 2) := by decide +kernel
theorem dX7_determinant_63 : decode cX7_determinant 63 = .ok (.iconst 1, 1) := by decide +kernel
theorem dX7_determinant_64 : decode cX7_determinant 64 = .ok (.iadd, 1) := by decide +kernel
theorem dX7_determinant_65 : decode cX7_determinant 65 = .ok (.istore 9, 2) := by decide +kernel
theorem dX7_determinant_67 : decode cX7_determinant 67 = .ok (.iload 9, 2) := by decide +kernel
theorem dX7_determinant_69 : decode cX7_determinant 69 = .ok (.aload_n 0, 1) := by decide +kernel
theorem dX7_determinant_70 : decode cX7_determinant 70 = .ok (.invokevirtual 188, 3) := by decide +kernel
theorem dX7_determinant_73 : decode cX7_determinant 73 = .ok (.if_icmp .ge 85, 3) := by decide +kernel
theorem dX7_determinant_76 : decode cX7_determinant 76 = .ok (.iload 5, 2) := by decide +kernel
theorem dX7_determinant_78 : decode cX7_determinant 78 = .ok (.iconst 1, 1) := by decide +kernel
theorem dX7_determinant_79 : decode cX7_determinant 79 = .ok (.iadd, 1) := by decide +kernel
theorem dX7_determinant_80 : decode cX7_determinant 80 = .ok (.istore 10, 2) := by decide +kernel
theorem dX7_determinant_82 : decode cX7_determinant 82 = .ok (.iload 10, 2) := by decide +kernel
theorem dX7_determinant_84 : decode cX7_determinant 84 = .ok (.aload_n 0, 1) := by decide +kernel
theorem dX7_determinant_85 : decode cX7_determinant 85 = .ok (.invokevirtual 188, 3) := by decide +kernel
theorem dX7_determinant_88 : decode cX7_determinant 88 = .ok (.if_icmp .ge 64, 3) := by decide +kernel
theorem dX7_determinant_91 : decode cX7_determinant 91 = .ok (.aload_n 0, 1) := by decide +kernel
theorem dX7_determinant_92 : decode cX7_determinant 92 = .ok (.getfield 29, 3) := by decide +kernel
theorem dX7_determinant_95 : decode cX7_determinant 95 = .ok (.iconst 4, 1) := by decide +kernel
theorem dX7_determinant_96 : decode cX7_determinant 96 = .ok (.iload 9, 2) := by decide +kernel
theorem dX7_determinant_98 : decode cX7_determinant 98 = .ok (.imul, 1) := by decide +kernel
theorem dX7_determinant_99 : decode cX7_determinant 99 = .ok (.iload 10, 2) := by decide +kernel
theorem dX7_determinant_101 : decode cX7_determinant 101 = .ok (.iadd, 1) := by decide +kernel
theorem dX7_determinant_102 : decode cX7_determinant 102 = .ok (.aload_n 0, 1) := by decide +kernel
theorem dX7_determinant_103 : decode cX7_determinant 103 = .ok (.getfield 29, 3) := by decide +kernel
theorem dX7_determinant_106 : decode cX7_determinant 106 = .ok (.iconst 4, 1) := by decide +kernel
theorem dX7_determinant_107 : decode cX7_determinant 107 = .ok (.iload 9, 2) := by decide +kernel
theorem dX7_determinant_109 : decode cX7_determinant 109 = .ok (.imul, 1) := by decide +kernel
theorem dX7_determinant_110 : decode cX7_determinant 110 = .ok (.iload 10, 2) := by decide +kernel
theorem dX7_determinant_112 : decode cX7_determinant 112 = .ok (.iadd, 1) := by decide +kernel
theorem dX7_determinant_113 : decode cX7_determinant 113 = .ok (.laload, 1) := by decide +kernel
theorem dX7_determinant_114 : decode cX7_determinant 114 = .ok (.lload 7, 2) := by decide +kernel
theorem dX7_determinant_116 : decode cX7_determinant 116 = .ok (.lmul, 1) := by decide +kernel
theorem dX7_determinant_117 : decode cX7_determinant 117 = .ok (.aload_n 0, 1) := by decide +kernel
theorem dX7_determinant_118 : decode cX7_determinant 118 = .ok (.getfield 29, 3) := by decide +kernel
theorem dX7_determinant_121 : decode cX7_determinant 121 = .ok (.iconst 4, 1) := by decide +kernel
theorem dX7_determinant_122 : decode cX7_determinant 122 = .ok (.iload 9, 2) := by decide +kernel
theorem dX7_determinant_124 : decode cX7_determinant 124 = .ok (.imul, 1) := by decide +kernel
theorem dX7_determinant_125 : decode cX7_determinant 125 = .ok (.iload 5, 2) := by decide +kernel
theorem dX7_determinant_127 : decode cX7_determinant 127 = .ok (.iadd, 1) := by decide +kernel
theorem dX7_determinant_128 : decode cX7_determinant 128 = .ok (.laload, 1) := by decide +kernel
theorem dX7_determinant_129 : decode cX7_determinant 129 = .ok (.aload_n 0, 1) := by decide +kernel
theorem dX7_determinant_130 : decode cX7_determinant 130 = .ok (.getfield 29, 3) := by decide +kernel
theorem dX7_determinant_133 : decode cX7_determinant 133 = .ok (.iconst 4, 1) := by decide +kernel
theorem dX7_determinant_134 : decode cX7_determinant 134 = .ok (.iload 5, 2) := by decide +kernel
theorem dX7_determinant_136 : decode cX7_determinant 136 = .ok (.imul, 1) := by decide +kernel
theorem dX7_determinant_137 : decode cX7_determinant 137 = .ok (.iload 10, 2) := by decide +kernel
theorem dX7_determinant_139 : decode cX7_determinant 139 = .ok (.iadd, 1) := by decide +kernel
theorem dX7_determinant_140 : decode cX7_determinant 140 = .ok (.laload, 1) := by decide +kernel
theorem dX7_determinant_141 : decode cX7_determinant 141 = .ok (.lmul, 1) := by decide +kernel
theorem dX7_determinant_142 : decode cX7_determinant 142 = .ok (.lsub, 1) := by decide +kernel
theorem dX7_determinant_143 : decode cX7_determinant 143 = .ok (.lload_n 1, 1) := by decide +kernel
theorem dX7_determinant_144 : decode cX7_determinant 144 = .ok (.ldiv, 1) := by decide +kernel
theorem dX7_determinant_145 : decode cX7_determinant 145 = .ok (.lastore, 1) := by decide +kernel
theorem dX7_determinant_146 : decode cX7_determinant 146 = .ok (.iinc 10 1, 3) := by decide +kernel
theorem dX7_determinant_149 : decode cX7_determinant 149 = .ok (.goto (-67), 3) := by decide +kernel
theorem dX7_determinant_152 : decode cX7_determinant 152 = .ok (.iinc 9 1, 3) := by decide +kernel
theorem dX7_determinant_155 : decode cX7_determinant 155 = .ok (.goto (-88), 3) := by decide +kernel
theorem dX7_determinant_158 : decode cX7_determinant 158 = .ok (.lload 7, 2) := by decide +kernel
theorem dX7_determinant_160 : decode cX7_determinant 160 = .ok (.lstore_n 1, 1) := by decide +kernel
theorem dX7_determinant_161 : decode cX7_determinant 161 = .ok (.iinc 5 1, 3) := by decide +kernel
theorem dX7_determinant_164 : decode cX7_determinant 164 = .ok (.goto (-157), 3) := by decide +kernel
theorem dX7_determinant_167 : decode cX7_determinant 167 = .ok (.lload_n 3, 1) := by decide +kernel
theorem dX7_determinant_168 : decode cX7_determinant 168 = .ok (.lload_n 1, 1) := by decide +kernel
theorem dX7_determinant_169 : decode cX7_determinant 169 = .ok (.lmul, 1) := by decide +kernel
theorem dX7_determinant_170 : decode cX7_determinant 170 = .ok (.lreturn, 1) := by decide +kernel
theorem dX7_treesNow_0 : decode cX7_treesNow 0 = .ok (.aload_n 0, 1) := by decide +kernel
theorem dX7_treesNow_1 : decode cX7_treesNow 1 = .ok (.invokevirtual 198, 3) := by decide +kernel
theorem dX7_treesNow_4 : decode cX7_treesNow 4 = .ok (.aload_n 0, 1) := by decide +kernel
theorem dX7_treesNow_5 : decode cX7_treesNow 5 = .ok (.invokevirtual 201, 3) := by decide +kernel
theorem dX7_treesNow_8 : decode cX7_treesNow 8 = .ok (.l2i, 1) := by decide +kernel
theorem dX7_treesNow_9 : decode cX7_treesNow 9 = .ok (.ireturn, 1) := by decide +kernel
theorem dX7_trees_0 : decode cX7_trees 0 = .ok (.aload_n 0, 1) := by decide +kernel
theorem dX7_trees_1 : decode cX7_trees 1 = .ok (.invokevirtual 205, 3) := by decide +kernel
theorem dX7_trees_4 : decode cX7_trees 4 = .ok (.ireturn, 1) := by decide +kernel
theorem dX7_abs_0 : decode cX7_abs 0 = .ok (.lload_n 0, 1) := by decide +kernel
theorem dX7_abs_1 : decode cX7_abs 1 = .ok (.lconst 0, 1) := by decide +kernel
theorem dX7_abs_2 : decode cX7_abs 2 = .ok (.lcmp, 1) := by decide +kernel
theorem dX7_abs_3 : decode cX7_abs 3 = .ok (.ifCond .ge 8, 3) := by decide +kernel
theorem dX7_abs_6 : decode cX7_abs 6 = .ok (.lload_n 0, 1) := by decide +kernel
theorem dX7_abs_7 : decode cX7_abs 7 = .ok (.lneg, 1) := by decide +kernel
theorem dX7_abs_8 : decode cX7_abs 8 = .ok (.goto 4, 3) := by decide +kernel
theorem dX7_abs_11 : decode cX7_abs 11 = .ok (.lload_n 0, 1) := by decide +kernel
theorem dX7_abs_12 : decode cX7_abs 12 = .ok (.lreturn, 1) := by decide +kernel
theorem dX7_takesLeast_0 : decode cX7_takesLeast 0 = .ok (.iconst (-1), 1) := by decide +kernel
theorem dX7_takesLeast_1 : decode cX7_takesLeast 1 = .ok (.istore_n 2, 1) := by decide +kernel
theorem dX7_takesLeast_2 : decode cX7_takesLeast 2 = .ok (.iload_n 1, 1) := by decide +kernel
theorem dX7_takesLeast_3 : decode cX7_takesLeast 3 = .ok (.istore_n 3, 1) := by decide +kernel
theorem dX7_takesLeast_4 : decode cX7_takesLeast 4 = .ok (.iload_n 3, 1) := by decide +kernel
theorem dX7_takesLeast_5 : decode cX7_takesLeast 5 = .ok (.aload_n 0, 1) := by decide +kernel
theorem dX7_takesLeast_6 : decode cX7_takesLeast 6 = .ok (.invokevirtual 188, 3) := by decide +kernel
theorem dX7_takesLeast_9 : decode cX7_takesLeast 9 = .ok (.if_icmp .ge 81, 3) := by decide +kernel
theorem dX7_takesLeast_12 : decode cX7_takesLeast 12 = .ok (.iload_n 1, 1) := by decide +kernel
theorem dX7_takesLeast_13 : decode cX7_takesLeast 13 = .ok (.istore 4, 2) := by decide +kernel
theorem dX7_takesLeast_15 : decode cX7_takesLeast 15 = .ok (.iload 4, 2) := by decide +kernel
theorem dX7_takesLeast_17 : decode cX7_takesLeast 17 = .ok (.aload_n 0, 1) := by decide +kernel
theorem dX7_takesLeast_18 : decode cX7_takesLeast 18 = .ok (.invokevirtual 188, 3) := by decide +kernel
theorem dX7_takesLeast_21 : decode cX7_takesLeast 21 = .ok (.if_icmp .ge 63, 3) := by decide +kernel
theorem dX7_takesLeast_24 : decode cX7_takesLeast 24 = .ok (.aload_n 0, 1) := by decide +kernel
theorem dX7_takesLeast_25 : decode cX7_takesLeast 25 = .ok (.getfield 29, 3) := by decide +kernel
theorem dX7_takesLeast_28 : decode cX7_takesLeast 28 = .ok (.iconst 4, 1) := by decide +kernel
theorem dX7_takesLeast_29 : decode cX7_takesLeast 29 = .ok (.iload_n 3, 1) := by decide +kernel
theorem dX7_takesLeast_30 : decode cX7_takesLeast 30 = .ok (.imul, 1) := by decide +kernel
theorem dX7_takesLeast_31 : decode cX7_takesLeast 31 = .ok (.iload 4, 2) := by decide +kernel
theorem dX7_takesLeast_33 : decode cX7_takesLeast 33 = .ok (.iadd, 1) := by decide +kernel
theorem dX7_takesLeast_34 : decode cX7_takesLeast 34 = .ok (.laload, 1) := by decide +kernel
theorem dX7_takesLeast_35 : decode cX7_takesLeast 35 = .ok (.invokestatic 208, 3) := by decide +kernel
theorem dX7_takesLeast_38 : decode cX7_takesLeast 38 = .ok (.lstore 5, 2) := by decide +kernel
theorem dX7_takesLeast_40 : decode cX7_takesLeast 40 = .ok (.lload 5, 2) := by decide +kernel
theorem dX7_takesLeast_42 : decode cX7_takesLeast 42 = .ok (.lconst 0, 1) := by decide +kernel
theorem dX7_takesLeast_43 : decode cX7_takesLeast 43 = .ok (.lcmp, 1) := by decide +kernel
theorem dX7_takesLeast_44 : decode cX7_takesLeast 44 = .ok (.ifCond .eq 32, 3) := by decide +kernel
theorem dX7_takesLeast_47 : decode cX7_takesLeast 47 = .ok (.iload_n 2, 1) := by decide +kernel
theorem dX7_takesLeast_48 : decode cX7_takesLeast 48 = .ok (.iconst (-1), 1) := by decide +kernel
theorem dX7_takesLeast_49 : decode cX7_takesLeast 49 = .ok (.if_icmp .eq 18, 3) := by decide +kernel
theorem dX7_takesLeast_52 : decode cX7_takesLeast 52 = .ok (.lload 5, 2) := by decide +kernel
theorem dX7_takesLeast_54 : decode cX7_takesLeast 54 = .ok (.aload_n 0, 1) := by decide +kernel
theorem dX7_takesLeast_55 : decode cX7_takesLeast 55 = .ok (.getfield 29, 3) := by decide +kernel
theorem dX7_takesLeast_58 : decode cX7_takesLeast 58 = .ok (.iload_n 2, 1) := by decide +kernel
theorem dX7_takesLeast_59 : decode cX7_takesLeast 59 = .ok (.laload, 1) := by decide +kernel
theorem dX7_takesLeast_60 : decode cX7_takesLeast 60 = .ok (.invokestatic 208, 3) := by decide +kernel
theorem dX7_takesLeast_63 : decode cX7_takesLeast 63 = .ok (.lcmp, 1) := by decide +kernel
theorem dX7_takesLeast_64 : decode cX7_takesLeast 64 = .ok (.ifCond .ge 12, 3) := by decide +kernel
theorem dX7_takesLeast_67 : decode cX7_takesLeast 67 = .ok (.iconst 4, 1) := by decide +kernel
theorem dX7_takesLeast_68 : decode cX7_takesLeast 68 = .ok (.iload_n 3, 1) := by decide +kernel
theorem dX7_takesLeast_69 : decode cX7_takesLeast 69 = .ok (.imul, 1) := by decide +kernel
theorem dX7_takesLeast_70 : decode cX7_takesLeast 70 = .ok (.iload 4, 2) := by decide +kernel
theorem dX7_takesLeast_72 : decode cX7_takesLeast 72 = .ok (.iadd, 1) := by decide +kernel
theorem dX7_takesLeast_73 : decode cX7_takesLeast 73 = .ok (.goto 4, 3) := by decide +kernel
theorem dX7_takesLeast_76 : decode cX7_takesLeast 76 = .ok (.iload_n 2, 1) := by decide +kernel
theorem dX7_takesLeast_77 : decode cX7_takesLeast 77 = .ok (.istore_n 2, 1) := by decide +kernel
theorem dX7_takesLeast_78 : decode cX7_takesLeast 78 = .ok (.iinc 4 1, 3) := by decide +kernel
theorem dX7_takesLeast_81 : decode cX7_takesLeast 81 = .ok (.goto (-66), 3) := by decide +kernel
theorem dX7_takesLeast_84 : decode cX7_takesLeast 84 = .ok (.iinc 3 1, 3) := by decide +kernel
theorem dX7_takesLeast_87 : decode cX7_takesLeast 87 = .ok (.goto (-83), 3) := by decide +kernel
theorem dX7_takesLeast_90 : decode cX7_takesLeast 90 = .ok (.aload_n 0, 1) := by decide +kernel
theorem dX7_takesLeast_91 : decode cX7_takesLeast 91 = .ok (.iload_n 1, 1) := by decide +kernel
theorem dX7_takesLeast_92 : decode cX7_takesLeast 92 = .ok (.iload_n 2, 1) := by decide +kernel
theorem dX7_takesLeast_93 : decode cX7_takesLeast 93 = .ok (.iconst 4, 1) := by decide +kernel
theorem dX7_takesLeast_94 : decode cX7_takesLeast 94 = .ok (.idiv, 1) := by decide +kernel
theorem dX7_takesLeast_95 : decode cX7_takesLeast 95 = .ok (.invokevirtual 194, 3) := by decide +kernel
theorem dX7_takesLeast_98 : decode cX7_takesLeast 98 = .ok (.aload_n 0, 1) := by decide +kernel
theorem dX7_takesLeast_99 : decode cX7_takesLeast 99 = .ok (.iload_n 1, 1) := by decide +kernel
theorem dX7_takesLeast_100 : decode cX7_takesLeast 100 = .ok (.iload_n 2, 1) := by decide +kernel
theorem dX7_takesLeast_101 : decode cX7_takesLeast 101 = .ok (.iconst 4, 1) := by decide +kernel
theorem dX7_takesLeast_102 : decode cX7_takesLeast 102 = .ok (.irem, 1) := by decide +kernel
theorem dX7_takesLeast_103 : decode cX7_takesLeast 103 = .ok (.invokevirtual 212, 3) := by decide +kernel
theorem dX7_takesLeast_106 : decode cX7_takesLeast 106 = .ok (.return_, 1) := by decide +kernel
theorem dX7_clears_0 : decode cX7_clears 0 = .ok (.iconst 1, 1) := by decide +kernel
theorem dX7_clears_1 : decode cX7_clears 1 = .ok (.istore_n 2, 1) := by decide +kernel
theorem dX7_clears_2 : decode cX7_clears 2 = .ok (.aload_n 0, 1) := by decide +kernel
theorem dX7_clears_3 : decode cX7_clears 3 = .ok (.getfield 29, 3) := by decide +kernel
theorem dX7_clears_6 : decode cX7_clears 6 = .ok (.iconst 5, 1) := by decide +kernel
theorem dX7_clears_7 : decode cX7_clears 7 = .ok (.iload_n 1, 1) := by decide +kernel
theorem dX7_clears_8 : decode cX7_clears 8 = .ok (.imul, 1) := by decide +kernel
theorem dX7_clears_9 : decode cX7_clears 9 = .ok (.laload, 1) := by decide +kernel
theorem dX7_clears_10 : decode cX7_clears 10 = .ok (.lstore_n 3, 1) := by decide +kernel
theorem dX7_clears_11 : decode cX7_clears 11 = .ok (.iload_n 1, 1) := by decide +kernel
theorem dX7_clears_12 : decode cX7_clears 12 = .ok (.iconst 1, 1) := by decide +kernel
theorem dX7_clears_13 : decode cX7_clears 13 = .ok (.iadd, 1) := by decide +kernel
theorem dX7_clears_14 : decode cX7_clears 14 = .ok (.istore 5, 2) := by decide +kernel
theorem dX7_clears_16 : decode cX7_clears 16 = .ok (.iload 5, 2) := by decide +kernel
theorem dX7_clears_18 : decode cX7_clears 18 = .ok (.aload_n 0, 1) := by decide +kernel
theorem dX7_clears_19 : decode cX7_clears 19 = .ok (.invokevirtual 188, 3) := by decide +kernel
theorem dX7_clears_22 : decode cX7_clears 22 = .ok (.if_icmp .ge 97, 3) := by decide +kernel
theorem dX7_clears_25 : decode cX7_clears 25 = .ok (.aload_n 0, 1) := by decide +kernel
theorem dX7_clears_26 : decode cX7_clears 26 = .ok (.getfield 29, 3) := by decide +kernel
theorem dX7_clears_29 : decode cX7_clears 29 = .ok (.iconst 4, 1) := by decide +kernel
theorem dX7_clears_30 : decode cX7_clears 30 = .ok (.iload 5, 2) := by decide +kernel
theorem dX7_clears_32 : decode cX7_clears 32 = .ok (.imul, 1) := by decide +kernel
theorem dX7_clears_33 : decode cX7_clears 33 = .ok (.iload_n 1, 1) := by decide +kernel
theorem dX7_clears_34 : decode cX7_clears 34 = .ok (.iadd, 1) := by decide +kernel
theorem dX7_clears_35 : decode cX7_clears 35 = .ok (.laload, 1) := by decide +kernel
theorem dX7_clears_36 : decode cX7_clears 36 = .ok (.lload_n 3, 1) := by decide +kernel
theorem dX7_clears_37 : decode cX7_clears 37 = .ok (.ldiv, 1) := by decide +kernel
theorem dX7_clears_38 : decode cX7_clears 38 = .ok (.lstore 6, 2) := by decide +kernel
theorem dX7_clears_40 : decode cX7_clears 40 = .ok (.iload_n 1, 1) := by decide +kernel
theorem dX7_clears_41 : decode cX7_clears 41 = .ok (.istore 8, 2) := by decide +kernel
theorem dX7_clears_43 : decode cX7_clears 43 = .ok (.iload 8, 2) := by decide +kernel
theorem dX7_clears_45 : decode cX7_clears 45 = .ok (.aload_n 0, 1) := by decide +kernel
theorem dX7_clears_46 : decode cX7_clears 46 = .ok (.invokevirtual 188, 3) := by decide +kernel
theorem dX7_clears_49 : decode cX7_clears 49 = .ok (.if_icmp .ge 38, 3) := by decide +kernel
theorem dX7_clears_52 : decode cX7_clears 52 = .ok (.aload_n 0, 1) := by decide +kernel
theorem dX7_clears_53 : decode cX7_clears 53 = .ok (.getfield 29, 3) := by decide +kernel
theorem dX7_clears_56 : decode cX7_clears 56 = .ok (.iconst 4, 1) := by decide +kernel
theorem dX7_clears_57 : decode cX7_clears 57 = .ok (.iload 5, 2) := by decide +kernel
theorem dX7_clears_59 : decode cX7_clears 59 = .ok (.imul, 1) := by decide +kernel
theorem dX7_clears_60 : decode cX7_clears 60 = .ok (.iload 8, 2) := by decide +kernel
theorem dX7_clears_62 : decode cX7_clears 62 = .ok (.iadd, 1) := by decide +kernel
theorem dX7_clears_63 : decode cX7_clears 63 = .ok (.dup2, 1) := by decide +kernel
theorem dX7_clears_64 : decode cX7_clears 64 = .ok (.laload, 1) := by decide +kernel
theorem dX7_clears_65 : decode cX7_clears 65 = .ok (.lload 6, 2) := by decide +kernel
theorem dX7_clears_67 : decode cX7_clears 67 = .ok (.aload_n 0, 1) := by decide +kernel
theorem dX7_clears_68 : decode cX7_clears 68 = .ok (.getfield 29, 3) := by decide +kernel
theorem dX7_clears_71 : decode cX7_clears 71 = .ok (.iconst 4, 1) := by decide +kernel
theorem dX7_clears_72 : decode cX7_clears 72 = .ok (.iload_n 1, 1) := by decide +kernel
theorem dX7_clears_73 : decode cX7_clears 73 = .ok (.imul, 1) := by decide +kernel
theorem dX7_clears_74 : decode cX7_clears 74 = .ok (.iload 8, 2) := by decide +kernel
theorem dX7_clears_76 : decode cX7_clears 76 = .ok (.iadd, 1) := by decide +kernel
theorem dX7_clears_77 : decode cX7_clears 77 = .ok (.laload, 1) := by decide +kernel
theorem dX7_clears_78 : decode cX7_clears 78 = .ok (.lmul, 1) := by decide +kernel
theorem dX7_clears_79 : decode cX7_clears 79 = .ok (.lsub, 1) := by decide +kernel
theorem dX7_clears_80 : decode cX7_clears 80 = .ok (.lastore, 1) := by decide +kernel
theorem dX7_clears_81 : decode cX7_clears 81 = .ok (.iinc 8 1, 3) := by decide +kernel
theorem dX7_clears_84 : decode cX7_clears 84 = .ok (.goto (-41), 3) := by decide +kernel
theorem dX7_clears_87 : decode cX7_clears 87 = .ok (.iload_n 2, 1) := by decide +kernel
theorem dX7_clears_88 : decode cX7_clears 88 = .ok (.ifCond .eq 23, 3) := by decide +kernel
theorem dX7_clears_91 : decode cX7_clears 91 = .ok (.aload_n 0, 1) := by decide +kernel
theorem dX7_clears_92 : decode cX7_clears 92 = .ok (.getfield 29, 3) := by decide +kernel
theorem dX7_clears_95 : decode cX7_clears 95 = .ok (.iconst 4, 1) := by decide +kernel
theorem dX7_clears_96 : decode cX7_clears 96 = .ok (.iload 5, 2) := by decide +kernel
theorem dX7_clears_98 : decode cX7_clears 98 = .ok (.imul, 1) := by decide +kernel
theorem dX7_clears_99 : decode cX7_clears 99 = .ok (.iload_n 1, 1) := by decide +kernel
theorem dX7_clears_100 : decode cX7_clears 100 = .ok (.iadd, 1) := by decide +kernel
theorem dX7_clears_101 : decode cX7_clears 101 = .ok (.laload, 1) := by decide +kernel
theorem dX7_clears_102 : decode cX7_clears 102 = .ok (.lconst 0, 1) := by decide +kernel
theorem dX7_clears_103 : decode cX7_clears 103 = .ok (.lcmp, 1) := by decide +kernel
theorem dX7_clears_104 : decode cX7_clears 104 = .ok (.ifCond .ne 7, 3) := by decide +kernel
theorem dX7_clears_107 : decode cX7_clears 107 = .ok (.iconst 1, 1) := by decide +kernel
theorem dX7_clears_108 : decode cX7_clears 108 = .ok (.goto 4, 3) := by decide +kernel
theorem dX7_clears_111 : decode cX7_clears 111 = .ok (.iconst 0, 1) := by decide +kernel
theorem dX7_clears_112 : decode cX7_clears 112 = .ok (.istore_n 2, 1) := by decide +kernel
theorem dX7_clears_113 : decode cX7_clears 113 = .ok (.iinc 5 1, 3) := by decide +kernel
theorem dX7_clears_116 : decode cX7_clears 116 = .ok (.goto (-100), 3) := by decide +kernel
theorem dX7_clears_119 : decode cX7_clears 119 = .ok (.iload_n 1, 1) := by decide +kernel
theorem dX7_clears_120 : decode cX7_clears 120 = .ok (.iconst 1, 1) := by decide +kernel
theorem dX7_clears_121 : decode cX7_clears 121 = .ok (.iadd, 1) := by decide +kernel
theorem dX7_clears_122 : decode cX7_clears 122 = .ok (.istore 5, 2) := by decide +kernel
theorem dX7_clears_124 : decode cX7_clears 124 = .ok (.iload 5, 2) := by decide +kernel
theorem dX7_clears_126 : decode cX7_clears 126 = .ok (.aload_n 0, 1) := by decide +kernel
theorem dX7_clears_127 : decode cX7_clears 127 = .ok (.invokevirtual 188, 3) := by decide +kernel
theorem dX7_clears_130 : decode cX7_clears 130 = .ok (.if_icmp .ge 97, 3) := by decide +kernel
theorem dX7_clears_133 : decode cX7_clears 133 = .ok (.aload_n 0, 1) := by decide +kernel
theorem dX7_clears_134 : decode cX7_clears 134 = .ok (.getfield 29, 3) := by decide +kernel
theorem dX7_clears_137 : decode cX7_clears 137 = .ok (.iconst 4, 1) := by decide +kernel
theorem dX7_clears_138 : decode cX7_clears 138 = .ok (.iload_n 1, 1) := by decide +kernel
theorem dX7_clears_139 : decode cX7_clears 139 = .ok (.imul, 1) := by decide +kernel
theorem dX7_clears_140 : decode cX7_clears 140 = .ok (.iload 5, 2) := by decide +kernel
theorem dX7_clears_142 : decode cX7_clears 142 = .ok (.iadd, 1) := by decide +kernel
theorem dX7_clears_143 : decode cX7_clears 143 = .ok (.laload, 1) := by decide +kernel
theorem dX7_clears_144 : decode cX7_clears 144 = .ok (.lload_n 3, 1) := by decide +kernel
theorem dX7_clears_145 : decode cX7_clears 145 = .ok (.ldiv, 1) := by decide +kernel
theorem dX7_clears_146 : decode cX7_clears 146 = .ok (.lstore 6, 2) := by decide +kernel
theorem dX7_clears_148 : decode cX7_clears 148 = .ok (.iload_n 1, 1) := by decide +kernel
theorem dX7_clears_149 : decode cX7_clears 149 = .ok (.istore 8, 2) := by decide +kernel
theorem dX7_clears_151 : decode cX7_clears 151 = .ok (.iload 8, 2) := by decide +kernel
theorem dX7_clears_153 : decode cX7_clears 153 = .ok (.aload_n 0, 1) := by decide +kernel
theorem dX7_clears_154 : decode cX7_clears 154 = .ok (.invokevirtual 188, 3) := by decide +kernel
theorem dX7_clears_157 : decode cX7_clears 157 = .ok (.if_icmp .ge 38, 3) := by decide +kernel
theorem dX7_clears_160 : decode cX7_clears 160 = .ok (.aload_n 0, 1) := by decide +kernel
theorem dX7_clears_161 : decode cX7_clears 161 = .ok (.getfield 29, 3) := by decide +kernel
theorem dX7_clears_164 : decode cX7_clears 164 = .ok (.iconst 4, 1) := by decide +kernel
theorem dX7_clears_165 : decode cX7_clears 165 = .ok (.iload 8, 2) := by decide +kernel
theorem dX7_clears_167 : decode cX7_clears 167 = .ok (.imul, 1) := by decide +kernel
theorem dX7_clears_168 : decode cX7_clears 168 = .ok (.iload 5, 2) := by decide +kernel
theorem dX7_clears_170 : decode cX7_clears 170 = .ok (.iadd, 1) := by decide +kernel
theorem dX7_clears_171 : decode cX7_clears 171 = .ok (.dup2, 1) := by decide +kernel
theorem dX7_clears_172 : decode cX7_clears 172 = .ok (.laload, 1) := by decide +kernel
theorem dX7_clears_173 : decode cX7_clears 173 = .ok (.lload 6, 2) := by decide +kernel
theorem dX7_clears_175 : decode cX7_clears 175 = .ok (.aload_n 0, 1) := by decide +kernel
theorem dX7_clears_176 : decode cX7_clears 176 = .ok (.getfield 29, 3) := by decide +kernel
theorem dX7_clears_179 : decode cX7_clears 179 = .ok (.iconst 4, 1) := by decide +kernel
theorem dX7_clears_180 : decode cX7_clears 180 = .ok (.iload 8, 2) := by decide +kernel
theorem dX7_clears_182 : decode cX7_clears 182 = .ok (.imul, 1) := by decide +kernel
theorem dX7_clears_183 : decode cX7_clears 183 = .ok (.iload_n 1, 1) := by decide +kernel
theorem dX7_clears_184 : decode cX7_clears 184 = .ok (.iadd, 1) := by decide +kernel
theorem dX7_clears_185 : decode cX7_clears 185 = .ok (.laload, 1) := by decide +kernel
theorem dX7_clears_186 : decode cX7_clears 186 = .ok (.lmul, 1) := by decide +kernel
theorem dX7_clears_187 : decode cX7_clears 187 = .ok (.lsub, 1) := by decide +kernel
theorem dX7_clears_188 : decode cX7_clears 188 = .ok (.lastore, 1) := by decide +kernel
theorem dX7_clears_189 : decode cX7_clears 189 = .ok (.iinc 8 1, 3) := by decide +kernel
theorem dX7_clears_192 : decode cX7_clears 192 = .ok (.goto (-41), 3) := by decide +kernel
theorem dX7_clears_195 : decode cX7_clears 195 = .ok (.iload_n 2, 1) := by decide +kernel
theorem dX7_clears_196 : decode cX7_clears 196 = .ok (.ifCond .eq 23, 3) := by decide +kernel
theorem dX7_clears_199 : decode cX7_clears 199 = .ok (.aload_n 0, 1) := by decide +kernel
theorem dX7_clears_200 : decode cX7_clears 200 = .ok (.getfield 29, 3) := by decide +kernel
theorem dX7_clears_203 : decode cX7_clears 203 = .ok (.iconst 4, 1) := by decide +kernel
theorem dX7_clears_204 : decode cX7_clears 204 = .ok (.iload_n 1, 1) := by decide +kernel
theorem dX7_clears_205 : decode cX7_clears 205 = .ok (.imul, 1) := by decide +kernel
theorem dX7_clears_206 : decode cX7_clears 206 = .ok (.iload 5, 2) := by decide +kernel
theorem dX7_clears_208 : decode cX7_clears 208 = .ok (.iadd, 1) := by decide +kernel
theorem dX7_clears_209 : decode cX7_clears 209 = .ok (.laload, 1) := by decide +kernel
theorem dX7_clears_210 : decode cX7_clears 210 = .ok (.lconst 0, 1) := by decide +kernel
theorem dX7_clears_211 : decode cX7_clears 211 = .ok (.lcmp, 1) := by decide +kernel
theorem dX7_clears_212 : decode cX7_clears 212 = .ok (.ifCond .ne 7, 3) := by decide +kernel
theorem dX7_clears_215 : decode cX7_clears 215 = .ok (.iconst 1, 1) := by decide +kernel
theorem dX7_clears_216 : decode cX7_clears 216 = .ok (.goto 4, 3) := by decide +kernel
theorem dX7_clears_219 : decode cX7_clears 219 = .ok (.iconst 0, 1) := by decide +kernel
theorem dX7_clears_220 : decode cX7_clears 220 = .ok (.istore_n 2, 1) := by decide +kernel
theorem dX7_clears_221 : decode cX7_clears 221 = .ok (.iinc 5 1, 3) := by decide +kernel
theorem dX7_clears_224 : decode cX7_clears 224 = .ok (.goto (-100), 3) := by decide +kernel
theorem dX7_clears_227 : decode cX7_clears 227 = .ok (.iload_n 2, 1) := by decide +kernel
theorem dX7_clears_228 : decode cX7_clears 228 = .ok (.ireturn, 1) := by decide +kernel
theorem dX7_uneven_0 : decode cX7_uneven 0 = .ok (.iload_n 1, 1) := by decide +kernel
theorem dX7_uneven_1 : decode cX7_uneven 1 = .ok (.iconst 1, 1) := by decide +kernel
theorem dX7_uneven_2 : decode cX7_uneven 2 = .ok (.iadd, 1) := by decide +kernel
theorem dX7_uneven_3 : decode cX7_uneven 3 = .ok (.istore_n 2, 1) := by decide +kernel
theorem dX7_uneven_4 : decode cX7_uneven 4 = .ok (.iload_n 2, 1) := by decide +kernel
theorem dX7_uneven_5 : decode cX7_uneven 5 = .ok (.aload_n 0, 1) := by decide +kernel
theorem dX7_uneven_6 : decode cX7_uneven 6 = .ok (.invokevirtual 188, 3) := by decide +kernel
theorem dX7_uneven_9 : decode cX7_uneven 9 = .ok (.if_icmp .ge 53, 3) := by decide +kernel
theorem dX7_uneven_12 : decode cX7_uneven 12 = .ok (.iload_n 1, 1) := by decide +kernel
theorem dX7_uneven_13 : decode cX7_uneven 13 = .ok (.iconst 1, 1) := by decide +kernel
theorem dX7_uneven_14 : decode cX7_uneven 14 = .ok (.iadd, 1) := by decide +kernel
theorem dX7_uneven_15 : decode cX7_uneven 15 = .ok (.istore_n 3, 1) := by decide +kernel
theorem dX7_uneven_16 : decode cX7_uneven 16 = .ok (.iload_n 3, 1) := by decide +kernel
theorem dX7_uneven_17 : decode cX7_uneven 17 = .ok (.aload_n 0, 1) := by decide +kernel
theorem dX7_uneven_18 : decode cX7_uneven 18 = .ok (.invokevirtual 188, 3) := by decide +kernel
theorem dX7_uneven_21 : decode cX7_uneven 21 = .ok (.if_icmp .ge 35, 3) := by decide +kernel
theorem dX7_uneven_24 : decode cX7_uneven 24 = .ok (.aload_n 0, 1) := by decide +kernel
theorem dX7_uneven_25 : decode cX7_uneven 25 = .ok (.getfield 29, 3) := by decide +kernel
theorem dX7_uneven_28 : decode cX7_uneven 28 = .ok (.iconst 4, 1) := by decide +kernel
theorem dX7_uneven_29 : decode cX7_uneven 29 = .ok (.iload_n 2, 1) := by decide +kernel
theorem dX7_uneven_30 : decode cX7_uneven 30 = .ok (.imul, 1) := by decide +kernel
theorem dX7_uneven_31 : decode cX7_uneven 31 = .ok (.iload_n 3, 1) := by decide +kernel
theorem dX7_uneven_32 : decode cX7_uneven 32 = .ok (.iadd, 1) := by decide +kernel
theorem dX7_uneven_33 : decode cX7_uneven 33 = .ok (.laload, 1) := by decide +kernel
theorem dX7_uneven_34 : decode cX7_uneven 34 = .ok (.aload_n 0, 1) := by decide +kernel
theorem dX7_uneven_35 : decode cX7_uneven 35 = .ok (.getfield 29, 3) := by decide +kernel
theorem dX7_uneven_38 : decode cX7_uneven 38 = .ok (.iconst 5, 1) := by decide +kernel
theorem dX7_uneven_39 : decode cX7_uneven 39 = .ok (.iload_n 1, 1) := by decide +kernel
theorem dX7_uneven_40 : decode cX7_uneven 40 = .ok (.imul, 1) := by decide +kernel
theorem dX7_uneven_41 : decode cX7_uneven 41 = .ok (.laload, 1) := by decide +kernel
theorem dX7_uneven_42 : decode cX7_uneven 42 = .ok (.lrem, 1) := by decide +kernel
theorem dX7_uneven_43 : decode cX7_uneven 43 = .ok (.lconst 0, 1) := by decide +kernel
theorem dX7_uneven_44 : decode cX7_uneven 44 = .ok (.lcmp, 1) := by decide +kernel
theorem dX7_uneven_45 : decode cX7_uneven 45 = .ok (.ifCond .eq 5, 3) := by decide +kernel
theorem dX7_uneven_48 : decode cX7_uneven 48 = .ok (.iload_n 2, 1) := by decide +kernel
theorem dX7_uneven_49 : decode cX7_uneven 49 = .ok (.ireturn, 1) := by decide +kernel
theorem dX7_uneven_50 : decode cX7_uneven 50 = .ok (.iinc 3 1, 3) := by decide +kernel
theorem dX7_uneven_53 : decode cX7_uneven 53 = .ok (.goto (-37), 3) := by decide +kernel
theorem dX7_uneven_56 : decode cX7_uneven 56 = .ok (.iinc 2 1, 3) := by decide +kernel
theorem dX7_uneven_59 : decode cX7_uneven 59 = .ok (.goto (-55), 3) := by decide +kernel
theorem dX7_uneven_62 : decode cX7_uneven 62 = .ok (.iconst (-1), 1) := by decide +kernel
theorem dX7_uneven_63 : decode cX7_uneven 63 = .ok (.ireturn, 1) := by decide +kernel
theorem dX7_laysParts_0 : decode cX7_laysParts 0 = .ok (.aload_n 0, 1) := by decide +kernel
theorem dX7_laysParts_1 : decode cX7_laysParts 1 = .ok (.invokevirtual 198, 3) := by decide +kernel
theorem dX7_laysParts_4 : decode cX7_laysParts 4 = .ok (.iconst 0, 1) := by decide +kernel
theorem dX7_laysParts_5 : decode cX7_laysParts 5 = .ok (.istore_n 1, 1) := by decide +kernel
theorem dX7_laysParts_6 : decode cX7_laysParts 6 = .ok (.iload_n 1, 1) := by decide +kernel
theorem dX7_laysParts_7 : decode cX7_laysParts 7 = .ok (.aload_n 0, 1) := by decide +kernel
theorem dX7_laysParts_8 : decode cX7_laysParts 8 = .ok (.invokevirtual 188, 3) := by decide +kernel
theorem dX7_laysParts_11 : decode cX7_laysParts 11 = .ok (.if_icmp .ge 110, 3) := by decide +kernel
theorem dX7_laysParts_14 : decode cX7_laysParts 14 = .ok (.iconst 0, 1) := by decide +kernel
theorem dX7_laysParts_15 : decode cX7_laysParts 15 = .ok (.istore_n 2, 1) := by decide +kernel
theorem dX7_laysParts_16 : decode cX7_laysParts 16 = .ok (.iload_n 2, 1) := by decide +kernel
theorem dX7_laysParts_17 : decode cX7_laysParts 17 = .ok (.ifCond .ne 98, 3) := by decide +kernel
theorem dX7_laysParts_20 : decode cX7_laysParts 20 = .ok (.aload_n 0, 1) := by decide +kernel
theorem dX7_laysParts_21 : decode cX7_laysParts 21 = .ok (.iload_n 1, 1) := by decide +kernel
theorem dX7_laysParts_22 : decode cX7_laysParts 22 = .ok (.invokevirtual 215, 3) := by decide +kernel
theorem dX7_laysParts_25 : decode cX7_laysParts 25 = .ok (.aload_n 0, 1) := by decide +kernel
theorem dX7_laysParts_26 : decode cX7_laysParts 26 = .ok (.iload_n 1, 1) := by decide +kernel
theorem dX7_laysParts_27 : decode cX7_laysParts 27 = .ok (.invokevirtual 218, 3) := by decide +kernel
theorem dX7_laysParts_30 : decode cX7_laysParts 30 = .ok (.istore_n 3, 1) := by decide +kernel
theorem dX7_laysParts_31 : decode cX7_laysParts 31 = .ok (.iload_n 3, 1) := by decide +kernel
theorem dX7_laysParts_32 : decode cX7_laysParts 32 = .ok (.ifCond .eq 11, 3) := by decide +kernel
theorem dX7_laysParts_35 : decode cX7_laysParts 35 = .ok (.aload_n 0, 1) := by decide +kernel
theorem dX7_laysParts_36 : decode cX7_laysParts 36 = .ok (.iload_n 1, 1) := by decide +kernel
theorem dX7_laysParts_37 : decode cX7_laysParts 37 = .ok (.invokevirtual 221, 3) := by decide +kernel
theorem dX7_laysParts_40 : decode cX7_laysParts 40 = .ok (.goto 4, 3) := by decide +kernel
theorem dX7_laysParts_43 : decode cX7_laysParts 43 = .ok (.iconst (-1), 1) := by decide +kernel
theorem dX7_laysParts_44 : decode cX7_laysParts 44 = .ok (.istore 4, 2) := by decide +kernel
theorem dX7_laysParts_46 : decode cX7_laysParts 46 = .ok (.iload_n 1, 1) := by decide +kernel
theorem dX7_laysParts_47 : decode cX7_laysParts 47 = .ok (.istore 5, 2) := by decide +kernel
theorem dX7_laysParts_49 : decode cX7_laysParts 49 = .ok (.iload 5, 2) := by decide +kernel
theorem dX7_laysParts_51 : decode cX7_laysParts 51 = .ok (.aload_n 0, 1) := by decide +kernel
theorem dX7_laysParts_52 : decode cX7_laysParts 52 = .ok (.invokevirtual 188, 3) := by decide +kernel
theorem dX7_laysParts_55 : decode cX7_laysParts 55 = .ok (.if_icmp .ge 41, 3) := by decide +kernel
theorem dX7_laysParts_58 : decode cX7_laysParts 58 = .ok (.iload 4, 2) := by decide +kernel
theorem dX7_laysParts_60 : decode cX7_laysParts 60 = .ok (.iconst (-1), 1) := by decide +kernel
theorem dX7_laysParts_61 : decode cX7_laysParts 61 = .ok (.if_icmp .eq 35, 3) := by decide +kernel
theorem dX7_laysParts_64 : decode cX7_laysParts 64 = .ok (.aload_n 0, 1) := by decide +kernel
theorem dX7_laysParts_65 : decode cX7_laysParts 65 = .ok (.getfield 29, 3) := by decide +kernel
theorem dX7_laysParts_68 : decode cX7_laysParts 68 = .ok (.iconst 4, 1) := by decide +kernel
theorem dX7_laysParts_69 : decode cX7_laysParts 69 = .ok (.iload_n 1, 1) := by decide +kernel
theorem dX7_laysParts_70 : decode cX7_laysParts 70 = .ok (.imul, 1) := by decide +kernel
theorem dX7_laysParts_71 : decode cX7_laysParts 71 = .ok (.iload 5, 2) := by decide +kernel
theorem dX7_laysParts_73 : decode cX7_laysParts 73 = .ok (.iadd, 1) := by decide +kernel
theorem dX7_laysParts_74 : decode cX7_laysParts 74 = .ok (.dup2, 1) := by decide +kernel
theorem dX7_laysParts_75 : decode cX7_laysParts 75 = .ok (.laload, 1) := by decide +kernel
theorem dX7_laysParts_76 : decode cX7_laysParts 76 = .ok (.aload_n 0, 1) := by decide +kernel
theorem dX7_laysParts_77 : decode cX7_laysParts 77 = .ok (.getfield 29, 3) := by decide +kernel
theorem dX7_laysParts_80 : decode cX7_laysParts 80 = .ok (.iconst 4, 1) := by decide +kernel
theorem dX7_laysParts_81 : decode cX7_laysParts 81 = .ok (.iload 4, 2) := by decide +kernel
theorem dX7_laysParts_83 : decode cX7_laysParts 83 = .ok (.imul, 1) := by decide +kernel
theorem dX7_laysParts_84 : decode cX7_laysParts 84 = .ok (.iload 5, 2) := by decide +kernel
theorem dX7_laysParts_86 : decode cX7_laysParts 86 = .ok (.iadd, 1) := by decide +kernel
theorem dX7_laysParts_87 : decode cX7_laysParts 87 = .ok (.laload, 1) := by decide +kernel
theorem dX7_laysParts_88 : decode cX7_laysParts 88 = .ok (.ladd, 1) := by decide +kernel
theorem dX7_laysParts_89 : decode cX7_laysParts 89 = .ok (.lastore, 1) := by decide +kernel
theorem dX7_laysParts_90 : decode cX7_laysParts 90 = .ok (.iinc 5 1, 3) := by decide +kernel
theorem dX7_laysParts_93 : decode cX7_laysParts 93 = .ok (.goto (-44), 3) := by decide +kernel
theorem dX7_laysParts_96 : decode cX7_laysParts 96 = .ok (.iload_n 3, 1) := by decide +kernel
theorem dX7_laysParts_97 : decode cX7_laysParts 97 = .ok (.ifCond .eq 13, 3) := by decide +kernel
theorem dX7_laysParts_100 : decode cX7_laysParts 100 = .ok (.iload 4, 2) := by decide +kernel
theorem dX7_laysParts_102 : decode cX7_laysParts 102 = .ok (.iconst (-1), 1) := by decide +kernel
theorem dX7_laysParts_103 : decode cX7_laysParts 103 = .ok (.if_icmp .ne 7, 3) := by decide +kernel
theorem dX7_laysParts_106 : decode cX7_laysParts 106 = .ok (.iconst 1, 1) := by decide +kernel
theorem dX7_laysParts_107 : decode cX7_laysParts 107 = .ok (.goto 4, 3) := by decide +kernel
theorem dX7_laysParts_110 : decode cX7_laysParts 110 = .ok (.iconst 0, 1) := by decide +kernel
theorem dX7_laysParts_111 : decode cX7_laysParts 111 = .ok (.istore_n 2, 1) := by decide +kernel
theorem dX7_laysParts_112 : decode cX7_laysParts 112 = .ok (.goto (-96), 3) := by decide +kernel
theorem dX7_laysParts_115 : decode cX7_laysParts 115 = .ok (.iinc 1 1, 3) := by decide +kernel
theorem dX7_laysParts_118 : decode cX7_laysParts 118 = .ok (.goto (-112), 3) := by decide +kernel
theorem dX7_laysParts_121 : decode cX7_laysParts 121 = .ok (.return_, 1) := by decide +kernel
theorem dX7_partsNow_0 : decode cX7_partsNow 0 = .ok (.aload_n 0, 1) := by decide +kernel
theorem dX7_partsNow_1 : decode cX7_partsNow 1 = .ok (.invokevirtual 224, 3) := by decide +kernel
theorem dX7_partsNow_4 : decode cX7_partsNow 4 = .ok (.iconst 0, 1) := by decide +kernel
theorem dX7_partsNow_5 : decode cX7_partsNow 5 = .ok (.istore_n 2, 1) := by decide +kernel
theorem dX7_partsNow_6 : decode cX7_partsNow 6 = .ok (.iconst 0, 1) := by decide +kernel
theorem dX7_partsNow_7 : decode cX7_partsNow 7 = .ok (.istore_n 3, 1) := by decide +kernel
theorem dX7_partsNow_8 : decode cX7_partsNow 8 = .ok (.iload_n 3, 1) := by decide +kernel
theorem dX7_partsNow_9 : decode cX7_partsNow 9 = .ok (.aload_n 0, 1) := by decide +kernel
theorem dX7_partsNow_10 : decode cX7_partsNow 10 = .ok (.invokevirtual 188, 3) := by decide +kernel
theorem dX7_partsNow_13 : decode cX7_partsNow 13 = .ok (.if_icmp .ge 41, 3) := by decide +kernel
theorem dX7_partsNow_16 : decode cX7_partsNow 16 = .ok (.aload_n 0, 1) := by decide +kernel
theorem dX7_partsNow_17 : decode cX7_partsNow 17 = .ok (.getfield 29, 3) := by decide +kernel
theorem dX7_partsNow_20 : decode cX7_partsNow 20 = .ok (.iconst 5, 1) := by decide +kernel
theorem dX7_partsNow_21 : decode cX7_partsNow 21 = .ok (.iload_n 3, 1) := by decide +kernel
theorem dX7_partsNow_22 : decode cX7_partsNow 22 = .ok (.imul, 1) := by decide +kernel
theorem dX7_partsNow_23 : decode cX7_partsNow 23 = .ok (.laload, 1) := by decide +kernel
theorem dX7_partsNow_24 : decode cX7_partsNow 24 = .ok (.invokestatic 208, 3) := by decide +kernel
theorem dX7_partsNow_27 : decode cX7_partsNow 27 = .ok (.lstore 4, 2) := by decide +kernel
theorem dX7_partsNow_29 : decode cX7_partsNow 29 = .ok (.lload 4, 2) := by decide +kernel
theorem dX7_partsNow_31 : decode cX7_partsNow 31 = .ok (.lconst 1, 1) := by decide +kernel
theorem dX7_partsNow_32 : decode cX7_partsNow 32 = .ok (.lcmp, 1) := by decide +kernel
theorem dX7_partsNow_33 : decode cX7_partsNow 33 = .ok (.ifCond .le 15, 3) := by decide +kernel
theorem dX7_partsNow_36 : decode cX7_partsNow 36 = .ok (.iload_n 2, 1) := by decide +kernel
theorem dX7_partsNow_37 : decode cX7_partsNow 37 = .ok (.iload_n 1, 1) := by decide +kernel
theorem dX7_partsNow_38 : decode cX7_partsNow 38 = .ok (.if_icmp .ne 7, 3) := by decide +kernel
theorem dX7_partsNow_41 : decode cX7_partsNow 41 = .ok (.lload 4, 2) := by decide +kernel
theorem dX7_partsNow_43 : decode cX7_partsNow 43 = .ok (.l2i, 1) := by decide +kernel
theorem dX7_partsNow_44 : decode cX7_partsNow 44 = .ok (.ireturn, 1) := by decide +kernel
theorem dX7_partsNow_45 : decode cX7_partsNow 45 = .ok (.iinc 2 1, 3) := by decide +kernel
theorem dX7_partsNow_48 : decode cX7_partsNow 48 = .ok (.iinc 3 1, 3) := by decide +kernel
theorem dX7_partsNow_51 : decode cX7_partsNow 51 = .ok (.goto (-43), 3) := by decide +kernel
theorem dX7_partsNow_54 : decode cX7_partsNow 54 = .ok (.iload_n 1, 1) := by decide +kernel
theorem dX7_partsNow_55 : decode cX7_partsNow 55 = .ok (.iconst (-1), 1) := by decide +kernel
theorem dX7_partsNow_56 : decode cX7_partsNow 56 = .ok (.if_icmp .ne 7, 3) := by decide +kernel
theorem dX7_partsNow_59 : decode cX7_partsNow 59 = .ok (.iload_n 2, 1) := by decide +kernel
theorem dX7_partsNow_60 : decode cX7_partsNow 60 = .ok (.goto 4, 3) := by decide +kernel
theorem dX7_partsNow_63 : decode cX7_partsNow 63 = .ok (.iconst (-1), 1) := by decide +kernel
theorem dX7_partsNow_64 : decode cX7_partsNow 64 = .ok (.ireturn, 1) := by decide +kernel
theorem dX7_parts_0 : decode cX7_parts 0 = .ok (.iload_n 1, 1) := by decide +kernel
theorem dX7_parts_1 : decode cX7_parts 1 = .ok (.iconst (-1), 1) := by decide +kernel
theorem dX7_parts_2 : decode cX7_parts 2 = .ok (.if_icmp .ge 10, 3) := by decide +kernel
theorem dX7_parts_5 : decode cX7_parts 5 = .ok (.aload_n 0, 1) := by decide +kernel
theorem dX7_parts_6 : decode cX7_parts 6 = .ok (.bipush (-2), 2) := by decide +kernel
theorem dX7_parts_8 : decode cX7_parts 8 = .ok (.invokevirtual 80, 3) := by decide +kernel
theorem dX7_parts_11 : decode cX7_parts 11 = .ok (.ireturn, 1) := by decide +kernel
theorem dX7_parts_12 : decode cX7_parts 12 = .ok (.aload_n 0, 1) := by decide +kernel
theorem dX7_parts_13 : decode cX7_parts 13 = .ok (.invokevirtual 118, 3) := by decide +kernel
theorem dX7_parts_16 : decode cX7_parts 16 = .ok (.ifCond .eq 11, 3) := by decide +kernel
theorem dX7_parts_19 : decode cX7_parts 19 = .ok (.aload_n 0, 1) := by decide +kernel
theorem dX7_parts_20 : decode cX7_parts 20 = .ok (.iload_n 1, 1) := by decide +kernel
theorem dX7_parts_21 : decode cX7_parts 21 = .ok (.invokevirtual 227, 3) := by decide +kernel
theorem dX7_parts_24 : decode cX7_parts 24 = .ok (.goto 9, 3) := by decide +kernel
theorem dX7_parts_27 : decode cX7_parts 27 = .ok (.aload_n 0, 1) := by decide +kernel
theorem dX7_parts_28 : decode cX7_parts 28 = .ok (.bipush (-3), 2) := by decide +kernel
theorem dX7_parts_30 : decode cX7_parts 30 = .ok (.invokevirtual 80, 3) := by decide +kernel
theorem dX7_parts_33 : decode cX7_parts 33 = .ok (.ireturn, 1) := by decide +kernel
theorem dX7_laysIdentity_0 : decode cX7_laysIdentity 0 = .ok (.iconst 0, 1) := by decide +kernel
theorem dX7_laysIdentity_1 : decode cX7_laysIdentity 1 = .ok (.istore_n 1, 1) := by decide +kernel
theorem dX7_laysIdentity_2 : decode cX7_laysIdentity 2 = .ok (.iload_n 1, 1) := by decide +kernel
theorem dX7_laysIdentity_3 : decode cX7_laysIdentity 3 = .ok (.aload_n 0, 1) := by decide +kernel
theorem dX7_laysIdentity_4 : decode cX7_laysIdentity 4 = .ok (.invokevirtual 60, 3) := by decide +kernel
theorem dX7_laysIdentity_7 : decode cX7_laysIdentity 7 = .ok (.if_icmp .ge 25, 3) := by decide +kernel
theorem dX7_laysIdentity_10 : decode cX7_laysIdentity 10 = .ok (.aload_n 0, 1) := by decide +kernel
theorem dX7_laysIdentity_11 : decode cX7_laysIdentity 11 = .ok (.getfield 22, 3) := by decide +kernel
theorem dX7_laysIdentity_14 : decode cX7_laysIdentity 14 = .ok (.iload_n 1, 1) := by decide +kernel
theorem dX7_laysIdentity_15 : decode cX7_laysIdentity 15 = .ok (.iconst 2, 1) := by decide +kernel
theorem dX7_laysIdentity_16 : decode cX7_laysIdentity 16 = .ok (.aload_n 0, 1) := by decide +kernel
theorem dX7_laysIdentity_17 : decode cX7_laysIdentity 17 = .ok (.iload_n 1, 1) := by decide +kernel
theorem dX7_laysIdentity_18 : decode cX7_laysIdentity 18 = .ok (.invokevirtual 72, 3) := by decide +kernel
theorem dX7_laysIdentity_21 : decode cX7_laysIdentity 21 = .ok (.iconst 1, 1) := by decide +kernel
theorem dX7_laysIdentity_22 : decode cX7_laysIdentity 22 = .ok (.isub, 1) := by decide +kernel
theorem dX7_laysIdentity_23 : decode cX7_laysIdentity 23 = .ok (.imul, 1) := by decide +kernel
theorem dX7_laysIdentity_24 : decode cX7_laysIdentity 24 = .ok (.i2l, 1) := by decide +kernel
theorem dX7_laysIdentity_25 : decode cX7_laysIdentity 25 = .ok (.lastore, 1) := by decide +kernel
theorem dX7_laysIdentity_26 : decode cX7_laysIdentity 26 = .ok (.iinc 1 1, 3) := by decide +kernel
theorem dX7_laysIdentity_29 : decode cX7_laysIdentity 29 = .ok (.goto (-27), 3) := by decide +kernel
theorem dX7_laysIdentity_32 : decode cX7_laysIdentity 32 = .ok (.aload_n 0, 1) := by decide +kernel
theorem dX7_laysIdentity_33 : decode cX7_laysIdentity 33 = .ok (.iconst 0, 1) := by decide +kernel
theorem dX7_laysIdentity_34 : decode cX7_laysIdentity 34 = .ok (.invokevirtual 163, 3) := by decide +kernel
theorem dX7_laysIdentity_37 : decode cX7_laysIdentity 37 = .ok (.iconst 0, 1) := by decide +kernel
theorem dX7_laysIdentity_38 : decode cX7_laysIdentity 38 = .ok (.istore_n 1, 1) := by decide +kernel
theorem dX7_laysIdentity_39 : decode cX7_laysIdentity 39 = .ok (.iload_n 1, 1) := by decide +kernel
theorem dX7_laysIdentity_40 : decode cX7_laysIdentity 40 = .ok (.aload_n 0, 1) := by decide +kernel
theorem dX7_laysIdentity_41 : decode cX7_laysIdentity 41 = .ok (.invokevirtual 60, 3) := by decide +kernel
theorem dX7_laysIdentity_44 : decode cX7_laysIdentity 44 = .ok (.if_icmp .ge 32, 3) := by decide +kernel
theorem dX7_laysIdentity_47 : decode cX7_laysIdentity 47 = .ok (.aload_n 0, 1) := by decide +kernel
theorem dX7_laysIdentity_48 : decode cX7_laysIdentity 48 = .ok (.getfield 22, 3) := by decide +kernel
theorem dX7_laysIdentity_51 : decode cX7_laysIdentity 51 = .ok (.iload_n 1, 1) := by decide +kernel
theorem dX7_laysIdentity_52 : decode cX7_laysIdentity 52 = .ok (.iconst 2, 1) := by decide +kernel
theorem dX7_laysIdentity_53 : decode cX7_laysIdentity 53 = .ok (.aload_n 0, 1) := by decide +kernel
theorem dX7_laysIdentity_54 : decode cX7_laysIdentity 54 = .ok (.iload_n 1, 1) := by decide +kernel
theorem dX7_laysIdentity_55 : decode cX7_laysIdentity 55 = .ok (.invokevirtual 72, 3) := by decide +kernel
theorem dX7_laysIdentity_58 : decode cX7_laysIdentity 58 = .ok (.iconst 1, 1) := by decide +kernel
theorem dX7_laysIdentity_59 : decode cX7_laysIdentity 59 = .ok (.isub, 1) := by decide +kernel
theorem dX7_laysIdentity_60 : decode cX7_laysIdentity 60 = .ok (.imul, 1) := by decide +kernel
theorem dX7_laysIdentity_61 : decode cX7_laysIdentity 61 = .ok (.i2l, 1) := by decide +kernel
theorem dX7_laysIdentity_62 : decode cX7_laysIdentity 62 = .ok (.aload_n 0, 1) := by decide +kernel
theorem dX7_laysIdentity_63 : decode cX7_laysIdentity 63 = .ok (.getfield 22, 3) := by decide +kernel
theorem dX7_laysIdentity_66 : decode cX7_laysIdentity 66 = .ok (.iload_n 1, 1) := by decide +kernel
theorem dX7_laysIdentity_67 : decode cX7_laysIdentity 67 = .ok (.laload, 1) := by decide +kernel
theorem dX7_laysIdentity_68 : decode cX7_laysIdentity 68 = .ok (.lsub, 1) := by decide +kernel
theorem dX7_laysIdentity_69 : decode cX7_laysIdentity 69 = .ok (.lastore, 1) := by decide +kernel
theorem dX7_laysIdentity_70 : decode cX7_laysIdentity 70 = .ok (.iinc 1 1, 3) := by decide +kernel
theorem dX7_laysIdentity_73 : decode cX7_laysIdentity 73 = .ok (.goto (-34), 3) := by decide +kernel
theorem dX7_laysIdentity_76 : decode cX7_laysIdentity 76 = .ok (.aload_n 0, 1) := by decide +kernel
theorem dX7_laysIdentity_77 : decode cX7_laysIdentity 77 = .ok (.iconst 0, 1) := by decide +kernel
theorem dX7_laysIdentity_78 : decode cX7_laysIdentity 78 = .ok (.invokevirtual 163, 3) := by decide +kernel
theorem dX7_laysIdentity_81 : decode cX7_laysIdentity 81 = .ok (.iconst 0, 1) := by decide +kernel
theorem dX7_laysIdentity_82 : decode cX7_laysIdentity 82 = .ok (.istore_n 1, 1) := by decide +kernel
theorem dX7_laysIdentity_83 : decode cX7_laysIdentity 83 = .ok (.iload_n 1, 1) := by decide +kernel
theorem dX7_laysIdentity_84 : decode cX7_laysIdentity 84 = .ok (.aload_n 0, 1) := by decide +kernel
theorem dX7_laysIdentity_85 : decode cX7_laysIdentity 85 = .ok (.invokevirtual 60, 3) := by decide +kernel
theorem dX7_laysIdentity_88 : decode cX7_laysIdentity 88 = .ok (.if_icmp .ge 29, 3) := by decide +kernel
theorem dX7_laysIdentity_91 : decode cX7_laysIdentity 91 = .ok (.aload_n 0, 1) := by decide +kernel
theorem dX7_laysIdentity_92 : decode cX7_laysIdentity 92 = .ok (.getfield 32, 3) := by decide +kernel
theorem dX7_laysIdentity_95 : decode cX7_laysIdentity 95 = .ok (.iload_n 1, 1) := by decide +kernel
theorem dX7_laysIdentity_96 : decode cX7_laysIdentity 96 = .ok (.iload_n 1, 1) := by decide +kernel
theorem dX7_laysIdentity_97 : decode cX7_laysIdentity 97 = .ok (.ifCond .ne 7, 3) := by decide +kernel
theorem dX7_laysIdentity_100 : decode cX7_laysIdentity 100 = .ok (.lconst 0, 1) := by decide +kernel
theorem dX7_laysIdentity_101 : decode cX7_laysIdentity 101 = .ok (.goto 9, 3) := by decide +kernel
theorem dX7_laysIdentity_104 : decode cX7_laysIdentity 104 = .ok (.aload_n 0, 1) := by decide +kernel
theorem dX7_laysIdentity_105 : decode cX7_laysIdentity 105 = .ok (.getfield 22, 3) := by decide +kernel
theorem dX7_laysIdentity_108 : decode cX7_laysIdentity 108 = .ok (.iload_n 1, 1) := by decide +kernel
theorem dX7_laysIdentity_109 : decode cX7_laysIdentity 109 = .ok (.laload, 1) := by decide +kernel
theorem dX7_laysIdentity_110 : decode cX7_laysIdentity 110 = .ok (.lastore, 1) := by decide +kernel
theorem dX7_laysIdentity_111 : decode cX7_laysIdentity 111 = .ok (.iinc 1 1, 3) := by decide +kernel
theorem dX7_laysIdentity_114 : decode cX7_laysIdentity 114 = .ok (.goto (-31), 3) := by decide +kernel
theorem dX7_laysIdentity_117 : decode cX7_laysIdentity 117 = .ok (.return_, 1) := by decide +kernel
theorem dX7_identity_0 : decode cX7_identity 0 = .ok (.aload_n 0, 1) := by decide +kernel
theorem dX7_identity_1 : decode cX7_identity 1 = .ok (.iload_n 1, 1) := by decide +kernel
theorem dX7_identity_2 : decode cX7_identity 2 = .ok (.invokevirtual 89, 3) := by decide +kernel
theorem dX7_identity_5 : decode cX7_identity 5 = .ok (.ifCond .ne 10, 3) := by decide +kernel
theorem dX7_identity_8 : decode cX7_identity 8 = .ok (.aload_n 0, 1) := by decide +kernel
theorem dX7_identity_9 : decode cX7_identity 9 = .ok (.bipush (-2), 2) := by decide +kernel
theorem dX7_identity_11 : decode cX7_identity 11 = .ok (.invokevirtual 80, 3) := by decide +kernel
theorem dX7_identity_14 : decode cX7_identity 14 = .ok (.ireturn, 1) := by decide +kernel
theorem dX7_identity_15 : decode cX7_identity 15 = .ok (.aload_n 0, 1) := by decide +kernel
theorem dX7_identity_16 : decode cX7_identity 16 = .ok (.invokevirtual 118, 3) := by decide +kernel
theorem dX7_identity_19 : decode cX7_identity 19 = .ok (.ifCond .ne 10, 3) := by decide +kernel
theorem dX7_identity_22 : decode cX7_identity 22 = .ok (.aload_n 0, 1) := by decide +kernel
theorem dX7_identity_23 : decode cX7_identity 23 = .ok (.bipush (-3), 2) := by decide +kernel
theorem dX7_identity_25 : decode cX7_identity 25 = .ok (.invokevirtual 80, 3) := by decide +kernel
theorem dX7_identity_28 : decode cX7_identity 28 = .ok (.ireturn, 1) := by decide +kernel
theorem dX7_identity_29 : decode cX7_identity 29 = .ok (.aload_n 0, 1) := by decide +kernel
theorem dX7_identity_30 : decode cX7_identity 30 = .ok (.invokevirtual 230, 3) := by decide +kernel
theorem dX7_identity_33 : decode cX7_identity 33 = .ok (.aload_n 0, 1) := by decide +kernel
theorem dX7_identity_34 : decode cX7_identity 34 = .ok (.getfield 32, 3) := by decide +kernel
theorem dX7_identity_37 : decode cX7_identity 37 = .ok (.iload_n 1, 1) := by decide +kernel
theorem dX7_identity_38 : decode cX7_identity 38 = .ok (.laload, 1) := by decide +kernel
theorem dX7_identity_39 : decode cX7_identity 39 = .ok (.l2i, 1) := by decide +kernel
theorem dX7_identity_40 : decode cX7_identity 40 = .ok (.ireturn, 1) := by decide +kernel
theorem dX7_laysRecurrent_0 : decode cX7_laysRecurrent 0 = .ok (.aload_n 0, 1) := by decide +kernel
theorem dX7_laysRecurrent_1 : decode cX7_laysRecurrent 1 = .ok (.invokevirtual 230, 3) := by decide +kernel
theorem dX7_laysRecurrent_4 : decode cX7_laysRecurrent 4 = .ok (.iconst 0, 1) := by decide +kernel
theorem dX7_laysRecurrent_5 : decode cX7_laysRecurrent 5 = .ok (.istore_n 1, 1) := by decide +kernel
theorem dX7_laysRecurrent_6 : decode cX7_laysRecurrent 6 = .ok (.iload_n 1, 1) := by decide +kernel
theorem dX7_laysRecurrent_7 : decode cX7_laysRecurrent 7 = .ok (.aload_n 0, 1) := by decide +kernel
theorem dX7_laysRecurrent_8 : decode cX7_laysRecurrent 8 = .ok (.invokevirtual 60, 3) := by decide +kernel
theorem dX7_laysRecurrent_11 : decode cX7_laysRecurrent 11 = .ok (.if_icmp .ge 36, 3) := by decide +kernel
theorem dX7_laysRecurrent_14 : decode cX7_laysRecurrent 14 = .ok (.aload_n 0, 1) := by decide +kernel
theorem dX7_laysRecurrent_15 : decode cX7_laysRecurrent 15 = .ok (.getfield 22, 3) := by decide +kernel
theorem dX7_laysRecurrent_18 : decode cX7_laysRecurrent 18 = .ok (.iload_n 1, 1) := by decide +kernel
theorem dX7_laysRecurrent_19 : decode cX7_laysRecurrent 19 = .ok (.iload_n 1, 1) := by decide +kernel
theorem dX7_laysRecurrent_20 : decode cX7_laysRecurrent 20 = .ok (.ifCond .ne 7, 3) := by decide +kernel
theorem dX7_laysRecurrent_23 : decode cX7_laysRecurrent 23 = .ok (.lconst 0, 1) := by decide +kernel
theorem dX7_laysRecurrent_24 : decode cX7_laysRecurrent 24 = .ok (.goto 16, 3) := by decide +kernel
theorem dX7_laysRecurrent_27 : decode cX7_laysRecurrent 27 = .ok (.aload_n 0, 1) := by decide +kernel
theorem dX7_laysRecurrent_28 : decode cX7_laysRecurrent 28 = .ok (.iload_n 1, 1) := by decide +kernel
theorem dX7_laysRecurrent_29 : decode cX7_laysRecurrent 29 = .ok (.invokevirtual 126, 3) := by decide +kernel
theorem dX7_laysRecurrent_32 : decode cX7_laysRecurrent 32 = .ok (.i2l, 1) := by decide +kernel
theorem dX7_laysRecurrent_33 : decode cX7_laysRecurrent 33 = .ok (.aload_n 0, 1) := by decide +kernel
theorem dX7_laysRecurrent_34 : decode cX7_laysRecurrent 34 = .ok (.getfield 32, 3) := by decide +kernel
theorem dX7_laysRecurrent_37 : decode cX7_laysRecurrent 37 = .ok (.iload_n 1, 1) := by decide +kernel
theorem dX7_laysRecurrent_38 : decode cX7_laysRecurrent 38 = .ok (.laload, 1) := by decide +kernel
theorem dX7_laysRecurrent_39 : decode cX7_laysRecurrent 39 = .ok (.ladd, 1) := by decide +kernel
theorem dX7_laysRecurrent_40 : decode cX7_laysRecurrent 40 = .ok (.lastore, 1) := by decide +kernel
theorem dX7_laysRecurrent_41 : decode cX7_laysRecurrent 41 = .ok (.iinc 1 1, 3) := by decide +kernel
theorem dX7_laysRecurrent_44 : decode cX7_laysRecurrent 44 = .ok (.goto (-38), 3) := by decide +kernel
theorem dX7_laysRecurrent_47 : decode cX7_laysRecurrent 47 = .ok (.aload_n 0, 1) := by decide +kernel
theorem dX7_laysRecurrent_48 : decode cX7_laysRecurrent 48 = .ok (.iconst 0, 1) := by decide +kernel
theorem dX7_laysRecurrent_49 : decode cX7_laysRecurrent 49 = .ok (.invokevirtual 163, 3) := by decide +kernel
theorem dX7_laysRecurrent_52 : decode cX7_laysRecurrent 52 = .ok (.iconst 0, 1) := by decide +kernel
theorem dX7_laysRecurrent_53 : decode cX7_laysRecurrent 53 = .ok (.istore_n 1, 1) := by decide +kernel
theorem dX7_laysRecurrent_54 : decode cX7_laysRecurrent 54 = .ok (.iload_n 1, 1) := by decide +kernel
theorem dX7_laysRecurrent_55 : decode cX7_laysRecurrent 55 = .ok (.aload_n 0, 1) := by decide +kernel
theorem dX7_laysRecurrent_56 : decode cX7_laysRecurrent 56 = .ok (.invokevirtual 60, 3) := by decide +kernel
theorem dX7_laysRecurrent_59 : decode cX7_laysRecurrent 59 = .ok (.if_icmp .ge 29, 3) := by decide +kernel
theorem dX7_laysRecurrent_62 : decode cX7_laysRecurrent 62 = .ok (.aload_n 0, 1) := by decide +kernel
theorem dX7_laysRecurrent_63 : decode cX7_laysRecurrent 63 = .ok (.getfield 35, 3) := by decide +kernel
theorem dX7_laysRecurrent_66 : decode cX7_laysRecurrent 66 = .ok (.iload_n 1, 1) := by decide +kernel
theorem dX7_laysRecurrent_67 : decode cX7_laysRecurrent 67 = .ok (.iload_n 1, 1) := by decide +kernel
theorem dX7_laysRecurrent_68 : decode cX7_laysRecurrent 68 = .ok (.ifCond .ne 7, 3) := by decide +kernel
theorem dX7_laysRecurrent_71 : decode cX7_laysRecurrent 71 = .ok (.lconst 0, 1) := by decide +kernel
theorem dX7_laysRecurrent_72 : decode cX7_laysRecurrent 72 = .ok (.goto 9, 3) := by decide +kernel
theorem dX7_laysRecurrent_75 : decode cX7_laysRecurrent 75 = .ok (.aload_n 0, 1) := by decide +kernel
theorem dX7_laysRecurrent_76 : decode cX7_laysRecurrent 76 = .ok (.getfield 22, 3) := by decide +kernel
theorem dX7_laysRecurrent_79 : decode cX7_laysRecurrent 79 = .ok (.iload_n 1, 1) := by decide +kernel
theorem dX7_laysRecurrent_80 : decode cX7_laysRecurrent 80 = .ok (.laload, 1) := by decide +kernel
theorem dX7_laysRecurrent_81 : decode cX7_laysRecurrent 81 = .ok (.lastore, 1) := by decide +kernel
theorem dX7_laysRecurrent_82 : decode cX7_laysRecurrent 82 = .ok (.iinc 1 1, 3) := by decide +kernel
theorem dX7_laysRecurrent_85 : decode cX7_laysRecurrent 85 = .ok (.goto (-31), 3) := by decide +kernel
theorem dX7_laysRecurrent_88 : decode cX7_laysRecurrent 88 = .ok (.return_, 1) := by decide +kernel
theorem dX7_recurrent_0 : decode cX7_recurrent 0 = .ok (.aload_n 0, 1) := by decide +kernel
theorem dX7_recurrent_1 : decode cX7_recurrent 1 = .ok (.iload_n 1, 1) := by decide +kernel
theorem dX7_recurrent_2 : decode cX7_recurrent 2 = .ok (.invokevirtual 89, 3) := by decide +kernel
theorem dX7_recurrent_5 : decode cX7_recurrent 5 = .ok (.ifCond .ne 10, 3) := by decide +kernel
theorem dX7_recurrent_8 : decode cX7_recurrent 8 = .ok (.aload_n 0, 1) := by decide +kernel
theorem dX7_recurrent_9 : decode cX7_recurrent 9 = .ok (.bipush (-2), 2) := by decide +kernel
theorem dX7_recurrent_11 : decode cX7_recurrent 11 = .ok (.invokevirtual 80, 3) := by decide +kernel
theorem dX7_recurrent_14 : decode cX7_recurrent 14 = .ok (.ireturn, 1) := by decide +kernel
theorem dX7_recurrent_15 : decode cX7_recurrent 15 = .ok (.aload_n 0, 1) := by decide +kernel
theorem dX7_recurrent_16 : decode cX7_recurrent 16 = .ok (.invokevirtual 118, 3) := by decide +kernel
theorem dX7_recurrent_19 : decode cX7_recurrent 19 = .ok (.ifCond .eq 10, 3) := by decide +kernel
theorem dX7_recurrent_22 : decode cX7_recurrent 22 = .ok (.aload_n 0, 1) := by decide +kernel
theorem dX7_recurrent_23 : decode cX7_recurrent 23 = .ok (.invokevirtual 157, 3) := by decide +kernel
theorem dX7_recurrent_26 : decode cX7_recurrent 26 = .ok (.ifCond .ne 10, 3) := by decide +kernel
theorem dX7_recurrent_29 : decode cX7_recurrent 29 = .ok (.aload_n 0, 1) := by decide +kernel
theorem dX7_recurrent_30 : decode cX7_recurrent 30 = .ok (.bipush (-3), 2) := by decide +kernel
theorem dX7_recurrent_32 : decode cX7_recurrent 32 = .ok (.invokevirtual 80, 3) := by decide +kernel
theorem dX7_recurrent_35 : decode cX7_recurrent 35 = .ok (.ireturn, 1) := by decide +kernel
theorem dX7_recurrent_36 : decode cX7_recurrent 36 = .ok (.aload_n 0, 1) := by decide +kernel
theorem dX7_recurrent_37 : decode cX7_recurrent 37 = .ok (.invokevirtual 233, 3) := by decide +kernel
theorem dX7_recurrent_40 : decode cX7_recurrent 40 = .ok (.aload_n 0, 1) := by decide +kernel
theorem dX7_recurrent_41 : decode cX7_recurrent 41 = .ok (.getfield 35, 3) := by decide +kernel
theorem dX7_recurrent_44 : decode cX7_recurrent 44 = .ok (.iload_n 1, 1) := by decide +kernel
theorem dX7_recurrent_45 : decode cX7_recurrent 45 = .ok (.laload, 1) := by decide +kernel
theorem dX7_recurrent_46 : decode cX7_recurrent 46 = .ok (.l2i, 1) := by decide +kernel
theorem dX7_recurrent_47 : decode cX7_recurrent 47 = .ok (.ireturn, 1) := by decide +kernel
theorem dX7_isIdentity_0 : decode cX7_isIdentity 0 = .ok (.iconst 1, 1) := by decide +kernel
theorem dX7_isIdentity_1 : decode cX7_isIdentity 1 = .ok (.istore_n 1, 1) := by decide +kernel
theorem dX7_isIdentity_2 : decode cX7_isIdentity 2 = .ok (.iconst 1, 1) := by decide +kernel
theorem dX7_isIdentity_3 : decode cX7_isIdentity 3 = .ok (.istore_n 2, 1) := by decide +kernel
theorem dX7_isIdentity_4 : decode cX7_isIdentity 4 = .ok (.iload_n 2, 1) := by decide +kernel
theorem dX7_isIdentity_5 : decode cX7_isIdentity 5 = .ok (.aload_n 0, 1) := by decide +kernel
theorem dX7_isIdentity_6 : decode cX7_isIdentity 6 = .ok (.invokevirtual 60, 3) := by decide +kernel
theorem dX7_isIdentity_9 : decode cX7_isIdentity 9 = .ok (.if_icmp .ge 35, 3) := by decide +kernel
theorem dX7_isIdentity_12 : decode cX7_isIdentity 12 = .ok (.iload_n 1, 1) := by decide +kernel
theorem dX7_isIdentity_13 : decode cX7_isIdentity 13 = .ok (.ifCond .eq 23, 3) := by decide +kernel
theorem dX7_isIdentity_16 : decode cX7_isIdentity 16 = .ok (.aload_n 0, 1) := by decide +kernel
theorem dX7_isIdentity_17 : decode cX7_isIdentity 17 = .ok (.getfield 22, 3) := by decide +kernel
theorem dX7_isIdentity_20 : decode cX7_isIdentity 20 = .ok (.iload_n 2, 1) := by decide +kernel
theorem dX7_isIdentity_21 : decode cX7_isIdentity 21 = .ok (.laload, 1) := by decide +kernel
theorem dX7_isIdentity_22 : decode cX7_isIdentity 22 = .ok (.aload_n 0, 1) := by decide +kernel
theorem dX7_isIdentity_23 : decode cX7_isIdentity 23 = .ok (.getfield 32, 3) := by decide +kernel
theorem dX7_isIdentity_26 : decode cX7_isIdentity 26 = .ok (.iload_n 2, 1) := by decide +kernel
theorem dX7_isIdentity_27 : decode cX7_isIdentity 27 = .ok (.laload, 1) := by decide +kernel
theorem dX7_isIdentity_28 : decode cX7_isIdentity 28 = .ok (.lcmp, 1) := by decide +kernel
theorem dX7_isIdentity_29 : decode cX7_isIdentity 29 = .ok (.ifCond .ne 7, 3) := by decide +kernel
theorem dX7_isIdentity_32 : decode cX7_isIdentity 32 = .ok (.iconst 1, 1) := by decide +kernel
theorem dX7_isIdentity_33 : decode cX7_isIdentity 33 = .ok (.goto 4, 3) := by decide +kernel
theorem dX7_isIdentity_36 : decode cX7_isIdentity 36 = .ok (.iconst 0, 1) := by decide +kernel
theorem dX7_isIdentity_37 : decode cX7_isIdentity 37 = .ok (.istore_n 1, 1) := by decide +kernel
theorem dX7_isIdentity_38 : decode cX7_isIdentity 38 = .ok (.iinc 2 1, 3) := by decide +kernel
theorem dX7_isIdentity_41 : decode cX7_isIdentity 41 = .ok (.goto (-37), 3) := by decide +kernel
theorem dX7_isIdentity_44 : decode cX7_isIdentity 44 = .ok (.iload_n 1, 1) := by decide +kernel
theorem dX7_isIdentity_45 : decode cX7_isIdentity 45 = .ok (.ireturn, 1) := by decide +kernel
theorem dX7_orderNow_0 : decode cX7_orderNow 0 = .ok (.aload_n 0, 1) := by decide +kernel
theorem dX7_orderNow_1 : decode cX7_orderNow 1 = .ok (.invokevirtual 233, 3) := by decide +kernel
theorem dX7_orderNow_4 : decode cX7_orderNow 4 = .ok (.iconst 0, 1) := by decide +kernel
theorem dX7_orderNow_5 : decode cX7_orderNow 5 = .ok (.istore_n 1, 1) := by decide +kernel
theorem dX7_orderNow_6 : decode cX7_orderNow 6 = .ok (.iload_n 1, 1) := by decide +kernel
theorem dX7_orderNow_7 : decode cX7_orderNow 7 = .ok (.aload_n 0, 1) := by decide +kernel
theorem dX7_orderNow_8 : decode cX7_orderNow 8 = .ok (.invokevirtual 60, 3) := by decide +kernel
theorem dX7_orderNow_11 : decode cX7_orderNow 11 = .ok (.if_icmp .ge 21, 3) := by decide +kernel
theorem dX7_orderNow_14 : decode cX7_orderNow 14 = .ok (.aload_n 0, 1) := by decide +kernel
theorem dX7_orderNow_15 : decode cX7_orderNow 15 = .ok (.getfield 22, 3) := by decide +kernel
theorem dX7_orderNow_18 : decode cX7_orderNow 18 = .ok (.iload_n 1, 1) := by decide +kernel
theorem dX7_orderNow_19 : decode cX7_orderNow 19 = .ok (.aload_n 0, 1) := by decide +kernel
theorem dX7_orderNow_20 : decode cX7_orderNow 20 = .ok (.getfield 35, 3) := by decide +kernel
theorem dX7_orderNow_23 : decode cX7_orderNow 23 = .ok (.iload_n 1, 1) := by decide +kernel
theorem dX7_orderNow_24 : decode cX7_orderNow 24 = .ok (.laload, 1) := by decide +kernel
theorem dX7_orderNow_25 : decode cX7_orderNow 25 = .ok (.lastore, 1) := by decide +kernel
theorem dX7_orderNow_26 : decode cX7_orderNow 26 = .ok (.iinc 1 1, 3) := by decide +kernel
theorem dX7_orderNow_29 : decode cX7_orderNow 29 = .ok (.goto (-23), 3) := by decide +kernel
theorem dX7_orderNow_32 : decode cX7_orderNow 32 = .ok (.iconst 1, 1) := by decide +kernel
theorem dX7_orderNow_33 : decode cX7_orderNow 33 = .ok (.istore_n 1, 1) := by decide +kernel
theorem dX7_orderNow_34 : decode cX7_orderNow 34 = .ok (.aload_n 0, 1) := by decide +kernel
theorem dX7_orderNow_35 : decode cX7_orderNow 35 = .ok (.invokevirtual 236, 3) := by decide +kernel
theorem dX7_orderNow_38 : decode cX7_orderNow 38 = .ok (.ifCond .ne 45, 3) := by decide +kernel
theorem dX7_orderNow_41 : decode cX7_orderNow 41 = .ok (.iconst 0, 1) := by decide +kernel
theorem dX7_orderNow_42 : decode cX7_orderNow 42 = .ok (.istore_n 2, 1) := by decide +kernel
theorem dX7_orderNow_43 : decode cX7_orderNow 43 = .ok (.iload_n 2, 1) := by decide +kernel
theorem dX7_orderNow_44 : decode cX7_orderNow 44 = .ok (.aload_n 0, 1) := by decide +kernel
theorem dX7_orderNow_45 : decode cX7_orderNow 45 = .ok (.invokevirtual 60, 3) := by decide +kernel
theorem dX7_orderNow_48 : decode cX7_orderNow 48 = .ok (.if_icmp .ge 24, 3) := by decide +kernel
theorem dX7_orderNow_51 : decode cX7_orderNow 51 = .ok (.aload_n 0, 1) := by decide +kernel
theorem dX7_orderNow_52 : decode cX7_orderNow 52 = .ok (.getfield 22, 3) := by decide +kernel
theorem dX7_orderNow_55 : decode cX7_orderNow 55 = .ok (.iload_n 2, 1) := by decide +kernel
theorem dX7_orderNow_56 : decode cX7_orderNow 56 = .ok (.dup2, 1) := by decide +kernel
theorem dX7_orderNow_57 : decode cX7_orderNow 57 = .ok (.laload, 1) := by decide +kernel
theorem dX7_orderNow_58 : decode cX7_orderNow 58 = .ok (.aload_n 0, 1) := by decide +kernel
theorem dX7_orderNow_59 : decode cX7_orderNow 59 = .ok (.getfield 35, 3) := by decide +kernel
theorem dX7_orderNow_62 : decode cX7_orderNow 62 = .ok (.iload_n 2, 1) := by decide +kernel
theorem dX7_orderNow_63 : decode cX7_orderNow 63 = .ok (.laload, 1) := by decide +kernel
theorem dX7_orderNow_64 : decode cX7_orderNow 64 = .ok (.ladd, 1) := by decide +kernel
theorem dX7_orderNow_65 : decode cX7_orderNow 65 = .ok (.lastore, 1) := by decide +kernel
theorem dX7_orderNow_66 : decode cX7_orderNow 66 = .ok (.iinc 2 1, 3) := by decide +kernel
theorem dX7_orderNow_69 : decode cX7_orderNow 69 = .ok (.goto (-26), 3) := by decide +kernel
theorem dX7_orderNow_72 : decode cX7_orderNow 72 = .ok (.aload_n 0, 1) := by decide +kernel
theorem dX7_orderNow_73 : decode cX7_orderNow 73 = .ok (.iconst 0, 1) := by decide +kernel
theorem dX7_orderNow_74 : decode cX7_orderNow 74 = .ok (.invokevirtual 163, 3) := by decide +kernel
theorem dX7_orderNow_77 : decode cX7_orderNow 77 = .ok (.iinc 1 1, 3) := by decide +kernel
theorem dX7_orderNow_80 : decode cX7_orderNow 80 = .ok (.goto (-46), 3) := by decide +kernel
theorem dX7_orderNow_83 : decode cX7_orderNow 83 = .ok (.iload_n 1, 1) := by decide +kernel
theorem dX7_orderNow_84 : decode cX7_orderNow 84 = .ok (.ireturn, 1) := by decide +kernel
theorem dX7_order_0 : decode cX7_order 0 = .ok (.aload_n 0, 1) := by decide +kernel
theorem dX7_order_1 : decode cX7_order 1 = .ok (.invokevirtual 118, 3) := by decide +kernel
theorem dX7_order_4 : decode cX7_order 4 = .ok (.ifCond .eq 17, 3) := by decide +kernel
theorem dX7_order_7 : decode cX7_order 7 = .ok (.aload_n 0, 1) := by decide +kernel
theorem dX7_order_8 : decode cX7_order 8 = .ok (.invokevirtual 157, 3) := by decide +kernel
theorem dX7_order_11 : decode cX7_order 11 = .ok (.ifCond .eq 10, 3) := by decide +kernel
theorem dX7_order_14 : decode cX7_order 14 = .ok (.aload_n 0, 1) := by decide +kernel
theorem dX7_order_15 : decode cX7_order 15 = .ok (.invokevirtual 239, 3) := by decide +kernel
theorem dX7_order_18 : decode cX7_order 18 = .ok (.goto 9, 3) := by decide +kernel
theorem dX7_order_21 : decode cX7_order 21 = .ok (.aload_n 0, 1) := by decide +kernel
theorem dX7_order_22 : decode cX7_order 22 = .ok (.bipush (-3), 2) := by decide +kernel
theorem dX7_order_24 : decode cX7_order 24 = .ok (.invokevirtual 80, 3) := by decide +kernel
theorem dX7_order_27 : decode cX7_order 27 = .ok (.ireturn, 1) := by decide +kernel
theorem dX7_stableHeaps_0 : decode cX7_stableHeaps 0 = .ok (.iconst 1, 1) := by decide +kernel
theorem dX7_stableHeaps_1 : decode cX7_stableHeaps 1 = .ok (.istore_n 1, 1) := by decide +kernel
theorem dX7_stableHeaps_2 : decode cX7_stableHeaps 2 = .ok (.iconst 1, 1) := by decide +kernel
theorem dX7_stableHeaps_3 : decode cX7_stableHeaps 3 = .ok (.istore_n 2, 1) := by decide +kernel
theorem dX7_stableHeaps_4 : decode cX7_stableHeaps 4 = .ok (.iload_n 2, 1) := by decide +kernel
theorem dX7_stableHeaps_5 : decode cX7_stableHeaps 5 = .ok (.aload_n 0, 1) := by decide +kernel
theorem dX7_stableHeaps_6 : decode cX7_stableHeaps 6 = .ok (.invokevirtual 60, 3) := by decide +kernel
theorem dX7_stableHeaps_9 : decode cX7_stableHeaps 9 = .ok (.if_icmp .ge 17, 3) := by decide +kernel
theorem dX7_stableHeaps_12 : decode cX7_stableHeaps 12 = .ok (.iload_n 1, 1) := by decide +kernel
theorem dX7_stableHeaps_13 : decode cX7_stableHeaps 13 = .ok (.aload_n 0, 1) := by decide +kernel
theorem dX7_stableHeaps_14 : decode cX7_stableHeaps 14 = .ok (.iload_n 2, 1) := by decide +kernel
theorem dX7_stableHeaps_15 : decode cX7_stableHeaps 15 = .ok (.invokevirtual 72, 3) := by decide +kernel
theorem dX7_stableHeaps_18 : decode cX7_stableHeaps 18 = .ok (.imul, 1) := by decide +kernel
theorem dX7_stableHeaps_19 : decode cX7_stableHeaps 19 = .ok (.istore_n 1, 1) := by decide +kernel
theorem dX7_stableHeaps_20 : decode cX7_stableHeaps 20 = .ok (.iinc 2 1, 3) := by decide +kernel
theorem dX7_stableHeaps_23 : decode cX7_stableHeaps 23 = .ok (.goto (-19), 3) := by decide +kernel
theorem dX7_stableHeaps_26 : decode cX7_stableHeaps 26 = .ok (.iload_n 1, 1) := by decide +kernel
theorem dX7_stableHeaps_27 : decode cX7_stableHeaps 27 = .ok (.ireturn, 1) := by decide +kernel
theorem dX7_heaps_0 : decode cX7_heaps 0 = .ok (.iload_n 1, 1) := by decide +kernel
theorem dX7_heaps_1 : decode cX7_heaps 1 = .ok (.i2l, 1) := by decide +kernel
theorem dX7_heaps_2 : decode cX7_heaps 2 = .ok (.lconst 0, 1) := by decide +kernel
theorem dX7_heaps_3 : decode cX7_heaps 3 = .ok (.lconst 1, 1) := by decide +kernel
theorem dX7_heaps_4 : decode cX7_heaps 4 = .ok (.invokestatic 64, 3) := by decide +kernel
theorem dX7_heaps_7 : decode cX7_heaps 7 = .ok (.ifCond .ne 10, 3) := by decide +kernel
theorem dX7_heaps_10 : decode cX7_heaps 10 = .ok (.aload_n 0, 1) := by decide +kernel
theorem dX7_heaps_11 : decode cX7_heaps 11 = .ok (.bipush (-2), 2) := by decide +kernel
theorem dX7_heaps_13 : decode cX7_heaps 13 = .ok (.invokevirtual 80, 3) := by decide +kernel
theorem dX7_heaps_16 : decode cX7_heaps 16 = .ok (.ireturn, 1) := by decide +kernel
theorem dX7_heaps_17 : decode cX7_heaps 17 = .ok (.aload_n 0, 1) := by decide +kernel
theorem dX7_heaps_18 : decode cX7_heaps 18 = .ok (.invokevirtual 118, 3) := by decide +kernel
theorem dX7_heaps_21 : decode cX7_heaps 21 = .ok (.ifCond .ne 12, 3) := by decide +kernel
theorem dX7_heaps_24 : decode cX7_heaps 24 = .ok (.aload_n 0, 1) := by decide +kernel
theorem dX7_heaps_25 : decode cX7_heaps 25 = .ok (.bipush (-3), 2) := by decide +kernel
theorem dX7_heaps_27 : decode cX7_heaps 27 = .ok (.invokevirtual 80, 3) := by decide +kernel
theorem dX7_heaps_30 : decode cX7_heaps 30 = .ok (.goto 18, 3) := by decide +kernel
theorem dX7_heaps_33 : decode cX7_heaps 33 = .ok (.iload_n 1, 1) := by decide +kernel
theorem dX7_heaps_34 : decode cX7_heaps 34 = .ok (.ifCond .ne 10, 3) := by decide +kernel
theorem dX7_heaps_37 : decode cX7_heaps 37 = .ok (.aload_n 0, 1) := by decide +kernel
theorem dX7_heaps_38 : decode cX7_heaps 38 = .ok (.invokevirtual 242, 3) := by decide +kernel
theorem dX7_heaps_41 : decode cX7_heaps 41 = .ok (.goto 7, 3) := by decide +kernel
theorem dX7_heaps_44 : decode cX7_heaps 44 = .ok (.aload_n 0, 1) := by decide +kernel
theorem dX7_heaps_45 : decode cX7_heaps 45 = .ok (.invokevirtual 205, 3) := by decide +kernel
theorem dX7_heaps_48 : decode cX7_heaps 48 = .ok (.ireturn, 1) := by decide +kernel
theorem dX7_laysLift_0 : decode cX7_laysLift 0 = .ok (.iconst 0, 1) := by decide +kernel
theorem dX7_laysLift_1 : decode cX7_laysLift 1 = .ok (.istore_n 2, 1) := by decide +kernel
theorem dX7_laysLift_2 : decode cX7_laysLift 2 = .ok (.iload_n 2, 1) := by decide +kernel
theorem dX7_laysLift_3 : decode cX7_laysLift 3 = .ok (.aload_n 0, 1) := by decide +kernel
theorem dX7_laysLift_4 : decode cX7_laysLift 4 = .ok (.invokevirtual 60, 3) := by decide +kernel
theorem dX7_laysLift_7 : decode cX7_laysLift 7 = .ok (.if_icmp .ge 35, 3) := by decide +kernel
theorem dX7_laysLift_10 : decode cX7_laysLift 10 = .ok (.aload_n 0, 1) := by decide +kernel
theorem dX7_laysLift_11 : decode cX7_laysLift 11 = .ok (.getfield 38, 3) := by decide +kernel
theorem dX7_laysLift_14 : decode cX7_laysLift 14 = .ok (.iload_n 2, 1) := by decide +kernel
theorem dX7_laysLift_15 : decode cX7_laysLift 15 = .ok (.aload_n 0, 1) := by decide +kernel
theorem dX7_laysLift_16 : decode cX7_laysLift 16 = .ok (.getfield 22, 3) := by decide +kernel
theorem dX7_laysLift_19 : decode cX7_laysLift 19 = .ok (.iload_n 2, 1) := by decide +kernel
theorem dX7_laysLift_20 : decode cX7_laysLift 20 = .ok (.laload, 1) := by decide +kernel
theorem dX7_laysLift_21 : decode cX7_laysLift 21 = .ok (.lastore, 1) := by decide +kernel
theorem dX7_laysLift_22 : decode cX7_laysLift 22 = .ok (.aload_n 0, 1) := by decide +kernel
theorem dX7_laysLift_23 : decode cX7_laysLift 23 = .ok (.getfield 22, 3) := by decide +kernel
theorem dX7_laysLift_26 : decode cX7_laysLift 26 = .ok (.iload_n 2, 1) := by decide +kernel
theorem dX7_laysLift_27 : decode cX7_laysLift 27 = .ok (.iconst 2, 1) := by decide +kernel
theorem dX7_laysLift_28 : decode cX7_laysLift 28 = .ok (.aload_n 0, 1) := by decide +kernel
theorem dX7_laysLift_29 : decode cX7_laysLift 29 = .ok (.iload_n 2, 1) := by decide +kernel
theorem dX7_laysLift_30 : decode cX7_laysLift 30 = .ok (.invokevirtual 72, 3) := by decide +kernel
theorem dX7_laysLift_33 : decode cX7_laysLift 33 = .ok (.imul, 1) := by decide +kernel
theorem dX7_laysLift_34 : decode cX7_laysLift 34 = .ok (.i2l, 1) := by decide +kernel
theorem dX7_laysLift_35 : decode cX7_laysLift 35 = .ok (.lastore, 1) := by decide +kernel
theorem dX7_laysLift_36 : decode cX7_laysLift 36 = .ok (.iinc 2 1, 3) := by decide +kernel
theorem dX7_laysLift_39 : decode cX7_laysLift 39 = .ok (.goto (-37), 3) := by decide +kernel
theorem dX7_laysLift_42 : decode cX7_laysLift 42 = .ok (.aload_n 0, 1) := by decide +kernel
theorem dX7_laysLift_43 : decode cX7_laysLift 43 = .ok (.iload_n 1, 1) := by decide +kernel
theorem dX7_laysLift_44 : decode cX7_laysLift 44 = .ok (.invokevirtual 163, 3) := by decide +kernel
theorem dX7_laysLift_47 : decode cX7_laysLift 47 = .ok (.iconst 0, 1) := by decide +kernel
theorem dX7_laysLift_48 : decode cX7_laysLift 48 = .ok (.istore_n 2, 1) := by decide +kernel
theorem dX7_laysLift_49 : decode cX7_laysLift 49 = .ok (.iload_n 2, 1) := by decide +kernel
theorem dX7_laysLift_50 : decode cX7_laysLift 50 = .ok (.aload_n 0, 1) := by decide +kernel
theorem dX7_laysLift_51 : decode cX7_laysLift 51 = .ok (.invokevirtual 60, 3) := by decide +kernel
theorem dX7_laysLift_54 : decode cX7_laysLift 54 = .ok (.if_icmp .ge 44, 3) := by decide +kernel
theorem dX7_laysLift_57 : decode cX7_laysLift 57 = .ok (.aload_n 0, 1) := by decide +kernel
theorem dX7_laysLift_58 : decode cX7_laysLift 58 = .ok (.getfield 38, 3) := by decide +kernel
theorem dX7_laysLift_61 : decode cX7_laysLift 61 = .ok (.iload_n 2, 1) := by decide +kernel
theorem dX7_laysLift_62 : decode cX7_laysLift 62 = .ok (.laload, 1) := by decide +kernel
theorem dX7_laysLift_63 : decode cX7_laysLift 63 = .ok (.lstore_n 3, 1) := by decide +kernel
theorem dX7_laysLift_64 : decode cX7_laysLift 64 = .ok (.aload_n 0, 1) := by decide +kernel
theorem dX7_laysLift_65 : decode cX7_laysLift 65 = .ok (.getfield 38, 3) := by decide +kernel
theorem dX7_laysLift_68 : decode cX7_laysLift 68 = .ok (.iload_n 2, 1) := by decide +kernel
theorem dX7_laysLift_69 : decode cX7_laysLift 69 = .ok (.iconst 2, 1) := by decide +kernel
theorem dX7_laysLift_70 : decode cX7_laysLift 70 = .ok (.aload_n 0, 1) := by decide +kernel
theorem dX7_laysLift_71 : decode cX7_laysLift 71 = .ok (.iload_n 2, 1) := by decide +kernel
theorem dX7_laysLift_72 : decode cX7_laysLift 72 = .ok (.invokevirtual 72, 3) := by decide +kernel
theorem dX7_laysLift_75 : decode cX7_laysLift 75 = .ok (.imul, 1) := by decide +kernel
theorem dX7_laysLift_76 : decode cX7_laysLift 76 = .ok (.i2l, 1) := by decide +kernel
theorem dX7_laysLift_77 : decode cX7_laysLift 77 = .ok (.aload_n 0, 1) := by decide +kernel
theorem dX7_laysLift_78 : decode cX7_laysLift 78 = .ok (.getfield 22, 3) := by decide +kernel
theorem dX7_laysLift_81 : decode cX7_laysLift 81 = .ok (.iload_n 2, 1) := by decide +kernel
theorem dX7_laysLift_82 : decode cX7_laysLift 82 = .ok (.laload, 1) := by decide +kernel
theorem dX7_laysLift_83 : decode cX7_laysLift 83 = .ok (.lsub, 1) := by decide +kernel
theorem dX7_laysLift_84 : decode cX7_laysLift 84 = .ok (.lastore, 1) := by decide +kernel
theorem dX7_laysLift_85 : decode cX7_laysLift 85 = .ok (.aload_n 0, 1) := by decide +kernel
theorem dX7_laysLift_86 : decode cX7_laysLift 86 = .ok (.getfield 22, 3) := by decide +kernel
theorem dX7_laysLift_89 : decode cX7_laysLift 89 = .ok (.iload_n 2, 1) := by decide +kernel
theorem dX7_laysLift_90 : decode cX7_laysLift 90 = .ok (.lload_n 3, 1) := by decide +kernel
theorem dX7_laysLift_91 : decode cX7_laysLift 91 = .ok (.lastore, 1) := by decide +kernel
theorem dX7_laysLift_92 : decode cX7_laysLift 92 = .ok (.iinc 2 1, 3) := by decide +kernel
theorem dX7_laysLift_95 : decode cX7_laysLift 95 = .ok (.goto (-46), 3) := by decide +kernel
theorem dX7_laysLift_98 : decode cX7_laysLift 98 = .ok (.return_, 1) := by decide +kernel
theorem dX7_unburnt_0 : decode cX7_unburnt 0 = .ok (.iconst 1, 1) := by decide +kernel
theorem dX7_unburnt_1 : decode cX7_unburnt 1 = .ok (.iload_n 1, 1) := by decide +kernel
theorem dX7_unburnt_2 : decode cX7_unburnt 2 = .ok (.ishl, 1) := by decide +kernel
theorem dX7_unburnt_3 : decode cX7_unburnt 3 = .ok (.istore_n 2, 1) := by decide +kernel
theorem dX7_unburnt_4 : decode cX7_unburnt 4 = .ok (.iconst 0, 1) := by decide +kernel
theorem dX7_unburnt_5 : decode cX7_unburnt 5 = .ok (.istore_n 3, 1) := by decide +kernel
theorem dX7_unburnt_6 : decode cX7_unburnt 6 = .ok (.iload_n 2, 1) := by decide +kernel
theorem dX7_unburnt_7 : decode cX7_unburnt 7 = .ok (.iload_n 3, 1) := by decide +kernel
theorem dX7_unburnt_8 : decode cX7_unburnt 8 = .ok (.if_icmp .eq 56, 3) := by decide +kernel
theorem dX7_unburnt_11 : decode cX7_unburnt 11 = .ok (.iload_n 2, 1) := by decide +kernel
theorem dX7_unburnt_12 : decode cX7_unburnt 12 = .ok (.istore_n 3, 1) := by decide +kernel
theorem dX7_unburnt_13 : decode cX7_unburnt 13 = .ok (.iconst 0, 1) := by decide +kernel
theorem dX7_unburnt_14 : decode cX7_unburnt 14 = .ok (.istore 4, 2) := by decide +kernel
theorem dX7_unburnt_16 : decode cX7_unburnt 16 = .ok (.iload 4, 2) := by decide +kernel
theorem dX7_unburnt_18 : decode cX7_unburnt 18 = .ok (.aload_n 0, 1) := by decide +kernel
theorem dX7_unburnt_19 : decode cX7_unburnt 19 = .ok (.invokevirtual 60, 3) := by decide +kernel
theorem dX7_unburnt_22 : decode cX7_unburnt 22 = .ok (.if_icmp .ge 39, 3) := by decide +kernel
theorem dX7_unburnt_25 : decode cX7_unburnt 25 = .ok (.iload_n 2, 1) := by decide +kernel
theorem dX7_unburnt_26 : decode cX7_unburnt 26 = .ok (.aload_n 0, 1) := by decide +kernel
theorem dX7_unburnt_27 : decode cX7_unburnt 27 = .ok (.iload 4, 2) := by decide +kernel
theorem dX7_unburnt_29 : decode cX7_unburnt 29 = .ok (.iload_n 3, 1) := by decide +kernel
theorem dX7_unburnt_30 : decode cX7_unburnt 30 = .ok (.invokevirtual 182, 3) := by decide +kernel
theorem dX7_unburnt_33 : decode cX7_unburnt 33 = .ok (.i2l, 1) := by decide +kernel
theorem dX7_unburnt_34 : decode cX7_unburnt 34 = .ok (.aload_n 0, 1) := by decide +kernel
theorem dX7_unburnt_35 : decode cX7_unburnt 35 = .ok (.getfield 22, 3) := by decide +kernel
theorem dX7_unburnt_38 : decode cX7_unburnt 38 = .ok (.iload 4, 2) := by decide +kernel
theorem dX7_unburnt_40 : decode cX7_unburnt 40 = .ok (.laload, 1) := by decide +kernel
theorem dX7_unburnt_41 : decode cX7_unburnt 41 = .ok (.lcmp, 1) := by decide +kernel
theorem dX7_unburnt_42 : decode cX7_unburnt 42 = .ok (.ifCond .le 10, 3) := by decide +kernel
theorem dX7_unburnt_45 : decode cX7_unburnt 45 = .ok (.iconst 1, 1) := by decide +kernel
theorem dX7_unburnt_46 : decode cX7_unburnt 46 = .ok (.iload 4, 2) := by decide +kernel
theorem dX7_unburnt_48 : decode cX7_unburnt 48 = .ok (.ishl, 1) := by decide +kernel
theorem dX7_unburnt_49 : decode cX7_unburnt 49 = .ok (.goto 4, 3) := by decide +kernel
theorem dX7_unburnt_52 : decode cX7_unburnt 52 = .ok (.iconst 0, 1) := by decide +kernel
theorem dX7_unburnt_53 : decode cX7_unburnt 53 = .ok (.ior, 1) := by decide +kernel
theorem dX7_unburnt_54 : decode cX7_unburnt 54 = .ok (.istore_n 2, 1) := by decide +kernel
theorem dX7_unburnt_55 : decode cX7_unburnt 55 = .ok (.iinc 4 1, 3) := by decide +kernel
theorem dX7_unburnt_58 : decode cX7_unburnt 58 = .ok (.goto (-42), 3) := by decide +kernel
theorem dX7_unburnt_61 : decode cX7_unburnt 61 = .ok (.goto (-55), 3) := by decide +kernel
theorem dX7_unburnt_64 : decode cX7_unburnt 64 = .ok (.iconst 1, 1) := by decide +kernel
theorem dX7_unburnt_65 : decode cX7_unburnt 65 = .ok (.aload_n 0, 1) := by decide +kernel
theorem dX7_unburnt_66 : decode cX7_unburnt 66 = .ok (.invokevirtual 60, 3) := by decide +kernel
theorem dX7_unburnt_69 : decode cX7_unburnt 69 = .ok (.ishl, 1) := by decide +kernel
theorem dX7_unburnt_70 : decode cX7_unburnt 70 = .ok (.iconst 1, 1) := by decide +kernel
theorem dX7_unburnt_71 : decode cX7_unburnt 71 = .ok (.isub, 1) := by decide +kernel
theorem dX7_unburnt_72 : decode cX7_unburnt 72 = .ok (.iload_n 2, 1) := by decide +kernel
theorem dX7_unburnt_73 : decode cX7_unburnt 73 = .ok (.iconst (-1), 1) := by decide +kernel
theorem dX7_unburnt_74 : decode cX7_unburnt 74 = .ok (.ixor, 1) := by decide +kernel
theorem dX7_unburnt_75 : decode cX7_unburnt 75 = .ok (.iand, 1) := by decide +kernel
theorem dX7_unburnt_76 : decode cX7_unburnt 76 = .ok (.ireturn, 1) := by decide +kernel
theorem dX7_reduces_0 : decode cX7_reduces 0 = .ok (.lconst 0, 1) := by decide +kernel
theorem dX7_reduces_1 : decode cX7_reduces 1 = .ok (.lstore_n 2, 1) := by decide +kernel
theorem dX7_reduces_2 : decode cX7_reduces 2 = .ok (.aload_n 0, 1) := by decide +kernel
theorem dX7_reduces_3 : decode cX7_reduces 3 = .ok (.iload_n 1, 1) := by decide +kernel
theorem dX7_reduces_4 : decode cX7_reduces 4 = .ok (.invokevirtual 245, 3) := by decide +kernel
theorem dX7_reduces_7 : decode cX7_reduces 7 = .ok (.iconst 0, 1) := by decide +kernel
theorem dX7_reduces_8 : decode cX7_reduces 8 = .ok (.istore 4, 2) := by decide +kernel
theorem dX7_reduces_10 : decode cX7_reduces 10 = .ok (.iload 4, 2) := by decide +kernel
theorem dX7_reduces_12 : decode cX7_reduces 12 = .ok (.aload_n 0, 1) := by decide +kernel
theorem dX7_reduces_13 : decode cX7_reduces 13 = .ok (.invokevirtual 60, 3) := by decide +kernel
theorem dX7_reduces_16 : decode cX7_reduces 16 = .ok (.if_icmp .ge 72, 3) := by decide +kernel
theorem dX7_reduces_19 : decode cX7_reduces 19 = .ok (.iload 4, 2) := by decide +kernel
theorem dX7_reduces_21 : decode cX7_reduces 21 = .ok (.iload_n 1, 1) := by decide +kernel
theorem dX7_reduces_22 : decode cX7_reduces 22 = .ok (.if_icmp .eq 15, 3) := by decide +kernel
theorem dX7_reduces_25 : decode cX7_reduces 25 = .ok (.aload_n 0, 1) := by decide +kernel
theorem dX7_reduces_26 : decode cX7_reduces 26 = .ok (.getfield 22, 3) := by decide +kernel
theorem dX7_reduces_29 : decode cX7_reduces 29 = .ok (.iload 4, 2) := by decide +kernel
theorem dX7_reduces_31 : decode cX7_reduces 31 = .ok (.laload, 1) := by decide +kernel
theorem dX7_reduces_32 : decode cX7_reduces 32 = .ok (.lconst 0, 1) := by decide +kernel
theorem dX7_reduces_33 : decode cX7_reduces 33 = .ok (.lcmp, 1) := by decide +kernel
theorem dX7_reduces_34 : decode cX7_reduces 34 = .ok (.ifCond .lt 7, 3) := by decide +kernel
theorem dX7_reduces_37 : decode cX7_reduces 37 = .ok (.lconst 0, 1) := by decide +kernel
theorem dX7_reduces_38 : decode cX7_reduces 38 = .ok (.goto 28, 3) := by decide +kernel
theorem dX7_reduces_41 : decode cX7_reduces 41 = .ok (.aload_n 0, 1) := by decide +kernel
theorem dX7_reduces_42 : decode cX7_reduces 42 = .ok (.getfield 38, 3) := by decide +kernel
theorem dX7_reduces_45 : decode cX7_reduces 45 = .ok (.iload 4, 2) := by decide +kernel
theorem dX7_reduces_47 : decode cX7_reduces 47 = .ok (.laload, 1) := by decide +kernel
theorem dX7_reduces_48 : decode cX7_reduces 48 = .ok (.lconst 1, 1) := by decide +kernel
theorem dX7_reduces_49 : decode cX7_reduces 49 = .ok (.lsub, 1) := by decide +kernel
theorem dX7_reduces_50 : decode cX7_reduces 50 = .ok (.aload_n 0, 1) := by decide +kernel
theorem dX7_reduces_51 : decode cX7_reduces 51 = .ok (.getfield 22, 3) := by decide +kernel
theorem dX7_reduces_54 : decode cX7_reduces 54 = .ok (.iload 4, 2) := by decide +kernel
theorem dX7_reduces_56 : decode cX7_reduces 56 = .ok (.laload, 1) := by decide +kernel
theorem dX7_reduces_57 : decode cX7_reduces 57 = .ok (.lsub, 1) := by decide +kernel
theorem dX7_reduces_58 : decode cX7_reduces 58 = .ok (.aload_n 0, 1) := by decide +kernel
theorem dX7_reduces_59 : decode cX7_reduces 59 = .ok (.getfield 38, 3) := by decide +kernel
theorem dX7_reduces_62 : decode cX7_reduces 62 = .ok (.iload 4, 2) := by decide +kernel
theorem dX7_reduces_64 : decode cX7_reduces 64 = .ok (.laload, 1) := by decide +kernel
theorem dX7_reduces_65 : decode cX7_reduces 65 = .ok (.ldiv, 1) := by decide +kernel
theorem dX7_reduces_66 : decode cX7_reduces 66 = .ok (.lstore 5, 2) := by decide +kernel
theorem dX7_reduces_68 : decode cX7_reduces 68 = .ok (.lload 5, 2) := by decide +kernel
theorem dX7_reduces_70 : decode cX7_reduces 70 = .ok (.lload_n 2, 1) := by decide +kernel
theorem dX7_reduces_71 : decode cX7_reduces 71 = .ok (.lcmp, 1) := by decide +kernel
theorem dX7_reduces_72 : decode cX7_reduces 72 = .ok (.ifCond .le 8, 3) := by decide +kernel
theorem dX7_reduces_75 : decode cX7_reduces 75 = .ok (.lload 5, 2) := by decide +kernel
theorem dX7_reduces_77 : decode cX7_reduces 77 = .ok (.goto 4, 3) := by decide +kernel
theorem dX7_reduces_80 : decode cX7_reduces 80 = .ok (.lload_n 2, 1) := by decide +kernel
theorem dX7_reduces_81 : decode cX7_reduces 81 = .ok (.lstore_n 2, 1) := by decide +kernel
theorem dX7_reduces_82 : decode cX7_reduces 82 = .ok (.iinc 4 1, 3) := by decide +kernel
theorem dX7_reduces_85 : decode cX7_reduces 85 = .ok (.goto (-75), 3) := by decide +kernel
theorem dX7_reduces_88 : decode cX7_reduces 88 = .ok (.iconst 0, 1) := by decide +kernel
theorem dX7_reduces_89 : decode cX7_reduces 89 = .ok (.istore 4, 2) := by decide +kernel
theorem dX7_reduces_91 : decode cX7_reduces 91 = .ok (.iload 4, 2) := by decide +kernel
theorem dX7_reduces_93 : decode cX7_reduces 93 = .ok (.aload_n 0, 1) := by decide +kernel
theorem dX7_reduces_94 : decode cX7_reduces 94 = .ok (.invokevirtual 60, 3) := by decide +kernel
theorem dX7_reduces_97 : decode cX7_reduces 97 = .ok (.if_icmp .ge 28, 3) := by decide +kernel
theorem dX7_reduces_100 : decode cX7_reduces 100 = .ok (.aload_n 0, 1) := by decide +kernel
theorem dX7_reduces_101 : decode cX7_reduces 101 = .ok (.getfield 22, 3) := by decide +kernel
theorem dX7_reduces_104 : decode cX7_reduces 104 = .ok (.iload 4, 2) := by decide +kernel
theorem dX7_reduces_106 : decode cX7_reduces 106 = .ok (.dup2, 1) := by decide +kernel
theorem dX7_reduces_107 : decode cX7_reduces 107 = .ok (.laload, 1) := by decide +kernel
theorem dX7_reduces_108 : decode cX7_reduces 108 = .ok (.lload_n 2, 1) := by decide +kernel
theorem dX7_reduces_109 : decode cX7_reduces 109 = .ok (.aload_n 0, 1) := by decide +kernel
theorem dX7_reduces_110 : decode cX7_reduces 110 = .ok (.getfield 38, 3) := by decide +kernel
theorem dX7_reduces_113 : decode cX7_reduces 113 = .ok (.iload 4, 2) := by decide +kernel
theorem dX7_reduces_115 : decode cX7_reduces 115 = .ok (.laload, 1) := by decide +kernel
theorem dX7_reduces_116 : decode cX7_reduces 116 = .ok (.lmul, 1) := by decide +kernel
theorem dX7_reduces_117 : decode cX7_reduces 117 = .ok (.ladd, 1) := by decide +kernel
theorem dX7_reduces_118 : decode cX7_reduces 118 = .ok (.lastore, 1) := by decide +kernel
theorem dX7_reduces_119 : decode cX7_reduces 119 = .ok (.iinc 4 1, 3) := by decide +kernel
theorem dX7_reduces_122 : decode cX7_reduces 122 = .ok (.goto (-31), 3) := by decide +kernel
theorem dX7_reduces_125 : decode cX7_reduces 125 = .ok (.aload_n 0, 1) := by decide +kernel
theorem dX7_reduces_126 : decode cX7_reduces 126 = .ok (.iload_n 1, 1) := by decide +kernel
theorem dX7_reduces_127 : decode cX7_reduces 127 = .ok (.invokevirtual 163, 3) := by decide +kernel
theorem dX7_reduces_130 : decode cX7_reduces 130 = .ok (.aload_n 0, 1) := by decide +kernel
theorem dX7_reduces_131 : decode cX7_reduces 131 = .ok (.iload_n 1, 1) := by decide +kernel
theorem dX7_reduces_132 : decode cX7_reduces 132 = .ok (.invokevirtual 248, 3) := by decide +kernel
theorem dX7_reduces_135 : decode cX7_reduces 135 = .ok (.istore 4, 2) := by decide +kernel
theorem dX7_reduces_137 : decode cX7_reduces 137 = .ok (.iload 4, 2) := by decide +kernel
theorem dX7_reduces_139 : decode cX7_reduces 139 = .ok (.ifCond .eq 51, 3) := by decide +kernel
theorem dX7_reduces_142 : decode cX7_reduces 142 = .ok (.iconst 0, 1) := by decide +kernel
theorem dX7_reduces_143 : decode cX7_reduces 143 = .ok (.istore 5, 2) := by decide +kernel
theorem dX7_reduces_145 : decode cX7_reduces 145 = .ok (.iload 5, 2) := by decide +kernel
theorem dX7_reduces_147 : decode cX7_reduces 147 = .ok (.aload_n 0, 1) := by decide +kernel
theorem dX7_reduces_148 : decode cX7_reduces 148 = .ok (.invokevirtual 60, 3) := by decide +kernel
theorem dX7_reduces_151 : decode cX7_reduces 151 = .ok (.if_icmp .ge 29, 3) := by decide +kernel
theorem dX7_reduces_154 : decode cX7_reduces 154 = .ok (.aload_n 0, 1) := by decide +kernel
theorem dX7_reduces_155 : decode cX7_reduces 155 = .ok (.getfield 22, 3) := by decide +kernel
theorem dX7_reduces_158 : decode cX7_reduces 158 = .ok (.iload 5, 2) := by decide +kernel
theorem dX7_reduces_160 : decode cX7_reduces 160 = .ok (.dup2, 1) := by decide +kernel
theorem dX7_reduces_161 : decode cX7_reduces 161 = .ok (.laload, 1) := by decide +kernel
theorem dX7_reduces_162 : decode cX7_reduces 162 = .ok (.aload_n 0, 1) := by decide +kernel
theorem dX7_reduces_163 : decode cX7_reduces 163 = .ok (.iload 5, 2) := by decide +kernel
theorem dX7_reduces_165 : decode cX7_reduces 165 = .ok (.iload 4, 2) := by decide +kernel
theorem dX7_reduces_167 : decode cX7_reduces 167 = .ok (.iconst 1, 1) := by decide +kernel
theorem dX7_reduces_168 : decode cX7_reduces 168 = .ok (.invokevirtual 142, 3) := by decide +kernel
theorem dX7_reduces_171 : decode cX7_reduces 171 = .ok (.i2l, 1) := by decide +kernel
theorem dX7_reduces_172 : decode cX7_reduces 172 = .ok (.ladd, 1) := by decide +kernel
theorem dX7_reduces_173 : decode cX7_reduces 173 = .ok (.lastore, 1) := by decide +kernel
theorem dX7_reduces_174 : decode cX7_reduces 174 = .ok (.iinc 5 1, 3) := by decide +kernel
theorem dX7_reduces_177 : decode cX7_reduces 177 = .ok (.goto (-32), 3) := by decide +kernel
theorem dX7_reduces_180 : decode cX7_reduces 180 = .ok (.aload_n 0, 1) := by decide +kernel
theorem dX7_reduces_181 : decode cX7_reduces 181 = .ok (.iload_n 1, 1) := by decide +kernel
theorem dX7_reduces_182 : decode cX7_reduces 182 = .ok (.invokevirtual 248, 3) := by decide +kernel
theorem dX7_reduces_185 : decode cX7_reduces 185 = .ok (.istore 4, 2) := by decide +kernel
theorem dX7_reduces_187 : decode cX7_reduces 187 = .ok (.goto (-50), 3) := by decide +kernel
theorem dX7_reduces_190 : decode cX7_reduces 190 = .ok (.return_, 1) := by decide +kernel
theorem dX7_reduced_0 : decode cX7_reduced 0 = .ok (.aload_n 0, 1) := by decide +kernel
theorem dX7_reduced_1 : decode cX7_reduced 1 = .ok (.iload_n 1, 1) := by decide +kernel
theorem dX7_reduced_2 : decode cX7_reduced 2 = .ok (.invokevirtual 89, 3) := by decide +kernel
theorem dX7_reduced_5 : decode cX7_reduced 5 = .ok (.ifCond .eq 11, 3) := by decide +kernel
theorem dX7_reduced_8 : decode cX7_reduced 8 = .ok (.aload_n 0, 1) := by decide +kernel
theorem dX7_reduced_9 : decode cX7_reduced 9 = .ok (.iload_n 2, 1) := by decide +kernel
theorem dX7_reduced_10 : decode cX7_reduced 10 = .ok (.invokevirtual 89, 3) := by decide +kernel
theorem dX7_reduced_13 : decode cX7_reduced 13 = .ok (.ifCond .ne 10, 3) := by decide +kernel
theorem dX7_reduced_16 : decode cX7_reduced 16 = .ok (.aload_n 0, 1) := by decide +kernel
theorem dX7_reduced_17 : decode cX7_reduced 17 = .ok (.bipush (-2), 2) := by decide +kernel
theorem dX7_reduced_19 : decode cX7_reduced 19 = .ok (.invokevirtual 80, 3) := by decide +kernel
theorem dX7_reduced_22 : decode cX7_reduced 22 = .ok (.ireturn, 1) := by decide +kernel
theorem dX7_reduced_23 : decode cX7_reduced 23 = .ok (.aload_n 0, 1) := by decide +kernel
theorem dX7_reduced_24 : decode cX7_reduced 24 = .ok (.invokevirtual 118, 3) := by decide +kernel
theorem dX7_reduced_27 : decode cX7_reduced 27 = .ok (.ifCond .ne 10, 3) := by decide +kernel
theorem dX7_reduced_30 : decode cX7_reduced 30 = .ok (.aload_n 0, 1) := by decide +kernel
theorem dX7_reduced_31 : decode cX7_reduced 31 = .ok (.bipush (-3), 2) := by decide +kernel
theorem dX7_reduced_33 : decode cX7_reduced 33 = .ok (.invokevirtual 80, 3) := by decide +kernel
theorem dX7_reduced_36 : decode cX7_reduced 36 = .ok (.ireturn, 1) := by decide +kernel
theorem dX7_reduced_37 : decode cX7_reduced 37 = .ok (.aload_n 0, 1) := by decide +kernel
theorem dX7_reduced_38 : decode cX7_reduced 38 = .ok (.invokevirtual 160, 3) := by decide +kernel
theorem dX7_reduced_41 : decode cX7_reduced 41 = .ok (.aload_n 0, 1) := by decide +kernel
theorem dX7_reduced_42 : decode cX7_reduced 42 = .ok (.iload_n 1, 1) := by decide +kernel
theorem dX7_reduced_43 : decode cX7_reduced 43 = .ok (.invokevirtual 251, 3) := by decide +kernel
theorem dX7_reduced_46 : decode cX7_reduced 46 = .ok (.aload_n 0, 1) := by decide +kernel
theorem dX7_reduced_47 : decode cX7_reduced 47 = .ok (.getfield 22, 3) := by decide +kernel
theorem dX7_reduced_50 : decode cX7_reduced 50 = .ok (.iload_n 2, 1) := by decide +kernel
theorem dX7_reduced_51 : decode cX7_reduced 51 = .ok (.laload, 1) := by decide +kernel
theorem dX7_reduced_52 : decode cX7_reduced 52 = .ok (.l2i, 1) := by decide +kernel
theorem dX7_reduced_53 : decode cX7_reduced 53 = .ok (.sipush 10000, 3) := by decide +kernel
theorem dX7_reduced_56 : decode cX7_reduced 56 = .ok (.iadd, 1) := by decide +kernel
theorem dX7_reduced_57 : decode cX7_reduced 57 = .ok (.ireturn, 1) := by decide +kernel
theorem dX7_isWon_0 : decode cX7_isWon 0 = .ok (.aload_n 0, 1) := by decide +kernel
theorem dX7_isWon_1 : decode cX7_isWon 1 = .ok (.iconst 0, 1) := by decide +kernel
theorem dX7_isWon_2 : decode cX7_isWon 2 = .ok (.invokevirtual 251, 3) := by decide +kernel
theorem dX7_isWon_5 : decode cX7_isWon 5 = .ok (.aload_n 0, 1) := by decide +kernel
theorem dX7_isWon_6 : decode cX7_isWon 6 = .ok (.getfield 22, 3) := by decide +kernel
theorem dX7_isWon_9 : decode cX7_isWon 9 = .ok (.iconst 0, 1) := by decide +kernel
theorem dX7_isWon_10 : decode cX7_isWon 10 = .ok (.laload, 1) := by decide +kernel
theorem dX7_isWon_11 : decode cX7_isWon 11 = .ok (.lconst 0, 1) := by decide +kernel
theorem dX7_isWon_12 : decode cX7_isWon 12 = .ok (.lcmp, 1) := by decide +kernel
theorem dX7_isWon_13 : decode cX7_isWon 13 = .ok (.ifCond .lt 7, 3) := by decide +kernel
theorem dX7_isWon_16 : decode cX7_isWon 16 = .ok (.iconst 1, 1) := by decide +kernel
theorem dX7_isWon_17 : decode cX7_isWon 17 = .ok (.goto 4, 3) := by decide +kernel
theorem dX7_isWon_20 : decode cX7_isWon 20 = .ok (.iconst 0, 1) := by decide +kernel
theorem dX7_isWon_21 : decode cX7_isWon 21 = .ok (.ireturn, 1) := by decide +kernel
theorem dX7_won_0 : decode cX7_won 0 = .ok (.aload_n 0, 1) := by decide +kernel
theorem dX7_won_1 : decode cX7_won 1 = .ok (.invokevirtual 118, 3) := by decide +kernel
theorem dX7_won_4 : decode cX7_won 4 = .ok (.ifCond .ne 10, 3) := by decide +kernel
theorem dX7_won_7 : decode cX7_won 7 = .ok (.aload_n 0, 1) := by decide +kernel
theorem dX7_won_8 : decode cX7_won 8 = .ok (.bipush (-3), 2) := by decide +kernel
theorem dX7_won_10 : decode cX7_won 10 = .ok (.invokevirtual 80, 3) := by decide +kernel
theorem dX7_won_13 : decode cX7_won 13 = .ok (.ireturn, 1) := by decide +kernel
theorem dX7_won_14 : decode cX7_won 14 = .ok (.aload_n 0, 1) := by decide +kernel
theorem dX7_won_15 : decode cX7_won 15 = .ok (.invokevirtual 160, 3) := by decide +kernel
theorem dX7_won_18 : decode cX7_won 18 = .ok (.aload_n 0, 1) := by decide +kernel
theorem dX7_won_19 : decode cX7_won 19 = .ok (.invokevirtual 254, 3) := by decide +kernel
theorem dX7_won_22 : decode cX7_won 22 = .ok (.ifCond .eq 7, 3) := by decide +kernel
theorem dX7_won_25 : decode cX7_won 25 = .ok (.iconst 1, 1) := by decide +kernel
theorem dX7_won_26 : decode cX7_won 26 = .ok (.goto 4, 3) := by decide +kernel
theorem dX7_won_29 : decode cX7_won 29 = .ok (.iconst 0, 1) := by decide +kernel
theorem dX7_won_30 : decode cX7_won 30 = .ok (.ireturn, 1) := by decide +kernel
theorem dX7_degree_0 : decode cX7_degree 0 = .ok (.iconst 0, 1) := by decide +kernel
theorem dX7_degree_1 : decode cX7_degree 1 = .ok (.istore_n 1, 1) := by decide +kernel
theorem dX7_degree_2 : decode cX7_degree 2 = .ok (.iconst 0, 1) := by decide +kernel
theorem dX7_degree_3 : decode cX7_degree 3 = .ok (.istore_n 2, 1) := by decide +kernel
theorem dX7_degree_4 : decode cX7_degree 4 = .ok (.iload_n 2, 1) := by decide +kernel
theorem dX7_degree_5 : decode cX7_degree 5 = .ok (.aload_n 0, 1) := by decide +kernel
theorem dX7_degree_6 : decode cX7_degree 6 = .ok (.invokevirtual 60, 3) := by decide +kernel
theorem dX7_degree_9 : decode cX7_degree 9 = .ok (.if_icmp .ge 17, 3) := by decide +kernel
theorem dX7_degree_12 : decode cX7_degree 12 = .ok (.iload_n 1, 1) := by decide +kernel
theorem dX7_degree_13 : decode cX7_degree 13 = .ok (.aload_n 0, 1) := by decide +kernel
theorem dX7_degree_14 : decode cX7_degree 14 = .ok (.iload_n 2, 1) := by decide +kernel
theorem dX7_degree_15 : decode cX7_degree 15 = .ok (.invokevirtual 126, 3) := by decide +kernel
theorem dX7_degree_18 : decode cX7_degree 18 = .ok (.iadd, 1) := by decide +kernel
theorem dX7_degree_19 : decode cX7_degree 19 = .ok (.istore_n 1, 1) := by decide +kernel
theorem dX7_degree_20 : decode cX7_degree 20 = .ok (.iinc 2 1, 3) := by decide +kernel
theorem dX7_degree_23 : decode cX7_degree 23 = .ok (.goto (-19), 3) := by decide +kernel
theorem dX7_degree_26 : decode cX7_degree 26 = .ok (.iload_n 1, 1) := by decide +kernel
theorem dX7_degree_27 : decode cX7_degree 27 = .ok (.ireturn, 1) := by decide +kernel
theorem dX7_dualDegree_0 : decode cX7_dualDegree 0 = .ok (.iconst 2, 1) := by decide +kernel
theorem dX7_dualDegree_1 : decode cX7_dualDegree 1 = .ok (.aload_n 0, 1) := by decide +kernel
theorem dX7_dualDegree_2 : decode cX7_dualDegree 2 = .ok (.invokevirtual 115, 3) := by decide +kernel
theorem dX7_dualDegree_5 : decode cX7_dualDegree 5 = .ok (.imul, 1) := by decide +kernel
theorem dX7_dualDegree_6 : decode cX7_dualDegree 6 = .ok (.iconst 2, 1) := by decide +kernel
theorem dX7_dualDegree_7 : decode cX7_dualDegree 7 = .ok (.aload_n 0, 1) := by decide +kernel
theorem dX7_dualDegree_8 : decode cX7_dualDegree 8 = .ok (.invokevirtual 60, 3) := by decide +kernel
theorem dX7_dualDegree_11 : decode cX7_dualDegree 11 = .ok (.imul, 1) := by decide +kernel
theorem dX7_dualDegree_12 : decode cX7_dualDegree 12 = .ok (.isub, 1) := by decide +kernel
theorem dX7_dualDegree_13 : decode cX7_dualDegree 13 = .ok (.aload_n 0, 1) := by decide +kernel
theorem dX7_dualDegree_14 : decode cX7_dualDegree 14 = .ok (.invokevirtual 257, 3) := by decide +kernel
theorem dX7_dualDegree_17 : decode cX7_dualDegree 17 = .ok (.isub, 1) := by decide +kernel
theorem dX7_dualDegree_18 : decode cX7_dualDegree 18 = .ok (.ireturn, 1) := by decide +kernel
theorem dX7_isWonWithout_0 : decode cX7_isWonWithout 0 = .ok (.iconst 0, 1) := by decide +kernel
theorem dX7_isWonWithout_1 : decode cX7_isWonWithout 1 = .ok (.istore_n 1, 1) := by decide +kernel
theorem dX7_isWonWithout_2 : decode cX7_isWonWithout 2 = .ok (.iload_n 1, 1) := by decide +kernel
theorem dX7_isWonWithout_3 : decode cX7_isWonWithout 3 = .ok (.aload_n 0, 1) := by decide +kernel
theorem dX7_isWonWithout_4 : decode cX7_isWonWithout 4 = .ok (.invokevirtual 60, 3) := by decide +kernel
theorem dX7_isWonWithout_7 : decode cX7_isWonWithout 7 = .ok (.if_icmp .ge 29, 3) := by decide +kernel
theorem dX7_isWonWithout_10 : decode cX7_isWonWithout 10 = .ok (.aload_n 0, 1) := by decide +kernel
theorem dX7_isWonWithout_11 : decode cX7_isWonWithout 11 = .ok (.getfield 22, 3) := by decide +kernel
theorem dX7_isWonWithout_14 : decode cX7_isWonWithout 14 = .ok (.iload_n 1, 1) := by decide +kernel
theorem dX7_isWonWithout_15 : decode cX7_isWonWithout 15 = .ok (.aload_n 0, 1) := by decide +kernel
theorem dX7_isWonWithout_16 : decode cX7_isWonWithout 16 = .ok (.getfield 41, 3) := by decide +kernel
theorem dX7_isWonWithout_19 : decode cX7_isWonWithout 19 = .ok (.iload_n 1, 1) := by decide +kernel
theorem dX7_isWonWithout_20 : decode cX7_isWonWithout 20 = .ok (.laload, 1) := by decide +kernel
theorem dX7_isWonWithout_21 : decode cX7_isWonWithout 21 = .ok (.aload_n 0, 1) := by decide +kernel
theorem dX7_isWonWithout_22 : decode cX7_isWonWithout 22 = .ok (.getfield 44, 3) := by decide +kernel
theorem dX7_isWonWithout_25 : decode cX7_isWonWithout 25 = .ok (.iload_n 1, 1) := by decide +kernel
theorem dX7_isWonWithout_26 : decode cX7_isWonWithout 26 = .ok (.iaload, 1) := by decide +kernel
theorem dX7_isWonWithout_27 : decode cX7_isWonWithout 27 = .ok (.i2l, 1) := by decide +kernel
theorem dX7_isWonWithout_28 : decode cX7_isWonWithout 28 = .ok (.lsub, 1) := by decide +kernel
theorem dX7_isWonWithout_29 : decode cX7_isWonWithout 29 = .ok (.lastore, 1) := by decide +kernel
theorem dX7_isWonWithout_30 : decode cX7_isWonWithout 30 = .ok (.iinc 1 1, 3) := by decide +kernel
theorem dX7_isWonWithout_33 : decode cX7_isWonWithout 33 = .ok (.goto (-31), 3) := by decide +kernel
theorem dX7_isWonWithout_36 : decode cX7_isWonWithout 36 = .ok (.aload_n 0, 1) := by decide +kernel
theorem dX7_isWonWithout_37 : decode cX7_isWonWithout 37 = .ok (.invokevirtual 254, 3) := by decide +kernel
theorem dX7_isWonWithout_40 : decode cX7_isWonWithout 40 = .ok (.ireturn, 1) := by decide +kernel
theorem dX7_next_0 : decode cX7_next 0 = .ok (.aload_n 0, 1) := by decide +kernel
theorem dX7_next_1 : decode cX7_next 1 = .ok (.invokevirtual 60, 3) := by decide +kernel
theorem dX7_next_4 : decode cX7_next 4 = .ok (.iconst 1, 1) := by decide +kernel
theorem dX7_next_5 : decode cX7_next 5 = .ok (.isub, 1) := by decide +kernel
theorem dX7_next_6 : decode cX7_next 6 = .ok (.istore_n 2, 1) := by decide +kernel
theorem dX7_next_7 : decode cX7_next 7 = .ok (.iload_n 2, 1) := by decide +kernel
theorem dX7_next_8 : decode cX7_next 8 = .ok (.ifCond .le 83, 3) := by decide +kernel
theorem dX7_next_11 : decode cX7_next 11 = .ok (.iconst 0, 1) := by decide +kernel
theorem dX7_next_12 : decode cX7_next 12 = .ok (.istore_n 3, 1) := by decide +kernel
theorem dX7_next_13 : decode cX7_next 13 = .ok (.iconst 1, 1) := by decide +kernel
theorem dX7_next_14 : decode cX7_next 14 = .ok (.istore 4, 2) := by decide +kernel
theorem dX7_next_16 : decode cX7_next 16 = .ok (.iload 4, 2) := by decide +kernel
theorem dX7_next_18 : decode cX7_next 18 = .ok (.iload_n 2, 1) := by decide +kernel
theorem dX7_next_19 : decode cX7_next 19 = .ok (.if_icmp .ge 19, 3) := by decide +kernel
theorem dX7_next_22 : decode cX7_next 22 = .ok (.iload_n 3, 1) := by decide +kernel
theorem dX7_next_23 : decode cX7_next 23 = .ok (.aload_n 0, 1) := by decide +kernel
theorem dX7_next_24 : decode cX7_next 24 = .ok (.getfield 44, 3) := by decide +kernel
theorem dX7_next_27 : decode cX7_next 27 = .ok (.iload 4, 2) := by decide +kernel
theorem dX7_next_29 : decode cX7_next 29 = .ok (.iaload, 1) := by decide +kernel
theorem dX7_next_30 : decode cX7_next 30 = .ok (.iadd, 1) := by decide +kernel
theorem dX7_next_31 : decode cX7_next 31 = .ok (.istore_n 3, 1) := by decide +kernel
theorem dX7_next_32 : decode cX7_next 32 = .ok (.iinc 4 1, 3) := by decide +kernel
theorem dX7_next_35 : decode cX7_next 35 = .ok (.goto (-19), 3) := by decide +kernel
theorem dX7_next_38 : decode cX7_next 38 = .ok (.iload_n 3, 1) := by decide +kernel
theorem dX7_next_39 : decode cX7_next 39 = .ok (.aload_n 0, 1) := by decide +kernel
theorem dX7_next_40 : decode cX7_next 40 = .ok (.getfield 44, 3) := by decide +kernel
theorem dX7_next_43 : decode cX7_next 43 = .ok (.iload_n 2, 1) := by decide +kernel
theorem dX7_next_44 : decode cX7_next 44 = .ok (.iaload, 1) := by decide +kernel
theorem dX7_next_45 : decode cX7_next 45 = .ok (.iadd, 1) := by decide +kernel
theorem dX7_next_46 : decode cX7_next 46 = .ok (.iload_n 1, 1) := by decide +kernel
theorem dX7_next_47 : decode cX7_next 47 = .ok (.if_icmp .ge 31, 3) := by decide +kernel
theorem dX7_next_50 : decode cX7_next 50 = .ok (.aload_n 0, 1) := by decide +kernel
theorem dX7_next_51 : decode cX7_next 51 = .ok (.getfield 44, 3) := by decide +kernel
theorem dX7_next_54 : decode cX7_next 54 = .ok (.iload_n 2, 1) := by decide +kernel
theorem dX7_next_55 : decode cX7_next 55 = .ok (.dup2, 1) := by decide +kernel
theorem dX7_next_56 : decode cX7_next 56 = .ok (.iaload, 1) := by decide +kernel
theorem dX7_next_57 : decode cX7_next 57 = .ok (.iconst 1, 1) := by decide +kernel
theorem dX7_next_58 : decode cX7_next 58 = .ok (.iadd, 1) := by decide +kernel
theorem dX7_next_59 : decode cX7_next 59 = .ok (.iastore, 1) := by decide +kernel
theorem dX7_next_60 : decode cX7_next 60 = .ok (.aload_n 0, 1) := by decide +kernel
theorem dX7_next_61 : decode cX7_next 61 = .ok (.getfield 44, 3) := by decide +kernel
theorem dX7_next_64 : decode cX7_next 64 = .ok (.iconst 0, 1) := by decide +kernel
theorem dX7_next_65 : decode cX7_next 65 = .ok (.iload_n 1, 1) := by decide +kernel
theorem dX7_next_66 : decode cX7_next 66 = .ok (.iload_n 3, 1) := by decide +kernel
theorem dX7_next_67 : decode cX7_next 67 = .ok (.isub, 1) := by decide +kernel
theorem dX7_next_68 : decode cX7_next 68 = .ok (.aload_n 0, 1) := by decide +kernel
theorem dX7_next_69 : decode cX7_next 69 = .ok (.getfield 44, 3) := by decide +kernel
theorem dX7_next_72 : decode cX7_next 72 = .ok (.iload_n 2, 1) := by decide +kernel
theorem dX7_next_73 : decode cX7_next 73 = .ok (.iaload, 1) := by decide +kernel
theorem dX7_next_74 : decode cX7_next 74 = .ok (.isub, 1) := by decide +kernel
theorem dX7_next_75 : decode cX7_next 75 = .ok (.iastore, 1) := by decide +kernel
theorem dX7_next_76 : decode cX7_next 76 = .ok (.iconst 1, 1) := by decide +kernel
theorem dX7_next_77 : decode cX7_next 77 = .ok (.ireturn, 1) := by decide +kernel
theorem dX7_next_78 : decode cX7_next 78 = .ok (.aload_n 0, 1) := by decide +kernel
theorem dX7_next_79 : decode cX7_next 79 = .ok (.getfield 44, 3) := by decide +kernel
theorem dX7_next_82 : decode cX7_next 82 = .ok (.iload_n 2, 1) := by decide +kernel
theorem dX7_next_83 : decode cX7_next 83 = .ok (.iconst 0, 1) := by decide +kernel
theorem dX7_next_84 : decode cX7_next 84 = .ok (.iastore, 1) := by decide +kernel
theorem dX7_next_85 : decode cX7_next 85 = .ok (.iinc 2 (-1), 3) := by decide +kernel
theorem dX7_next_88 : decode cX7_next 88 = .ok (.goto (-81), 3) := by decide +kernel
theorem dX7_next_91 : decode cX7_next 91 = .ok (.iconst 0, 1) := by decide +kernel
theorem dX7_next_92 : decode cX7_next 92 = .ok (.ireturn, 1) := by decide +kernel
theorem dX7_isWonAnyhow_0 : decode cX7_isWonAnyhow 0 = .ok (.iconst 0, 1) := by decide +kernel
theorem dX7_isWonAnyhow_1 : decode cX7_isWonAnyhow 1 = .ok (.istore_n 2, 1) := by decide +kernel
theorem dX7_isWonAnyhow_2 : decode cX7_isWonAnyhow 2 = .ok (.iload_n 2, 1) := by decide +kernel
theorem dX7_isWonAnyhow_3 : decode cX7_isWonAnyhow 3 = .ok (.aload_n 0, 1) := by decide +kernel
theorem dX7_isWonAnyhow_4 : decode cX7_isWonAnyhow 4 = .ok (.invokevirtual 60, 3) := by decide +kernel
theorem dX7_isWonAnyhow_7 : decode cX7_isWonAnyhow 7 = .ok (.if_icmp .ge 24, 3) := by decide +kernel
theorem dX7_isWonAnyhow_10 : decode cX7_isWonAnyhow 10 = .ok (.aload_n 0, 1) := by decide +kernel
theorem dX7_isWonAnyhow_11 : decode cX7_isWonAnyhow 11 = .ok (.getfield 44, 3) := by decide +kernel
theorem dX7_isWonAnyhow_14 : decode cX7_isWonAnyhow 14 = .ok (.iload_n 2, 1) := by decide +kernel
theorem dX7_isWonAnyhow_15 : decode cX7_isWonAnyhow 15 = .ok (.iload_n 2, 1) := by decide +kernel
theorem dX7_isWonAnyhow_16 : decode cX7_isWonAnyhow 16 = .ok (.ifCond .ne 7, 3) := by decide +kernel
theorem dX7_isWonAnyhow_19 : decode cX7_isWonAnyhow 19 = .ok (.iload_n 1, 1) := by decide +kernel
theorem dX7_isWonAnyhow_20 : decode cX7_isWonAnyhow 20 = .ok (.goto 4, 3) := by decide +kernel
theorem dX7_isWonAnyhow_23 : decode cX7_isWonAnyhow 23 = .ok (.iconst 0, 1) := by decide +kernel
theorem dX7_isWonAnyhow_24 : decode cX7_isWonAnyhow 24 = .ok (.iastore, 1) := by decide +kernel
theorem dX7_isWonAnyhow_25 : decode cX7_isWonAnyhow 25 = .ok (.iinc 2 1, 3) := by decide +kernel
theorem dX7_isWonAnyhow_28 : decode cX7_isWonAnyhow 28 = .ok (.goto (-26), 3) := by decide +kernel
theorem dX7_isWonAnyhow_31 : decode cX7_isWonAnyhow 31 = .ok (.aload_n 0, 1) := by decide +kernel
theorem dX7_isWonAnyhow_32 : decode cX7_isWonAnyhow 32 = .ok (.invokevirtual 260, 3) := by decide +kernel
theorem dX7_isWonAnyhow_35 : decode cX7_isWonAnyhow 35 = .ok (.istore_n 2, 1) := by decide +kernel
theorem dX7_isWonAnyhow_36 : decode cX7_isWonAnyhow 36 = .ok (.iload_n 2, 1) := by decide +kernel
theorem dX7_isWonAnyhow_37 : decode cX7_isWonAnyhow 37 = .ok (.ifCond .eq 19, 3) := by decide +kernel
theorem dX7_isWonAnyhow_40 : decode cX7_isWonAnyhow 40 = .ok (.aload_n 0, 1) := by decide +kernel
theorem dX7_isWonAnyhow_41 : decode cX7_isWonAnyhow 41 = .ok (.iload_n 1, 1) := by decide +kernel
theorem dX7_isWonAnyhow_42 : decode cX7_isWonAnyhow 42 = .ok (.invokevirtual 263, 3) := by decide +kernel
theorem dX7_isWonAnyhow_45 : decode cX7_isWonAnyhow 45 = .ok (.ifCond .eq 11, 3) := by decide +kernel
theorem dX7_isWonAnyhow_48 : decode cX7_isWonAnyhow 48 = .ok (.aload_n 0, 1) := by decide +kernel
theorem dX7_isWonAnyhow_49 : decode cX7_isWonAnyhow 49 = .ok (.invokevirtual 260, 3) := by decide +kernel
theorem dX7_isWonAnyhow_52 : decode cX7_isWonAnyhow 52 = .ok (.istore_n 2, 1) := by decide +kernel
theorem dX7_isWonAnyhow_53 : decode cX7_isWonAnyhow 53 = .ok (.goto (-17), 3) := by decide +kernel
theorem dX7_isWonAnyhow_56 : decode cX7_isWonAnyhow 56 = .ok (.iload_n 2, 1) := by decide +kernel
theorem dX7_isWonAnyhow_57 : decode cX7_isWonAnyhow 57 = .ok (.ireturn, 1) := by decide +kernel
theorem dX7_rankOf_0 : decode cX7_rankOf 0 = .ok (.iconst 0, 1) := by decide +kernel
theorem dX7_rankOf_1 : decode cX7_rankOf 1 = .ok (.istore_n 2, 1) := by decide +kernel
theorem dX7_rankOf_2 : decode cX7_rankOf 2 = .ok (.iload_n 2, 1) := by decide +kernel
theorem dX7_rankOf_3 : decode cX7_rankOf 3 = .ok (.aload_n 0, 1) := by decide +kernel
theorem dX7_rankOf_4 : decode cX7_rankOf 4 = .ok (.invokevirtual 60, 3) := by decide +kernel
theorem dX7_rankOf_7 : decode cX7_rankOf 7 = .ok (.if_icmp .ge 42, 3) := by decide +kernel
theorem dX7_rankOf_10 : decode cX7_rankOf 10 = .ok (.aload_n 0, 1) := by decide +kernel
theorem dX7_rankOf_11 : decode cX7_rankOf 11 = .ok (.getfield 41, 3) := by decide +kernel
theorem dX7_rankOf_14 : decode cX7_rankOf 14 = .ok (.iload_n 2, 1) := by decide +kernel
theorem dX7_rankOf_15 : decode cX7_rankOf 15 = .ok (.iload_n 1, 1) := by decide +kernel
theorem dX7_rankOf_16 : decode cX7_rankOf 16 = .ok (.ifCond .eq 20, 3) := by decide +kernel
theorem dX7_rankOf_19 : decode cX7_rankOf 19 = .ok (.aload_n 0, 1) := by decide +kernel
theorem dX7_rankOf_20 : decode cX7_rankOf 20 = .ok (.iload_n 2, 1) := by decide +kernel
theorem dX7_rankOf_21 : decode cX7_rankOf 21 = .ok (.invokevirtual 72, 3) := by decide +kernel
theorem dX7_rankOf_24 : decode cX7_rankOf 24 = .ok (.iconst 2, 1) := by decide +kernel
theorem dX7_rankOf_25 : decode cX7_rankOf 25 = .ok (.isub, 1) := by decide +kernel
theorem dX7_rankOf_26 : decode cX7_rankOf 26 = .ok (.aload_n 0, 1) := by decide +kernel
theorem dX7_rankOf_27 : decode cX7_rankOf 27 = .ok (.iload_n 2, 1) := by decide +kernel
theorem dX7_rankOf_28 : decode cX7_rankOf 28 = .ok (.invokevirtual 126, 3) := by decide +kernel
theorem dX7_rankOf_31 : decode cX7_rankOf 31 = .ok (.isub, 1) := by decide +kernel
theorem dX7_rankOf_32 : decode cX7_rankOf 32 = .ok (.i2l, 1) := by decide +kernel
theorem dX7_rankOf_33 : decode cX7_rankOf 33 = .ok (.goto 9, 3) := by decide +kernel
theorem dX7_rankOf_36 : decode cX7_rankOf 36 = .ok (.aload_n 0, 1) := by decide +kernel
theorem dX7_rankOf_37 : decode cX7_rankOf 37 = .ok (.iload_n 2, 1) := by decide +kernel
theorem dX7_rankOf_38 : decode cX7_rankOf 38 = .ok (.invokevirtual 126, 3) := by decide +kernel
theorem dX7_rankOf_41 : decode cX7_rankOf 41 = .ok (.i2l, 1) := by decide +kernel
theorem dX7_rankOf_42 : decode cX7_rankOf 42 = .ok (.lastore, 1) := by decide +kernel
theorem dX7_rankOf_43 : decode cX7_rankOf 43 = .ok (.iinc 2 1, 3) := by decide +kernel
theorem dX7_rankOf_46 : decode cX7_rankOf 46 = .ok (.goto (-44), 3) := by decide +kernel
theorem dX7_rankOf_49 : decode cX7_rankOf 49 = .ok (.iconst 0, 1) := by decide +kernel
theorem dX7_rankOf_50 : decode cX7_rankOf 50 = .ok (.istore_n 2, 1) := by decide +kernel
theorem dX7_rankOf_51 : decode cX7_rankOf 51 = .ok (.aload_n 0, 1) := by decide +kernel
theorem dX7_rankOf_52 : decode cX7_rankOf 52 = .ok (.iload_n 2, 1) := by decide +kernel
theorem dX7_rankOf_53 : decode cX7_rankOf 53 = .ok (.invokevirtual 266, 3) := by decide +kernel
theorem dX7_rankOf_56 : decode cX7_rankOf 56 = .ok (.ifCond .eq 9, 3) := by decide +kernel
theorem dX7_rankOf_59 : decode cX7_rankOf 59 = .ok (.iinc 2 1, 3) := by decide +kernel
theorem dX7_rankOf_62 : decode cX7_rankOf 62 = .ok (.goto (-11), 3) := by decide +kernel
theorem dX7_rankOf_65 : decode cX7_rankOf 65 = .ok (.iload_n 2, 1) := by decide +kernel
theorem dX7_rankOf_66 : decode cX7_rankOf 66 = .ok (.iconst 1, 1) := by decide +kernel
theorem dX7_rankOf_67 : decode cX7_rankOf 67 = .ok (.isub, 1) := by decide +kernel
theorem dX7_rankOf_68 : decode cX7_rankOf 68 = .ok (.ireturn, 1) := by decide +kernel
theorem dX7_rankNow_0 : decode cX7_rankNow 0 = .ok (.iload_n 1, 1) := by decide +kernel
theorem dX7_rankNow_1 : decode cX7_rankNow 1 = .ok (.ifCond .ne 14, 3) := by decide +kernel
theorem dX7_rankNow_4 : decode cX7_rankNow 4 = .ok (.aload_n 0, 1) := by decide +kernel
theorem dX7_rankNow_5 : decode cX7_rankNow 5 = .ok (.invokevirtual 257, 3) := by decide +kernel
theorem dX7_rankNow_8 : decode cX7_rankNow 8 = .ok (.sipush 10000, 3) := by decide +kernel
theorem dX7_rankNow_11 : decode cX7_rankNow 11 = .ok (.iadd, 1) := by decide +kernel
theorem dX7_rankNow_12 : decode cX7_rankNow 12 = .ok (.goto 39, 3) := by decide +kernel
theorem dX7_rankNow_15 : decode cX7_rankNow 15 = .ok (.iload_n 1, 1) := by decide +kernel
theorem dX7_rankNow_16 : decode cX7_rankNow 16 = .ok (.iconst 1, 1) := by decide +kernel
theorem dX7_rankNow_17 : decode cX7_rankNow 17 = .ok (.if_icmp .ne 18, 3) := by decide +kernel
theorem dX7_rankNow_20 : decode cX7_rankNow 20 = .ok (.aload_n 0, 1) := by decide +kernel
theorem dX7_rankNow_21 : decode cX7_rankNow 21 = .ok (.invokevirtual 115, 3) := by decide +kernel
theorem dX7_rankNow_24 : decode cX7_rankNow 24 = .ok (.aload_n 0, 1) := by decide +kernel
theorem dX7_rankNow_25 : decode cX7_rankNow 25 = .ok (.invokevirtual 60, 3) := by decide +kernel
theorem dX7_rankNow_28 : decode cX7_rankNow 28 = .ok (.isub, 1) := by decide +kernel
theorem dX7_rankNow_29 : decode cX7_rankNow 29 = .ok (.bipush 11, 2) := by decide +kernel
theorem dX7_rankNow_31 : decode cX7_rankNow 31 = .ok (.iadd, 1) := by decide +kernel
theorem dX7_rankNow_32 : decode cX7_rankNow 32 = .ok (.goto 19, 3) := by decide +kernel
theorem dX7_rankNow_35 : decode cX7_rankNow 35 = .ok (.aload_n 0, 1) := by decide +kernel
theorem dX7_rankNow_36 : decode cX7_rankNow 36 = .ok (.iload_n 1, 1) := by decide +kernel
theorem dX7_rankNow_37 : decode cX7_rankNow 37 = .ok (.iconst 3, 1) := by decide +kernel
theorem dX7_rankNow_38 : decode cX7_rankNow 38 = .ok (.if_icmp .ne 7, 3) := by decide +kernel
theorem dX7_rankNow_41 : decode cX7_rankNow 41 = .ok (.iconst 1, 1) := by decide +kernel
theorem dX7_rankNow_42 : decode cX7_rankNow 42 = .ok (.goto 4, 3) := by decide +kernel
theorem dX7_rankNow_45 : decode cX7_rankNow 45 = .ok (.iconst 0, 1) := by decide +kernel
theorem dX7_rankNow_46 : decode cX7_rankNow 46 = .ok (.invokevirtual 269, 3) := by decide +kernel
theorem dX7_rankNow_49 : decode cX7_rankNow 49 = .ok (.iconst 1, 1) := by decide +kernel
theorem dX7_rankNow_50 : decode cX7_rankNow 50 = .ok (.iadd, 1) := by decide +kernel
theorem dX7_rankNow_51 : decode cX7_rankNow 51 = .ok (.ireturn, 1) := by decide +kernel
theorem dX7_rank_0 : decode cX7_rank 0 = .ok (.iload_n 1, 1) := by decide +kernel
theorem dX7_rank_1 : decode cX7_rank 1 = .ok (.i2l, 1) := by decide +kernel
theorem dX7_rank_2 : decode cX7_rank 2 = .ok (.lconst 0, 1) := by decide +kernel
theorem dX7_rank_3 : decode cX7_rank 3 = .ok (.ldc2_w 93, 3) := by decide +kernel
theorem dX7_rank_6 : decode cX7_rank 6 = .ok (.invokestatic 64, 3) := by decide +kernel
theorem dX7_rank_9 : decode cX7_rank 9 = .ok (.ifCond .ne 10, 3) := by decide +kernel
theorem dX7_rank_12 : decode cX7_rank 12 = .ok (.aload_n 0, 1) := by decide +kernel
theorem dX7_rank_13 : decode cX7_rank 13 = .ok (.bipush (-2), 2) := by decide +kernel
theorem dX7_rank_15 : decode cX7_rank 15 = .ok (.invokevirtual 80, 3) := by decide +kernel
theorem dX7_rank_18 : decode cX7_rank 18 = .ok (.ireturn, 1) := by decide +kernel
theorem dX7_rank_19 : decode cX7_rank 19 = .ok (.iload_n 1, 1) := by decide +kernel
theorem dX7_rank_20 : decode cX7_rank 20 = .ok (.iconst 2, 1) := by decide +kernel
theorem dX7_rank_21 : decode cX7_rank 21 = .ok (.if_icmp .ne 12, 3) := by decide +kernel
theorem dX7_rank_24 : decode cX7_rank 24 = .ok (.aload_n 0, 1) := by decide +kernel
theorem dX7_rank_25 : decode cX7_rank 25 = .ok (.invokevirtual 257, 3) := by decide +kernel
theorem dX7_rank_28 : decode cX7_rank 28 = .ok (.bipush 12, 2) := by decide +kernel
theorem dX7_rank_30 : decode cX7_rank 30 = .ok (.if_icmp .gt 17, 3) := by decide +kernel
theorem dX7_rank_33 : decode cX7_rank 33 = .ok (.iload_n 1, 1) := by decide +kernel
theorem dX7_rank_34 : decode cX7_rank 34 = .ok (.iconst 3, 1) := by decide +kernel
theorem dX7_rank_35 : decode cX7_rank 35 = .ok (.if_icmp .ne 16, 3) := by decide +kernel
theorem dX7_rank_38 : decode cX7_rank 38 = .ok (.aload_n 0, 1) := by decide +kernel
theorem dX7_rank_39 : decode cX7_rank 39 = .ok (.invokevirtual 273, 3) := by decide +kernel
theorem dX7_rank_42 : decode cX7_rank 42 = .ok (.bipush 12, 2) := by decide +kernel
theorem dX7_rank_44 : decode cX7_rank 44 = .ok (.if_icmp .le 7, 3) := by decide +kernel
theorem dX7_rank_47 : decode cX7_rank 47 = .ok (.iconst 1, 1) := by decide +kernel
theorem dX7_rank_48 : decode cX7_rank 48 = .ok (.goto 4, 3) := by decide +kernel
theorem dX7_rank_51 : decode cX7_rank 51 = .ok (.iconst 0, 1) := by decide +kernel
theorem dX7_rank_52 : decode cX7_rank 52 = .ok (.istore_n 2, 1) := by decide +kernel
theorem dX7_rank_53 : decode cX7_rank 53 = .ok (.iload_n 1, 1) := by decide +kernel
theorem dX7_rank_54 : decode cX7_rank 54 = .ok (.iconst 1, 1) := by decide +kernel
theorem dX7_rank_55 : decode cX7_rank 55 = .ok (.if_icmp .le 23, 3) := by decide +kernel
theorem dX7_rank_58 : decode cX7_rank 58 = .ok (.aload_n 0, 1) := by decide +kernel
theorem dX7_rank_59 : decode cX7_rank 59 = .ok (.invokevirtual 118, 3) := by decide +kernel
theorem dX7_rank_62 : decode cX7_rank 62 = .ok (.ifCond .eq 7, 3) := by decide +kernel
theorem dX7_rank_65 : decode cX7_rank 65 = .ok (.iload_n 2, 1) := by decide +kernel
theorem dX7_rank_66 : decode cX7_rank 66 = .ok (.ifCond .eq 12, 3) := by decide +kernel
theorem dX7_rank_69 : decode cX7_rank 69 = .ok (.aload_n 0, 1) := by decide +kernel
theorem dX7_rank_70 : decode cX7_rank 70 = .ok (.bipush (-3), 2) := by decide +kernel
theorem dX7_rank_72 : decode cX7_rank 72 = .ok (.invokevirtual 80, 3) := by decide +kernel
theorem dX7_rank_75 : decode cX7_rank 75 = .ok (.goto 8, 3) := by decide +kernel
theorem dX7_rank_78 : decode cX7_rank 78 = .ok (.aload_n 0, 1) := by decide +kernel
theorem dX7_rank_79 : decode cX7_rank 79 = .ok (.iload_n 1, 1) := by decide +kernel
theorem dX7_rank_80 : decode cX7_rank 80 = .ok (.invokevirtual 276, 3) := by decide +kernel
theorem dX7_rank_83 : decode cX7_rank 83 = .ok (.ireturn, 1) := by decide +kernel
theorem dX7_kept_0 : decode cX7_kept 0 = .ok (.aload_n 0, 1) := by decide +kernel
theorem dX7_kept_1 : decode cX7_kept 1 = .ok (.getfield 7, 3) := by decide +kernel
theorem dX7_kept_4 : decode cX7_kept 4 = .ok (.bipush 36, 2) := by decide +kernel
theorem dX7_kept_6 : decode cX7_kept 6 = .ok (.bipush 6, 2) := by decide +kernel
theorem dX7_kept_8 : decode cX7_kept 8 = .ok (.iload_n 1, 1) := by decide +kernel
theorem dX7_kept_9 : decode cX7_kept 9 = .ok (.imul, 1) := by decide +kernel
theorem dX7_kept_10 : decode cX7_kept 10 = .ok (.iadd, 1) := by decide +kernel
theorem dX7_kept_11 : decode cX7_kept 11 = .ok (.iconst 1, 1) := by decide +kernel
theorem dX7_kept_12 : decode cX7_kept 12 = .ok (.iadd, 1) := by decide +kernel
theorem dX7_kept_13 : decode cX7_kept 13 = .ok (.iload_n 2, 1) := by decide +kernel
theorem dX7_kept_14 : decode cX7_kept 14 = .ok (.iadd, 1) := by decide +kernel
theorem dX7_kept_15 : decode cX7_kept 15 = .ok (.iaload, 1) := by decide +kernel
theorem dX7_kept_16 : decode cX7_kept 16 = .ok (.ireturn, 1) := by decide +kernel
theorem dX7_keptMany_0 : decode cX7_keptMany 0 = .ok (.aload_n 0, 1) := by decide +kernel
theorem dX7_keptMany_1 : decode cX7_keptMany 1 = .ok (.getfield 7, 3) := by decide +kernel
theorem dX7_keptMany_4 : decode cX7_keptMany 4 = .ok (.bipush 36, 2) := by decide +kernel
theorem dX7_keptMany_6 : decode cX7_keptMany 6 = .ok (.bipush 6, 2) := by decide +kernel
theorem dX7_keptMany_8 : decode cX7_keptMany 8 = .ok (.iload_n 1, 1) := by decide +kernel
theorem dX7_keptMany_9 : decode cX7_keptMany 9 = .ok (.imul, 1) := by decide +kernel
theorem dX7_keptMany_10 : decode cX7_keptMany 10 = .ok (.iadd, 1) := by decide +kernel
theorem dX7_keptMany_11 : decode cX7_keptMany 11 = .ok (.iaload, 1) := by decide +kernel
theorem dX7_keptMany_12 : decode cX7_keptMany 12 = .ok (.ireturn, 1) := by decide +kernel
theorem dX7_keeps_0 : decode cX7_keeps 0 = .ok (.iload_n 1, 1) := by decide +kernel
theorem dX7_keeps_1 : decode cX7_keeps 1 = .ok (.i2l, 1) := by decide +kernel
theorem dX7_keeps_2 : decode cX7_keeps 2 = .ok (.lconst 0, 1) := by decide +kernel
theorem dX7_keeps_3 : decode cX7_keeps 3 = .ok (.ldc2_w 76, 3) := by decide +kernel
theorem dX7_keeps_6 : decode cX7_keeps 6 = .ok (.invokestatic 64, 3) := by decide +kernel
theorem dX7_keeps_9 : decode cX7_keeps 9 = .ok (.ifCond .ne 10, 3) := by decide +kernel
theorem dX7_keeps_12 : decode cX7_keeps 12 = .ok (.aload_n 0, 1) := by decide +kernel
theorem dX7_keeps_13 : decode cX7_keeps 13 = .ok (.bipush (-2), 2) := by decide +kernel
theorem dX7_keeps_15 : decode cX7_keeps 15 = .ok (.invokevirtual 80, 3) := by decide +kernel
theorem dX7_keeps_18 : decode cX7_keeps 18 = .ok (.ireturn, 1) := by decide +kernel
theorem dX7_keeps_19 : decode cX7_keeps 19 = .ok (.aload_n 0, 1) := by decide +kernel
theorem dX7_keeps_20 : decode cX7_keeps 20 = .ok (.invokevirtual 83, 3) := by decide +kernel
theorem dX7_keeps_23 : decode cX7_keeps 23 = .ok (.aload_n 0, 1) := by decide +kernel
theorem dX7_keeps_24 : decode cX7_keeps 24 = .ok (.getfield 7, 3) := by decide +kernel
theorem dX7_keeps_27 : decode cX7_keeps 27 = .ok (.bipush 36, 2) := by decide +kernel
theorem dX7_keeps_29 : decode cX7_keeps 29 = .ok (.bipush 6, 2) := by decide +kernel
theorem dX7_keeps_31 : decode cX7_keeps 31 = .ok (.iload_n 1, 1) := by decide +kernel
theorem dX7_keeps_32 : decode cX7_keeps 32 = .ok (.imul, 1) := by decide +kernel
theorem dX7_keeps_33 : decode cX7_keeps 33 = .ok (.iadd, 1) := by decide +kernel
theorem dX7_keeps_34 : decode cX7_keeps 34 = .ok (.aload_n 0, 1) := by decide +kernel
theorem dX7_keeps_35 : decode cX7_keeps 35 = .ok (.invokevirtual 60, 3) := by decide +kernel
theorem dX7_keeps_38 : decode cX7_keeps 38 = .ok (.iastore, 1) := by decide +kernel
theorem dX7_keeps_39 : decode cX7_keeps 39 = .ok (.iconst 0, 1) := by decide +kernel
theorem dX7_keeps_40 : decode cX7_keeps 40 = .ok (.istore_n 2, 1) := by decide +kernel
theorem dX7_keeps_41 : decode cX7_keeps 41 = .ok (.iload_n 2, 1) := by decide +kernel
theorem dX7_keeps_42 : decode cX7_keeps 42 = .ok (.iconst 5, 1) := by decide +kernel
theorem dX7_keeps_43 : decode cX7_keeps 43 = .ok (.if_icmp .ge 42, 3) := by decide +kernel
theorem dX7_keeps_46 : decode cX7_keeps 46 = .ok (.aload_n 0, 1) := by decide +kernel
theorem dX7_keeps_47 : decode cX7_keeps 47 = .ok (.getfield 7, 3) := by decide +kernel
theorem dX7_keeps_50 : decode cX7_keeps 50 = .ok (.bipush 36, 2) := by decide +kernel
theorem dX7_keeps_52 : decode cX7_keeps 52 = .ok (.bipush 6, 2) := by decide +kernel
theorem dX7_keeps_54 : decode cX7_keeps 54 = .ok (.iload_n 1, 1) := by decide +kernel
theorem dX7_keeps_55 : decode cX7_keeps 55 = .ok (.imul, 1) := by decide +kernel
theorem dX7_keeps_56 : decode cX7_keeps 56 = .ok (.iadd, 1) := by decide +kernel
theorem dX7_keeps_57 : decode cX7_keeps 57 = .ok (.iconst 1, 1) := by decide +kernel
theorem dX7_keeps_58 : decode cX7_keeps 58 = .ok (.iadd, 1) := by decide +kernel
theorem dX7_keeps_59 : decode cX7_keeps 59 = .ok (.iload_n 2, 1) := by decide +kernel
theorem dX7_keeps_60 : decode cX7_keeps 60 = .ok (.iadd, 1) := by decide +kernel
theorem dX7_keeps_61 : decode cX7_keeps 61 = .ok (.iload_n 2, 1) := by decide +kernel
theorem dX7_keeps_62 : decode cX7_keeps 62 = .ok (.aload_n 0, 1) := by decide +kernel
theorem dX7_keeps_63 : decode cX7_keeps 63 = .ok (.invokevirtual 60, 3) := by decide +kernel
theorem dX7_keeps_66 : decode cX7_keeps 66 = .ok (.if_icmp .ge 11, 3) := by decide +kernel
theorem dX7_keeps_69 : decode cX7_keeps 69 = .ok (.aload_n 0, 1) := by decide +kernel
theorem dX7_keeps_70 : decode cX7_keeps 70 = .ok (.iload_n 2, 1) := by decide +kernel
theorem dX7_keeps_71 : decode cX7_keeps 71 = .ok (.invokevirtual 126, 3) := by decide +kernel
theorem dX7_keeps_74 : decode cX7_keeps 74 = .ok (.goto 4, 3) := by decide +kernel
theorem dX7_keeps_77 : decode cX7_keeps 77 = .ok (.iconst 0, 1) := by decide +kernel
theorem dX7_keeps_78 : decode cX7_keeps 78 = .ok (.iastore, 1) := by decide +kernel
theorem dX7_keeps_79 : decode cX7_keeps 79 = .ok (.iinc 2 1, 3) := by decide +kernel
theorem dX7_keeps_82 : decode cX7_keeps 82 = .ok (.goto (-41), 3) := by decide +kernel
theorem dX7_keeps_85 : decode cX7_keeps 85 = .ok (.aload_n 0, 1) := by decide +kernel
theorem dX7_keeps_86 : decode cX7_keeps 86 = .ok (.invokevirtual 257, 3) := by decide +kernel
theorem dX7_keeps_89 : decode cX7_keeps 89 = .ok (.sipush 10000, 3) := by decide +kernel
theorem dX7_keeps_92 : decode cX7_keeps 92 = .ok (.iadd, 1) := by decide +kernel
theorem dX7_keeps_93 : decode cX7_keeps 93 = .ok (.ireturn, 1) := by decide +kernel
theorem dX7_isLike_0 : decode cX7_isLike 0 = .ok (.aload_n 0, 1) := by decide +kernel
theorem dX7_isLike_1 : decode cX7_isLike 1 = .ok (.invokevirtual 118, 3) := by decide +kernel
theorem dX7_isLike_4 : decode cX7_isLike 4 = .ok (.ifCond .eq 19, 3) := by decide +kernel
theorem dX7_isLike_7 : decode cX7_isLike 7 = .ok (.aload_n 0, 1) := by decide +kernel
theorem dX7_isLike_8 : decode cX7_isLike 8 = .ok (.iload_n 1, 1) := by decide +kernel
theorem dX7_isLike_9 : decode cX7_isLike 9 = .ok (.invokevirtual 279, 3) := by decide +kernel
theorem dX7_isLike_12 : decode cX7_isLike 12 = .ok (.aload_n 0, 1) := by decide +kernel
theorem dX7_isLike_13 : decode cX7_isLike 13 = .ok (.invokevirtual 60, 3) := by decide +kernel
theorem dX7_isLike_16 : decode cX7_isLike 16 = .ok (.if_icmp .ne 7, 3) := by decide +kernel
theorem dX7_isLike_19 : decode cX7_isLike 19 = .ok (.iconst 1, 1) := by decide +kernel
theorem dX7_isLike_20 : decode cX7_isLike 20 = .ok (.goto 4, 3) := by decide +kernel
theorem dX7_isLike_23 : decode cX7_isLike 23 = .ok (.iconst 0, 1) := by decide +kernel
theorem dX7_isLike_24 : decode cX7_isLike 24 = .ok (.ireturn, 1) := by decide +kernel
theorem dX7_isEqual_0 : decode cX7_isEqual 0 = .ok (.iconst 0, 1) := by decide +kernel
theorem dX7_isEqual_1 : decode cX7_isEqual 1 = .ok (.istore_n 2, 1) := by decide +kernel
theorem dX7_isEqual_2 : decode cX7_isEqual 2 = .ok (.iload_n 2, 1) := by decide +kernel
theorem dX7_isEqual_3 : decode cX7_isEqual 3 = .ok (.aload_n 0, 1) := by decide +kernel
theorem dX7_isEqual_4 : decode cX7_isEqual 4 = .ok (.invokevirtual 60, 3) := by decide +kernel
theorem dX7_isEqual_7 : decode cX7_isEqual 7 = .ok (.if_icmp .ge 22, 3) := by decide +kernel
theorem dX7_isEqual_10 : decode cX7_isEqual 10 = .ok (.aload_n 0, 1) := by decide +kernel
theorem dX7_isEqual_11 : decode cX7_isEqual 11 = .ok (.getfield 22, 3) := by decide +kernel
theorem dX7_isEqual_14 : decode cX7_isEqual 14 = .ok (.iload_n 2, 1) := by decide +kernel
theorem dX7_isEqual_15 : decode cX7_isEqual 15 = .ok (.aload_n 0, 1) := by decide +kernel
theorem dX7_isEqual_16 : decode cX7_isEqual 16 = .ok (.iload_n 1, 1) := by decide +kernel
theorem dX7_isEqual_17 : decode cX7_isEqual 17 = .ok (.iload_n 2, 1) := by decide +kernel
theorem dX7_isEqual_18 : decode cX7_isEqual 18 = .ok (.invokevirtual 282, 3) := by decide +kernel
theorem dX7_isEqual_21 : decode cX7_isEqual 21 = .ok (.i2l, 1) := by decide +kernel
theorem dX7_isEqual_22 : decode cX7_isEqual 22 = .ok (.lastore, 1) := by decide +kernel
theorem dX7_isEqual_23 : decode cX7_isEqual 23 = .ok (.iinc 2 1, 3) := by decide +kernel
theorem dX7_isEqual_26 : decode cX7_isEqual 26 = .ok (.goto (-24), 3) := by decide +kernel
theorem dX7_isEqual_29 : decode cX7_isEqual 29 = .ok (.aload_n 0, 1) := by decide +kernel
theorem dX7_isEqual_30 : decode cX7_isEqual 30 = .ok (.iconst 0, 1) := by decide +kernel
theorem dX7_isEqual_31 : decode cX7_isEqual 31 = .ok (.invokevirtual 251, 3) := by decide +kernel
theorem dX7_isEqual_34 : decode cX7_isEqual 34 = .ok (.iconst 0, 1) := by decide +kernel
theorem dX7_isEqual_35 : decode cX7_isEqual 35 = .ok (.istore_n 2, 1) := by decide +kernel
theorem dX7_isEqual_36 : decode cX7_isEqual 36 = .ok (.iload_n 2, 1) := by decide +kernel
theorem dX7_isEqual_37 : decode cX7_isEqual 37 = .ok (.aload_n 0, 1) := by decide +kernel
theorem dX7_isEqual_38 : decode cX7_isEqual 38 = .ok (.invokevirtual 60, 3) := by decide +kernel
theorem dX7_isEqual_41 : decode cX7_isEqual 41 = .ok (.if_icmp .ge 21, 3) := by decide +kernel
theorem dX7_isEqual_44 : decode cX7_isEqual 44 = .ok (.aload_n 0, 1) := by decide +kernel
theorem dX7_isEqual_45 : decode cX7_isEqual 45 = .ok (.getfield 47, 3) := by decide +kernel
theorem dX7_isEqual_48 : decode cX7_isEqual 48 = .ok (.iload_n 2, 1) := by decide +kernel
theorem dX7_isEqual_49 : decode cX7_isEqual 49 = .ok (.aload_n 0, 1) := by decide +kernel
theorem dX7_isEqual_50 : decode cX7_isEqual 50 = .ok (.getfield 22, 3) := by decide +kernel
theorem dX7_isEqual_53 : decode cX7_isEqual 53 = .ok (.iload_n 2, 1) := by decide +kernel
theorem dX7_isEqual_54 : decode cX7_isEqual 54 = .ok (.laload, 1) := by decide +kernel
theorem dX7_isEqual_55 : decode cX7_isEqual 55 = .ok (.lastore, 1) := by decide +kernel
theorem dX7_isEqual_56 : decode cX7_isEqual 56 = .ok (.iinc 2 1, 3) := by decide +kernel
theorem dX7_isEqual_59 : decode cX7_isEqual 59 = .ok (.goto (-23), 3) := by decide +kernel
theorem dX7_isEqual_62 : decode cX7_isEqual 62 = .ok (.aload_n 0, 1) := by decide +kernel
theorem dX7_isEqual_63 : decode cX7_isEqual 63 = .ok (.invokevirtual 160, 3) := by decide +kernel
theorem dX7_isEqual_66 : decode cX7_isEqual 66 = .ok (.aload_n 0, 1) := by decide +kernel
theorem dX7_isEqual_67 : decode cX7_isEqual 67 = .ok (.iconst 0, 1) := by decide +kernel
theorem dX7_isEqual_68 : decode cX7_isEqual 68 = .ok (.invokevirtual 251, 3) := by decide +kernel
theorem dX7_isEqual_71 : decode cX7_isEqual 71 = .ok (.iconst 1, 1) := by decide +kernel
theorem dX7_isEqual_72 : decode cX7_isEqual 72 = .ok (.istore_n 2, 1) := by decide +kernel
theorem dX7_isEqual_73 : decode cX7_isEqual 73 = .ok (.iconst 0, 1) := by decide +kernel
theorem dX7_isEqual_74 : decode cX7_isEqual 74 = .ok (.istore_n 3, 1) := by decide +kernel
theorem dX7_isEqual_75 : decode cX7_isEqual 75 = .ok (.iload_n 3, 1) := by decide +kernel
theorem dX7_isEqual_76 : decode cX7_isEqual 76 = .ok (.aload_n 0, 1) := by decide +kernel
theorem dX7_isEqual_77 : decode cX7_isEqual 77 = .ok (.invokevirtual 60, 3) := by decide +kernel
theorem dX7_isEqual_80 : decode cX7_isEqual 80 = .ok (.if_icmp .ge 35, 3) := by decide +kernel
theorem dX7_isEqual_83 : decode cX7_isEqual 83 = .ok (.iload_n 2, 1) := by decide +kernel
theorem dX7_isEqual_84 : decode cX7_isEqual 84 = .ok (.ifCond .eq 23, 3) := by decide +kernel
theorem dX7_isEqual_87 : decode cX7_isEqual 87 = .ok (.aload_n 0, 1) := by decide +kernel
theorem dX7_isEqual_88 : decode cX7_isEqual 88 = .ok (.getfield 22, 3) := by decide +kernel
theorem dX7_isEqual_91 : decode cX7_isEqual 91 = .ok (.iload_n 3, 1) := by decide +kernel
theorem dX7_isEqual_92 : decode cX7_isEqual 92 = .ok (.laload, 1) := by decide +kernel
theorem dX7_isEqual_93 : decode cX7_isEqual 93 = .ok (.aload_n 0, 1) := by decide +kernel
theorem dX7_isEqual_94 : decode cX7_isEqual 94 = .ok (.getfield 47, 3) := by decide +kernel
theorem dX7_isEqual_97 : decode cX7_isEqual 97 = .ok (.iload_n 3, 1) := by decide +kernel
theorem dX7_isEqual_98 : decode cX7_isEqual 98 = .ok (.laload, 1) := by decide +kernel
theorem dX7_isEqual_99 : decode cX7_isEqual 99 = .ok (.lcmp, 1) := by decide +kernel
theorem dX7_isEqual_100 : decode cX7_isEqual 100 = .ok (.ifCond .ne 7, 3) := by decide +kernel
theorem dX7_isEqual_103 : decode cX7_isEqual 103 = .ok (.iconst 1, 1) := by decide +kernel
theorem dX7_isEqual_104 : decode cX7_isEqual 104 = .ok (.goto 4, 3) := by decide +kernel
theorem dX7_isEqual_107 : decode cX7_isEqual 107 = .ok (.iconst 0, 1) := by decide +kernel
theorem dX7_isEqual_108 : decode cX7_isEqual 108 = .ok (.istore_n 2, 1) := by decide +kernel
theorem dX7_isEqual_109 : decode cX7_isEqual 109 = .ok (.iinc 3 1, 3) := by decide +kernel
theorem dX7_isEqual_112 : decode cX7_isEqual 112 = .ok (.goto (-37), 3) := by decide +kernel
theorem dX7_isEqual_115 : decode cX7_isEqual 115 = .ok (.iload_n 2, 1) := by decide +kernel
theorem dX7_isEqual_116 : decode cX7_isEqual 116 = .ok (.ireturn, 1) := by decide +kernel
theorem dX7_equal_0 : decode cX7_equal 0 = .ok (.iload_n 1, 1) := by decide +kernel
theorem dX7_equal_1 : decode cX7_equal 1 = .ok (.i2l, 1) := by decide +kernel
theorem dX7_equal_2 : decode cX7_equal 2 = .ok (.lconst 0, 1) := by decide +kernel
theorem dX7_equal_3 : decode cX7_equal 3 = .ok (.ldc2_w 76, 3) := by decide +kernel
theorem dX7_equal_6 : decode cX7_equal 6 = .ok (.invokestatic 64, 3) := by decide +kernel
theorem dX7_equal_9 : decode cX7_equal 9 = .ok (.ifCond .ne 10, 3) := by decide +kernel
theorem dX7_equal_12 : decode cX7_equal 12 = .ok (.aload_n 0, 1) := by decide +kernel
theorem dX7_equal_13 : decode cX7_equal 13 = .ok (.bipush (-2), 2) := by decide +kernel
theorem dX7_equal_15 : decode cX7_equal 15 = .ok (.invokevirtual 80, 3) := by decide +kernel
theorem dX7_equal_18 : decode cX7_equal 18 = .ok (.ireturn, 1) := by decide +kernel
theorem dX7_equal_19 : decode cX7_equal 19 = .ok (.aload_n 0, 1) := by decide +kernel
theorem dX7_equal_20 : decode cX7_equal 20 = .ok (.iload_n 1, 1) := by decide +kernel
theorem dX7_equal_21 : decode cX7_equal 21 = .ok (.invokevirtual 285, 3) := by decide +kernel
theorem dX7_equal_24 : decode cX7_equal 24 = .ok (.ifCond .ne 12, 3) := by decide +kernel
theorem dX7_equal_27 : decode cX7_equal 27 = .ok (.aload_n 0, 1) := by decide +kernel
theorem dX7_equal_28 : decode cX7_equal 28 = .ok (.bipush (-3), 2) := by decide +kernel
theorem dX7_equal_30 : decode cX7_equal 30 = .ok (.invokevirtual 80, 3) := by decide +kernel
theorem dX7_equal_33 : decode cX7_equal 33 = .ok (.goto 16, 3) := by decide +kernel
theorem dX7_equal_36 : decode cX7_equal 36 = .ok (.aload_n 0, 1) := by decide +kernel
theorem dX7_equal_37 : decode cX7_equal 37 = .ok (.iload_n 1, 1) := by decide +kernel
theorem dX7_equal_38 : decode cX7_equal 38 = .ok (.invokevirtual 288, 3) := by decide +kernel
theorem dX7_equal_41 : decode cX7_equal 41 = .ok (.ifCond .eq 7, 3) := by decide +kernel
theorem dX7_equal_44 : decode cX7_equal 44 = .ok (.iconst 1, 1) := by decide +kernel
theorem dX7_equal_45 : decode cX7_equal 45 = .ok (.goto 4, 3) := by decide +kernel
theorem dX7_equal_48 : decode cX7_equal 48 = .ok (.iconst 0, 1) := by decide +kernel
theorem dX7_equal_49 : decode cX7_equal 49 = .ok (.ireturn, 1) := by decide +kernel
theorem dX7_wayNow_0 : decode cX7_wayNow 0 = .ok (.aload_n 0, 1) := by decide +kernel
theorem dX7_wayNow_1 : decode cX7_wayNow 1 = .ok (.invokevirtual 205, 3) := by decide +kernel
theorem dX7_wayNow_4 : decode cX7_wayNow 4 = .ok (.istore_n 3, 1) := by decide +kernel
theorem dX7_wayNow_5 : decode cX7_wayNow 5 = .ok (.iload_n 2, 1) := by decide +kernel
theorem dX7_wayNow_6 : decode cX7_wayNow 6 = .ok (.ifCond .ne 7, 3) := by decide +kernel
theorem dX7_wayNow_9 : decode cX7_wayNow 9 = .ok (.ldc_w 291, 3) := by decide +kernel
theorem dX7_wayNow_12 : decode cX7_wayNow 12 = .ok (.ireturn, 1) := by decide +kernel
theorem dX7_wayNow_13 : decode cX7_wayNow 13 = .ok (.aload_n 0, 1) := by decide +kernel
theorem dX7_wayNow_14 : decode cX7_wayNow 14 = .ok (.invokevirtual 198, 3) := by decide +kernel
theorem dX7_wayNow_17 : decode cX7_wayNow 17 = .ok (.iconst 0, 1) := by decide +kernel
theorem dX7_wayNow_18 : decode cX7_wayNow 18 = .ok (.istore 4, 2) := by decide +kernel
theorem dX7_wayNow_20 : decode cX7_wayNow 20 = .ok (.iload 4, 2) := by decide +kernel
theorem dX7_wayNow_22 : decode cX7_wayNow 22 = .ok (.aload_n 0, 1) := by decide +kernel
theorem dX7_wayNow_23 : decode cX7_wayNow 23 = .ok (.invokevirtual 188, 3) := by decide +kernel
theorem dX7_wayNow_26 : decode cX7_wayNow 26 = .ok (.if_icmp .ge 41, 3) := by decide +kernel
theorem dX7_wayNow_29 : decode cX7_wayNow 29 = .ok (.aload_n 0, 1) := by decide +kernel
theorem dX7_wayNow_30 : decode cX7_wayNow 30 = .ok (.getfield 29, 3) := by decide +kernel
theorem dX7_wayNow_33 : decode cX7_wayNow 33 = .ok (.iconst 4, 1) := by decide +kernel
theorem dX7_wayNow_34 : decode cX7_wayNow 34 = .ok (.iload 4, 2) := by decide +kernel
theorem dX7_wayNow_36 : decode cX7_wayNow 36 = .ok (.imul, 1) := by decide +kernel
theorem dX7_wayNow_37 : decode cX7_wayNow 37 = .ok (.iload_n 2, 1) := by decide +kernel
theorem dX7_wayNow_38 : decode cX7_wayNow 38 = .ok (.iadd, 1) := by decide +kernel
theorem dX7_wayNow_39 : decode cX7_wayNow 39 = .ok (.iconst 1, 1) := by decide +kernel
theorem dX7_wayNow_40 : decode cX7_wayNow 40 = .ok (.isub, 1) := by decide +kernel
theorem dX7_wayNow_41 : decode cX7_wayNow 41 = .ok (.aload_n 0, 1) := by decide +kernel
theorem dX7_wayNow_42 : decode cX7_wayNow 42 = .ok (.iload 4, 2) := by decide +kernel
theorem dX7_wayNow_44 : decode cX7_wayNow 44 = .ok (.iconst 1, 1) := by decide +kernel
theorem dX7_wayNow_45 : decode cX7_wayNow 45 = .ok (.iadd, 1) := by decide +kernel
theorem dX7_wayNow_46 : decode cX7_wayNow 46 = .ok (.invokevirtual 126, 3) := by decide +kernel
theorem dX7_wayNow_49 : decode cX7_wayNow 49 = .ok (.aload_n 0, 1) := by decide +kernel
theorem dX7_wayNow_50 : decode cX7_wayNow 50 = .ok (.iload_n 1, 1) := by decide +kernel
theorem dX7_wayNow_51 : decode cX7_wayNow 51 = .ok (.iload 4, 2) := by decide +kernel
theorem dX7_wayNow_53 : decode cX7_wayNow 53 = .ok (.iconst 1, 1) := by decide +kernel
theorem dX7_wayNow_54 : decode cX7_wayNow 54 = .ok (.iadd, 1) := by decide +kernel
theorem dX7_wayNow_55 : decode cX7_wayNow 55 = .ok (.invokevirtual 282, 3) := by decide +kernel
theorem dX7_wayNow_58 : decode cX7_wayNow 58 = .ok (.isub, 1) := by decide +kernel
theorem dX7_wayNow_59 : decode cX7_wayNow 59 = .ok (.i2l, 1) := by decide +kernel
theorem dX7_wayNow_60 : decode cX7_wayNow 60 = .ok (.lastore, 1) := by decide +kernel
theorem dX7_wayNow_61 : decode cX7_wayNow 61 = .ok (.iinc 4 1, 3) := by decide +kernel
theorem dX7_wayNow_64 : decode cX7_wayNow 64 = .ok (.goto (-44), 3) := by decide +kernel
theorem dX7_wayNow_67 : decode cX7_wayNow 67 = .ok (.aload_n 0, 1) := by decide +kernel
theorem dX7_wayNow_68 : decode cX7_wayNow 68 = .ok (.invokevirtual 201, 3) := by decide +kernel
theorem dX7_wayNow_71 : decode cX7_wayNow 71 = .ok (.iload_n 3, 1) := by decide +kernel
theorem dX7_wayNow_72 : decode cX7_wayNow 72 = .ok (.i2l, 1) := by decide +kernel
theorem dX7_wayNow_73 : decode cX7_wayNow 73 = .ok (.ldiv, 1) := by decide +kernel
theorem dX7_wayNow_74 : decode cX7_wayNow 74 = .ok (.l2i, 1) := by decide +kernel
theorem dX7_wayNow_75 : decode cX7_wayNow 75 = .ok (.ldc_w 291, 3) := by decide +kernel
theorem dX7_wayNow_78 : decode cX7_wayNow 78 = .ok (.iadd, 1) := by decide +kernel
theorem dX7_wayNow_79 : decode cX7_wayNow 79 = .ok (.ireturn, 1) := by decide +kernel
theorem dX7_way_0 : decode cX7_way 0 = .ok (.iload_n 1, 1) := by decide +kernel
theorem dX7_way_1 : decode cX7_way 1 = .ok (.i2l, 1) := by decide +kernel
theorem dX7_way_2 : decode cX7_way 2 = .ok (.lconst 0, 1) := by decide +kernel
theorem dX7_way_3 : decode cX7_way 3 = .ok (.ldc2_w 76, 3) := by decide +kernel
theorem dX7_way_6 : decode cX7_way 6 = .ok (.invokestatic 64, 3) := by decide +kernel
theorem dX7_way_9 : decode cX7_way 9 = .ok (.ifCond .eq 11, 3) := by decide +kernel
theorem dX7_way_12 : decode cX7_way 12 = .ok (.aload_n 0, 1) := by decide +kernel
theorem dX7_way_13 : decode cX7_way 13 = .ok (.iload_n 2, 1) := by decide +kernel
theorem dX7_way_14 : decode cX7_way 14 = .ok (.invokevirtual 89, 3) := by decide +kernel
theorem dX7_way_17 : decode cX7_way 17 = .ok (.ifCond .ne 10, 3) := by decide +kernel
theorem dX7_way_20 : decode cX7_way 20 = .ok (.aload_n 0, 1) := by decide +kernel
theorem dX7_way_21 : decode cX7_way 21 = .ok (.bipush (-2), 2) := by decide +kernel
theorem dX7_way_23 : decode cX7_way 23 = .ok (.invokevirtual 80, 3) := by decide +kernel
theorem dX7_way_26 : decode cX7_way 26 = .ok (.ireturn, 1) := by decide +kernel
theorem dX7_way_27 : decode cX7_way 27 = .ok (.aload_n 0, 1) := by decide +kernel
theorem dX7_way_28 : decode cX7_way 28 = .ok (.iload_n 1, 1) := by decide +kernel
theorem dX7_way_29 : decode cX7_way 29 = .ok (.invokevirtual 285, 3) := by decide +kernel
theorem dX7_way_32 : decode cX7_way 32 = .ok (.ifCond .ne 12, 3) := by decide +kernel
theorem dX7_way_35 : decode cX7_way 35 = .ok (.aload_n 0, 1) := by decide +kernel
theorem dX7_way_36 : decode cX7_way 36 = .ok (.bipush (-3), 2) := by decide +kernel
theorem dX7_way_38 : decode cX7_way 38 = .ok (.invokevirtual 80, 3) := by decide +kernel
theorem dX7_way_41 : decode cX7_way 41 = .ok (.goto 21, 3) := by decide +kernel
theorem dX7_way_44 : decode cX7_way 44 = .ok (.aload_n 0, 1) := by decide +kernel
theorem dX7_way_45 : decode cX7_way 45 = .ok (.iload_n 1, 1) := by decide +kernel
theorem dX7_way_46 : decode cX7_way 46 = .ok (.invokevirtual 288, 3) := by decide +kernel
theorem dX7_way_49 : decode cX7_way 49 = .ok (.ifCond .eq 12, 3) := by decide +kernel
theorem dX7_way_52 : decode cX7_way 52 = .ok (.aload_n 0, 1) := by decide +kernel
theorem dX7_way_53 : decode cX7_way 53 = .ok (.iload_n 1, 1) := by decide +kernel
theorem dX7_way_54 : decode cX7_way 54 = .ok (.iload_n 2, 1) := by decide +kernel
theorem dX7_way_55 : decode cX7_way 55 = .ok (.invokevirtual 292, 3) := by decide +kernel
theorem dX7_way_58 : decode cX7_way 58 = .ok (.goto 4, 3) := by decide +kernel
theorem dX7_way_61 : decode cX7_way 61 = .ok (.iconst (-1), 1) := by decide +kernel
theorem dX7_way_62 : decode cX7_way 62 = .ok (.ireturn, 1) := by decide +kernel
theorem dX7_type_0 : decode cX7_type 0 = .ok (.iload_n 1, 1) := by decide +kernel
theorem dX7_type_1 : decode cX7_type 1 = .ok (.i2l, 1) := by decide +kernel
theorem dX7_type_2 : decode cX7_type 2 = .ok (.lconst 0, 1) := by decide +kernel
theorem dX7_type_3 : decode cX7_type 3 = .ok (.ldc2_w 295, 3) := by decide +kernel
theorem dX7_type_6 : decode cX7_type 6 = .ok (.invokestatic 64, 3) := by decide +kernel
theorem dX7_type_9 : decode cX7_type 9 = .ok (.ifCond .ne 10, 3) := by decide +kernel
theorem dX7_type_12 : decode cX7_type 12 = .ok (.aload_n 0, 1) := by decide +kernel
theorem dX7_type_13 : decode cX7_type 13 = .ok (.bipush (-2), 2) := by decide +kernel
theorem dX7_type_15 : decode cX7_type 15 = .ok (.invokevirtual 80, 3) := by decide +kernel
theorem dX7_type_18 : decode cX7_type 18 = .ok (.ireturn, 1) := by decide +kernel
theorem dX7_type_19 : decode cX7_type 19 = .ok (.aload_n 0, 1) := by decide +kernel
theorem dX7_type_20 : decode cX7_type 20 = .ok (.getfield 297, 3) := by decide +kernel
theorem dX7_type_23 : decode cX7_type 23 = .ok (.bipush 120, 2) := by decide +kernel
theorem dX7_type_25 : decode cX7_type 25 = .ok (.if_icmp .ne 10, 3) := by decide +kernel
theorem dX7_type_28 : decode cX7_type 28 = .ok (.aload_n 0, 1) := by decide +kernel
theorem dX7_type_29 : decode cX7_type 29 = .ok (.bipush (-4), 2) := by decide +kernel
theorem dX7_type_31 : decode cX7_type 31 = .ok (.invokevirtual 80, 3) := by decide +kernel
theorem dX7_type_34 : decode cX7_type 34 = .ok (.ireturn, 1) := by decide +kernel
theorem dX7_type_35 : decode cX7_type 35 = .ok (.aload_n 0, 1) := by decide +kernel
theorem dX7_type_36 : decode cX7_type 36 = .ok (.getfield 50, 3) := by decide +kernel
theorem dX7_type_39 : decode cX7_type 39 = .ok (.aload_n 0, 1) := by decide +kernel
theorem dX7_type_40 : decode cX7_type 40 = .ok (.getfield 297, 3) := by decide +kernel
theorem dX7_type_43 : decode cX7_type 43 = .ok (.iload_n 1, 1) := by decide +kernel
theorem dX7_type_44 : decode cX7_type 44 = .ok (.iastore, 1) := by decide +kernel
theorem dX7_type_45 : decode cX7_type 45 = .ok (.aload_n 0, 1) := by decide +kernel
theorem dX7_type_46 : decode cX7_type 46 = .ok (.dup, 1) := by decide +kernel
theorem dX7_type_47 : decode cX7_type 47 = .ok (.getfield 297, 3) := by decide +kernel
theorem dX7_type_50 : decode cX7_type 50 = .ok (.iconst 1, 1) := by decide +kernel
theorem dX7_type_51 : decode cX7_type 51 = .ok (.iadd, 1) := by decide +kernel
theorem dX7_type_52 : decode cX7_type 52 = .ok (.putfield 297, 3) := by decide +kernel
theorem dX7_type_55 : decode cX7_type 55 = .ok (.aload_n 0, 1) := by decide +kernel
theorem dX7_type_56 : decode cX7_type 56 = .ok (.getfield 297, 3) := by decide +kernel
theorem dX7_type_59 : decode cX7_type 59 = .ok (.ireturn, 1) := by decide +kernel
theorem dX7_clear_0 : decode cX7_clear 0 = .ok (.aload_n 0, 1) := by decide +kernel
theorem dX7_clear_1 : decode cX7_clear 1 = .ok (.getfield 297, 3) := by decide +kernel
theorem dX7_clear_4 : decode cX7_clear 4 = .ok (.istore_n 1, 1) := by decide +kernel
theorem dX7_clear_5 : decode cX7_clear 5 = .ok (.aload_n 0, 1) := by decide +kernel
theorem dX7_clear_6 : decode cX7_clear 6 = .ok (.iconst 0, 1) := by decide +kernel
theorem dX7_clear_7 : decode cX7_clear 7 = .ok (.putfield 297, 3) := by decide +kernel
theorem dX7_clear_10 : decode cX7_clear 10 = .ok (.iload_n 1, 1) := by decide +kernel
theorem dX7_clear_11 : decode cX7_clear 11 = .ok (.ireturn, 1) := by decide +kernel
theorem dX7_here_0 : decode cX7_here 0 = .ok (.aload_n 0, 1) := by decide +kernel
theorem dX7_here_1 : decode cX7_here 1 = .ok (.getfield 300, 3) := by decide +kernel
theorem dX7_here_4 : decode cX7_here 4 = .ok (.aload_n 0, 1) := by decide +kernel
theorem dX7_here_5 : decode cX7_here 5 = .ok (.getfield 297, 3) := by decide +kernel
theorem dX7_here_8 : decode cX7_here 8 = .ok (.if_icmp .ge 30, 3) := by decide +kernel
theorem dX7_here_11 : decode cX7_here 11 = .ok (.aload_n 0, 1) := by decide +kernel
theorem dX7_here_12 : decode cX7_here 12 = .ok (.getfield 50, 3) := by decide +kernel
theorem dX7_here_15 : decode cX7_here 15 = .ok (.aload_n 0, 1) := by decide +kernel
theorem dX7_here_16 : decode cX7_here 16 = .ok (.getfield 300, 3) := by decide +kernel
theorem dX7_here_19 : decode cX7_here 19 = .ok (.iaload, 1) := by decide +kernel
theorem dX7_here_20 : decode cX7_here 20 = .ok (.bipush 32, 2) := by decide +kernel
theorem dX7_here_22 : decode cX7_here 22 = .ok (.if_icmp .ne 16, 3) := by decide +kernel
theorem dX7_here_25 : decode cX7_here 25 = .ok (.aload_n 0, 1) := by decide +kernel
theorem dX7_here_26 : decode cX7_here 26 = .ok (.dup, 1) := by decide +kernel
theorem dX7_here_27 : decode cX7_here 27 = .ok (.getfield 300, 3) := by decide +kernel
theorem dX7_here_30 : decode cX7_here 30 = .ok (.iconst 1, 1) := by decide +kernel
theorem dX7_here_31 : decode cX7_here 31 = .ok (.iadd, 1) := by decide +kernel
theorem dX7_here_32 : decode cX7_here 32 = .ok (.putfield 300, 3) := by decide +kernel
theorem dX7_here_35 : decode cX7_here 35 = .ok (.goto (-35), 3) := by decide +kernel
theorem dX7_here_38 : decode cX7_here 38 = .ok (.aload_n 0, 1) := by decide +kernel
theorem dX7_here_39 : decode cX7_here 39 = .ok (.getfield 300, 3) := by decide +kernel
theorem dX7_here_42 : decode cX7_here 42 = .ok (.aload_n 0, 1) := by decide +kernel
theorem dX7_here_43 : decode cX7_here 43 = .ok (.getfield 297, 3) := by decide +kernel
theorem dX7_here_46 : decode cX7_here 46 = .ok (.if_icmp .ge 15, 3) := by decide +kernel
theorem dX7_here_49 : decode cX7_here 49 = .ok (.aload_n 0, 1) := by decide +kernel
theorem dX7_here_50 : decode cX7_here 50 = .ok (.getfield 50, 3) := by decide +kernel
theorem dX7_here_53 : decode cX7_here 53 = .ok (.aload_n 0, 1) := by decide +kernel
theorem dX7_here_54 : decode cX7_here 54 = .ok (.getfield 300, 3) := by decide +kernel
theorem dX7_here_57 : decode cX7_here 57 = .ok (.iaload, 1) := by decide +kernel
theorem dX7_here_58 : decode cX7_here 58 = .ok (.goto 4, 3) := by decide +kernel
theorem dX7_here_61 : decode cX7_here 61 = .ok (.iconst (-1), 1) := by decide +kernel
theorem dX7_here_62 : decode cX7_here 62 = .ok (.ireturn, 1) := by decide +kernel
theorem dX7_isFigure_0 : decode cX7_isFigure 0 = .ok (.iload_n 1, 1) := by decide +kernel
theorem dX7_isFigure_1 : decode cX7_isFigure 1 = .ok (.aload_n 0, 1) := by decide +kernel
theorem dX7_isFigure_2 : decode cX7_isFigure 2 = .ok (.getfield 297, 3) := by decide +kernel
theorem dX7_isFigure_5 : decode cX7_isFigure 5 = .ok (.if_icmp .ge 26, 3) := by decide +kernel
theorem dX7_isFigure_8 : decode cX7_isFigure 8 = .ok (.aload_n 0, 1) := by decide +kernel
theorem dX7_isFigure_9 : decode cX7_isFigure 9 = .ok (.getfield 50, 3) := by decide +kernel
theorem dX7_isFigure_12 : decode cX7_isFigure 12 = .ok (.iload_n 1, 1) := by decide +kernel
theorem dX7_isFigure_13 : decode cX7_isFigure 13 = .ok (.iaload, 1) := by decide +kernel
theorem dX7_isFigure_14 : decode cX7_isFigure 14 = .ok (.i2l, 1) := by decide +kernel
theorem dX7_isFigure_15 : decode cX7_isFigure 15 = .ok (.ldc2_w 303, 3) := by decide +kernel
theorem dX7_isFigure_18 : decode cX7_isFigure 18 = .ok (.ldc2_w 305, 3) := by decide +kernel
theorem dX7_isFigure_21 : decode cX7_isFigure 21 = .ok (.invokestatic 64, 3) := by decide +kernel
theorem dX7_isFigure_24 : decode cX7_isFigure 24 = .ok (.ifCond .eq 7, 3) := by decide +kernel
theorem dX7_isFigure_27 : decode cX7_isFigure 27 = .ok (.iconst 1, 1) := by decide +kernel
theorem dX7_isFigure_28 : decode cX7_isFigure 28 = .ok (.goto 4, 3) := by decide +kernel
theorem dX7_isFigure_31 : decode cX7_isFigure 31 = .ok (.iconst 0, 1) := by decide +kernel
theorem dX7_isFigure_32 : decode cX7_isFigure 32 = .ok (.ireturn, 1) := by decide +kernel
theorem dX7_takes_0 : decode cX7_takes 0 = .ok (.aload_n 0, 1) := by decide +kernel
theorem dX7_takes_1 : decode cX7_takes 1 = .ok (.invokevirtual 307, 3) := by decide +kernel
theorem dX7_takes_4 : decode cX7_takes 4 = .ok (.bipush 45, 2) := by decide +kernel
theorem dX7_takes_6 : decode cX7_takes 6 = .ok (.if_icmp .ne 11, 3) := by decide +kernel
theorem dX7_takes_9 : decode cX7_takes 9 = .ok (.iload_n 1, 1) := by decide +kernel
theorem dX7_takes_10 : decode cX7_takes 10 = .ok (.ifCond .eq 7, 3) := by decide +kernel
theorem dX7_takes_13 : decode cX7_takes 13 = .ok (.iconst 1, 1) := by decide +kernel
theorem dX7_takes_14 : decode cX7_takes 14 = .ok (.goto 4, 3) := by decide +kernel
theorem dX7_takes_17 : decode cX7_takes 17 = .ok (.iconst 0, 1) := by decide +kernel
theorem dX7_takes_18 : decode cX7_takes 18 = .ok (.istore_n 2, 1) := by decide +kernel
theorem dX7_takes_19 : decode cX7_takes 19 = .ok (.aload_n 0, 1) := by decide +kernel
theorem dX7_takes_20 : decode cX7_takes 20 = .ok (.dup, 1) := by decide +kernel
theorem dX7_takes_21 : decode cX7_takes 21 = .ok (.getfield 300, 3) := by decide +kernel
theorem dX7_takes_24 : decode cX7_takes 24 = .ok (.iload_n 2, 1) := by decide +kernel
theorem dX7_takes_25 : decode cX7_takes 25 = .ok (.ifCond .eq 7, 3) := by decide +kernel
theorem dX7_takes_28 : decode cX7_takes 28 = .ok (.iconst 1, 1) := by decide +kernel
theorem dX7_takes_29 : decode cX7_takes 29 = .ok (.goto 4, 3) := by decide +kernel
theorem dX7_takes_32 : decode cX7_takes 32 = .ok (.iconst 0, 1) := by decide +kernel
theorem dX7_takes_33 : decode cX7_takes 33 = .ok (.iadd, 1) := by decide +kernel
theorem dX7_takes_34 : decode cX7_takes 34 = .ok (.putfield 300, 3) := by decide +kernel
theorem dX7_takes_37 : decode cX7_takes 37 = .ok (.iload_n 2, 1) := by decide +kernel
theorem dX7_takes_38 : decode cX7_takes 38 = .ok (.ifCond .eq 7, 3) := by decide +kernel
theorem dX7_takes_41 : decode cX7_takes 41 = .ok (.iconst 0, 1) := by decide +kernel
theorem dX7_takes_42 : decode cX7_takes 42 = .ok (.goto 7, 3) := by decide +kernel
theorem dX7_takes_45 : decode cX7_takes 45 = .ok (.aload_n 0, 1) := by decide +kernel
theorem dX7_takes_46 : decode cX7_takes 46 = .ok (.invokevirtual 307, 3) := by decide +kernel
theorem dX7_takes_49 : decode cX7_takes 49 = .ok (.istore_n 3, 1) := by decide +kernel
theorem dX7_takes_50 : decode cX7_takes 50 = .ok (.iconst 0, 1) := by decide +kernel
theorem dX7_takes_51 : decode cX7_takes 51 = .ok (.istore 4, 2) := by decide +kernel
theorem dX7_takes_53 : decode cX7_takes 53 = .ok (.aload_n 0, 1) := by decide +kernel
theorem dX7_takes_54 : decode cX7_takes 54 = .ok (.iconst 0, 1) := by decide +kernel
theorem dX7_takes_55 : decode cX7_takes 55 = .ok (.putfield 310, 3) := by decide +kernel
theorem dX7_takes_58 : decode cX7_takes 58 = .ok (.aload_n 0, 1) := by decide +kernel
theorem dX7_takes_59 : decode cX7_takes 59 = .ok (.aload_n 0, 1) := by decide +kernel
theorem dX7_takes_60 : decode cX7_takes 60 = .ok (.getfield 300, 3) := by decide +kernel
theorem dX7_takes_63 : decode cX7_takes 63 = .ok (.invokevirtual 313, 3) := by decide +kernel
theorem dX7_takes_66 : decode cX7_takes 66 = .ok (.ifCond .eq 49, 3) := by decide +kernel
theorem dX7_takes_69 : decode cX7_takes 69 = .ok (.iload 4, 2) := by decide +kernel
theorem dX7_takes_71 : decode cX7_takes 71 = .ok (.iconst 3, 1) := by decide +kernel
theorem dX7_takes_72 : decode cX7_takes 72 = .ok (.if_icmp .ge 43, 3) := by decide +kernel
theorem dX7_takes_75 : decode cX7_takes 75 = .ok (.aload_n 0, 1) := by decide +kernel
theorem dX7_takes_76 : decode cX7_takes 76 = .ok (.bipush 10, 2) := by decide +kernel
theorem dX7_takes_78 : decode cX7_takes 78 = .ok (.aload_n 0, 1) := by decide +kernel
theorem dX7_takes_79 : decode cX7_takes 79 = .ok (.getfield 310, 3) := by decide +kernel
theorem dX7_takes_82 : decode cX7_takes 82 = .ok (.imul, 1) := by decide +kernel
theorem dX7_takes_83 : decode cX7_takes 83 = .ok (.aload_n 0, 1) := by decide +kernel
theorem dX7_takes_84 : decode cX7_takes 84 = .ok (.getfield 50, 3) := by decide +kernel
theorem dX7_takes_87 : decode cX7_takes 87 = .ok (.aload_n 0, 1) := by decide +kernel
theorem dX7_takes_88 : decode cX7_takes 88 = .ok (.getfield 300, 3) := by decide +kernel
theorem dX7_takes_91 : decode cX7_takes 91 = .ok (.iaload, 1) := by decide +kernel
theorem dX7_takes_92 : decode cX7_takes 92 = .ok (.iadd, 1) := by decide +kernel
theorem dX7_takes_93 : decode cX7_takes 93 = .ok (.bipush 48, 2) := by decide +kernel
theorem dX7_takes_95 : decode cX7_takes 95 = .ok (.isub, 1) := by decide +kernel
theorem dX7_takes_96 : decode cX7_takes 96 = .ok (.putfield 310, 3) := by decide +kernel
theorem dX7_takes_99 : decode cX7_takes 99 = .ok (.aload_n 0, 1) := by decide +kernel
theorem dX7_takes_100 : decode cX7_takes 100 = .ok (.dup, 1) := by decide +kernel
theorem dX7_takes_101 : decode cX7_takes 101 = .ok (.getfield 300, 3) := by decide +kernel
theorem dX7_takes_104 : decode cX7_takes 104 = .ok (.iconst 1, 1) := by decide +kernel
theorem dX7_takes_105 : decode cX7_takes 105 = .ok (.iadd, 1) := by decide +kernel
theorem dX7_takes_106 : decode cX7_takes 106 = .ok (.putfield 300, 3) := by decide +kernel
theorem dX7_takes_109 : decode cX7_takes 109 = .ok (.iinc 4 1, 3) := by decide +kernel
theorem dX7_takes_112 : decode cX7_takes 112 = .ok (.goto (-54), 3) := by decide +kernel
theorem dX7_takes_115 : decode cX7_takes 115 = .ok (.aload_n 0, 1) := by decide +kernel
theorem dX7_takes_116 : decode cX7_takes 116 = .ok (.iload_n 2, 1) := by decide +kernel
theorem dX7_takes_117 : decode cX7_takes 117 = .ok (.ifCond .eq 11, 3) := by decide +kernel
theorem dX7_takes_120 : decode cX7_takes 120 = .ok (.aload_n 0, 1) := by decide +kernel
theorem dX7_takes_121 : decode cX7_takes 121 = .ok (.getfield 310, 3) := by decide +kernel
theorem dX7_takes_124 : decode cX7_takes 124 = .ok (.ineg, 1) := by decide +kernel
theorem dX7_takes_125 : decode cX7_takes 125 = .ok (.goto 7, 3) := by decide +kernel
theorem dX7_takes_128 : decode cX7_takes 128 = .ok (.aload_n 0, 1) := by decide +kernel
theorem dX7_takes_129 : decode cX7_takes 129 = .ok (.getfield 310, 3) := by decide +kernel
theorem dX7_takes_132 : decode cX7_takes 132 = .ok (.putfield 310, 3) := by decide +kernel
theorem dX7_takes_135 : decode cX7_takes 135 = .ok (.iload_n 3, 1) := by decide +kernel
theorem dX7_takes_136 : decode cX7_takes 136 = .ok (.iconst (-1), 1) := by decide +kernel
theorem dX7_takes_137 : decode cX7_takes 137 = .ok (.if_icmp .eq 23, 3) := by decide +kernel
theorem dX7_takes_140 : decode cX7_takes 140 = .ok (.iload 4, 2) := by decide +kernel
theorem dX7_takes_142 : decode cX7_takes 142 = .ok (.ifCond .le 18, 3) := by decide +kernel
theorem dX7_takes_145 : decode cX7_takes 145 = .ok (.aload_n 0, 1) := by decide +kernel
theorem dX7_takes_146 : decode cX7_takes 146 = .ok (.aload_n 0, 1) := by decide +kernel
theorem dX7_takes_147 : decode cX7_takes 147 = .ok (.getfield 300, 3) := by decide +kernel
theorem dX7_takes_150 : decode cX7_takes 150 = .ok (.invokevirtual 313, 3) := by decide +kernel
theorem dX7_takes_153 : decode cX7_takes 153 = .ok (.ifCond .ne 7, 3) := by decide +kernel
theorem dX7_takes_156 : decode cX7_takes 156 = .ok (.iconst 1, 1) := by decide +kernel
theorem dX7_takes_157 : decode cX7_takes 157 = .ok (.goto 4, 3) := by decide +kernel
theorem dX7_takes_160 : decode cX7_takes 160 = .ok (.iconst 0, 1) := by decide +kernel
theorem dX7_takes_161 : decode cX7_takes 161 = .ok (.ireturn, 1) := by decide +kernel
theorem dX7_takesAll_0 : decode cX7_takesAll 0 = .ok (.iconst 0, 1) := by decide +kernel
theorem dX7_takesAll_1 : decode cX7_takesAll 1 = .ok (.istore_n 3, 1) := by decide +kernel
theorem dX7_takesAll_2 : decode cX7_takesAll 2 = .ok (.iload_n 3, 1) := by decide +kernel
theorem dX7_takesAll_3 : decode cX7_takesAll 3 = .ok (.iload_n 1, 1) := by decide +kernel
theorem dX7_takesAll_4 : decode cX7_takesAll 4 = .ok (.if_icmp .ge 38, 3) := by decide +kernel
theorem dX7_takesAll_7 : decode cX7_takesAll 7 = .ok (.aload_n 0, 1) := by decide +kernel
theorem dX7_takesAll_8 : decode cX7_takesAll 8 = .ok (.iload_n 3, 1) := by decide +kernel
theorem dX7_takesAll_9 : decode cX7_takesAll 9 = .ok (.iload_n 2, 1) := by decide +kernel
theorem dX7_takesAll_10 : decode cX7_takesAll 10 = .ok (.if_icmp .lt 7, 3) := by decide +kernel
theorem dX7_takesAll_13 : decode cX7_takesAll 13 = .ok (.iconst 1, 1) := by decide +kernel
theorem dX7_takesAll_14 : decode cX7_takesAll 14 = .ok (.goto 4, 3) := by decide +kernel
theorem dX7_takesAll_17 : decode cX7_takesAll 17 = .ok (.iconst 0, 1) := by decide +kernel
theorem dX7_takesAll_18 : decode cX7_takesAll 18 = .ok (.invokevirtual 316, 3) := by decide +kernel
theorem dX7_takesAll_21 : decode cX7_takesAll 21 = .ok (.ifCond .ne 5, 3) := by decide +kernel
theorem dX7_takesAll_24 : decode cX7_takesAll 24 = .ok (.iconst 0, 1) := by decide +kernel
theorem dX7_takesAll_25 : decode cX7_takesAll 25 = .ok (.ireturn, 1) := by decide +kernel
theorem dX7_takesAll_26 : decode cX7_takesAll 26 = .ok (.aload_n 0, 1) := by decide +kernel
theorem dX7_takesAll_27 : decode cX7_takesAll 27 = .ok (.getfield 53, 3) := by decide +kernel
theorem dX7_takesAll_30 : decode cX7_takesAll 30 = .ok (.iload_n 3, 1) := by decide +kernel
theorem dX7_takesAll_31 : decode cX7_takesAll 31 = .ok (.aload_n 0, 1) := by decide +kernel
theorem dX7_takesAll_32 : decode cX7_takesAll 32 = .ok (.getfield 310, 3) := by decide +kernel
theorem dX7_takesAll_35 : decode cX7_takesAll 35 = .ok (.iastore, 1) := by decide +kernel
theorem dX7_takesAll_36 : decode cX7_takesAll 36 = .ok (.iinc 3 1, 3) := by decide +kernel
theorem dX7_takesAll_39 : decode cX7_takesAll 39 = .ok (.goto (-37), 3) := by decide +kernel
theorem dX7_takesAll_42 : decode cX7_takesAll 42 = .ok (.iconst 1, 1) := by decide +kernel
theorem dX7_takesAll_43 : decode cX7_takesAll 43 = .ok (.ireturn, 1) := by decide +kernel
theorem dX7_takesPoints_0 : decode cX7_takesPoints 0 = .ok (.aload_n 0, 1) := by decide +kernel
theorem dX7_takesPoints_1 : decode cX7_takesPoints 1 = .ok (.invokevirtual 307, 3) := by decide +kernel
theorem dX7_takesPoints_4 : decode cX7_takesPoints 4 = .ok (.istore_n 1, 1) := by decide +kernel
theorem dX7_takesPoints_5 : decode cX7_takesPoints 5 = .ok (.aload_n 0, 1) := by decide +kernel
theorem dX7_takesPoints_6 : decode cX7_takesPoints 6 = .ok (.getfield 300, 3) := by decide +kernel
theorem dX7_takesPoints_9 : decode cX7_takesPoints 9 = .ok (.istore_n 2, 1) := by decide +kernel
theorem dX7_takesPoints_10 : decode cX7_takesPoints 10 = .ok (.aload_n 0, 1) := by decide +kernel
theorem dX7_takesPoints_11 : decode cX7_takesPoints 11 = .ok (.iconst 0, 1) := by decide +kernel
theorem dX7_takesPoints_12 : decode cX7_takesPoints 12 = .ok (.invokevirtual 316, 3) := by decide +kernel
theorem dX7_takesPoints_15 : decode cX7_takesPoints 15 = .ok (.ifCond .ne 5, 3) := by decide +kernel
theorem dX7_takesPoints_18 : decode cX7_takesPoints 18 = .ok (.iconst 0, 1) := by decide +kernel
theorem dX7_takesPoints_19 : decode cX7_takesPoints 19 = .ok (.ireturn, 1) := by decide +kernel
theorem dX7_takesPoints_20 : decode cX7_takesPoints 20 = .ok (.aload_n 0, 1) := by decide +kernel
theorem dX7_takesPoints_21 : decode cX7_takesPoints 21 = .ok (.getfield 310, 3) := by decide +kernel
theorem dX7_takesPoints_24 : decode cX7_takesPoints 24 = .ok (.i2l, 1) := by decide +kernel
theorem dX7_takesPoints_25 : decode cX7_takesPoints 25 = .ok (.ldc2_w 76, 3) := by decide +kernel
theorem dX7_takesPoints_28 : decode cX7_takesPoints 28 = .ok (.ldc2_w 78, 3) := by decide +kernel
theorem dX7_takesPoints_31 : decode cX7_takesPoints 31 = .ok (.invokestatic 64, 3) := by decide +kernel
theorem dX7_takesPoints_34 : decode cX7_takesPoints 34 = .ok (.ifCond .ne 10, 3) := by decide +kernel
theorem dX7_takesPoints_37 : decode cX7_takesPoints 37 = .ok (.aload_n 0, 1) := by decide +kernel
theorem dX7_takesPoints_38 : decode cX7_takesPoints 38 = .ok (.iload_n 2, 1) := by decide +kernel
theorem dX7_takesPoints_39 : decode cX7_takesPoints 39 = .ok (.putfield 300, 3) := by decide +kernel
theorem dX7_takesPoints_42 : decode cX7_takesPoints 42 = .ok (.iconst 0, 1) := by decide +kernel
theorem dX7_takesPoints_43 : decode cX7_takesPoints 43 = .ok (.ireturn, 1) := by decide +kernel
theorem dX7_takesPoints_44 : decode cX7_takesPoints 44 = .ok (.aload_n 0, 1) := by decide +kernel
theorem dX7_takesPoints_45 : decode cX7_takesPoints 45 = .ok (.getfield 53, 3) := by decide +kernel
theorem dX7_takesPoints_48 : decode cX7_takesPoints 48 = .ok (.iconst 0, 1) := by decide +kernel
theorem dX7_takesPoints_49 : decode cX7_takesPoints 49 = .ok (.aload_n 0, 1) := by decide +kernel
theorem dX7_takesPoints_50 : decode cX7_takesPoints 50 = .ok (.getfield 310, 3) := by decide +kernel
theorem dX7_takesPoints_53 : decode cX7_takesPoints 53 = .ok (.iastore, 1) := by decide +kernel
theorem dX7_takesPoints_54 : decode cX7_takesPoints 54 = .ok (.aload_n 0, 1) := by decide +kernel
theorem dX7_takesPoints_55 : decode cX7_takesPoints 55 = .ok (.aload_n 0, 1) := by decide +kernel
theorem dX7_takesPoints_56 : decode cX7_takesPoints 56 = .ok (.getfield 310, 3) := by decide +kernel
theorem dX7_takesPoints_59 : decode cX7_takesPoints 59 = .ok (.putfield 320, 3) := by decide +kernel
theorem dX7_takesPoints_62 : decode cX7_takesPoints 62 = .ok (.iconst 1, 1) := by decide +kernel
theorem dX7_takesPoints_63 : decode cX7_takesPoints 63 = .ok (.ireturn, 1) := by decide +kernel
theorem dX7_takesNumbers_0 : decode cX7_takesNumbers 0 = .ok (.iload_n 1, 1) := by decide +kernel
theorem dX7_takesNumbers_1 : decode cX7_takesNumbers 1 = .ok (.lookupswitch 82 #[(97, 73), (99, 63), (108, 56), (110, 51), (122, 80)], 51) := by decide +kernel
theorem dX7_takesNumbers_52 : decode cX7_takesNumbers 52 = .ok (.aload_n 0, 1) := by decide +kernel
theorem dX7_takesNumbers_53 : decode cX7_takesNumbers 53 = .ok (.invokevirtual 323, 3) := by decide +kernel
theorem dX7_takesNumbers_56 : decode cX7_takesNumbers 56 = .ok (.ireturn, 1) := by decide +kernel
theorem dX7_takesNumbers_57 : decode cX7_takesNumbers 57 = .ok (.aload_n 0, 1) := by decide +kernel
theorem dX7_takesNumbers_58 : decode cX7_takesNumbers 58 = .ok (.iconst 3, 1) := by decide +kernel
theorem dX7_takesNumbers_59 : decode cX7_takesNumbers 59 = .ok (.iconst 3, 1) := by decide +kernel
theorem dX7_takesNumbers_60 : decode cX7_takesNumbers 60 = .ok (.invokevirtual 326, 3) := by decide +kernel
theorem dX7_takesNumbers_63 : decode cX7_takesNumbers 63 = .ok (.ireturn, 1) := by decide +kernel
theorem dX7_takesNumbers_64 : decode cX7_takesNumbers 64 = .ok (.aload_n 0, 1) := by decide +kernel
theorem dX7_takesNumbers_65 : decode cX7_takesNumbers 65 = .ok (.aload_n 0, 1) := by decide +kernel
theorem dX7_takesNumbers_66 : decode cX7_takesNumbers 66 = .ok (.getfield 320, 3) := by decide +kernel
theorem dX7_takesNumbers_69 : decode cX7_takesNumbers 69 = .ok (.iconst 0, 1) := by decide +kernel
theorem dX7_takesNumbers_70 : decode cX7_takesNumbers 70 = .ok (.invokevirtual 326, 3) := by decide +kernel
theorem dX7_takesNumbers_73 : decode cX7_takesNumbers 73 = .ok (.ireturn, 1) := by decide +kernel
theorem dX7_takesNumbers_74 : decode cX7_takesNumbers 74 = .ok (.aload_n 0, 1) := by decide +kernel
theorem dX7_takesNumbers_75 : decode cX7_takesNumbers 75 = .ok (.iconst 2, 1) := by decide +kernel
theorem dX7_takesNumbers_76 : decode cX7_takesNumbers 76 = .ok (.iconst 1, 1) := by decide +kernel
theorem dX7_takesNumbers_77 : decode cX7_takesNumbers 77 = .ok (.invokevirtual 326, 3) := by decide +kernel
theorem dX7_takesNumbers_80 : decode cX7_takesNumbers 80 = .ok (.ireturn, 1) := by decide +kernel
theorem dX7_takesNumbers_81 : decode cX7_takesNumbers 81 = .ok (.iconst 1, 1) := by decide +kernel
theorem dX7_takesNumbers_82 : decode cX7_takesNumbers 82 = .ok (.ireturn, 1) := by decide +kernel
theorem dX7_takesNumbers_83 : decode cX7_takesNumbers 83 = .ok (.aload_n 0, 1) := by decide +kernel
theorem dX7_takesNumbers_84 : decode cX7_takesNumbers 84 = .ok (.iconst 1, 1) := by decide +kernel
theorem dX7_takesNumbers_85 : decode cX7_takesNumbers 85 = .ok (.iconst 1, 1) := by decide +kernel
theorem dX7_takesNumbers_86 : decode cX7_takesNumbers 86 = .ok (.invokevirtual 326, 3) := by decide +kernel
theorem dX7_takesNumbers_89 : decode cX7_takesNumbers 89 = .ok (.ireturn, 1) := by decide +kernel
theorem dX7_can_0 : decode cX7_can 0 = .ok (.iload_n 1, 1) := by decide +kernel
theorem dX7_can_1 : decode cX7_can 1 = .ok (.lookupswitch 129 #[(97, 112), (98, 95), (102, 83), (108, 51), (122, 107)], 51) := by decide +kernel
theorem dX7_can_52 : decode cX7_can 52 = .ok (.aload_n 0, 1) := by decide +kernel
theorem dX7_can_53 : decode cX7_can 53 = .ok (.aload_n 0, 1) := by decide +kernel
theorem dX7_can_54 : decode cX7_can 54 = .ok (.getfield 53, 3) := by decide +kernel
theorem dX7_can_57 : decode cX7_can 57 = .ok (.iconst 0, 1) := by decide +kernel
theorem dX7_can_58 : decode cX7_can 58 = .ok (.iaload, 1) := by decide +kernel
theorem dX7_can_59 : decode cX7_can 59 = .ok (.aload_n 0, 1) := by decide +kernel
theorem dX7_can_60 : decode cX7_can 60 = .ok (.getfield 53, 3) := by decide +kernel
theorem dX7_can_63 : decode cX7_can 63 = .ok (.iconst 1, 1) := by decide +kernel
theorem dX7_can_64 : decode cX7_can 64 = .ok (.iaload, 1) := by decide +kernel
theorem dX7_can_65 : decode cX7_can 65 = .ok (.aload_n 0, 1) := by decide +kernel
theorem dX7_can_66 : decode cX7_can 66 = .ok (.getfield 53, 3) := by decide +kernel
theorem dX7_can_69 : decode cX7_can 69 = .ok (.iconst 2, 1) := by decide +kernel
theorem dX7_can_70 : decode cX7_can 70 = .ok (.iaload, 1) := by decide +kernel
theorem dX7_can_71 : decode cX7_can 71 = .ok (.invokevirtual 95, 3) := by decide +kernel
theorem dX7_can_74 : decode cX7_can 74 = .ok (.ifCond .eq 7, 3) := by decide +kernel
theorem dX7_can_77 : decode cX7_can 77 = .ok (.iconst 0, 1) := by decide +kernel
theorem dX7_can_78 : decode cX7_can 78 = .ok (.goto 5, 3) := by decide +kernel
theorem dX7_can_81 : decode cX7_can 81 = .ok (.bipush (-2), 2) := by decide +kernel
theorem dX7_can_83 : decode cX7_can 83 = .ok (.ireturn, 1) := by decide +kernel
theorem dX7_can_84 : decode cX7_can 84 = .ok (.aload_n 0, 1) := by decide +kernel
theorem dX7_can_85 : decode cX7_can 85 = .ok (.aload_n 0, 1) := by decide +kernel
theorem dX7_can_86 : decode cX7_can 86 = .ok (.getfield 53, 3) := by decide +kernel
theorem dX7_can_89 : decode cX7_can 89 = .ok (.iconst 0, 1) := by decide +kernel
theorem dX7_can_90 : decode cX7_can 90 = .ok (.iaload, 1) := by decide +kernel
theorem dX7_can_91 : decode cX7_can 91 = .ok (.iconst 1, 1) := by decide +kernel
theorem dX7_can_92 : decode cX7_can 92 = .ok (.invokevirtual 148, 3) := by decide +kernel
theorem dX7_can_95 : decode cX7_can 95 = .ok (.ireturn, 1) := by decide +kernel
theorem dX7_can_96 : decode cX7_can 96 = .ok (.aload_n 0, 1) := by decide +kernel
theorem dX7_can_97 : decode cX7_can 97 = .ok (.aload_n 0, 1) := by decide +kernel
theorem dX7_can_98 : decode cX7_can 98 = .ok (.getfield 53, 3) := by decide +kernel
theorem dX7_can_101 : decode cX7_can 101 = .ok (.iconst 0, 1) := by decide +kernel
theorem dX7_can_102 : decode cX7_can 102 = .ok (.iaload, 1) := by decide +kernel
theorem dX7_can_103 : decode cX7_can 103 = .ok (.iconst (-1), 1) := by decide +kernel
theorem dX7_can_104 : decode cX7_can 104 = .ok (.invokevirtual 148, 3) := by decide +kernel
theorem dX7_can_107 : decode cX7_can 107 = .ok (.ireturn, 1) := by decide +kernel
theorem dX7_can_108 : decode cX7_can 108 = .ok (.aload_n 0, 1) := by decide +kernel
theorem dX7_can_109 : decode cX7_can 109 = .ok (.invokevirtual 167, 3) := by decide +kernel
theorem dX7_can_112 : decode cX7_can 112 = .ok (.ireturn, 1) := by decide +kernel
theorem dX7_can_113 : decode cX7_can 113 = .ok (.aload_n 0, 1) := by decide +kernel
theorem dX7_can_114 : decode cX7_can 114 = .ok (.aload_n 0, 1) := by decide +kernel
theorem dX7_can_115 : decode cX7_can 115 = .ok (.getfield 53, 3) := by decide +kernel
theorem dX7_can_118 : decode cX7_can 118 = .ok (.iconst 0, 1) := by decide +kernel
theorem dX7_can_119 : decode cX7_can 119 = .ok (.iaload, 1) := by decide +kernel
theorem dX7_can_120 : decode cX7_can 120 = .ok (.aload_n 0, 1) := by decide +kernel
theorem dX7_can_121 : decode cX7_can 121 = .ok (.getfield 53, 3) := by decide +kernel
theorem dX7_can_124 : decode cX7_can 124 = .ok (.iconst 1, 1) := by decide +kernel
theorem dX7_can_125 : decode cX7_can 125 = .ok (.iaload, 1) := by decide +kernel
theorem dX7_can_126 : decode cX7_can 126 = .ok (.invokevirtual 136, 3) := by decide +kernel
theorem dX7_can_129 : decode cX7_can 129 = .ok (.ireturn, 1) := by decide +kernel
theorem dX7_can_130 : decode cX7_can 130 = .ok (.iconst 0, 1) := by decide +kernel
theorem dX7_can_131 : decode cX7_can 131 = .ok (.ireturn, 1) := by decide +kernel
theorem dX7_does_0 : decode cX7_does 0 = .ok (.iload_n 1, 1) := by decide +kernel
theorem dX7_does_1 : decode cX7_does 1 = .ok (.lookupswitch 143 #[(97, 126), (98, 107), (102, 93), (108, 70), (110, 59), (122, 121)], 59) := by decide +kernel
theorem dX7_does_60 : decode cX7_does 60 = .ok (.aload_n 0, 1) := by decide +kernel
theorem dX7_does_61 : decode cX7_does 61 = .ok (.aload_n 0, 1) := by decide +kernel
theorem dX7_does_62 : decode cX7_does 62 = .ok (.getfield 53, 3) := by decide +kernel
theorem dX7_does_65 : decode cX7_does 65 = .ok (.iconst 0, 1) := by decide +kernel
theorem dX7_does_66 : decode cX7_does 66 = .ok (.iaload, 1) := by decide +kernel
theorem dX7_does_67 : decode cX7_does 67 = .ok (.invokevirtual 86, 3) := by decide +kernel
theorem dX7_does_70 : decode cX7_does 70 = .ok (.ireturn, 1) := by decide +kernel
theorem dX7_does_71 : decode cX7_does 71 = .ok (.aload_n 0, 1) := by decide +kernel
theorem dX7_does_72 : decode cX7_does 72 = .ok (.aload_n 0, 1) := by decide +kernel
theorem dX7_does_73 : decode cX7_does 73 = .ok (.getfield 53, 3) := by decide +kernel
theorem dX7_does_76 : decode cX7_does 76 = .ok (.iconst 0, 1) := by decide +kernel
theorem dX7_does_77 : decode cX7_does 77 = .ok (.iaload, 1) := by decide +kernel
theorem dX7_does_78 : decode cX7_does 78 = .ok (.aload_n 0, 1) := by decide +kernel
theorem dX7_does_79 : decode cX7_does 79 = .ok (.getfield 53, 3) := by decide +kernel
theorem dX7_does_82 : decode cX7_does 82 = .ok (.iconst 1, 1) := by decide +kernel
theorem dX7_does_83 : decode cX7_does 83 = .ok (.iaload, 1) := by decide +kernel
theorem dX7_does_84 : decode cX7_does 84 = .ok (.aload_n 0, 1) := by decide +kernel
theorem dX7_does_85 : decode cX7_does 85 = .ok (.getfield 53, 3) := by decide +kernel
theorem dX7_does_88 : decode cX7_does 88 = .ok (.iconst 2, 1) := by decide +kernel
theorem dX7_does_89 : decode cX7_does 89 = .ok (.iaload, 1) := by decide +kernel
theorem dX7_does_90 : decode cX7_does 90 = .ok (.invokevirtual 99, 3) := by decide +kernel
theorem dX7_does_93 : decode cX7_does 93 = .ok (.ireturn, 1) := by decide +kernel
theorem dX7_does_94 : decode cX7_does 94 = .ok (.aload_n 0, 1) := by decide +kernel
theorem dX7_does_95 : decode cX7_does 95 = .ok (.iconst 1, 1) := by decide +kernel
theorem dX7_does_96 : decode cX7_does 96 = .ok (.aload_n 0, 1) := by decide +kernel
theorem dX7_does_97 : decode cX7_does 97 = .ok (.getfield 53, 3) := by decide +kernel
theorem dX7_does_100 : decode cX7_does 100 = .ok (.iconst 0, 1) := by decide +kernel
theorem dX7_does_101 : decode cX7_does 101 = .ok (.iaload, 1) := by decide +kernel
theorem dX7_does_102 : decode cX7_does 102 = .ok (.ishl, 1) := by decide +kernel
theorem dX7_does_103 : decode cX7_does 103 = .ok (.iconst 1, 1) := by decide +kernel
theorem dX7_does_104 : decode cX7_does 104 = .ok (.invokevirtual 151, 3) := by decide +kernel
theorem dX7_does_107 : decode cX7_does 107 = .ok (.ireturn, 1) := by decide +kernel
theorem dX7_does_108 : decode cX7_does 108 = .ok (.aload_n 0, 1) := by decide +kernel
theorem dX7_does_109 : decode cX7_does 109 = .ok (.iconst 1, 1) := by decide +kernel
theorem dX7_does_110 : decode cX7_does 110 = .ok (.aload_n 0, 1) := by decide +kernel
theorem dX7_does_111 : decode cX7_does 111 = .ok (.getfield 53, 3) := by decide +kernel
theorem dX7_does_114 : decode cX7_does 114 = .ok (.iconst 0, 1) := by decide +kernel
theorem dX7_does_115 : decode cX7_does 115 = .ok (.iaload, 1) := by decide +kernel
theorem dX7_does_116 : decode cX7_does 116 = .ok (.ishl, 1) := by decide +kernel
theorem dX7_does_117 : decode cX7_does 117 = .ok (.iconst (-1), 1) := by decide +kernel
theorem dX7_does_118 : decode cX7_does 118 = .ok (.invokevirtual 151, 3) := by decide +kernel
theorem dX7_does_121 : decode cX7_does 121 = .ok (.ireturn, 1) := by decide +kernel
theorem dX7_does_122 : decode cX7_does 122 = .ok (.aload_n 0, 1) := by decide +kernel
theorem dX7_does_123 : decode cX7_does 123 = .ok (.invokevirtual 170, 3) := by decide +kernel
theorem dX7_does_126 : decode cX7_does 126 = .ok (.ireturn, 1) := by decide +kernel
theorem dX7_does_127 : decode cX7_does 127 = .ok (.aload_n 0, 1) := by decide +kernel
theorem dX7_does_128 : decode cX7_does 128 = .ok (.aload_n 0, 1) := by decide +kernel
theorem dX7_does_129 : decode cX7_does 129 = .ok (.getfield 53, 3) := by decide +kernel
theorem dX7_does_132 : decode cX7_does 132 = .ok (.iconst 0, 1) := by decide +kernel
theorem dX7_does_133 : decode cX7_does 133 = .ok (.iaload, 1) := by decide +kernel
theorem dX7_does_134 : decode cX7_does 134 = .ok (.aload_n 0, 1) := by decide +kernel
theorem dX7_does_135 : decode cX7_does 135 = .ok (.getfield 53, 3) := by decide +kernel
theorem dX7_does_138 : decode cX7_does 138 = .ok (.iconst 1, 1) := by decide +kernel
theorem dX7_does_139 : decode cX7_does 139 = .ok (.iaload, 1) := by decide +kernel
theorem dX7_does_140 : decode cX7_does 140 = .ok (.invokevirtual 139, 3) := by decide +kernel
theorem dX7_does_143 : decode cX7_does 143 = .ok (.ireturn, 1) := by decide +kernel
theorem dX7_does_144 : decode cX7_does 144 = .ok (.iconst 0, 1) := by decide +kernel
theorem dX7_does_145 : decode cX7_does 145 = .ok (.istore_n 2, 1) := by decide +kernel
theorem dX7_does_146 : decode cX7_does 146 = .ok (.iload_n 2, 1) := by decide +kernel
theorem dX7_does_147 : decode cX7_does 147 = .ok (.aload_n 0, 1) := by decide +kernel
theorem dX7_does_148 : decode cX7_does 148 = .ok (.invokevirtual 60, 3) := by decide +kernel
theorem dX7_does_151 : decode cX7_does 151 = .ok (.if_icmp .ge 24, 3) := by decide +kernel
theorem dX7_does_154 : decode cX7_does 154 = .ok (.aload_n 0, 1) := by decide +kernel
theorem dX7_does_155 : decode cX7_does 155 = .ok (.getfield 7, 3) := by decide +kernel
theorem dX7_does_158 : decode cX7_does 158 = .ok (.bipush 26, 2) := by decide +kernel
theorem dX7_does_160 : decode cX7_does 160 = .ok (.iload_n 2, 1) := by decide +kernel
theorem dX7_does_161 : decode cX7_does 161 = .ok (.iadd, 1) := by decide +kernel
theorem dX7_does_162 : decode cX7_does 162 = .ok (.aload_n 0, 1) := by decide +kernel
theorem dX7_does_163 : decode cX7_does 163 = .ok (.getfield 53, 3) := by decide +kernel
theorem dX7_does_166 : decode cX7_does 166 = .ok (.iload_n 2, 1) := by decide +kernel
theorem dX7_does_167 : decode cX7_does 167 = .ok (.iaload, 1) := by decide +kernel
theorem dX7_does_168 : decode cX7_does 168 = .ok (.iastore, 1) := by decide +kernel
theorem dX7_does_169 : decode cX7_does 169 = .ok (.iinc 2 1, 3) := by decide +kernel
theorem dX7_does_172 : decode cX7_does 172 = .ok (.goto (-26), 3) := by decide +kernel
theorem dX7_does_175 : decode cX7_does 175 = .ok (.iconst 0, 1) := by decide +kernel
theorem dX7_does_176 : decode cX7_does 176 = .ok (.ireturn, 1) := by decide +kernel
theorem dX7_readsOrder_0 : decode cX7_readsOrder 0 = .ok (.aload_n 0, 1) := by decide +kernel
theorem dX7_readsOrder_1 : decode cX7_readsOrder 1 = .ok (.invokevirtual 307, 3) := by decide +kernel
theorem dX7_readsOrder_4 : decode cX7_readsOrder 4 = .ok (.istore_n 2, 1) := by decide +kernel
theorem dX7_readsOrder_5 : decode cX7_readsOrder 5 = .ok (.iload_n 2, 1) := by decide +kernel
theorem dX7_readsOrder_6 : decode cX7_readsOrder 6 = .ok (.bipush 110, 2) := by decide +kernel
theorem dX7_readsOrder_8 : decode cX7_readsOrder 8 = .ok (.if_icmp .eq 41, 3) := by decide +kernel
theorem dX7_readsOrder_11 : decode cX7_readsOrder 11 = .ok (.iload_n 2, 1) := by decide +kernel
theorem dX7_readsOrder_12 : decode cX7_readsOrder 12 = .ok (.bipush 108, 2) := by decide +kernel
theorem dX7_readsOrder_14 : decode cX7_readsOrder 14 = .ok (.if_icmp .eq 35, 3) := by decide +kernel
theorem dX7_readsOrder_17 : decode cX7_readsOrder 17 = .ok (.iload_n 2, 1) := by decide +kernel
theorem dX7_readsOrder_18 : decode cX7_readsOrder 18 = .ok (.bipush 99, 2) := by decide +kernel
theorem dX7_readsOrder_20 : decode cX7_readsOrder 20 = .ok (.if_icmp .eq 29, 3) := by decide +kernel
theorem dX7_readsOrder_23 : decode cX7_readsOrder 23 = .ok (.iload_n 2, 1) := by decide +kernel
theorem dX7_readsOrder_24 : decode cX7_readsOrder 24 = .ok (.bipush 102, 2) := by decide +kernel
theorem dX7_readsOrder_26 : decode cX7_readsOrder 26 = .ok (.if_icmp .eq 23, 3) := by decide +kernel
theorem dX7_readsOrder_29 : decode cX7_readsOrder 29 = .ok (.iload_n 2, 1) := by decide +kernel
theorem dX7_readsOrder_30 : decode cX7_readsOrder 30 = .ok (.bipush 98, 2) := by decide +kernel
theorem dX7_readsOrder_32 : decode cX7_readsOrder 32 = .ok (.if_icmp .eq 17, 3) := by decide +kernel
theorem dX7_readsOrder_35 : decode cX7_readsOrder 35 = .ok (.iload_n 2, 1) := by decide +kernel
theorem dX7_readsOrder_36 : decode cX7_readsOrder 36 = .ok (.bipush 122, 2) := by decide +kernel
theorem dX7_readsOrder_38 : decode cX7_readsOrder 38 = .ok (.if_icmp .eq 11, 3) := by decide +kernel
theorem dX7_readsOrder_41 : decode cX7_readsOrder 41 = .ok (.iload_n 2, 1) := by decide +kernel
theorem dX7_readsOrder_42 : decode cX7_readsOrder 42 = .ok (.bipush 97, 2) := by decide +kernel
theorem dX7_readsOrder_44 : decode cX7_readsOrder 44 = .ok (.if_icmp .eq 5, 3) := by decide +kernel
theorem dX7_readsOrder_47 : decode cX7_readsOrder 47 = .ok (.iconst 0, 1) := by decide +kernel
theorem dX7_readsOrder_48 : decode cX7_readsOrder 48 = .ok (.ireturn, 1) := by decide +kernel
theorem dX7_readsOrder_49 : decode cX7_readsOrder 49 = .ok (.aload_n 0, 1) := by decide +kernel
theorem dX7_readsOrder_50 : decode cX7_readsOrder 50 = .ok (.dup, 1) := by decide +kernel
theorem dX7_readsOrder_51 : decode cX7_readsOrder 51 = .ok (.getfield 300, 3) := by decide +kernel
theorem dX7_readsOrder_54 : decode cX7_readsOrder 54 = .ok (.iconst 1, 1) := by decide +kernel
theorem dX7_readsOrder_55 : decode cX7_readsOrder 55 = .ok (.iadd, 1) := by decide +kernel
theorem dX7_readsOrder_56 : decode cX7_readsOrder 56 = .ok (.putfield 300, 3) := by decide +kernel
theorem dX7_readsOrder_59 : decode cX7_readsOrder 59 = .ok (.aload_n 0, 1) := by decide +kernel
theorem dX7_readsOrder_60 : decode cX7_readsOrder 60 = .ok (.iload_n 2, 1) := by decide +kernel
theorem dX7_readsOrder_61 : decode cX7_readsOrder 61 = .ok (.invokevirtual 330, 3) := by decide +kernel
theorem dX7_readsOrder_64 : decode cX7_readsOrder 64 = .ok (.ifCond .eq 12, 3) := by decide +kernel
theorem dX7_readsOrder_67 : decode cX7_readsOrder 67 = .ok (.aload_n 0, 1) := by decide +kernel
theorem dX7_readsOrder_68 : decode cX7_readsOrder 68 = .ok (.invokevirtual 307, 3) := by decide +kernel
theorem dX7_readsOrder_71 : decode cX7_readsOrder 71 = .ok (.bipush 59, 2) := by decide +kernel
theorem dX7_readsOrder_73 : decode cX7_readsOrder 73 = .ok (.if_icmp .eq 5, 3) := by decide +kernel
theorem dX7_readsOrder_76 : decode cX7_readsOrder 76 = .ok (.iconst 0, 1) := by decide +kernel
theorem dX7_readsOrder_77 : decode cX7_readsOrder 77 = .ok (.ireturn, 1) := by decide +kernel
theorem dX7_readsOrder_78 : decode cX7_readsOrder 78 = .ok (.aload_n 0, 1) := by decide +kernel
theorem dX7_readsOrder_79 : decode cX7_readsOrder 79 = .ok (.dup, 1) := by decide +kernel
theorem dX7_readsOrder_80 : decode cX7_readsOrder 80 = .ok (.getfield 300, 3) := by decide +kernel
theorem dX7_readsOrder_83 : decode cX7_readsOrder 83 = .ok (.iconst 1, 1) := by decide +kernel
theorem dX7_readsOrder_84 : decode cX7_readsOrder 84 = .ok (.iadd, 1) := by decide +kernel
theorem dX7_readsOrder_85 : decode cX7_readsOrder 85 = .ok (.putfield 300, 3) := by decide +kernel
theorem dX7_readsOrder_88 : decode cX7_readsOrder 88 = .ok (.iload_n 1, 1) := by decide +kernel
theorem dX7_readsOrder_89 : decode cX7_readsOrder 89 = .ok (.ifCond .eq 29, 3) := by decide +kernel
theorem dX7_readsOrder_92 : decode cX7_readsOrder 92 = .ok (.aload_n 0, 1) := by decide +kernel
theorem dX7_readsOrder_93 : decode cX7_readsOrder 93 = .ok (.aload_n 0, 1) := by decide +kernel
theorem dX7_readsOrder_94 : decode cX7_readsOrder 94 = .ok (.iload_n 2, 1) := by decide +kernel
theorem dX7_readsOrder_95 : decode cX7_readsOrder 95 = .ok (.invokevirtual 333, 3) := by decide +kernel
theorem dX7_readsOrder_98 : decode cX7_readsOrder 98 = .ok (.putfield 336, 3) := by decide +kernel
theorem dX7_readsOrder_101 : decode cX7_readsOrder 101 = .ok (.aload_n 0, 1) := by decide +kernel
theorem dX7_readsOrder_102 : decode cX7_readsOrder 102 = .ok (.getfield 336, 3) := by decide +kernel
theorem dX7_readsOrder_105 : decode cX7_readsOrder 105 = .ok (.ifCond .ne 11, 3) := by decide +kernel
theorem dX7_readsOrder_108 : decode cX7_readsOrder 108 = .ok (.aload_n 0, 1) := by decide +kernel
theorem dX7_readsOrder_109 : decode cX7_readsOrder 109 = .ok (.iload_n 2, 1) := by decide +kernel
theorem dX7_readsOrder_110 : decode cX7_readsOrder 110 = .ok (.invokevirtual 339, 3) := by decide +kernel
theorem dX7_readsOrder_113 : decode cX7_readsOrder 113 = .ok (.goto 4, 3) := by decide +kernel
theorem dX7_readsOrder_116 : decode cX7_readsOrder 116 = .ok (.iconst 0, 1) := by decide +kernel
theorem dX7_readsOrder_117 : decode cX7_readsOrder 117 = .ok (.istore_n 3, 1) := by decide +kernel
theorem dX7_readsOrder_118 : decode cX7_readsOrder 118 = .ok (.iconst 1, 1) := by decide +kernel
theorem dX7_readsOrder_119 : decode cX7_readsOrder 119 = .ok (.ireturn, 1) := by decide +kernel
theorem dX7_reads_0 : decode cX7_reads 0 = .ok (.aload_n 0, 1) := by decide +kernel
theorem dX7_reads_1 : decode cX7_reads 1 = .ok (.iconst 0, 1) := by decide +kernel
theorem dX7_reads_2 : decode cX7_reads 2 = .ok (.putfield 300, 3) := by decide +kernel
theorem dX7_reads_5 : decode cX7_reads 5 = .ok (.aload_n 0, 1) := by decide +kernel
theorem dX7_reads_6 : decode cX7_reads 6 = .ok (.aload_n 0, 1) := by decide +kernel
theorem dX7_reads_7 : decode cX7_reads 7 = .ok (.invokevirtual 60, 3) := by decide +kernel
theorem dX7_reads_10 : decode cX7_reads 10 = .ok (.putfield 320, 3) := by decide +kernel
theorem dX7_reads_13 : decode cX7_reads 13 = .ok (.aload_n 0, 1) := by decide +kernel
theorem dX7_reads_14 : decode cX7_reads 14 = .ok (.iconst 0, 1) := by decide +kernel
theorem dX7_reads_15 : decode cX7_reads 15 = .ok (.invokevirtual 342, 3) := by decide +kernel
theorem dX7_reads_18 : decode cX7_reads 18 = .ok (.istore_n 1, 1) := by decide +kernel
theorem dX7_reads_19 : decode cX7_reads 19 = .ok (.iload_n 1, 1) := by decide +kernel
theorem dX7_reads_20 : decode cX7_reads 20 = .ok (.ifCond .eq 20, 3) := by decide +kernel
theorem dX7_reads_23 : decode cX7_reads 23 = .ok (.aload_n 0, 1) := by decide +kernel
theorem dX7_reads_24 : decode cX7_reads 24 = .ok (.invokevirtual 307, 3) := by decide +kernel
theorem dX7_reads_27 : decode cX7_reads 27 = .ok (.iconst (-1), 1) := by decide +kernel
theorem dX7_reads_28 : decode cX7_reads 28 = .ok (.if_icmp .eq 12, 3) := by decide +kernel
theorem dX7_reads_31 : decode cX7_reads 31 = .ok (.aload_n 0, 1) := by decide +kernel
theorem dX7_reads_32 : decode cX7_reads 32 = .ok (.iconst 0, 1) := by decide +kernel
theorem dX7_reads_33 : decode cX7_reads 33 = .ok (.invokevirtual 342, 3) := by decide +kernel
theorem dX7_reads_36 : decode cX7_reads 36 = .ok (.istore_n 1, 1) := by decide +kernel
theorem dX7_reads_37 : decode cX7_reads 37 = .ok (.goto (-18), 3) := by decide +kernel
theorem dX7_reads_40 : decode cX7_reads 40 = .ok (.iload_n 1, 1) := by decide +kernel
theorem dX7_reads_41 : decode cX7_reads 41 = .ok (.ifCond .ne 11, 3) := by decide +kernel
theorem dX7_reads_44 : decode cX7_reads 44 = .ok (.bipush (-10), 2) := by decide +kernel
theorem dX7_reads_46 : decode cX7_reads 46 = .ok (.aload_n 0, 1) := by decide +kernel
theorem dX7_reads_47 : decode cX7_reads 47 = .ok (.getfield 300, 3) := by decide +kernel
theorem dX7_reads_50 : decode cX7_reads 50 = .ok (.isub, 1) := by decide +kernel
theorem dX7_reads_51 : decode cX7_reads 51 = .ok (.ireturn, 1) := by decide +kernel
theorem dX7_reads_52 : decode cX7_reads 52 = .ok (.iconst 0, 1) := by decide +kernel
theorem dX7_reads_53 : decode cX7_reads 53 = .ok (.istore_n 2, 1) := by decide +kernel
theorem dX7_reads_54 : decode cX7_reads 54 = .ok (.iload_n 2, 1) := by decide +kernel
theorem dX7_reads_55 : decode cX7_reads 55 = .ok (.bipush 54, 2) := by decide +kernel
theorem dX7_reads_57 : decode cX7_reads 57 = .ok (.if_icmp .ge 21, 3) := by decide +kernel
theorem dX7_reads_60 : decode cX7_reads 60 = .ok (.aload_n 0, 1) := by decide +kernel
theorem dX7_reads_61 : decode cX7_reads 61 = .ok (.getfield 16, 3) := by decide +kernel
theorem dX7_reads_64 : decode cX7_reads 64 = .ok (.iload_n 2, 1) := by decide +kernel
theorem dX7_reads_65 : decode cX7_reads 65 = .ok (.aload_n 0, 1) := by decide +kernel
theorem dX7_reads_66 : decode cX7_reads 66 = .ok (.getfield 7, 3) := by decide +kernel
theorem dX7_reads_69 : decode cX7_reads 69 = .ok (.iload_n 2, 1) := by decide +kernel
theorem dX7_reads_70 : decode cX7_reads 70 = .ok (.iaload, 1) := by decide +kernel
theorem dX7_reads_71 : decode cX7_reads 71 = .ok (.iastore, 1) := by decide +kernel
theorem dX7_reads_72 : decode cX7_reads 72 = .ok (.iinc 2 1, 3) := by decide +kernel
theorem dX7_reads_75 : decode cX7_reads 75 = .ok (.goto (-21), 3) := by decide +kernel
theorem dX7_reads_78 : decode cX7_reads 78 = .ok (.iconst 0, 1) := by decide +kernel
theorem dX7_reads_79 : decode cX7_reads 79 = .ok (.istore_n 2, 1) := by decide +kernel
theorem dX7_reads_80 : decode cX7_reads 80 = .ok (.aload_n 0, 1) := by decide +kernel
theorem dX7_reads_81 : decode cX7_reads 81 = .ok (.iconst 0, 1) := by decide +kernel
theorem dX7_reads_82 : decode cX7_reads 82 = .ok (.putfield 300, 3) := by decide +kernel
theorem dX7_reads_85 : decode cX7_reads 85 = .ok (.aload_n 0, 1) := by decide +kernel
theorem dX7_reads_86 : decode cX7_reads 86 = .ok (.iconst 0, 1) := by decide +kernel
theorem dX7_reads_87 : decode cX7_reads 87 = .ok (.putfield 336, 3) := by decide +kernel
theorem dX7_reads_90 : decode cX7_reads 90 = .ok (.aload_n 0, 1) := by decide +kernel
theorem dX7_reads_91 : decode cX7_reads 91 = .ok (.aload_n 0, 1) := by decide +kernel
theorem dX7_reads_92 : decode cX7_reads 92 = .ok (.invokevirtual 60, 3) := by decide +kernel
theorem dX7_reads_95 : decode cX7_reads 95 = .ok (.putfield 320, 3) := by decide +kernel
theorem dX7_reads_98 : decode cX7_reads 98 = .ok (.aload_n 0, 1) := by decide +kernel
theorem dX7_reads_99 : decode cX7_reads 99 = .ok (.invokevirtual 307, 3) := by decide +kernel
theorem dX7_reads_102 : decode cX7_reads 102 = .ok (.iconst (-1), 1) := by decide +kernel
theorem dX7_reads_103 : decode cX7_reads 103 = .ok (.if_icmp .eq 54, 3) := by decide +kernel
theorem dX7_reads_106 : decode cX7_reads 106 = .ok (.aload_n 0, 1) := by decide +kernel
theorem dX7_reads_107 : decode cX7_reads 107 = .ok (.iconst 1, 1) := by decide +kernel
theorem dX7_reads_108 : decode cX7_reads 108 = .ok (.invokevirtual 342, 3) := by decide +kernel
theorem dX7_reads_111 : decode cX7_reads 111 = .ok (.istore_n 1, 1) := by decide +kernel
theorem dX7_reads_112 : decode cX7_reads 112 = .ok (.aload_n 0, 1) := by decide +kernel
theorem dX7_reads_113 : decode cX7_reads 113 = .ok (.getfield 336, 3) := by decide +kernel
theorem dX7_reads_116 : decode cX7_reads 116 = .ok (.ifCond .ge 35, 3) := by decide +kernel
theorem dX7_reads_119 : decode cX7_reads 119 = .ok (.iconst 0, 1) := by decide +kernel
theorem dX7_reads_120 : decode cX7_reads 120 = .ok (.istore_n 3, 1) := by decide +kernel
theorem dX7_reads_121 : decode cX7_reads 121 = .ok (.iload_n 3, 1) := by decide +kernel
theorem dX7_reads_122 : decode cX7_reads 122 = .ok (.bipush 54, 2) := by decide +kernel
theorem dX7_reads_124 : decode cX7_reads 124 = .ok (.if_icmp .ge 21, 3) := by decide +kernel
theorem dX7_reads_127 : decode cX7_reads 127 = .ok (.aload_n 0, 1) := by decide +kernel
theorem dX7_reads_128 : decode cX7_reads 128 = .ok (.getfield 7, 3) := by decide +kernel
theorem dX7_reads_131 : decode cX7_reads 131 = .ok (.iload_n 3, 1) := by decide +kernel
theorem dX7_reads_132 : decode cX7_reads 132 = .ok (.aload_n 0, 1) := by decide +kernel
theorem dX7_reads_133 : decode cX7_reads 133 = .ok (.getfield 16, 3) := by decide +kernel
theorem dX7_reads_136 : decode cX7_reads 136 = .ok (.iload_n 3, 1) := by decide +kernel
theorem dX7_reads_137 : decode cX7_reads 137 = .ok (.iaload, 1) := by decide +kernel
theorem dX7_reads_138 : decode cX7_reads 138 = .ok (.iastore, 1) := by decide +kernel
theorem dX7_reads_139 : decode cX7_reads 139 = .ok (.iinc 3 1, 3) := by decide +kernel
theorem dX7_reads_142 : decode cX7_reads 142 = .ok (.goto (-21), 3) := by decide +kernel
theorem dX7_reads_145 : decode cX7_reads 145 = .ok (.sipush (-1000), 3) := by decide +kernel
theorem dX7_reads_148 : decode cX7_reads 148 = .ok (.iload_n 2, 1) := by decide +kernel
theorem dX7_reads_149 : decode cX7_reads 149 = .ok (.isub, 1) := by decide +kernel
theorem dX7_reads_150 : decode cX7_reads 150 = .ok (.ireturn, 1) := by decide +kernel
theorem dX7_reads_151 : decode cX7_reads 151 = .ok (.iinc 2 1, 3) := by decide +kernel
theorem dX7_reads_154 : decode cX7_reads 154 = .ok (.goto (-56), 3) := by decide +kernel
theorem dX7_reads_157 : decode cX7_reads 157 = .ok (.aload_n 0, 1) := by decide +kernel
theorem dX7_reads_158 : decode cX7_reads 158 = .ok (.invokevirtual 345, 3) := by decide +kernel
theorem dX7_reads_161 : decode cX7_reads 161 = .ok (.iload_n 2, 1) := by decide +kernel
theorem dX7_reads_162 : decode cX7_reads 162 = .ok (.ireturn, 1) := by decide +kernel
theorem dX7_keepsAside_0 : decode cX7_keepsAside 0 = .ok (.iconst 0, 1) := by decide +kernel
theorem dX7_keepsAside_1 : decode cX7_keepsAside 1 = .ok (.istore_n 1, 1) := by decide +kernel
theorem dX7_keepsAside_2 : decode cX7_keepsAside 2 = .ok (.iload_n 1, 1) := by decide +kernel
theorem dX7_keepsAside_3 : decode cX7_keepsAside 3 = .ok (.bipush 54, 2) := by decide +kernel
theorem dX7_keepsAside_5 : decode cX7_keepsAside 5 = .ok (.if_icmp .ge 35, 3) := by decide +kernel
theorem dX7_keepsAside_8 : decode cX7_keepsAside 8 = .ok (.aload_n 0, 1) := by decide +kernel
theorem dX7_keepsAside_9 : decode cX7_keepsAside 9 = .ok (.getfield 7, 3) := by decide +kernel
theorem dX7_keepsAside_12 : decode cX7_keepsAside 12 = .ok (.iload_n 1, 1) := by decide +kernel
theorem dX7_keepsAside_13 : decode cX7_keepsAside 13 = .ok (.iaload, 1) := by decide +kernel
theorem dX7_keepsAside_14 : decode cX7_keepsAside 14 = .ok (.istore_n 2, 1) := by decide +kernel
theorem dX7_keepsAside_15 : decode cX7_keepsAside 15 = .ok (.aload_n 0, 1) := by decide +kernel
theorem dX7_keepsAside_16 : decode cX7_keepsAside 16 = .ok (.getfield 7, 3) := by decide +kernel
theorem dX7_keepsAside_19 : decode cX7_keepsAside 19 = .ok (.iload_n 1, 1) := by decide +kernel
theorem dX7_keepsAside_20 : decode cX7_keepsAside 20 = .ok (.aload_n 0, 1) := by decide +kernel
theorem dX7_keepsAside_21 : decode cX7_keepsAside 21 = .ok (.getfield 16, 3) := by decide +kernel
theorem dX7_keepsAside_24 : decode cX7_keepsAside 24 = .ok (.iload_n 1, 1) := by decide +kernel
theorem dX7_keepsAside_25 : decode cX7_keepsAside 25 = .ok (.iaload, 1) := by decide +kernel
theorem dX7_keepsAside_26 : decode cX7_keepsAside 26 = .ok (.iastore, 1) := by decide +kernel
theorem dX7_keepsAside_27 : decode cX7_keepsAside 27 = .ok (.aload_n 0, 1) := by decide +kernel
theorem dX7_keepsAside_28 : decode cX7_keepsAside 28 = .ok (.getfield 16, 3) := by decide +kernel
theorem dX7_keepsAside_31 : decode cX7_keepsAside 31 = .ok (.iload_n 1, 1) := by decide +kernel
theorem dX7_keepsAside_32 : decode cX7_keepsAside 32 = .ok (.iload_n 2, 1) := by decide +kernel
theorem dX7_keepsAside_33 : decode cX7_keepsAside 33 = .ok (.iastore, 1) := by decide +kernel
theorem dX7_keepsAside_34 : decode cX7_keepsAside 34 = .ok (.iinc 1 1, 3) := by decide +kernel
theorem dX7_keepsAside_37 : decode cX7_keepsAside 37 = .ok (.goto (-35), 3) := by decide +kernel
theorem dX7_keepsAside_40 : decode cX7_keepsAside 40 = .ok (.aload_n 0, 1) := by decide +kernel
theorem dX7_keepsAside_41 : decode cX7_keepsAside 41 = .ok (.invokevirtual 83, 3) := by decide +kernel
theorem dX7_keepsAside_44 : decode cX7_keepsAside 44 = .ok (.iconst 0, 1) := by decide +kernel
theorem dX7_keepsAside_45 : decode cX7_keepsAside 45 = .ok (.istore_n 1, 1) := by decide +kernel
theorem dX7_keepsAside_46 : decode cX7_keepsAside 46 = .ok (.iload_n 1, 1) := by decide +kernel
theorem dX7_keepsAside_47 : decode cX7_keepsAside 47 = .ok (.bipush 54, 2) := by decide +kernel
theorem dX7_keepsAside_49 : decode cX7_keepsAside 49 = .ok (.if_icmp .ge 21, 3) := by decide +kernel
theorem dX7_keepsAside_52 : decode cX7_keepsAside 52 = .ok (.aload_n 0, 1) := by decide +kernel
theorem dX7_keepsAside_53 : decode cX7_keepsAside 53 = .ok (.getfield 7, 3) := by decide +kernel
theorem dX7_keepsAside_56 : decode cX7_keepsAside 56 = .ok (.iload_n 1, 1) := by decide +kernel
theorem dX7_keepsAside_57 : decode cX7_keepsAside 57 = .ok (.aload_n 0, 1) := by decide +kernel
theorem dX7_keepsAside_58 : decode cX7_keepsAside 58 = .ok (.getfield 16, 3) := by decide +kernel
theorem dX7_keepsAside_61 : decode cX7_keepsAside 61 = .ok (.iload_n 1, 1) := by decide +kernel
theorem dX7_keepsAside_62 : decode cX7_keepsAside 62 = .ok (.iaload, 1) := by decide +kernel
theorem dX7_keepsAside_63 : decode cX7_keepsAside 63 = .ok (.iastore, 1) := by decide +kernel
theorem dX7_keepsAside_64 : decode cX7_keepsAside 64 = .ok (.iinc 1 1, 3) := by decide +kernel
theorem dX7_keepsAside_67 : decode cX7_keepsAside 67 = .ok (.goto (-21), 3) := by decide +kernel
theorem dX7_keepsAside_70 : decode cX7_keepsAside 70 = .ok (.return_, 1) := by decide +kernel
theorem dX7_back_0 : decode cX7_back 0 = .ok (.aload_n 0, 1) := by decide +kernel
theorem dX7_back_1 : decode cX7_back 1 = .ok (.getfield 56, 3) := by decide +kernel
theorem dX7_back_4 : decode cX7_back 4 = .ok (.ifCond .ne 10, 3) := by decide +kernel
theorem dX7_back_7 : decode cX7_back 7 = .ok (.aload_n 0, 1) := by decide +kernel
theorem dX7_back_8 : decode cX7_back 8 = .ok (.bipush (-3), 2) := by decide +kernel
theorem dX7_back_10 : decode cX7_back 10 = .ok (.invokevirtual 80, 3) := by decide +kernel
theorem dX7_back_13 : decode cX7_back 13 = .ok (.ireturn, 1) := by decide +kernel
theorem dX7_back_14 : decode cX7_back 14 = .ok (.aload_n 0, 1) := by decide +kernel
theorem dX7_back_15 : decode cX7_back 15 = .ok (.dup, 1) := by decide +kernel
theorem dX7_back_16 : decode cX7_back 16 = .ok (.getfield 56, 3) := by decide +kernel
theorem dX7_back_19 : decode cX7_back 19 = .ok (.iconst 1, 1) := by decide +kernel
theorem dX7_back_20 : decode cX7_back 20 = .ok (.isub, 1) := by decide +kernel
theorem dX7_back_21 : decode cX7_back 21 = .ok (.putfield 56, 3) := by decide +kernel
theorem dX7_back_24 : decode cX7_back 24 = .ok (.iconst 0, 1) := by decide +kernel
theorem dX7_back_25 : decode cX7_back 25 = .ok (.istore_n 1, 1) := by decide +kernel
theorem dX7_back_26 : decode cX7_back 26 = .ok (.iload_n 1, 1) := by decide +kernel
theorem dX7_back_27 : decode cX7_back 27 = .ok (.bipush 54, 2) := by decide +kernel
theorem dX7_back_29 : decode cX7_back 29 = .ok (.if_icmp .ge 29, 3) := by decide +kernel
theorem dX7_back_32 : decode cX7_back 32 = .ok (.aload_n 0, 1) := by decide +kernel
theorem dX7_back_33 : decode cX7_back 33 = .ok (.getfield 7, 3) := by decide +kernel
theorem dX7_back_36 : decode cX7_back 36 = .ok (.iload_n 1, 1) := by decide +kernel
theorem dX7_back_37 : decode cX7_back 37 = .ok (.aload_n 0, 1) := by decide +kernel
theorem dX7_back_38 : decode cX7_back 38 = .ok (.getfield 13, 3) := by decide +kernel
theorem dX7_back_41 : decode cX7_back 41 = .ok (.bipush 54, 2) := by decide +kernel
theorem dX7_back_43 : decode cX7_back 43 = .ok (.aload_n 0, 1) := by decide +kernel
theorem dX7_back_44 : decode cX7_back 44 = .ok (.getfield 56, 3) := by decide +kernel
theorem dX7_back_47 : decode cX7_back 47 = .ok (.imul, 1) := by decide +kernel
theorem dX7_back_48 : decode cX7_back 48 = .ok (.iload_n 1, 1) := by decide +kernel
theorem dX7_back_49 : decode cX7_back 49 = .ok (.iadd, 1) := by decide +kernel
theorem dX7_back_50 : decode cX7_back 50 = .ok (.iaload, 1) := by decide +kernel
theorem dX7_back_51 : decode cX7_back 51 = .ok (.iastore, 1) := by decide +kernel
theorem dX7_back_52 : decode cX7_back 52 = .ok (.iinc 1 1, 3) := by decide +kernel
theorem dX7_back_55 : decode cX7_back 55 = .ok (.goto (-29), 3) := by decide +kernel
theorem dX7_back_58 : decode cX7_back 58 = .ok (.aload_n 0, 1) := by decide +kernel
theorem dX7_back_59 : decode cX7_back 59 = .ok (.getfield 56, 3) := by decide +kernel
theorem dX7_back_62 : decode cX7_back 62 = .ok (.ireturn, 1) := by decide +kernel
theorem dX7_keptSet_0 : decode cX7_keptSet 0 = .ok (.aload_n 0, 1) := by decide +kernel
theorem dX7_keptSet_1 : decode cX7_keptSet 1 = .ok (.iconst 0, 1) := by decide +kernel
theorem dX7_keptSet_2 : decode cX7_keptSet 2 = .ok (.invokevirtual 279, 3) := by decide +kernel
theorem dX7_keptSet_5 : decode cX7_keptSet 5 = .ok (.ifCond .le 7, 3) := by decide +kernel
theorem dX7_keptSet_8 : decode cX7_keptSet 8 = .ok (.iconst 1, 1) := by decide +kernel
theorem dX7_keptSet_9 : decode cX7_keptSet 9 = .ok (.goto 4, 3) := by decide +kernel
theorem dX7_keptSet_12 : decode cX7_keptSet 12 = .ok (.iconst 0, 1) := by decide +kernel
theorem dX7_keptSet_13 : decode cX7_keptSet 13 = .ok (.aload_n 0, 1) := by decide +kernel
theorem dX7_keptSet_14 : decode cX7_keptSet 14 = .ok (.iconst 1, 1) := by decide +kernel
theorem dX7_keptSet_15 : decode cX7_keptSet 15 = .ok (.invokevirtual 279, 3) := by decide +kernel
theorem dX7_keptSet_18 : decode cX7_keptSet 18 = .ok (.ifCond .le 7, 3) := by decide +kernel
theorem dX7_keptSet_21 : decode cX7_keptSet 21 = .ok (.iconst 2, 1) := by decide +kernel
theorem dX7_keptSet_22 : decode cX7_keptSet 22 = .ok (.goto 4, 3) := by decide +kernel
theorem dX7_keptSet_25 : decode cX7_keptSet 25 = .ok (.iconst 0, 1) := by decide +kernel
theorem dX7_keptSet_26 : decode cX7_keptSet 26 = .ok (.ior, 1) := by decide +kernel
theorem dX7_keptSet_27 : decode cX7_keptSet 27 = .ok (.aload_n 0, 1) := by decide +kernel
theorem dX7_keptSet_28 : decode cX7_keptSet 28 = .ok (.iconst 2, 1) := by decide +kernel
theorem dX7_keptSet_29 : decode cX7_keptSet 29 = .ok (.invokevirtual 279, 3) := by decide +kernel
theorem dX7_keptSet_32 : decode cX7_keptSet 32 = .ok (.ifCond .le 7, 3) := by decide +kernel
theorem dX7_keptSet_35 : decode cX7_keptSet 35 = .ok (.iconst 4, 1) := by decide +kernel
theorem dX7_keptSet_36 : decode cX7_keptSet 36 = .ok (.goto 4, 3) := by decide +kernel
theorem dX7_keptSet_39 : decode cX7_keptSet 39 = .ok (.iconst 0, 1) := by decide +kernel
theorem dX7_keptSet_40 : decode cX7_keptSet 40 = .ok (.ior, 1) := by decide +kernel
theorem dX7_keptSet_41 : decode cX7_keptSet 41 = .ok (.ireturn, 1) := by decide +kernel
theorem dX7_toldOf_0 : decode cX7_toldOf 0 = .ok (.iload_n 1, 1) := by decide +kernel
theorem dX7_toldOf_1 : decode cX7_toldOf 1 = .ok (.tableswitch 51 3 6 #[31, 36, 41, 46], 31) := by decide +kernel
theorem dX7_toldOf_32 : decode cX7_toldOf 32 = .ok (.aload_n 0, 1) := by decide +kernel
theorem dX7_toldOf_33 : decode cX7_toldOf 33 = .ok (.getfield 297, 3) := by decide +kernel
theorem dX7_toldOf_36 : decode cX7_toldOf 36 = .ok (.ireturn, 1) := by decide +kernel
theorem dX7_toldOf_37 : decode cX7_toldOf 37 = .ok (.aload_n 0, 1) := by decide +kernel
theorem dX7_toldOf_38 : decode cX7_toldOf 38 = .ok (.invokevirtual 60, 3) := by decide +kernel
theorem dX7_toldOf_41 : decode cX7_toldOf 41 = .ok (.ireturn, 1) := by decide +kernel
theorem dX7_toldOf_42 : decode cX7_toldOf 42 = .ok (.aload_n 0, 1) := by decide +kernel
theorem dX7_toldOf_43 : decode cX7_toldOf 43 = .ok (.invokevirtual 348, 3) := by decide +kernel
theorem dX7_toldOf_46 : decode cX7_toldOf 46 = .ok (.ireturn, 1) := by decide +kernel
theorem dX7_toldOf_47 : decode cX7_toldOf 47 = .ok (.aload_n 0, 1) := by decide +kernel
theorem dX7_toldOf_48 : decode cX7_toldOf 48 = .ok (.getfield 56, 3) := by decide +kernel
theorem dX7_toldOf_51 : decode cX7_toldOf 51 = .ok (.ireturn, 1) := by decide +kernel
theorem dX7_toldOf_52 : decode cX7_toldOf 52 = .ok (.aload_n 0, 1) := by decide +kernel
theorem dX7_toldOf_53 : decode cX7_toldOf 53 = .ok (.getfield 19, 3) := by decide +kernel
theorem dX7_toldOf_56 : decode cX7_toldOf 56 = .ok (.iload_n 1, 1) := by decide +kernel
theorem dX7_toldOf_57 : decode cX7_toldOf 57 = .ok (.iaload, 1) := by decide +kernel
theorem dX7_toldOf_58 : decode cX7_toldOf 58 = .ok (.ireturn, 1) := by decide +kernel
theorem dX7_told_0 : decode cX7_told 0 = .ok (.iload_n 1, 1) := by decide +kernel
theorem dX7_told_1 : decode cX7_told 1 = .ok (.i2l, 1) := by decide +kernel
theorem dX7_told_2 : decode cX7_told 2 = .ok (.lconst 0, 1) := by decide +kernel
theorem dX7_told_3 : decode cX7_told 3 = .ok (.ldc2_w 351, 3) := by decide +kernel
theorem dX7_told_6 : decode cX7_told 6 = .ok (.invokestatic 64, 3) := by decide +kernel
theorem dX7_told_9 : decode cX7_told 9 = .ok (.ifCond .eq 11, 3) := by decide +kernel
theorem dX7_told_12 : decode cX7_told 12 = .ok (.aload_n 0, 1) := by decide +kernel
theorem dX7_told_13 : decode cX7_told 13 = .ok (.iload_n 1, 1) := by decide +kernel
theorem dX7_told_14 : decode cX7_told 14 = .ok (.invokevirtual 353, 3) := by decide +kernel
theorem dX7_told_17 : decode cX7_told 17 = .ok (.goto 9, 3) := by decide +kernel
theorem dX7_told_20 : decode cX7_told 20 = .ok (.aload_n 0, 1) := by decide +kernel
theorem dX7_told_21 : decode cX7_told 21 = .ok (.bipush (-2), 2) := by decide +kernel
theorem dX7_told_23 : decode cX7_told 23 = .ok (.invokevirtual 80, 3) := by decide +kernel
theorem dX7_told_26 : decode cX7_told 26 = .ok (.ireturn, 1) := by decide +kernel
theorem dX7_digest_0 : decode cX7_digest 0 = .ok (.ldc2_w 356, 3) := by decide +kernel
theorem dX7_digest_3 : decode cX7_digest 3 = .ok (.lstore_n 1, 1) := by decide +kernel
theorem dX7_digest_4 : decode cX7_digest 4 = .ok (.iconst 0, 1) := by decide +kernel
theorem dX7_digest_5 : decode cX7_digest 5 = .ok (.istore_n 3, 1) := by decide +kernel
theorem dX7_digest_6 : decode cX7_digest 6 = .ok (.iload_n 3, 1) := by decide +kernel
theorem dX7_digest_7 : decode cX7_digest 7 = .ok (.bipush 7, 2) := by decide +kernel
theorem dX7_digest_9 : decode cX7_digest 9 = .ok (.if_icmp .ge 22, 3) := by decide +kernel
theorem dX7_digest_12 : decode cX7_digest 12 = .ok (.ldc2_w 358, 3) := by decide +kernel
theorem dX7_digest_15 : decode cX7_digest 15 = .ok (.lload_n 1, 1) := by decide +kernel
theorem dX7_digest_16 : decode cX7_digest 16 = .ok (.lmul, 1) := by decide +kernel
theorem dX7_digest_17 : decode cX7_digest 17 = .ok (.aload_n 0, 1) := by decide +kernel
theorem dX7_digest_18 : decode cX7_digest 18 = .ok (.iload_n 3, 1) := by decide +kernel
theorem dX7_digest_19 : decode cX7_digest 19 = .ok (.invokevirtual 353, 3) := by decide +kernel
theorem dX7_digest_22 : decode cX7_digest 22 = .ok (.i2l, 1) := by decide +kernel
theorem dX7_digest_23 : decode cX7_digest 23 = .ok (.ladd, 1) := by decide +kernel
theorem dX7_digest_24 : decode cX7_digest 24 = .ok (.lstore_n 1, 1) := by decide +kernel
theorem dX7_digest_25 : decode cX7_digest 25 = .ok (.iinc 3 1, 3) := by decide +kernel
theorem dX7_digest_28 : decode cX7_digest 28 = .ok (.goto (-22), 3) := by decide +kernel
theorem dX7_digest_31 : decode cX7_digest 31 = .ok (.iconst 1, 1) := by decide +kernel
theorem dX7_digest_32 : decode cX7_digest 32 = .ok (.istore_n 3, 1) := by decide +kernel
theorem dX7_digest_33 : decode cX7_digest 33 = .ok (.iload_n 3, 1) := by decide +kernel
theorem dX7_digest_34 : decode cX7_digest 34 = .ok (.aload_n 0, 1) := by decide +kernel
theorem dX7_digest_35 : decode cX7_digest 35 = .ok (.invokevirtual 60, 3) := by decide +kernel
theorem dX7_digest_38 : decode cX7_digest 38 = .ok (.if_icmp .ge 39, 3) := by decide +kernel
theorem dX7_digest_41 : decode cX7_digest 41 = .ok (.iconst 0, 1) := by decide +kernel
theorem dX7_digest_42 : decode cX7_digest 42 = .ok (.istore 4, 2) := by decide +kernel
theorem dX7_digest_44 : decode cX7_digest 44 = .ok (.iload 4, 2) := by decide +kernel
theorem dX7_digest_46 : decode cX7_digest 46 = .ok (.iload_n 3, 1) := by decide +kernel
theorem dX7_digest_47 : decode cX7_digest 47 = .ok (.if_icmp .ge 24, 3) := by decide +kernel
theorem dX7_digest_50 : decode cX7_digest 50 = .ok (.ldc2_w 358, 3) := by decide +kernel
theorem dX7_digest_53 : decode cX7_digest 53 = .ok (.lload_n 1, 1) := by decide +kernel
theorem dX7_digest_54 : decode cX7_digest 54 = .ok (.lmul, 1) := by decide +kernel
theorem dX7_digest_55 : decode cX7_digest 55 = .ok (.aload_n 0, 1) := by decide +kernel
theorem dX7_digest_56 : decode cX7_digest 56 = .ok (.iload 4, 2) := by decide +kernel
theorem dX7_digest_58 : decode cX7_digest 58 = .ok (.iload_n 3, 1) := by decide +kernel
theorem dX7_digest_59 : decode cX7_digest 59 = .ok (.invokevirtual 68, 3) := by decide +kernel
theorem dX7_digest_62 : decode cX7_digest 62 = .ok (.i2l, 1) := by decide +kernel
theorem dX7_digest_63 : decode cX7_digest 63 = .ok (.ladd, 1) := by decide +kernel
theorem dX7_digest_64 : decode cX7_digest 64 = .ok (.lstore_n 1, 1) := by decide +kernel
theorem dX7_digest_65 : decode cX7_digest 65 = .ok (.iinc 4 1, 3) := by decide +kernel
theorem dX7_digest_68 : decode cX7_digest 68 = .ok (.goto (-24), 3) := by decide +kernel
theorem dX7_digest_71 : decode cX7_digest 71 = .ok (.iinc 3 1, 3) := by decide +kernel
theorem dX7_digest_74 : decode cX7_digest 74 = .ok (.goto (-41), 3) := by decide +kernel
theorem dX7_digest_77 : decode cX7_digest 77 = .ok (.iconst 0, 1) := by decide +kernel
theorem dX7_digest_78 : decode cX7_digest 78 = .ok (.istore_n 3, 1) := by decide +kernel
theorem dX7_digest_79 : decode cX7_digest 79 = .ok (.iload_n 3, 1) := by decide +kernel
theorem dX7_digest_80 : decode cX7_digest 80 = .ok (.aload_n 0, 1) := by decide +kernel
theorem dX7_digest_81 : decode cX7_digest 81 = .ok (.invokevirtual 60, 3) := by decide +kernel
theorem dX7_digest_84 : decode cX7_digest 84 = .ok (.if_icmp .ge 56, 3) := by decide +kernel
theorem dX7_digest_87 : decode cX7_digest 87 = .ok (.iconst 0, 1) := by decide +kernel
theorem dX7_digest_88 : decode cX7_digest 88 = .ok (.istore 4, 2) := by decide +kernel
theorem dX7_digest_90 : decode cX7_digest 90 = .ok (.iload 4, 2) := by decide +kernel
theorem dX7_digest_92 : decode cX7_digest 92 = .ok (.iconst 3, 1) := by decide +kernel
theorem dX7_digest_93 : decode cX7_digest 93 = .ok (.if_icmp .ge 24, 3) := by decide +kernel
theorem dX7_digest_96 : decode cX7_digest 96 = .ok (.ldc2_w 358, 3) := by decide +kernel
theorem dX7_digest_99 : decode cX7_digest 99 = .ok (.lload_n 1, 1) := by decide +kernel
theorem dX7_digest_100 : decode cX7_digest 100 = .ok (.lmul, 1) := by decide +kernel
theorem dX7_digest_101 : decode cX7_digest 101 = .ok (.aload_n 0, 1) := by decide +kernel
theorem dX7_digest_102 : decode cX7_digest 102 = .ok (.iload_n 3, 1) := by decide +kernel
theorem dX7_digest_103 : decode cX7_digest 103 = .ok (.iload 4, 2) := by decide +kernel
theorem dX7_digest_105 : decode cX7_digest 105 = .ok (.invokevirtual 176, 3) := by decide +kernel
theorem dX7_digest_108 : decode cX7_digest 108 = .ok (.i2l, 1) := by decide +kernel
theorem dX7_digest_109 : decode cX7_digest 109 = .ok (.ladd, 1) := by decide +kernel
theorem dX7_digest_110 : decode cX7_digest 110 = .ok (.lstore_n 1, 1) := by decide +kernel
theorem dX7_digest_111 : decode cX7_digest 111 = .ok (.iinc 4 1, 3) := by decide +kernel
theorem dX7_digest_114 : decode cX7_digest 114 = .ok (.goto (-24), 3) := by decide +kernel
theorem dX7_digest_117 : decode cX7_digest 117 = .ok (.ldc2_w 358, 3) := by decide +kernel
theorem dX7_digest_120 : decode cX7_digest 120 = .ok (.lload_n 1, 1) := by decide +kernel
theorem dX7_digest_121 : decode cX7_digest 121 = .ok (.lmul, 1) := by decide +kernel
theorem dX7_digest_122 : decode cX7_digest 122 = .ok (.aload_n 0, 1) := by decide +kernel
theorem dX7_digest_123 : decode cX7_digest 123 = .ok (.getfield 7, 3) := by decide +kernel
theorem dX7_digest_126 : decode cX7_digest 126 = .ok (.bipush 31, 2) := by decide +kernel
theorem dX7_digest_128 : decode cX7_digest 128 = .ok (.iload_n 3, 1) := by decide +kernel
theorem dX7_digest_129 : decode cX7_digest 129 = .ok (.iadd, 1) := by decide +kernel
theorem dX7_digest_130 : decode cX7_digest 130 = .ok (.iaload, 1) := by decide +kernel
theorem dX7_digest_131 : decode cX7_digest 131 = .ok (.i2l, 1) := by decide +kernel
theorem dX7_digest_132 : decode cX7_digest 132 = .ok (.ladd, 1) := by decide +kernel
theorem dX7_digest_133 : decode cX7_digest 133 = .ok (.lstore_n 1, 1) := by decide +kernel
theorem dX7_digest_134 : decode cX7_digest 134 = .ok (.iinc 3 1, 3) := by decide +kernel
theorem dX7_digest_137 : decode cX7_digest 137 = .ok (.goto (-58), 3) := by decide +kernel
theorem dX7_digest_140 : decode cX7_digest 140 = .ok (.ldc2_w 358, 3) := by decide +kernel
theorem dX7_digest_143 : decode cX7_digest 143 = .ok (.ldc2_w 358, 3) := by decide +kernel
theorem dX7_digest_146 : decode cX7_digest 146 = .ok (.lload_n 1, 1) := by decide +kernel
theorem dX7_digest_147 : decode cX7_digest 147 = .ok (.lmul, 1) := by decide +kernel
theorem dX7_digest_148 : decode cX7_digest 148 = .ok (.aload_n 0, 1) := by decide +kernel
theorem dX7_digest_149 : decode cX7_digest 149 = .ok (.invokevirtual 118, 3) := by decide +kernel
theorem dX7_digest_152 : decode cX7_digest 152 = .ok (.ifCond .eq 7, 3) := by decide +kernel
theorem dX7_digest_155 : decode cX7_digest 155 = .ok (.iconst 1, 1) := by decide +kernel
theorem dX7_digest_156 : decode cX7_digest 156 = .ok (.goto 4, 3) := by decide +kernel
theorem dX7_digest_159 : decode cX7_digest 159 = .ok (.iconst 0, 1) := by decide +kernel
theorem dX7_digest_160 : decode cX7_digest 160 = .ok (.i2l, 1) := by decide +kernel
theorem dX7_digest_161 : decode cX7_digest 161 = .ok (.ladd, 1) := by decide +kernel
theorem dX7_digest_162 : decode cX7_digest 162 = .ok (.lmul, 1) := by decide +kernel
theorem dX7_digest_163 : decode cX7_digest 163 = .ok (.aload_n 0, 1) := by decide +kernel
theorem dX7_digest_164 : decode cX7_digest 164 = .ok (.invokevirtual 179, 3) := by decide +kernel
theorem dX7_digest_167 : decode cX7_digest 167 = .ok (.ifCond .eq 7, 3) := by decide +kernel
theorem dX7_digest_170 : decode cX7_digest 170 = .ok (.iconst 1, 1) := by decide +kernel
theorem dX7_digest_171 : decode cX7_digest 171 = .ok (.goto 4, 3) := by decide +kernel
theorem dX7_digest_174 : decode cX7_digest 174 = .ok (.iconst 0, 1) := by decide +kernel
theorem dX7_digest_175 : decode cX7_digest 175 = .ok (.i2l, 1) := by decide +kernel
theorem dX7_digest_176 : decode cX7_digest 176 = .ok (.ladd, 1) := by decide +kernel
theorem dX7_digest_177 : decode cX7_digest 177 = .ok (.lstore_n 1, 1) := by decide +kernel
theorem dX7_digest_178 : decode cX7_digest 178 = .ok (.ldc2_w 358, 3) := by decide +kernel
theorem dX7_digest_181 : decode cX7_digest 181 = .ok (.ldc2_w 358, 3) := by decide +kernel
theorem dX7_digest_184 : decode cX7_digest 184 = .ok (.ldc2_w 358, 3) := by decide +kernel
theorem dX7_digest_187 : decode cX7_digest 187 = .ok (.lload_n 1, 1) := by decide +kernel
theorem dX7_digest_188 : decode cX7_digest 188 = .ok (.lmul, 1) := by decide +kernel
theorem dX7_digest_189 : decode cX7_digest 189 = .ok (.aload_n 0, 1) := by decide +kernel
theorem dX7_digest_190 : decode cX7_digest 190 = .ok (.invokevirtual 205, 3) := by decide +kernel
theorem dX7_digest_193 : decode cX7_digest 193 = .ok (.i2l, 1) := by decide +kernel
theorem dX7_digest_194 : decode cX7_digest 194 = .ok (.ladd, 1) := by decide +kernel
theorem dX7_digest_195 : decode cX7_digest 195 = .ok (.lmul, 1) := by decide +kernel
theorem dX7_digest_196 : decode cX7_digest 196 = .ok (.aload_n 0, 1) := by decide +kernel
theorem dX7_digest_197 : decode cX7_digest 197 = .ok (.iconst 0, 1) := by decide +kernel
theorem dX7_digest_198 : decode cX7_digest 198 = .ok (.invokevirtual 276, 3) := by decide +kernel
theorem dX7_digest_201 : decode cX7_digest 201 = .ok (.i2l, 1) := by decide +kernel
theorem dX7_digest_202 : decode cX7_digest 202 = .ok (.ladd, 1) := by decide +kernel
theorem dX7_digest_203 : decode cX7_digest 203 = .ok (.lmul, 1) := by decide +kernel
theorem dX7_digest_204 : decode cX7_digest 204 = .ok (.aload_n 0, 1) := by decide +kernel
theorem dX7_digest_205 : decode cX7_digest 205 = .ok (.iconst 1, 1) := by decide +kernel
theorem dX7_digest_206 : decode cX7_digest 206 = .ok (.invokevirtual 276, 3) := by decide +kernel
theorem dX7_digest_209 : decode cX7_digest 209 = .ok (.i2l, 1) := by decide +kernel
theorem dX7_digest_210 : decode cX7_digest 210 = .ok (.ladd, 1) := by decide +kernel
theorem dX7_digest_211 : decode cX7_digest 211 = .ok (.lreturn, 1) := by decide +kernel
