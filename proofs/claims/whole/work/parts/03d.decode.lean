theorem dX9_isRule_3 : decode cX9_isRule 3 = .ok (.invokestatic 86, 3) := by decide +kernel
theorem dX9_isRule_6 : decode cX9_isRule 6 = .ok (.ireturn, 1) := by decide +kernel
theorem dX9_isPiper_0 : decode cX9_isPiper 0 = .ok (.iload_n 0, 1) := by decide +kernel
theorem dX9_isPiper_1 : decode cX9_isPiper 1 = .ok (.iconst 0, 1) := by decide +kernel
theorem dX9_isPiper_2 : decode cX9_isPiper 2 = .ok (.iconst 5, 1) := by decide +kernel
theorem dX9_isPiper_3 : decode cX9_isPiper 3 = .ok (.invokestatic 86, 3) := by decide +kernel
theorem dX9_isPiper_6 : decode cX9_isPiper 6 = .ok (.ireturn, 1) := by decide +kernel
theorem dX9_plus_0 : decode cX9_plus 0 = .ok (.iload_n 0, 1) := by decide +kernel
theorem dX9_plus_1 : decode cX9_plus 1 = .ok (.iload_n 1, 1) := by decide +kernel
theorem dX9_plus_2 : decode cX9_plus 2 = .ok (.iadd, 1) := by decide +kernel
theorem dX9_plus_3 : decode cX9_plus 3 = .ok (.ldc 90, 2) := by decide +kernel
theorem dX9_plus_5 : decode cX9_plus 5 = .ok (.if_icmp .le 8, 3) := by decide +kernel
theorem dX9_plus_8 : decode cX9_plus 8 = .ok (.ldc 90, 2) := by decide +kernel
theorem dX9_plus_10 : decode cX9_plus 10 = .ok (.goto 6, 3) := by decide +kernel
theorem dX9_plus_13 : decode cX9_plus 13 = .ok (.iload_n 0, 1) := by decide +kernel
theorem dX9_plus_14 : decode cX9_plus 14 = .ok (.iload_n 1, 1) := by decide +kernel
theorem dX9_plus_15 : decode cX9_plus 15 = .ok (.iadd, 1) := by decide +kernel
theorem dX9_plus_16 : decode cX9_plus 16 = .ok (.ireturn, 1) := by decide +kernel
theorem dX9_movement_0 : decode cX9_movement 0 = .ok (.iload_n 1, 1) := by decide +kernel
theorem dX9_movement_1 : decode cX9_movement 1 = .ok (.invokestatic 91, 3) := by decide +kernel
theorem dX9_movement_4 : decode cX9_movement 4 = .ok (.ifCond .ne 6, 3) := by decide +kernel
theorem dX9_movement_7 : decode cX9_movement 7 = .ok (.bipush (-2), 2) := by decide +kernel
theorem dX9_movement_9 : decode cX9_movement 9 = .ok (.ireturn, 1) := by decide +kernel
theorem dX9_movement_10 : decode cX9_movement 10 = .ok (.iload_n 2, 1) := by decide +kernel
theorem dX9_movement_11 : decode cX9_movement 11 = .ok (.iconst 0, 1) := by decide +kernel
theorem dX9_movement_12 : decode cX9_movement 12 = .ok (.iconst 4, 1) := by decide +kernel
theorem dX9_movement_13 : decode cX9_movement 13 = .ok (.invokestatic 86, 3) := by decide +kernel
theorem dX9_movement_16 : decode cX9_movement 16 = .ok (.ifCond .ne 6, 3) := by decide +kernel
theorem dX9_movement_19 : decode cX9_movement 19 = .ok (.bipush (-3), 2) := by decide +kernel
theorem dX9_movement_21 : decode cX9_movement 21 = .ok (.ireturn, 1) := by decide +kernel
theorem dX9_movement_22 : decode cX9_movement 22 = .ok (.iconst 0, 1) := by decide +kernel
theorem dX9_movement_23 : decode cX9_movement 23 = .ok (.istore 4, 2) := by decide +kernel
theorem dX9_movement_25 : decode cX9_movement 25 = .ok (.iload 4, 2) := by decide +kernel
theorem dX9_movement_27 : decode cX9_movement 27 = .ok (.iload_n 2, 1) := by decide +kernel
theorem dX9_movement_28 : decode cX9_movement 28 = .ok (.if_icmp .ge 27, 3) := by decide +kernel
theorem dX9_movement_31 : decode cX9_movement 31 = .ok (.iload_n 3, 1) := by decide +kernel
theorem dX9_movement_32 : decode cX9_movement 32 = .ok (.iconst 4, 1) := by decide +kernel
theorem dX9_movement_33 : decode cX9_movement 33 = .ok (.iload 4, 2) := by decide +kernel
theorem dX9_movement_35 : decode cX9_movement 35 = .ok (.imul, 1) := by decide +kernel
theorem dX9_movement_36 : decode cX9_movement 36 = .ok (.ishr, 1) := by decide +kernel
theorem dX9_movement_37 : decode cX9_movement 37 = .ok (.bipush 15, 2) := by decide +kernel
theorem dX9_movement_39 : decode cX9_movement 39 = .ok (.iand, 1) := by decide +kernel
theorem dX9_movement_40 : decode cX9_movement 40 = .ok (.invokestatic 95, 3) := by decide +kernel
theorem dX9_movement_43 : decode cX9_movement 43 = .ok (.ifCond .ne 6, 3) := by decide +kernel
theorem dX9_movement_46 : decode cX9_movement 46 = .ok (.bipush (-3), 2) := by decide +kernel
theorem dX9_movement_48 : decode cX9_movement 48 = .ok (.ireturn, 1) := by decide +kernel
theorem dX9_movement_49 : decode cX9_movement 49 = .ok (.iinc 4 1, 3) := by decide +kernel
theorem dX9_movement_52 : decode cX9_movement 52 = .ok (.goto (-27), 3) := by decide +kernel
theorem dX9_movement_55 : decode cX9_movement 55 = .ok (.aload_n 0, 1) := by decide +kernel
theorem dX9_movement_56 : decode cX9_movement 56 = .ok (.getfield 7, 3) := by decide +kernel
theorem dX9_movement_59 : decode cX9_movement 59 = .ok (.iload_n 1, 1) := by decide +kernel
theorem dX9_movement_60 : decode cX9_movement 60 = .ok (.iload_n 2, 1) := by decide +kernel
theorem dX9_movement_61 : decode cX9_movement 61 = .ok (.iastore, 1) := by decide +kernel
theorem dX9_movement_62 : decode cX9_movement 62 = .ok (.iconst 0, 1) := by decide +kernel
theorem dX9_movement_63 : decode cX9_movement 63 = .ok (.istore 4, 2) := by decide +kernel
theorem dX9_movement_65 : decode cX9_movement 65 = .ok (.iload 4, 2) := by decide +kernel
theorem dX9_movement_67 : decode cX9_movement 67 = .ok (.iload_n 2, 1) := by decide +kernel
theorem dX9_movement_68 : decode cX9_movement 68 = .ok (.if_icmp .ge 29, 3) := by decide +kernel
theorem dX9_movement_71 : decode cX9_movement 71 = .ok (.aload_n 0, 1) := by decide +kernel
theorem dX9_movement_72 : decode cX9_movement 72 = .ok (.getfield 13, 3) := by decide +kernel
theorem dX9_movement_75 : decode cX9_movement 75 = .ok (.iconst 4, 1) := by decide +kernel
theorem dX9_movement_76 : decode cX9_movement 76 = .ok (.iload_n 1, 1) := by decide +kernel
theorem dX9_movement_77 : decode cX9_movement 77 = .ok (.imul, 1) := by decide +kernel
theorem dX9_movement_78 : decode cX9_movement 78 = .ok (.iload 4, 2) := by decide +kernel
theorem dX9_movement_80 : decode cX9_movement 80 = .ok (.iadd, 1) := by decide +kernel
theorem dX9_movement_81 : decode cX9_movement 81 = .ok (.iload_n 3, 1) := by decide +kernel
theorem dX9_movement_82 : decode cX9_movement 82 = .ok (.iconst 4, 1) := by decide +kernel
theorem dX9_movement_83 : decode cX9_movement 83 = .ok (.iload 4, 2) := by decide +kernel
theorem dX9_movement_85 : decode cX9_movement 85 = .ok (.imul, 1) := by decide +kernel
theorem dX9_movement_86 : decode cX9_movement 86 = .ok (.ishr, 1) := by decide +kernel
theorem dX9_movement_87 : decode cX9_movement 87 = .ok (.bipush 15, 2) := by decide +kernel
theorem dX9_movement_89 : decode cX9_movement 89 = .ok (.iand, 1) := by decide +kernel
theorem dX9_movement_90 : decode cX9_movement 90 = .ok (.iastore, 1) := by decide +kernel
theorem dX9_movement_91 : decode cX9_movement 91 = .ok (.iinc 4 1, 3) := by decide +kernel
theorem dX9_movement_94 : decode cX9_movement 94 = .ok (.goto (-29), 3) := by decide +kernel
theorem dX9_movement_97 : decode cX9_movement 97 = .ok (.iconst 1, 1) := by decide +kernel
theorem dX9_movement_98 : decode cX9_movement 98 = .ok (.ireturn, 1) := by decide +kernel
theorem dX9_may_0 : decode cX9_may 0 = .ok (.iload_n 1, 1) := by decide +kernel
theorem dX9_may_1 : decode cX9_may 1 = .ok (.invokestatic 91, 3) := by decide +kernel
theorem dX9_may_4 : decode cX9_may 4 = .ok (.ifCond .ne 6, 3) := by decide +kernel
theorem dX9_may_7 : decode cX9_may 7 = .ok (.bipush (-2), 2) := by decide +kernel
theorem dX9_may_9 : decode cX9_may 9 = .ok (.ireturn, 1) := by decide +kernel
theorem dX9_may_10 : decode cX9_may 10 = .ok (.iload_n 2, 1) := by decide +kernel
theorem dX9_may_11 : decode cX9_may 11 = .ok (.iconst 0, 1) := by decide +kernel
theorem dX9_may_12 : decode cX9_may 12 = .ok (.iconst 1, 1) := by decide +kernel
theorem dX9_may_13 : decode cX9_may 13 = .ok (.invokestatic 86, 3) := by decide +kernel
theorem dX9_may_16 : decode cX9_may 16 = .ok (.ifCond .eq 14, 3) := by decide +kernel
theorem dX9_may_19 : decode cX9_may 19 = .ok (.iload_n 3, 1) := by decide +kernel
theorem dX9_may_20 : decode cX9_may 20 = .ok (.iconst 0, 1) := by decide +kernel
theorem dX9_may_21 : decode cX9_may 21 = .ok (.sipush 511, 3) := by decide +kernel
theorem dX9_may_24 : decode cX9_may 24 = .ok (.invokestatic 86, 3) := by decide +kernel
theorem dX9_may_27 : decode cX9_may 27 = .ok (.ifCond .ne 6, 3) := by decide +kernel
theorem dX9_may_30 : decode cX9_may 30 = .ok (.bipush (-3), 2) := by decide +kernel
theorem dX9_may_32 : decode cX9_may 32 = .ok (.ireturn, 1) := by decide +kernel
theorem dX9_may_33 : decode cX9_may 33 = .ok (.iload_n 2, 1) := by decide +kernel
theorem dX9_may_34 : decode cX9_may 34 = .ok (.ifCond .ne 12, 3) := by decide +kernel
theorem dX9_may_37 : decode cX9_may 37 = .ok (.aload_n 0, 1) := by decide +kernel
theorem dX9_may_38 : decode cX9_may 38 = .ok (.getfield 16, 3) := by decide +kernel
theorem dX9_may_41 : decode cX9_may 41 = .ok (.iload_n 1, 1) := by decide +kernel
theorem dX9_may_42 : decode cX9_may 42 = .ok (.iaload, 1) := by decide +kernel
theorem dX9_may_43 : decode cX9_may 43 = .ok (.goto 9, 3) := by decide +kernel
theorem dX9_may_46 : decode cX9_may 46 = .ok (.aload_n 0, 1) := by decide +kernel
theorem dX9_may_47 : decode cX9_may 47 = .ok (.getfield 19, 3) := by decide +kernel
theorem dX9_may_50 : decode cX9_may 50 = .ok (.iload_n 1, 1) := by decide +kernel
theorem dX9_may_51 : decode cX9_may 51 = .ok (.iaload, 1) := by decide +kernel
theorem dX9_may_52 : decode cX9_may 52 = .ok (.istore 4, 2) := by decide +kernel
theorem dX9_may_54 : decode cX9_may 54 = .ok (.aload_n 0, 1) := by decide +kernel
theorem dX9_may_55 : decode cX9_may 55 = .ok (.getfield 16, 3) := by decide +kernel
theorem dX9_may_58 : decode cX9_may 58 = .ok (.iload_n 1, 1) := by decide +kernel
theorem dX9_may_59 : decode cX9_may 59 = .ok (.iload_n 2, 1) := by decide +kernel
theorem dX9_may_60 : decode cX9_may 60 = .ok (.ifCond .ne 7, 3) := by decide +kernel
theorem dX9_may_63 : decode cX9_may 63 = .ok (.iload_n 3, 1) := by decide +kernel
theorem dX9_may_64 : decode cX9_may 64 = .ok (.goto 9, 3) := by decide +kernel
theorem dX9_may_67 : decode cX9_may 67 = .ok (.aload_n 0, 1) := by decide +kernel
theorem dX9_may_68 : decode cX9_may 68 = .ok (.getfield 16, 3) := by decide +kernel
theorem dX9_may_71 : decode cX9_may 71 = .ok (.iload_n 1, 1) := by decide +kernel
theorem dX9_may_72 : decode cX9_may 72 = .ok (.iaload, 1) := by decide +kernel
theorem dX9_may_73 : decode cX9_may 73 = .ok (.iastore, 1) := by decide +kernel
theorem dX9_may_74 : decode cX9_may 74 = .ok (.aload_n 0, 1) := by decide +kernel
theorem dX9_may_75 : decode cX9_may 75 = .ok (.getfield 19, 3) := by decide +kernel
theorem dX9_may_78 : decode cX9_may 78 = .ok (.iload_n 1, 1) := by decide +kernel
theorem dX9_may_79 : decode cX9_may 79 = .ok (.iload_n 2, 1) := by decide +kernel
theorem dX9_may_80 : decode cX9_may 80 = .ok (.iconst 1, 1) := by decide +kernel
theorem dX9_may_81 : decode cX9_may 81 = .ok (.if_icmp .ne 7, 3) := by decide +kernel
theorem dX9_may_84 : decode cX9_may 84 = .ok (.iload_n 3, 1) := by decide +kernel
theorem dX9_may_85 : decode cX9_may 85 = .ok (.goto 9, 3) := by decide +kernel
theorem dX9_may_88 : decode cX9_may 88 = .ok (.aload_n 0, 1) := by decide +kernel
theorem dX9_may_89 : decode cX9_may 89 = .ok (.getfield 19, 3) := by decide +kernel
theorem dX9_may_92 : decode cX9_may 92 = .ok (.iload_n 1, 1) := by decide +kernel
theorem dX9_may_93 : decode cX9_may 93 = .ok (.iaload, 1) := by decide +kernel
theorem dX9_may_94 : decode cX9_may 94 = .ok (.iastore, 1) := by decide +kernel
theorem dX9_may_95 : decode cX9_may 95 = .ok (.iload 4, 2) := by decide +kernel
theorem dX9_may_97 : decode cX9_may 97 = .ok (.ireturn, 1) := by decide +kernel
theorem dX9_beat_0 : decode cX9_beat 0 = .ok (.iload_n 1, 1) := by decide +kernel
theorem dX9_beat_1 : decode cX9_beat 1 = .ok (.iconst 1, 1) := by decide +kernel
theorem dX9_beat_2 : decode cX9_beat 2 = .ok (.iconst 3, 1) := by decide +kernel
theorem dX9_beat_3 : decode cX9_beat 3 = .ok (.invokestatic 86, 3) := by decide +kernel
theorem dX9_beat_6 : decode cX9_beat 6 = .ok (.ifCond .ne 6, 3) := by decide +kernel
theorem dX9_beat_9 : decode cX9_beat 9 = .ok (.bipush (-3), 2) := by decide +kernel
theorem dX9_beat_11 : decode cX9_beat 11 = .ok (.ireturn, 1) := by decide +kernel
theorem dX9_beat_12 : decode cX9_beat 12 = .ok (.aload_n 0, 1) := by decide +kernel
theorem dX9_beat_13 : decode cX9_beat 13 = .ok (.getfield 22, 3) := by decide +kernel
theorem dX9_beat_16 : decode cX9_beat 16 = .ok (.istore_n 2, 1) := by decide +kernel
theorem dX9_beat_17 : decode cX9_beat 17 = .ok (.aload_n 0, 1) := by decide +kernel
theorem dX9_beat_18 : decode cX9_beat 18 = .ok (.iload_n 1, 1) := by decide +kernel
theorem dX9_beat_19 : decode cX9_beat 19 = .ok (.putfield 22, 3) := by decide +kernel
theorem dX9_beat_22 : decode cX9_beat 22 = .ok (.iload_n 2, 1) := by decide +kernel
theorem dX9_beat_23 : decode cX9_beat 23 = .ok (.ireturn, 1) := by decide +kernel
theorem dX9_fitsSo_0 : decode cX9_fitsSo 0 = .ok (.iload_n 2, 1) := by decide +kernel
theorem dX9_fitsSo_1 : decode cX9_fitsSo 1 = .ok (.ifCond .lt 16, 3) := by decide +kernel
theorem dX9_fitsSo_4 : decode cX9_fitsSo 4 = .ok (.aload_n 0, 1) := by decide +kernel
theorem dX9_fitsSo_5 : decode cX9_fitsSo 5 = .ok (.getfield 16, 3) := by decide +kernel
theorem dX9_fitsSo_8 : decode cX9_fitsSo 8 = .ok (.iload_n 1, 1) := by decide +kernel
theorem dX9_fitsSo_9 : decode cX9_fitsSo 9 = .ok (.iaload, 1) := by decide +kernel
theorem dX9_fitsSo_10 : decode cX9_fitsSo 10 = .ok (.iload_n 2, 1) := by decide +kernel
theorem dX9_fitsSo_11 : decode cX9_fitsSo 11 = .ok (.ishr, 1) := by decide +kernel
theorem dX9_fitsSo_12 : decode cX9_fitsSo 12 = .ok (.iconst 1, 1) := by decide +kernel
theorem dX9_fitsSo_13 : decode cX9_fitsSo 13 = .ok (.iand, 1) := by decide +kernel
theorem dX9_fitsSo_14 : decode cX9_fitsSo 14 = .ok (.ifCond .eq 16, 3) := by decide +kernel
theorem dX9_fitsSo_17 : decode cX9_fitsSo 17 = .ok (.aload_n 0, 1) := by decide +kernel
theorem dX9_fitsSo_18 : decode cX9_fitsSo 18 = .ok (.getfield 19, 3) := by decide +kernel
theorem dX9_fitsSo_21 : decode cX9_fitsSo 21 = .ok (.iload_n 1, 1) := by decide +kernel
theorem dX9_fitsSo_22 : decode cX9_fitsSo 22 = .ok (.iaload, 1) := by decide +kernel
theorem dX9_fitsSo_23 : decode cX9_fitsSo 23 = .ok (.iload_n 3, 1) := by decide +kernel
theorem dX9_fitsSo_24 : decode cX9_fitsSo 24 = .ok (.ishr, 1) := by decide +kernel
theorem dX9_fitsSo_25 : decode cX9_fitsSo 25 = .ok (.iconst 1, 1) := by decide +kernel
theorem dX9_fitsSo_26 : decode cX9_fitsSo 26 = .ok (.iand, 1) := by decide +kernel
theorem dX9_fitsSo_27 : decode cX9_fitsSo 27 = .ok (.ifCond .ne 5, 3) := by decide +kernel
theorem dX9_fitsSo_30 : decode cX9_fitsSo 30 = .ok (.iconst 0, 1) := by decide +kernel
theorem dX9_fitsSo_31 : decode cX9_fitsSo 31 = .ok (.ireturn, 1) := by decide +kernel
theorem dX9_fitsSo_32 : decode cX9_fitsSo 32 = .ok (.iload_n 2, 1) := by decide +kernel
theorem dX9_fitsSo_33 : decode cX9_fitsSo 33 = .ok (.istore 4, 2) := by decide +kernel
theorem dX9_fitsSo_35 : decode cX9_fitsSo 35 = .ok (.iconst 0, 1) := by decide +kernel
theorem dX9_fitsSo_36 : decode cX9_fitsSo 36 = .ok (.istore 5, 2) := by decide +kernel
theorem dX9_fitsSo_38 : decode cX9_fitsSo 38 = .ok (.iload 5, 2) := by decide +kernel
theorem dX9_fitsSo_40 : decode cX9_fitsSo 40 = .ok (.aload_n 0, 1) := by decide +kernel
theorem dX9_fitsSo_41 : decode cX9_fitsSo 41 = .ok (.getfield 7, 3) := by decide +kernel
theorem dX9_fitsSo_44 : decode cX9_fitsSo 44 = .ok (.iload_n 1, 1) := by decide +kernel
theorem dX9_fitsSo_45 : decode cX9_fitsSo 45 = .ok (.iaload, 1) := by decide +kernel
theorem dX9_fitsSo_46 : decode cX9_fitsSo 46 = .ok (.if_icmp .ge 40, 3) := by decide +kernel
theorem dX9_fitsSo_49 : decode cX9_fitsSo 49 = .ok (.aload_n 0, 1) := by decide +kernel
theorem dX9_fitsSo_50 : decode cX9_fitsSo 50 = .ok (.getfield 13, 3) := by decide +kernel
theorem dX9_fitsSo_53 : decode cX9_fitsSo 53 = .ok (.iconst 4, 1) := by decide +kernel
theorem dX9_fitsSo_54 : decode cX9_fitsSo 54 = .ok (.iload_n 1, 1) := by decide +kernel
theorem dX9_fitsSo_55 : decode cX9_fitsSo 55 = .ok (.imul, 1) := by decide +kernel
theorem dX9_fitsSo_56 : decode cX9_fitsSo 56 = .ok (.iload 5, 2) := by decide +kernel
theorem dX9_fitsSo_58 : decode cX9_fitsSo 58 = .ok (.iadd, 1) := by decide +kernel
theorem dX9_fitsSo_59 : decode cX9_fitsSo 59 = .ok (.iaload, 1) := by decide +kernel
theorem dX9_fitsSo_60 : decode cX9_fitsSo 60 = .ok (.iload 4, 2) := by decide +kernel
theorem dX9_fitsSo_62 : decode cX9_fitsSo 62 = .ok (.if_icmp .ne 5, 3) := by decide +kernel
theorem dX9_fitsSo_65 : decode cX9_fitsSo 65 = .ok (.iconst 0, 1) := by decide +kernel
theorem dX9_fitsSo_66 : decode cX9_fitsSo 66 = .ok (.ireturn, 1) := by decide +kernel
theorem dX9_fitsSo_67 : decode cX9_fitsSo 67 = .ok (.aload_n 0, 1) := by decide +kernel
theorem dX9_fitsSo_68 : decode cX9_fitsSo 68 = .ok (.getfield 13, 3) := by decide +kernel
theorem dX9_fitsSo_71 : decode cX9_fitsSo 71 = .ok (.iconst 4, 1) := by decide +kernel
theorem dX9_fitsSo_72 : decode cX9_fitsSo 72 = .ok (.iload_n 1, 1) := by decide +kernel
theorem dX9_fitsSo_73 : decode cX9_fitsSo 73 = .ok (.imul, 1) := by decide +kernel
theorem dX9_fitsSo_74 : decode cX9_fitsSo 74 = .ok (.iload 5, 2) := by decide +kernel
theorem dX9_fitsSo_76 : decode cX9_fitsSo 76 = .ok (.iadd, 1) := by decide +kernel
theorem dX9_fitsSo_77 : decode cX9_fitsSo 77 = .ok (.iaload, 1) := by decide +kernel
theorem dX9_fitsSo_78 : decode cX9_fitsSo 78 = .ok (.istore 4, 2) := by decide +kernel
theorem dX9_fitsSo_80 : decode cX9_fitsSo 80 = .ok (.iinc 5 1, 3) := by decide +kernel
theorem dX9_fitsSo_83 : decode cX9_fitsSo 83 = .ok (.goto (-45), 3) := by decide +kernel
theorem dX9_fitsSo_86 : decode cX9_fitsSo 86 = .ok (.iload 4, 2) := by decide +kernel
theorem dX9_fitsSo_88 : decode cX9_fitsSo 88 = .ok (.iload_n 3, 1) := by decide +kernel
theorem dX9_fitsSo_89 : decode cX9_fitsSo 89 = .ok (.if_icmp .eq 7, 3) := by decide +kernel
theorem dX9_fitsSo_92 : decode cX9_fitsSo 92 = .ok (.iconst 1, 1) := by decide +kernel
theorem dX9_fitsSo_93 : decode cX9_fitsSo 93 = .ok (.goto 4, 3) := by decide +kernel
theorem dX9_fitsSo_96 : decode cX9_fitsSo 96 = .ok (.iconst 0, 1) := by decide +kernel
theorem dX9_fitsSo_97 : decode cX9_fitsSo 97 = .ok (.ireturn, 1) := by decide +kernel
theorem dX9_fits_0 : decode cX9_fits 0 = .ok (.iload_n 1, 1) := by decide +kernel
theorem dX9_fits_1 : decode cX9_fits 1 = .ok (.invokestatic 91, 3) := by decide +kernel
theorem dX9_fits_4 : decode cX9_fits 4 = .ok (.ifCond .eq 20, 3) := by decide +kernel
theorem dX9_fits_7 : decode cX9_fits 7 = .ok (.iload_n 2, 1) := by decide +kernel
theorem dX9_fits_8 : decode cX9_fits 8 = .ok (.iconst (-1), 1) := by decide +kernel
theorem dX9_fits_9 : decode cX9_fits 9 = .ok (.bipush 8, 2) := by decide +kernel
theorem dX9_fits_11 : decode cX9_fits 11 = .ok (.invokestatic 86, 3) := by decide +kernel
theorem dX9_fits_14 : decode cX9_fits 14 = .ok (.ifCond .eq 10, 3) := by decide +kernel
theorem dX9_fits_17 : decode cX9_fits 17 = .ok (.iload_n 3, 1) := by decide +kernel
theorem dX9_fits_18 : decode cX9_fits 18 = .ok (.invokestatic 95, 3) := by decide +kernel
theorem dX9_fits_21 : decode cX9_fits 21 = .ok (.ifCond .ne 6, 3) := by decide +kernel
theorem dX9_fits_24 : decode cX9_fits 24 = .ok (.bipush (-2), 2) := by decide +kernel
theorem dX9_fits_26 : decode cX9_fits 26 = .ok (.ireturn, 1) := by decide +kernel
theorem dX9_fits_27 : decode cX9_fits 27 = .ok (.aload_n 0, 1) := by decide +kernel
theorem dX9_fits_28 : decode cX9_fits 28 = .ok (.iload_n 1, 1) := by decide +kernel
theorem dX9_fits_29 : decode cX9_fits 29 = .ok (.iload_n 2, 1) := by decide +kernel
theorem dX9_fits_30 : decode cX9_fits 30 = .ok (.iload_n 3, 1) := by decide +kernel
theorem dX9_fits_31 : decode cX9_fits 31 = .ok (.invokevirtual 98, 3) := by decide +kernel
theorem dX9_fits_34 : decode cX9_fits 34 = .ok (.ifCond .eq 7, 3) := by decide +kernel
theorem dX9_fits_37 : decode cX9_fits 37 = .ok (.iconst 1, 1) := by decide +kernel
theorem dX9_fits_38 : decode cX9_fits 38 = .ok (.goto 4, 3) := by decide +kernel
theorem dX9_fits_41 : decode cX9_fits 41 = .ok (.iconst 0, 1) := by decide +kernel
theorem dX9_fits_42 : decode cX9_fits 42 = .ok (.ireturn, 1) := by decide +kernel
theorem dX9_step_0 : decode cX9_step 0 = .ok (.iload_n 1, 1) := by decide +kernel
theorem dX9_step_1 : decode cX9_step 1 = .ok (.invokestatic 95, 3) := by decide +kernel
theorem dX9_step_4 : decode cX9_step 4 = .ok (.ifCond .eq 13, 3) := by decide +kernel
theorem dX9_step_7 : decode cX9_step 7 = .ok (.iload_n 3, 1) := by decide +kernel
theorem dX9_step_8 : decode cX9_step 8 = .ok (.iconst (-1), 1) := by decide +kernel
theorem dX9_step_9 : decode cX9_step 9 = .ok (.bipush 7, 2) := by decide +kernel
theorem dX9_step_11 : decode cX9_step 11 = .ok (.invokestatic 86, 3) := by decide +kernel
theorem dX9_step_14 : decode cX9_step 14 = .ok (.ifCond .ne 6, 3) := by decide +kernel
theorem dX9_step_17 : decode cX9_step 17 = .ok (.bipush (-2), 2) := by decide +kernel
theorem dX9_step_19 : decode cX9_step 19 = .ok (.ireturn, 1) := by decide +kernel
theorem dX9_step_20 : decode cX9_step 20 = .ok (.iload_n 2, 1) := by decide +kernel
theorem dX9_step_21 : decode cX9_step 21 = .ok (.iconst 1, 1) := by decide +kernel
theorem dX9_step_22 : decode cX9_step 22 = .ok (.bipush 9, 2) := by decide +kernel
theorem dX9_step_24 : decode cX9_step 24 = .ok (.invokestatic 86, 3) := by decide +kernel
theorem dX9_step_27 : decode cX9_step 27 = .ok (.ifCond .ne 6, 3) := by decide +kernel
theorem dX9_step_30 : decode cX9_step 30 = .ok (.bipush (-3), 2) := by decide +kernel
theorem dX9_step_32 : decode cX9_step 32 = .ok (.ireturn, 1) := by decide +kernel
theorem dX9_step_33 : decode cX9_step 33 = .ok (.aload_n 0, 1) := by decide +kernel
theorem dX9_step_34 : decode cX9_step 34 = .ok (.getfield 101, 3) := by decide +kernel
theorem dX9_step_37 : decode cX9_step 37 = .ok (.bipush 24, 2) := by decide +kernel
theorem dX9_step_39 : decode cX9_step 39 = .ok (.if_icmp .ne 6, 3) := by decide +kernel
theorem dX9_step_42 : decode cX9_step 42 = .ok (.bipush (-5), 2) := by decide +kernel
theorem dX9_step_44 : decode cX9_step 44 = .ok (.ireturn, 1) := by decide +kernel
theorem dX9_step_45 : decode cX9_step 45 = .ok (.aload_n 0, 1) := by decide +kernel
theorem dX9_step_46 : decode cX9_step 46 = .ok (.getfield 26, 3) := by decide +kernel
theorem dX9_step_49 : decode cX9_step 49 = .ok (.aload_n 0, 1) := by decide +kernel
theorem dX9_step_50 : decode cX9_step 50 = .ok (.getfield 101, 3) := by decide +kernel
theorem dX9_step_53 : decode cX9_step 53 = .ok (.iload_n 1, 1) := by decide +kernel
theorem dX9_step_54 : decode cX9_step 54 = .ok (.iastore, 1) := by decide +kernel
theorem dX9_step_55 : decode cX9_step 55 = .ok (.aload_n 0, 1) := by decide +kernel
theorem dX9_step_56 : decode cX9_step 56 = .ok (.getfield 29, 3) := by decide +kernel
theorem dX9_step_59 : decode cX9_step 59 = .ok (.aload_n 0, 1) := by decide +kernel
theorem dX9_step_60 : decode cX9_step 60 = .ok (.getfield 101, 3) := by decide +kernel
theorem dX9_step_63 : decode cX9_step 63 = .ok (.iload_n 2, 1) := by decide +kernel
theorem dX9_step_64 : decode cX9_step 64 = .ok (.iastore, 1) := by decide +kernel
theorem dX9_step_65 : decode cX9_step 65 = .ok (.aload_n 0, 1) := by decide +kernel
theorem dX9_step_66 : decode cX9_step 66 = .ok (.getfield 32, 3) := by decide +kernel
theorem dX9_step_69 : decode cX9_step 69 = .ok (.aload_n 0, 1) := by decide +kernel
theorem dX9_step_70 : decode cX9_step 70 = .ok (.getfield 101, 3) := by decide +kernel
theorem dX9_step_73 : decode cX9_step 73 = .ok (.iload_n 3, 1) := by decide +kernel
theorem dX9_step_74 : decode cX9_step 74 = .ok (.iastore, 1) := by decide +kernel
theorem dX9_step_75 : decode cX9_step 75 = .ok (.aload_n 0, 1) := by decide +kernel
theorem dX9_step_76 : decode cX9_step 76 = .ok (.dup, 1) := by decide +kernel
theorem dX9_step_77 : decode cX9_step 77 = .ok (.getfield 101, 3) := by decide +kernel
theorem dX9_step_80 : decode cX9_step 80 = .ok (.iconst 1, 1) := by decide +kernel
theorem dX9_step_81 : decode cX9_step 81 = .ok (.iadd, 1) := by decide +kernel
theorem dX9_step_82 : decode cX9_step 82 = .ok (.putfield 101, 3) := by decide +kernel
theorem dX9_step_85 : decode cX9_step 85 = .ok (.aload_n 0, 1) := by decide +kernel
theorem dX9_step_86 : decode cX9_step 86 = .ok (.getfield 101, 3) := by decide +kernel
theorem dX9_step_89 : decode cX9_step 89 = .ok (.ireturn, 1) := by decide +kernel
theorem dX9_put_0 : decode cX9_put 0 = .ok (.iload_n 1, 1) := by decide +kernel
theorem dX9_put_1 : decode cX9_put 1 = .ok (.iconst 0, 1) := by decide +kernel
theorem dX9_put_2 : decode cX9_put 2 = .ok (.aload_n 0, 1) := by decide +kernel
theorem dX9_put_3 : decode cX9_put 3 = .ok (.getfield 101, 3) := by decide +kernel
theorem dX9_put_6 : decode cX9_put 6 = .ok (.iconst 1, 1) := by decide +kernel
theorem dX9_put_7 : decode cX9_put 7 = .ok (.isub, 1) := by decide +kernel
theorem dX9_put_8 : decode cX9_put 8 = .ok (.invokestatic 86, 3) := by decide +kernel
theorem dX9_put_11 : decode cX9_put 11 = .ok (.ifCond .eq 13, 3) := by decide +kernel
theorem dX9_put_14 : decode cX9_put 14 = .ok (.iload_n 2, 1) := by decide +kernel
theorem dX9_put_15 : decode cX9_put 15 = .ok (.iconst (-1), 1) := by decide +kernel
theorem dX9_put_16 : decode cX9_put 16 = .ok (.bipush 7, 2) := by decide +kernel
theorem dX9_put_18 : decode cX9_put 18 = .ok (.invokestatic 86, 3) := by decide +kernel
theorem dX9_put_21 : decode cX9_put 21 = .ok (.ifCond .ne 6, 3) := by decide +kernel
theorem dX9_put_24 : decode cX9_put 24 = .ok (.bipush (-2), 2) := by decide +kernel
theorem dX9_put_26 : decode cX9_put 26 = .ok (.ireturn, 1) := by decide +kernel
theorem dX9_put_27 : decode cX9_put 27 = .ok (.aload_n 0, 1) := by decide +kernel
theorem dX9_put_28 : decode cX9_put 28 = .ok (.getfield 32, 3) := by decide +kernel
theorem dX9_put_31 : decode cX9_put 31 = .ok (.iload_n 1, 1) := by decide +kernel
theorem dX9_put_32 : decode cX9_put 32 = .ok (.iaload, 1) := by decide +kernel
theorem dX9_put_33 : decode cX9_put 33 = .ok (.istore_n 3, 1) := by decide +kernel
theorem dX9_put_34 : decode cX9_put 34 = .ok (.aload_n 0, 1) := by decide +kernel
theorem dX9_put_35 : decode cX9_put 35 = .ok (.getfield 32, 3) := by decide +kernel
theorem dX9_put_38 : decode cX9_put 38 = .ok (.iload_n 1, 1) := by decide +kernel
theorem dX9_put_39 : decode cX9_put 39 = .ok (.iload_n 2, 1) := by decide +kernel
theorem dX9_put_40 : decode cX9_put 40 = .ok (.iastore, 1) := by decide +kernel
theorem dX9_put_41 : decode cX9_put 41 = .ok (.iload_n 3, 1) := by decide +kernel
theorem dX9_put_42 : decode cX9_put 42 = .ok (.ireturn, 1) := by decide +kernel
theorem dX9_back_0 : decode cX9_back 0 = .ok (.aload_n 0, 1) := by decide +kernel
theorem dX9_back_1 : decode cX9_back 1 = .ok (.getfield 101, 3) := by decide +kernel
theorem dX9_back_4 : decode cX9_back 4 = .ok (.ifCond .ne 6, 3) := by decide +kernel
theorem dX9_back_7 : decode cX9_back 7 = .ok (.bipush (-4), 2) := by decide +kernel
theorem dX9_back_9 : decode cX9_back 9 = .ok (.ireturn, 1) := by decide +kernel
theorem dX9_back_10 : decode cX9_back 10 = .ok (.aload_n 0, 1) := by decide +kernel
theorem dX9_back_11 : decode cX9_back 11 = .ok (.dup, 1) := by decide +kernel
theorem dX9_back_12 : decode cX9_back 12 = .ok (.getfield 101, 3) := by decide +kernel
theorem dX9_back_15 : decode cX9_back 15 = .ok (.iconst 1, 1) := by decide +kernel
theorem dX9_back_16 : decode cX9_back 16 = .ok (.isub, 1) := by decide +kernel
theorem dX9_back_17 : decode cX9_back 17 = .ok (.putfield 101, 3) := by decide +kernel
theorem dX9_back_20 : decode cX9_back 20 = .ok (.aload_n 0, 1) := by decide +kernel
theorem dX9_back_21 : decode cX9_back 21 = .ok (.getfield 101, 3) := by decide +kernel
theorem dX9_back_24 : decode cX9_back 24 = .ok (.ireturn, 1) := by decide +kernel
theorem dX9_holds_0 : decode cX9_holds 0 = .ok (.aload_n 0, 1) := by decide +kernel
theorem dX9_holds_1 : decode cX9_holds 1 = .ok (.iload_n 2, 1) := by decide +kernel
theorem dX9_holds_2 : decode cX9_holds 2 = .ok (.iload_n 1, 1) := by decide +kernel
theorem dX9_holds_3 : decode cX9_holds 3 = .ok (.ifCond .ne 7, 3) := by decide +kernel
theorem dX9_holds_6 : decode cX9_holds 6 = .ok (.iconst (-1), 1) := by decide +kernel
theorem dX9_holds_7 : decode cX9_holds 7 = .ok (.goto 11, 3) := by decide +kernel
theorem dX9_holds_10 : decode cX9_holds 10 = .ok (.aload_n 0, 1) := by decide +kernel
theorem dX9_holds_11 : decode cX9_holds 11 = .ok (.getfield 26, 3) := by decide +kernel
theorem dX9_holds_14 : decode cX9_holds 14 = .ok (.iload_n 1, 1) := by decide +kernel
theorem dX9_holds_15 : decode cX9_holds 15 = .ok (.iconst 1, 1) := by decide +kernel
theorem dX9_holds_16 : decode cX9_holds 16 = .ok (.isub, 1) := by decide +kernel
theorem dX9_holds_17 : decode cX9_holds 17 = .ok (.iaload, 1) := by decide +kernel
theorem dX9_holds_18 : decode cX9_holds 18 = .ok (.aload_n 0, 1) := by decide +kernel
theorem dX9_holds_19 : decode cX9_holds 19 = .ok (.getfield 26, 3) := by decide +kernel
theorem dX9_holds_22 : decode cX9_holds 22 = .ok (.iload_n 1, 1) := by decide +kernel
theorem dX9_holds_23 : decode cX9_holds 23 = .ok (.iaload, 1) := by decide +kernel
theorem dX9_holds_24 : decode cX9_holds 24 = .ok (.invokevirtual 98, 3) := by decide +kernel
theorem dX9_holds_27 : decode cX9_holds 27 = .ok (.ifCond .eq 27, 3) := by decide +kernel
theorem dX9_holds_30 : decode cX9_holds 30 = .ok (.aload_n 0, 1) := by decide +kernel
theorem dX9_holds_31 : decode cX9_holds 31 = .ok (.getfield 29, 3) := by decide +kernel
theorem dX9_holds_34 : decode cX9_holds 34 = .ok (.iload_n 1, 1) := by decide +kernel
theorem dX9_holds_35 : decode cX9_holds 35 = .ok (.iaload, 1) := by decide +kernel
theorem dX9_holds_36 : decode cX9_holds 36 = .ok (.aload_n 0, 1) := by decide +kernel
theorem dX9_holds_37 : decode cX9_holds 37 = .ok (.getfield 22, 3) := by decide +kernel
theorem dX9_holds_40 : decode cX9_holds 40 = .ok (.aload_n 0, 1) := by decide +kernel
theorem dX9_holds_41 : decode cX9_holds 41 = .ok (.getfield 7, 3) := by decide +kernel
theorem dX9_holds_44 : decode cX9_holds 44 = .ok (.iload_n 2, 1) := by decide +kernel
theorem dX9_holds_45 : decode cX9_holds 45 = .ok (.iaload, 1) := by decide +kernel
theorem dX9_holds_46 : decode cX9_holds 46 = .ok (.imul, 1) := by decide +kernel
theorem dX9_holds_47 : decode cX9_holds 47 = .ok (.if_icmp .le 7, 3) := by decide +kernel
theorem dX9_holds_50 : decode cX9_holds 50 = .ok (.iconst 1, 1) := by decide +kernel
theorem dX9_holds_51 : decode cX9_holds 51 = .ok (.goto 4, 3) := by decide +kernel
theorem dX9_holds_54 : decode cX9_holds 54 = .ok (.iconst 0, 1) := by decide +kernel
theorem dX9_holds_55 : decode cX9_holds 55 = .ok (.ireturn, 1) := by decide +kernel
theorem dX9_wrong_0 : decode cX9_wrong 0 = .ok (.iconst 0, 1) := by decide +kernel
theorem dX9_wrong_1 : decode cX9_wrong 1 = .ok (.istore_n 1, 1) := by decide +kernel
theorem dX9_wrong_2 : decode cX9_wrong 2 = .ok (.iload_n 1, 1) := by decide +kernel
theorem dX9_wrong_3 : decode cX9_wrong 3 = .ok (.aload_n 0, 1) := by decide +kernel
theorem dX9_wrong_4 : decode cX9_wrong 4 = .ok (.getfield 101, 3) := by decide +kernel
theorem dX9_wrong_7 : decode cX9_wrong 7 = .ok (.if_icmp .ge 35, 3) := by decide +kernel
theorem dX9_wrong_10 : decode cX9_wrong 10 = .ok (.aload_n 0, 1) := by decide +kernel
theorem dX9_wrong_11 : decode cX9_wrong 11 = .ok (.getfield 32, 3) := by decide +kernel
theorem dX9_wrong_14 : decode cX9_wrong 14 = .ok (.iload_n 1, 1) := by decide +kernel
theorem dX9_wrong_15 : decode cX9_wrong 15 = .ok (.iaload, 1) := by decide +kernel
theorem dX9_wrong_16 : decode cX9_wrong 16 = .ok (.iconst (-1), 1) := by decide +kernel
theorem dX9_wrong_17 : decode cX9_wrong 17 = .ok (.if_icmp .eq 19, 3) := by decide +kernel
theorem dX9_wrong_20 : decode cX9_wrong 20 = .ok (.aload_n 0, 1) := by decide +kernel
theorem dX9_wrong_21 : decode cX9_wrong 21 = .ok (.iload_n 1, 1) := by decide +kernel
theorem dX9_wrong_22 : decode cX9_wrong 22 = .ok (.aload_n 0, 1) := by decide +kernel
theorem dX9_wrong_23 : decode cX9_wrong 23 = .ok (.getfield 32, 3) := by decide +kernel
theorem dX9_wrong_26 : decode cX9_wrong 26 = .ok (.iload_n 1, 1) := by decide +kernel
theorem dX9_wrong_27 : decode cX9_wrong 27 = .ok (.iaload, 1) := by decide +kernel
theorem dX9_wrong_28 : decode cX9_wrong 28 = .ok (.invokevirtual 104, 3) := by decide +kernel
theorem dX9_wrong_31 : decode cX9_wrong 31 = .ok (.ifCond .ne 5, 3) := by decide +kernel
theorem dX9_wrong_34 : decode cX9_wrong 34 = .ok (.iload_n 1, 1) := by decide +kernel
theorem dX9_wrong_35 : decode cX9_wrong 35 = .ok (.ireturn, 1) := by decide +kernel
theorem dX9_wrong_36 : decode cX9_wrong 36 = .ok (.iinc 1 1, 3) := by decide +kernel
theorem dX9_wrong_39 : decode cX9_wrong 39 = .ok (.goto (-37), 3) := by decide +kernel
theorem dX9_wrong_42 : decode cX9_wrong 42 = .ok (.iconst (-1), 1) := by decide +kernel
theorem dX9_wrong_43 : decode cX9_wrong 43 = .ok (.ireturn, 1) := by decide +kernel
theorem dX9_fillings_0 : decode cX9_fillings 0 = .ok (.aload_n 0, 1) := by decide +kernel
theorem dX9_fillings_1 : decode cX9_fillings 1 = .ok (.invokevirtual 108, 3) := by decide +kernel
theorem dX9_fillings_4 : decode cX9_fillings 4 = .ok (.iconst (-1), 1) := by decide +kernel
theorem dX9_fillings_5 : decode cX9_fillings 5 = .ok (.if_icmp .ne 7, 3) := by decide +kernel
theorem dX9_fillings_8 : decode cX9_fillings 8 = .ok (.lconst 1, 1) := by decide +kernel
theorem dX9_fillings_9 : decode cX9_fillings 9 = .ok (.goto 4, 3) := by decide +kernel
theorem dX9_fillings_12 : decode cX9_fillings 12 = .ok (.lconst 0, 1) := by decide +kernel
theorem dX9_fillings_13 : decode cX9_fillings 13 = .ok (.lstore_n 1, 1) := by decide +kernel
theorem dX9_fillings_14 : decode cX9_fillings 14 = .ok (.iconst 0, 1) := by decide +kernel
theorem dX9_fillings_15 : decode cX9_fillings 15 = .ok (.istore_n 3, 1) := by decide +kernel
theorem dX9_fillings_16 : decode cX9_fillings 16 = .ok (.iload_n 3, 1) := by decide +kernel
theorem dX9_fillings_17 : decode cX9_fillings 17 = .ok (.aload_n 0, 1) := by decide +kernel
theorem dX9_fillings_18 : decode cX9_fillings 18 = .ok (.getfield 101, 3) := by decide +kernel
theorem dX9_fillings_21 : decode cX9_fillings 21 = .ok (.if_icmp .ge 80, 3) := by decide +kernel
theorem dX9_fillings_24 : decode cX9_fillings 24 = .ok (.aload_n 0, 1) := by decide +kernel
theorem dX9_fillings_25 : decode cX9_fillings 25 = .ok (.getfield 32, 3) := by decide +kernel
theorem dX9_fillings_28 : decode cX9_fillings 28 = .ok (.iload_n 3, 1) := by decide +kernel
theorem dX9_fillings_29 : decode cX9_fillings 29 = .ok (.iaload, 1) := by decide +kernel
theorem dX9_fillings_30 : decode cX9_fillings 30 = .ok (.iconst (-1), 1) := by decide +kernel
theorem dX9_fillings_31 : decode cX9_fillings 31 = .ok (.if_icmp .ne 64, 3) := by decide +kernel
theorem dX9_fillings_34 : decode cX9_fillings 34 = .ok (.iconst 0, 1) := by decide +kernel
theorem dX9_fillings_35 : decode cX9_fillings 35 = .ok (.istore 4, 2) := by decide +kernel
theorem dX9_fillings_37 : decode cX9_fillings 37 = .ok (.iconst 0, 1) := by decide +kernel
theorem dX9_fillings_38 : decode cX9_fillings 38 = .ok (.istore 5, 2) := by decide +kernel
theorem dX9_fillings_40 : decode cX9_fillings 40 = .ok (.iload 5, 2) := by decide +kernel
theorem dX9_fillings_42 : decode cX9_fillings 42 = .ok (.bipush 8, 2) := by decide +kernel
theorem dX9_fillings_44 : decode cX9_fillings 44 = .ok (.if_icmp .ge 29, 3) := by decide +kernel
theorem dX9_fillings_47 : decode cX9_fillings 47 = .ok (.iload 4, 2) := by decide +kernel
theorem dX9_fillings_49 : decode cX9_fillings 49 = .ok (.aload_n 0, 1) := by decide +kernel
theorem dX9_fillings_50 : decode cX9_fillings 50 = .ok (.iload_n 3, 1) := by decide +kernel
theorem dX9_fillings_51 : decode cX9_fillings 51 = .ok (.iload 5, 2) := by decide +kernel
theorem dX9_fillings_53 : decode cX9_fillings 53 = .ok (.invokevirtual 104, 3) := by decide +kernel
theorem dX9_fillings_56 : decode cX9_fillings 56 = .ok (.ifCond .eq 7, 3) := by decide +kernel
theorem dX9_fillings_59 : decode cX9_fillings 59 = .ok (.iconst 1, 1) := by decide +kernel
theorem dX9_fillings_60 : decode cX9_fillings 60 = .ok (.goto 4, 3) := by decide +kernel
theorem dX9_fillings_63 : decode cX9_fillings 63 = .ok (.iconst 0, 1) := by decide +kernel
theorem dX9_fillings_64 : decode cX9_fillings 64 = .ok (.iadd, 1) := by decide +kernel
theorem dX9_fillings_65 : decode cX9_fillings 65 = .ok (.istore 4, 2) := by decide +kernel
theorem dX9_fillings_67 : decode cX9_fillings 67 = .ok (.iinc 5 1, 3) := by decide +kernel
theorem dX9_fillings_70 : decode cX9_fillings 70 = .ok (.goto (-30), 3) := by decide +kernel
theorem dX9_fillings_73 : decode cX9_fillings 73 = .ok (.lload_n 1, 1) := by decide +kernel
theorem dX9_fillings_74 : decode cX9_fillings 74 = .ok (.iload 4, 2) := by decide +kernel
theorem dX9_fillings_76 : decode cX9_fillings 76 = .ok (.i2l, 1) := by decide +kernel
theorem dX9_fillings_77 : decode cX9_fillings 77 = .ok (.lmul, 1) := by decide +kernel
theorem dX9_fillings_78 : decode cX9_fillings 78 = .ok (.lstore_n 1, 1) := by decide +kernel
theorem dX9_fillings_79 : decode cX9_fillings 79 = .ok (.lload_n 1, 1) := by decide +kernel
theorem dX9_fillings_80 : decode cX9_fillings 80 = .ok (.ldc2_w 112, 3) := by decide +kernel
theorem dX9_fillings_83 : decode cX9_fillings 83 = .ok (.lcmp, 1) := by decide +kernel
theorem dX9_fillings_84 : decode cX9_fillings 84 = .ok (.ifCond .le 9, 3) := by decide +kernel
theorem dX9_fillings_87 : decode cX9_fillings 87 = .ok (.ldc2_w 112, 3) := by decide +kernel
theorem dX9_fillings_90 : decode cX9_fillings 90 = .ok (.goto 4, 3) := by decide +kernel
theorem dX9_fillings_93 : decode cX9_fillings 93 = .ok (.lload_n 1, 1) := by decide +kernel
theorem dX9_fillings_94 : decode cX9_fillings 94 = .ok (.lstore_n 1, 1) := by decide +kernel
theorem dX9_fillings_95 : decode cX9_fillings 95 = .ok (.iinc 3 1, 3) := by decide +kernel
theorem dX9_fillings_98 : decode cX9_fillings 98 = .ok (.goto (-82), 3) := by decide +kernel
theorem dX9_fillings_101 : decode cX9_fillings 101 = .ok (.lload_n 1, 1) := by decide +kernel
theorem dX9_fillings_102 : decode cX9_fillings 102 = .ok (.l2i, 1) := by decide +kernel
theorem dX9_fillings_103 : decode cX9_fillings 103 = .ok (.ireturn, 1) := by decide +kernel
theorem dX9_quickestOf_0 : decode cX9_quickestOf 0 = .ok (.aload_n 0, 1) := by decide +kernel
theorem dX9_quickestOf_1 : decode cX9_quickestOf 1 = .ok (.getfield 32, 3) := by decide +kernel
theorem dX9_quickestOf_4 : decode cX9_quickestOf 4 = .ok (.iload_n 1, 1) := by decide +kernel
theorem dX9_quickestOf_5 : decode cX9_quickestOf 5 = .ok (.iaload, 1) := by decide +kernel
theorem dX9_quickestOf_6 : decode cX9_quickestOf 6 = .ok (.iconst (-1), 1) := by decide +kernel
theorem dX9_quickestOf_7 : decode cX9_quickestOf 7 = .ok (.if_icmp .eq 10, 3) := by decide +kernel
theorem dX9_quickestOf_10 : decode cX9_quickestOf 10 = .ok (.aload_n 0, 1) := by decide +kernel
theorem dX9_quickestOf_11 : decode cX9_quickestOf 11 = .ok (.getfield 32, 3) := by decide +kernel
theorem dX9_quickestOf_14 : decode cX9_quickestOf 14 = .ok (.iload_n 1, 1) := by decide +kernel
theorem dX9_quickestOf_15 : decode cX9_quickestOf 15 = .ok (.iaload, 1) := by decide +kernel
theorem dX9_quickestOf_16 : decode cX9_quickestOf 16 = .ok (.ireturn, 1) := by decide +kernel
theorem dX9_quickestOf_17 : decode cX9_quickestOf 17 = .ok (.iconst (-1), 1) := by decide +kernel
theorem dX9_quickestOf_18 : decode cX9_quickestOf 18 = .ok (.istore_n 2, 1) := by decide +kernel
theorem dX9_quickestOf_19 : decode cX9_quickestOf 19 = .ok (.iconst 0, 1) := by decide +kernel
theorem dX9_quickestOf_20 : decode cX9_quickestOf 20 = .ok (.istore_n 3, 1) := by decide +kernel
theorem dX9_quickestOf_21 : decode cX9_quickestOf 21 = .ok (.iload_n 3, 1) := by decide +kernel
theorem dX9_quickestOf_22 : decode cX9_quickestOf 22 = .ok (.bipush 8, 2) := by decide +kernel
theorem dX9_quickestOf_24 : decode cX9_quickestOf 24 = .ok (.if_icmp .ge 44, 3) := by decide +kernel
theorem dX9_quickestOf_27 : decode cX9_quickestOf 27 = .ok (.aload_n 0, 1) := by decide +kernel
theorem dX9_quickestOf_28 : decode cX9_quickestOf 28 = .ok (.iload_n 1, 1) := by decide +kernel
theorem dX9_quickestOf_29 : decode cX9_quickestOf 29 = .ok (.iload_n 3, 1) := by decide +kernel
theorem dX9_quickestOf_30 : decode cX9_quickestOf 30 = .ok (.invokevirtual 104, 3) := by decide +kernel
theorem dX9_quickestOf_33 : decode cX9_quickestOf 33 = .ok (.ifCond .eq 27, 3) := by decide +kernel
theorem dX9_quickestOf_36 : decode cX9_quickestOf 36 = .ok (.iload_n 2, 1) := by decide +kernel
theorem dX9_quickestOf_37 : decode cX9_quickestOf 37 = .ok (.iconst (-1), 1) := by decide +kernel
theorem dX9_quickestOf_38 : decode cX9_quickestOf 38 = .ok (.if_icmp .eq 18, 3) := by decide +kernel
theorem dX9_quickestOf_41 : decode cX9_quickestOf 41 = .ok (.aload_n 0, 1) := by decide +kernel
theorem dX9_quickestOf_42 : decode cX9_quickestOf 42 = .ok (.getfield 7, 3) := by decide +kernel
theorem dX9_quickestOf_45 : decode cX9_quickestOf 45 = .ok (.iload_n 3, 1) := by decide +kernel
theorem dX9_quickestOf_46 : decode cX9_quickestOf 46 = .ok (.iaload, 1) := by decide +kernel
theorem dX9_quickestOf_47 : decode cX9_quickestOf 47 = .ok (.aload_n 0, 1) := by decide +kernel
theorem dX9_quickestOf_48 : decode cX9_quickestOf 48 = .ok (.getfield 7, 3) := by decide +kernel
theorem dX9_quickestOf_51 : decode cX9_quickestOf 51 = .ok (.iload_n 2, 1) := by decide +kernel
theorem dX9_quickestOf_52 : decode cX9_quickestOf 52 = .ok (.iaload, 1) := by decide +kernel
theorem dX9_quickestOf_53 : decode cX9_quickestOf 53 = .ok (.if_icmp .ge 7, 3) := by decide +kernel
theorem dX9_quickestOf_56 : decode cX9_quickestOf 56 = .ok (.iload_n 3, 1) := by decide +kernel
theorem dX9_quickestOf_57 : decode cX9_quickestOf 57 = .ok (.goto 4, 3) := by decide +kernel
theorem dX9_quickestOf_60 : decode cX9_quickestOf 60 = .ok (.iload_n 2, 1) := by decide +kernel
theorem dX9_quickestOf_61 : decode cX9_quickestOf 61 = .ok (.istore_n 2, 1) := by decide +kernel
theorem dX9_quickestOf_62 : decode cX9_quickestOf 62 = .ok (.iinc 3 1, 3) := by decide +kernel
theorem dX9_quickestOf_65 : decode cX9_quickestOf 65 = .ok (.goto (-44), 3) := by decide +kernel
theorem dX9_quickestOf_68 : decode cX9_quickestOf 68 = .ok (.iload_n 2, 1) := by decide +kernel
theorem dX9_quickestOf_69 : decode cX9_quickestOf 69 = .ok (.ireturn, 1) := by decide +kernel
theorem dX9_quickest_0 : decode cX9_quickest 0 = .ok (.iload_n 1, 1) := by decide +kernel
theorem dX9_quickest_1 : decode cX9_quickest 1 = .ok (.iconst 0, 1) := by decide +kernel
theorem dX9_quickest_2 : decode cX9_quickest 2 = .ok (.aload_n 0, 1) := by decide +kernel
theorem dX9_quickest_3 : decode cX9_quickest 3 = .ok (.getfield 101, 3) := by decide +kernel
theorem dX9_quickest_6 : decode cX9_quickest 6 = .ok (.iconst 1, 1) := by decide +kernel
theorem dX9_quickest_7 : decode cX9_quickest 7 = .ok (.isub, 1) := by decide +kernel
theorem dX9_quickest_8 : decode cX9_quickest 8 = .ok (.invokestatic 86, 3) := by decide +kernel
theorem dX9_quickest_11 : decode cX9_quickest 11 = .ok (.ifCond .ne 6, 3) := by decide +kernel
theorem dX9_quickest_14 : decode cX9_quickest 14 = .ok (.bipush (-2), 2) := by decide +kernel
theorem dX9_quickest_16 : decode cX9_quickest 16 = .ok (.ireturn, 1) := by decide +kernel
theorem dX9_quickest_17 : decode cX9_quickest 17 = .ok (.aload_n 0, 1) := by decide +kernel
theorem dX9_quickest_18 : decode cX9_quickest 18 = .ok (.invokevirtual 114, 3) := by decide +kernel
theorem dX9_quickest_21 : decode cX9_quickest 21 = .ok (.ifCond .ne 7, 3) := by decide +kernel
theorem dX9_quickest_24 : decode cX9_quickest 24 = .ok (.iconst (-1), 1) := by decide +kernel
theorem dX9_quickest_25 : decode cX9_quickest 25 = .ok (.goto 8, 3) := by decide +kernel
theorem dX9_quickest_28 : decode cX9_quickest 28 = .ok (.aload_n 0, 1) := by decide +kernel
theorem dX9_quickest_29 : decode cX9_quickest 29 = .ok (.iload_n 1, 1) := by decide +kernel
theorem dX9_quickest_30 : decode cX9_quickest 30 = .ok (.invokevirtual 117, 3) := by decide +kernel
theorem dX9_quickest_33 : decode cX9_quickest 33 = .ok (.ireturn, 1) := by decide +kernel
theorem dX9_graces_0 : decode cX9_graces 0 = .ok (.aload_n 0, 1) := by decide +kernel
theorem dX9_graces_1 : decode cX9_graces 1 = .ok (.invokevirtual 114, 3) := by decide +kernel
theorem dX9_graces_4 : decode cX9_graces 4 = .ok (.ifCond .ne 5, 3) := by decide +kernel
theorem dX9_graces_7 : decode cX9_graces 7 = .ok (.iconst (-1), 1) := by decide +kernel
theorem dX9_graces_8 : decode cX9_graces 8 = .ok (.ireturn, 1) := by decide +kernel
theorem dX9_graces_9 : decode cX9_graces 9 = .ok (.iconst 0, 1) := by decide +kernel
theorem dX9_graces_10 : decode cX9_graces 10 = .ok (.istore_n 1, 1) := by decide +kernel
theorem dX9_graces_11 : decode cX9_graces 11 = .ok (.iconst 0, 1) := by decide +kernel
theorem dX9_graces_12 : decode cX9_graces 12 = .ok (.istore_n 2, 1) := by decide +kernel
theorem dX9_graces_13 : decode cX9_graces 13 = .ok (.iload_n 2, 1) := by decide +kernel
theorem dX9_graces_14 : decode cX9_graces 14 = .ok (.aload_n 0, 1) := by decide +kernel
theorem dX9_graces_15 : decode cX9_graces 15 = .ok (.getfield 101, 3) := by decide +kernel
theorem dX9_graces_18 : decode cX9_graces 18 = .ok (.if_icmp .ge 22, 3) := by decide +kernel
theorem dX9_graces_21 : decode cX9_graces 21 = .ok (.iload_n 1, 1) := by decide +kernel
theorem dX9_graces_22 : decode cX9_graces 22 = .ok (.aload_n 0, 1) := by decide +kernel
theorem dX9_graces_23 : decode cX9_graces 23 = .ok (.getfield 7, 3) := by decide +kernel
theorem dX9_graces_26 : decode cX9_graces 26 = .ok (.aload_n 0, 1) := by decide +kernel
theorem dX9_graces_27 : decode cX9_graces 27 = .ok (.iload_n 2, 1) := by decide +kernel
theorem dX9_graces_28 : decode cX9_graces 28 = .ok (.invokevirtual 117, 3) := by decide +kernel
theorem dX9_graces_31 : decode cX9_graces 31 = .ok (.iaload, 1) := by decide +kernel
theorem dX9_graces_32 : decode cX9_graces 32 = .ok (.iadd, 1) := by decide +kernel
theorem dX9_graces_33 : decode cX9_graces 33 = .ok (.istore_n 1, 1) := by decide +kernel
theorem dX9_graces_34 : decode cX9_graces 34 = .ok (.iinc 2 1, 3) := by decide +kernel
theorem dX9_graces_37 : decode cX9_graces 37 = .ok (.goto (-24), 3) := by decide +kernel
theorem dX9_graces_40 : decode cX9_graces 40 = .ok (.iload_n 1, 1) := by decide +kernel
theorem dX9_graces_41 : decode cX9_graces 41 = .ok (.ireturn, 1) := by decide +kernel
theorem dX9_region_0 : decode cX9_region 0 = .ok (.iload_n 1, 1) := by decide +kernel
theorem dX9_region_1 : decode cX9_region 1 = .ok (.invokestatic 121, 3) := by decide +kernel
theorem dX9_region_4 : decode cX9_region 4 = .ok (.ifCond .eq 26, 3) := by decide +kernel
theorem dX9_region_7 : decode cX9_region 7 = .ok (.iload_n 2, 1) := by decide +kernel
theorem dX9_region_8 : decode cX9_region 8 = .ok (.ifCond .ne 10, 3) := by decide +kernel
theorem dX9_region_11 : decode cX9_region 11 = .ok (.iload_n 3, 1) := by decide +kernel
theorem dX9_region_12 : decode cX9_region 12 = .ok (.invokestatic 91, 3) := by decide +kernel
theorem dX9_region_15 : decode cX9_region 15 = .ok (.ifCond .eq 15, 3) := by decide +kernel
theorem dX9_region_18 : decode cX9_region 18 = .ok (.iload_n 2, 1) := by decide +kernel
theorem dX9_region_19 : decode cX9_region 19 = .ok (.iconst 1, 1) := by decide +kernel
theorem dX9_region_20 : decode cX9_region 20 = .ok (.if_icmp .ne 13, 3) := by decide +kernel
theorem dX9_region_23 : decode cX9_region 23 = .ok (.iload_n 3, 1) := by decide +kernel
theorem dX9_region_24 : decode cX9_region 24 = .ok (.invokestatic 95, 3) := by decide +kernel
theorem dX9_region_27 : decode cX9_region 27 = .ok (.ifCond .ne 6, 3) := by decide +kernel
theorem dX9_region_30 : decode cX9_region 30 = .ok (.bipush (-2), 2) := by decide +kernel
theorem dX9_region_32 : decode cX9_region 32 = .ok (.ireturn, 1) := by decide +kernel
theorem dX9_region_33 : decode cX9_region 33 = .ok (.iload_n 2, 1) := by decide +kernel
theorem dX9_region_34 : decode cX9_region 34 = .ok (.iconst 0, 1) := by decide +kernel
theorem dX9_region_35 : decode cX9_region 35 = .ok (.iconst 1, 1) := by decide +kernel
theorem dX9_region_36 : decode cX9_region 36 = .ok (.invokestatic 86, 3) := by decide +kernel
theorem dX9_region_39 : decode cX9_region 39 = .ok (.ifCond .eq 22, 3) := by decide +kernel
theorem dX9_region_42 : decode cX9_region 42 = .ok (.iload 4, 2) := by decide +kernel
theorem dX9_region_44 : decode cX9_region 44 = .ok (.iconst 0, 1) := by decide +kernel
theorem dX9_region_45 : decode cX9_region 45 = .ok (.iload_n 2, 1) := by decide +kernel
theorem dX9_region_46 : decode cX9_region 46 = .ok (.ifCond .ne 8, 3) := by decide +kernel
theorem dX9_region_49 : decode cX9_region 49 = .ok (.bipush 7, 2) := by decide +kernel
theorem dX9_region_51 : decode cX9_region 51 = .ok (.goto 4, 3) := by decide +kernel
theorem dX9_region_54 : decode cX9_region 54 = .ok (.iconst 3, 1) := by decide +kernel
theorem dX9_region_55 : decode cX9_region 55 = .ok (.invokestatic 86, 3) := by decide +kernel
theorem dX9_region_58 : decode cX9_region 58 = .ok (.ifCond .ne 6, 3) := by decide +kernel
theorem dX9_region_61 : decode cX9_region 61 = .ok (.bipush (-3), 2) := by decide +kernel
theorem dX9_region_63 : decode cX9_region 63 = .ok (.ireturn, 1) := by decide +kernel
theorem dX9_region_64 : decode cX9_region 64 = .ok (.iload_n 2, 1) := by decide +kernel
theorem dX9_region_65 : decode cX9_region 65 = .ok (.ifCond .ne 17, 3) := by decide +kernel
theorem dX9_region_68 : decode cX9_region 68 = .ok (.aload_n 0, 1) := by decide +kernel
theorem dX9_region_69 : decode cX9_region 69 = .ok (.getfield 35, 3) := by decide +kernel
theorem dX9_region_72 : decode cX9_region 72 = .ok (.bipush 8, 2) := by decide +kernel
theorem dX9_region_74 : decode cX9_region 74 = .ok (.iload_n 1, 1) := by decide +kernel
theorem dX9_region_75 : decode cX9_region 75 = .ok (.imul, 1) := by decide +kernel
theorem dX9_region_76 : decode cX9_region 76 = .ok (.iload_n 3, 1) := by decide +kernel
theorem dX9_region_77 : decode cX9_region 77 = .ok (.iadd, 1) := by decide +kernel
theorem dX9_region_78 : decode cX9_region 78 = .ok (.iaload, 1) := by decide +kernel
theorem dX9_region_79 : decode cX9_region 79 = .ok (.goto 14, 3) := by decide +kernel
theorem dX9_region_82 : decode cX9_region 82 = .ok (.aload_n 0, 1) := by decide +kernel
theorem dX9_region_83 : decode cX9_region 83 = .ok (.getfield 38, 3) := by decide +kernel
theorem dX9_region_86 : decode cX9_region 86 = .ok (.bipush 9, 2) := by decide +kernel
theorem dX9_region_88 : decode cX9_region 88 = .ok (.iload_n 1, 1) := by decide +kernel
theorem dX9_region_89 : decode cX9_region 89 = .ok (.imul, 1) := by decide +kernel
theorem dX9_region_90 : decode cX9_region 90 = .ok (.iload_n 3, 1) := by decide +kernel
theorem dX9_region_91 : decode cX9_region 91 = .ok (.iadd, 1) := by decide +kernel
theorem dX9_region_92 : decode cX9_region 92 = .ok (.iaload, 1) := by decide +kernel
theorem dX9_region_93 : decode cX9_region 93 = .ok (.istore 5, 2) := by decide +kernel
theorem dX9_region_95 : decode cX9_region 95 = .ok (.iload_n 2, 1) := by decide +kernel
theorem dX9_region_96 : decode cX9_region 96 = .ok (.ifCond .ne 19, 3) := by decide +kernel
theorem dX9_region_99 : decode cX9_region 99 = .ok (.aload_n 0, 1) := by decide +kernel
theorem dX9_region_100 : decode cX9_region 100 = .ok (.getfield 35, 3) := by decide +kernel
theorem dX9_region_103 : decode cX9_region 103 = .ok (.bipush 8, 2) := by decide +kernel
theorem dX9_region_105 : decode cX9_region 105 = .ok (.iload_n 1, 1) := by decide +kernel
theorem dX9_region_106 : decode cX9_region 106 = .ok (.imul, 1) := by decide +kernel
theorem dX9_region_107 : decode cX9_region 107 = .ok (.iload_n 3, 1) := by decide +kernel
theorem dX9_region_108 : decode cX9_region 108 = .ok (.iadd, 1) := by decide +kernel
theorem dX9_region_109 : decode cX9_region 109 = .ok (.iload 4, 2) := by decide +kernel
theorem dX9_region_111 : decode cX9_region 111 = .ok (.iastore, 1) := by decide +kernel
theorem dX9_region_112 : decode cX9_region 112 = .ok (.goto 16, 3) := by decide +kernel
theorem dX9_region_115 : decode cX9_region 115 = .ok (.aload_n 0, 1) := by decide +kernel
theorem dX9_region_116 : decode cX9_region 116 = .ok (.getfield 38, 3) := by decide +kernel
theorem dX9_region_119 : decode cX9_region 119 = .ok (.bipush 9, 2) := by decide +kernel
theorem dX9_region_121 : decode cX9_region 121 = .ok (.iload_n 1, 1) := by decide +kernel
theorem dX9_region_122 : decode cX9_region 122 = .ok (.imul, 1) := by decide +kernel
theorem dX9_region_123 : decode cX9_region 123 = .ok (.iload_n 3, 1) := by decide +kernel
theorem dX9_region_124 : decode cX9_region 124 = .ok (.iadd, 1) := by decide +kernel
theorem dX9_region_125 : decode cX9_region 125 = .ok (.iload 4, 2) := by decide +kernel
theorem dX9_region_127 : decode cX9_region 127 = .ok (.iastore, 1) := by decide +kernel
theorem dX9_region_128 : decode cX9_region 128 = .ok (.iload 5, 2) := by decide +kernel
theorem dX9_region_130 : decode cX9_region 130 = .ok (.ireturn, 1) := by decide +kernel
theorem dX9_sung_0 : decode cX9_sung 0 = .ok (.iload_n 1, 1) := by decide +kernel
theorem dX9_sung_1 : decode cX9_sung 1 = .ok (.invokestatic 121, 3) := by decide +kernel
theorem dX9_sung_4 : decode cX9_sung 4 = .ok (.ifCond .eq 17, 3) := by decide +kernel
theorem dX9_sung_7 : decode cX9_sung 7 = .ok (.iload_n 2, 1) := by decide +kernel
theorem dX9_sung_8 : decode cX9_sung 8 = .ok (.iconst 0, 1) := by decide +kernel
theorem dX9_sung_9 : decode cX9_sung 9 = .ok (.aload_n 0, 1) := by decide +kernel
theorem dX9_sung_10 : decode cX9_sung 10 = .ok (.getfield 101, 3) := by decide +kernel
theorem dX9_sung_13 : decode cX9_sung 13 = .ok (.iconst 1, 1) := by decide +kernel
theorem dX9_sung_14 : decode cX9_sung 14 = .ok (.isub, 1) := by decide +kernel
theorem dX9_sung_15 : decode cX9_sung 15 = .ok (.invokestatic 86, 3) := by decide +kernel
theorem dX9_sung_18 : decode cX9_sung 18 = .ok (.ifCond .ne 6, 3) := by decide +kernel
theorem dX9_sung_21 : decode cX9_sung 21 = .ok (.bipush (-2), 2) := by decide +kernel
theorem dX9_sung_23 : decode cX9_sung 23 = .ok (.ireturn, 1) := by decide +kernel
theorem dX9_sung_24 : decode cX9_sung 24 = .ok (.aload_n 0, 1) := by decide +kernel
theorem dX9_sung_25 : decode cX9_sung 25 = .ok (.getfield 32, 3) := by decide +kernel
theorem dX9_sung_28 : decode cX9_sung 28 = .ok (.iload_n 2, 1) := by decide +kernel
theorem dX9_sung_29 : decode cX9_sung 29 = .ok (.iaload, 1) := by decide +kernel
theorem dX9_sung_30 : decode cX9_sung 30 = .ok (.iconst (-1), 1) := by decide +kernel
theorem dX9_sung_31 : decode cX9_sung 31 = .ok (.if_icmp .ne 8, 3) := by decide +kernel
theorem dX9_sung_34 : decode cX9_sung 34 = .ok (.bipush (-4), 2) := by decide +kernel
theorem dX9_sung_36 : decode cX9_sung 36 = .ok (.goto 38, 3) := by decide +kernel
theorem dX9_sung_39 : decode cX9_sung 39 = .ok (.iconst 4, 1) := by decide +kernel
theorem dX9_sung_40 : decode cX9_sung 40 = .ok (.aload_n 0, 1) := by decide +kernel
theorem dX9_sung_41 : decode cX9_sung 41 = .ok (.getfield 35, 3) := by decide +kernel
theorem dX9_sung_44 : decode cX9_sung 44 = .ok (.bipush 8, 2) := by decide +kernel
theorem dX9_sung_46 : decode cX9_sung 46 = .ok (.iload_n 1, 1) := by decide +kernel
theorem dX9_sung_47 : decode cX9_sung 47 = .ok (.imul, 1) := by decide +kernel
theorem dX9_sung_48 : decode cX9_sung 48 = .ok (.aload_n 0, 1) := by decide +kernel
theorem dX9_sung_49 : decode cX9_sung 49 = .ok (.getfield 32, 3) := by decide +kernel
theorem dX9_sung_52 : decode cX9_sung 52 = .ok (.iload_n 2, 1) := by decide +kernel
theorem dX9_sung_53 : decode cX9_sung 53 = .ok (.iaload, 1) := by decide +kernel
theorem dX9_sung_54 : decode cX9_sung 54 = .ok (.iadd, 1) := by decide +kernel
theorem dX9_sung_55 : decode cX9_sung 55 = .ok (.iaload, 1) := by decide +kernel
theorem dX9_sung_56 : decode cX9_sung 56 = .ok (.imul, 1) := by decide +kernel
theorem dX9_sung_57 : decode cX9_sung 57 = .ok (.aload_n 0, 1) := by decide +kernel
theorem dX9_sung_58 : decode cX9_sung 58 = .ok (.getfield 38, 3) := by decide +kernel
theorem dX9_sung_61 : decode cX9_sung 61 = .ok (.bipush 9, 2) := by decide +kernel
theorem dX9_sung_63 : decode cX9_sung 63 = .ok (.iload_n 1, 1) := by decide +kernel
theorem dX9_sung_64 : decode cX9_sung 64 = .ok (.imul, 1) := by decide +kernel
theorem dX9_sung_65 : decode cX9_sung 65 = .ok (.aload_n 0, 1) := by decide +kernel
theorem dX9_sung_66 : decode cX9_sung 66 = .ok (.getfield 26, 3) := by decide +kernel
theorem dX9_sung_69 : decode cX9_sung 69 = .ok (.iload_n 2, 1) := by decide +kernel
theorem dX9_sung_70 : decode cX9_sung 70 = .ok (.iaload, 1) := by decide +kernel
theorem dX9_sung_71 : decode cX9_sung 71 = .ok (.iadd, 1) := by decide +kernel
theorem dX9_sung_72 : decode cX9_sung 72 = .ok (.iaload, 1) := by decide +kernel
theorem dX9_sung_73 : decode cX9_sung 73 = .ok (.iadd, 1) := by decide +kernel
theorem dX9_sung_74 : decode cX9_sung 74 = .ok (.ireturn, 1) := by decide +kernel
theorem dX9_syllable_0 : decode cX9_syllable 0 = .ok (.iload_n 1, 1) := by decide +kernel
theorem dX9_syllable_1 : decode cX9_syllable 1 = .ok (.iconst 0, 1) := by decide +kernel
theorem dX9_syllable_2 : decode cX9_syllable 2 = .ok (.bipush 31, 2) := by decide +kernel
theorem dX9_syllable_4 : decode cX9_syllable 4 = .ok (.invokestatic 86, 3) := by decide +kernel
theorem dX9_syllable_7 : decode cX9_syllable 7 = .ok (.ifCond .ne 6, 3) := by decide +kernel
theorem dX9_syllable_10 : decode cX9_syllable 10 = .ok (.bipush (-3), 2) := by decide +kernel
theorem dX9_syllable_12 : decode cX9_syllable 12 = .ok (.ireturn, 1) := by decide +kernel
theorem dX9_syllable_13 : decode cX9_syllable 13 = .ok (.aload_n 0, 1) := by decide +kernel
theorem dX9_syllable_14 : decode cX9_syllable 14 = .ok (.getfield 124, 3) := by decide +kernel
theorem dX9_syllable_17 : decode cX9_syllable 17 = .ok (.bipush 12, 2) := by decide +kernel
theorem dX9_syllable_19 : decode cX9_syllable 19 = .ok (.if_icmp .ne 6, 3) := by decide +kernel
theorem dX9_syllable_22 : decode cX9_syllable 22 = .ok (.bipush (-5), 2) := by decide +kernel
theorem dX9_syllable_24 : decode cX9_syllable 24 = .ok (.ireturn, 1) := by decide +kernel
theorem dX9_syllable_25 : decode cX9_syllable 25 = .ok (.aload_n 0, 1) := by decide +kernel
theorem dX9_syllable_26 : decode cX9_syllable 26 = .ok (.getfield 41, 3) := by decide +kernel
theorem dX9_syllable_29 : decode cX9_syllable 29 = .ok (.aload_n 0, 1) := by decide +kernel
theorem dX9_syllable_30 : decode cX9_syllable 30 = .ok (.getfield 124, 3) := by decide +kernel
theorem dX9_syllable_33 : decode cX9_syllable 33 = .ok (.iload_n 1, 1) := by decide +kernel
theorem dX9_syllable_34 : decode cX9_syllable 34 = .ok (.iastore, 1) := by decide +kernel
theorem dX9_syllable_35 : decode cX9_syllable 35 = .ok (.aload_n 0, 1) := by decide +kernel
theorem dX9_syllable_36 : decode cX9_syllable 36 = .ok (.dup, 1) := by decide +kernel
theorem dX9_syllable_37 : decode cX9_syllable 37 = .ok (.getfield 124, 3) := by decide +kernel
theorem dX9_syllable_40 : decode cX9_syllable 40 = .ok (.iconst 1, 1) := by decide +kernel
theorem dX9_syllable_41 : decode cX9_syllable 41 = .ok (.iadd, 1) := by decide +kernel
theorem dX9_syllable_42 : decode cX9_syllable 42 = .ok (.putfield 124, 3) := by decide +kernel
theorem dX9_syllable_45 : decode cX9_syllable 45 = .ok (.aload_n 0, 1) := by decide +kernel
theorem dX9_syllable_46 : decode cX9_syllable 46 = .ok (.getfield 124, 3) := by decide +kernel
theorem dX9_syllable_49 : decode cX9_syllable 49 = .ok (.ireturn, 1) := by decide +kernel
theorem dX9_hush_0 : decode cX9_hush 0 = .ok (.aload_n 0, 1) := by decide +kernel
theorem dX9_hush_1 : decode cX9_hush 1 = .ok (.getfield 124, 3) := by decide +kernel
theorem dX9_hush_4 : decode cX9_hush 4 = .ok (.istore_n 1, 1) := by decide +kernel
theorem dX9_hush_5 : decode cX9_hush 5 = .ok (.aload_n 0, 1) := by decide +kernel
theorem dX9_hush_6 : decode cX9_hush 6 = .ok (.iconst 0, 1) := by decide +kernel
theorem dX9_hush_7 : decode cX9_hush 7 = .ok (.putfield 124, 3) := by decide +kernel
theorem dX9_hush_10 : decode cX9_hush 10 = .ok (.iload_n 1, 1) := by decide +kernel
theorem dX9_hush_11 : decode cX9_hush 11 = .ok (.ireturn, 1) := by decide +kernel
theorem dX9_isSung_0 : decode cX9_isSung 0 = .ok (.iconst 4, 1) := by decide +kernel
theorem dX9_isSung_1 : decode cX9_isSung 1 = .ok (.aload_n 0, 1) := by decide +kernel
theorem dX9_isSung_2 : decode cX9_isSung 2 = .ok (.getfield 35, 3) := by decide +kernel
theorem dX9_isSung_5 : decode cX9_isSung 5 = .ok (.bipush 8, 2) := by decide +kernel
theorem dX9_isSung_7 : decode cX9_isSung 7 = .ok (.iload_n 1, 1) := by decide +kernel
theorem dX9_isSung_8 : decode cX9_isSung 8 = .ok (.imul, 1) := by decide +kernel
theorem dX9_isSung_9 : decode cX9_isSung 9 = .ok (.iload 4, 2) := by decide +kernel
theorem dX9_isSung_11 : decode cX9_isSung 11 = .ok (.iadd, 1) := by decide +kernel
theorem dX9_isSung_12 : decode cX9_isSung 12 = .ok (.iaload, 1) := by decide +kernel
theorem dX9_isSung_13 : decode cX9_isSung 13 = .ok (.imul, 1) := by decide +kernel
theorem dX9_isSung_14 : decode cX9_isSung 14 = .ok (.aload_n 0, 1) := by decide +kernel
theorem dX9_isSung_15 : decode cX9_isSung 15 = .ok (.getfield 38, 3) := by decide +kernel
theorem dX9_isSung_18 : decode cX9_isSung 18 = .ok (.bipush 9, 2) := by decide +kernel
theorem dX9_isSung_20 : decode cX9_isSung 20 = .ok (.iload_n 1, 1) := by decide +kernel
theorem dX9_isSung_21 : decode cX9_isSung 21 = .ok (.imul, 1) := by decide +kernel
theorem dX9_isSung_22 : decode cX9_isSung 22 = .ok (.iload_n 3, 1) := by decide +kernel
theorem dX9_isSung_23 : decode cX9_isSung 23 = .ok (.iadd, 1) := by decide +kernel
theorem dX9_isSung_24 : decode cX9_isSung 24 = .ok (.iaload, 1) := by decide +kernel
theorem dX9_isSung_25 : decode cX9_isSung 25 = .ok (.iadd, 1) := by decide +kernel
theorem dX9_isSung_26 : decode cX9_isSung 26 = .ok (.aload_n 0, 1) := by decide +kernel
theorem dX9_isSung_27 : decode cX9_isSung 27 = .ok (.getfield 41, 3) := by decide +kernel
theorem dX9_isSung_30 : decode cX9_isSung 30 = .ok (.iload_n 2, 1) := by decide +kernel
theorem dX9_isSung_31 : decode cX9_isSung 31 = .ok (.iaload, 1) := by decide +kernel
theorem dX9_isSung_32 : decode cX9_isSung 32 = .ok (.if_icmp .ne 7, 3) := by decide +kernel
theorem dX9_isSung_35 : decode cX9_isSung 35 = .ok (.iconst 1, 1) := by decide +kernel
theorem dX9_isSung_36 : decode cX9_isSung 36 = .ok (.goto 4, 3) := by decide +kernel
theorem dX9_isSung_39 : decode cX9_isSung 39 = .ok (.iconst 0, 1) := by decide +kernel
theorem dX9_isSung_40 : decode cX9_isSung 40 = .ok (.ireturn, 1) := by decide +kernel
theorem dX9_readBy_0 : decode cX9_readBy 0 = .ok (.iconst 0, 1) := by decide +kernel
theorem dX9_readBy_1 : decode cX9_readBy 1 = .ok (.istore_n 2, 1) := by decide +kernel
theorem dX9_readBy_2 : decode cX9_readBy 2 = .ok (.iload_n 2, 1) := by decide +kernel
theorem dX9_readBy_3 : decode cX9_readBy 3 = .ok (.bipush 10, 2) := by decide +kernel
theorem dX9_readBy_5 : decode cX9_readBy 5 = .ok (.if_icmp .ge 24, 3) := by decide +kernel
theorem dX9_readBy_8 : decode cX9_readBy 8 = .ok (.aload_n 0, 1) := by decide +kernel
theorem dX9_readBy_9 : decode cX9_readBy 9 = .ok (.getfield 44, 3) := by decide +kernel
theorem dX9_readBy_12 : decode cX9_readBy 12 = .ok (.bipush 10, 2) := by decide +kernel
theorem dX9_readBy_14 : decode cX9_readBy 14 = .ok (.aload_n 0, 1) := by decide +kernel
theorem dX9_readBy_15 : decode cX9_readBy 15 = .ok (.getfield 124, 3) := by decide +kernel
theorem dX9_readBy_18 : decode cX9_readBy 18 = .ok (.imul, 1) := by decide +kernel
theorem dX9_readBy_19 : decode cX9_readBy 19 = .ok (.iload_n 2, 1) := by decide +kernel
theorem dX9_readBy_20 : decode cX9_readBy 20 = .ok (.iadd, 1) := by decide +kernel
theorem dX9_readBy_21 : decode cX9_readBy 21 = .ok (.iconst 1, 1) := by decide +kernel
theorem dX9_readBy_22 : decode cX9_readBy 22 = .ok (.iastore, 1) := by decide +kernel
theorem dX9_readBy_23 : decode cX9_readBy 23 = .ok (.iinc 2 1, 3) := by decide +kernel
theorem dX9_readBy_26 : decode cX9_readBy 26 = .ok (.goto (-24), 3) := by decide +kernel
theorem dX9_readBy_29 : decode cX9_readBy 29 = .ok (.aload_n 0, 1) := by decide +kernel
theorem dX9_readBy_30 : decode cX9_readBy 30 = .ok (.getfield 124, 3) := by decide +kernel
theorem dX9_readBy_33 : decode cX9_readBy 33 = .ok (.iconst 1, 1) := by decide +kernel
theorem dX9_readBy_34 : decode cX9_readBy 34 = .ok (.isub, 1) := by decide +kernel
theorem dX9_readBy_35 : decode cX9_readBy 35 = .ok (.istore_n 2, 1) := by decide +kernel
theorem dX9_readBy_36 : decode cX9_readBy 36 = .ok (.iload_n 2, 1) := by decide +kernel
theorem dX9_readBy_37 : decode cX9_readBy 37 = .ok (.ifCond .lt 127, 3) := by decide +kernel
theorem dX9_readBy_40 : decode cX9_readBy 40 = .ok (.iconst 0, 1) := by decide +kernel
theorem dX9_readBy_41 : decode cX9_readBy 41 = .ok (.istore_n 3, 1) := by decide +kernel
theorem dX9_readBy_42 : decode cX9_readBy 42 = .ok (.iload_n 3, 1) := by decide +kernel
theorem dX9_readBy_43 : decode cX9_readBy 43 = .ok (.bipush 10, 2) := by decide +kernel
theorem dX9_readBy_45 : decode cX9_readBy 45 = .ok (.if_icmp .ge 113, 3) := by decide +kernel
theorem dX9_readBy_48 : decode cX9_readBy 48 = .ok (.iconst 0, 1) := by decide +kernel
theorem dX9_readBy_49 : decode cX9_readBy 49 = .ok (.istore 4, 2) := by decide +kernel
theorem dX9_readBy_51 : decode cX9_readBy 51 = .ok (.iconst 0, 1) := by decide +kernel
theorem dX9_readBy_52 : decode cX9_readBy 52 = .ok (.istore 5, 2) := by decide +kernel
theorem dX9_readBy_54 : decode cX9_readBy 54 = .ok (.iload 5, 2) := by decide +kernel
theorem dX9_readBy_56 : decode cX9_readBy 56 = .ok (.bipush 9, 2) := by decide +kernel
theorem dX9_readBy_58 : decode cX9_readBy 58 = .ok (.if_icmp .ge 81, 3) := by decide +kernel
theorem dX9_readBy_61 : decode cX9_readBy 61 = .ok (.iconst 0, 1) := by decide +kernel
theorem dX9_readBy_62 : decode cX9_readBy 62 = .ok (.istore 6, 2) := by decide +kernel
theorem dX9_readBy_64 : decode cX9_readBy 64 = .ok (.iload 6, 2) := by decide +kernel
theorem dX9_readBy_66 : decode cX9_readBy 66 = .ok (.bipush 8, 2) := by decide +kernel
theorem dX9_readBy_68 : decode cX9_readBy 68 = .ok (.if_icmp .ge 65, 3) := by decide +kernel
theorem dX9_readBy_71 : decode cX9_readBy 71 = .ok (.aload_n 0, 1) := by decide +kernel
theorem dX9_readBy_72 : decode cX9_readBy 72 = .ok (.iload_n 1, 1) := by decide +kernel
theorem dX9_readBy_73 : decode cX9_readBy 73 = .ok (.iload_n 2, 1) := by decide +kernel
theorem dX9_readBy_74 : decode cX9_readBy 74 = .ok (.iload 5, 2) := by decide +kernel
theorem dX9_readBy_76 : decode cX9_readBy 76 = .ok (.iload 6, 2) := by decide +kernel
theorem dX9_readBy_78 : decode cX9_readBy 78 = .ok (.invokevirtual 127, 3) := by decide +kernel
theorem dX9_readBy_81 : decode cX9_readBy 81 = .ok (.ifCond .eq 46, 3) := by decide +kernel
theorem dX9_readBy_84 : decode cX9_readBy 84 = .ok (.aload_n 0, 1) := by decide +kernel
theorem dX9_readBy_85 : decode cX9_readBy 85 = .ok (.iload 6, 2) := by decide +kernel
theorem dX9_readBy_87 : decode cX9_readBy 87 = .ok (.iload_n 3, 1) := by decide +kernel
theorem dX9_readBy_88 : decode cX9_readBy 88 = .ok (.bipush 9, 2) := by decide +kernel
theorem dX9_readBy_90 : decode cX9_readBy 90 = .ok (.if_icmp .ne 7, 3) := by decide +kernel
theorem dX9_readBy_93 : decode cX9_readBy 93 = .ok (.iconst (-1), 1) := by decide +kernel
theorem dX9_readBy_94 : decode cX9_readBy 94 = .ok (.goto 4, 3) := by decide +kernel
theorem dX9_readBy_97 : decode cX9_readBy 97 = .ok (.iload_n 3, 1) := by decide +kernel
theorem dX9_readBy_98 : decode cX9_readBy 98 = .ok (.iload 5, 2) := by decide +kernel
theorem dX9_readBy_100 : decode cX9_readBy 100 = .ok (.invokevirtual 98, 3) := by decide +kernel
theorem dX9_readBy_103 : decode cX9_readBy 103 = .ok (.ifCond .eq 24, 3) := by decide +kernel
theorem dX9_readBy_106 : decode cX9_readBy 106 = .ok (.iload 4, 2) := by decide +kernel
theorem dX9_readBy_108 : decode cX9_readBy 108 = .ok (.aload_n 0, 1) := by decide +kernel
theorem dX9_readBy_109 : decode cX9_readBy 109 = .ok (.getfield 44, 3) := by decide +kernel
theorem dX9_readBy_112 : decode cX9_readBy 112 = .ok (.bipush 10, 2) := by decide +kernel
theorem dX9_readBy_114 : decode cX9_readBy 114 = .ok (.iload_n 2, 1) := by decide +kernel
theorem dX9_readBy_115 : decode cX9_readBy 115 = .ok (.iconst 1, 1) := by decide +kernel
theorem dX9_readBy_116 : decode cX9_readBy 116 = .ok (.iadd, 1) := by decide +kernel
theorem dX9_readBy_117 : decode cX9_readBy 117 = .ok (.imul, 1) := by decide +kernel
theorem dX9_readBy_118 : decode cX9_readBy 118 = .ok (.iload 5, 2) := by decide +kernel
theorem dX9_readBy_120 : decode cX9_readBy 120 = .ok (.iadd, 1) := by decide +kernel
theorem dX9_readBy_121 : decode cX9_readBy 121 = .ok (.iaload, 1) := by decide +kernel
theorem dX9_readBy_122 : decode cX9_readBy 122 = .ok (.invokestatic 131, 3) := by decide +kernel
theorem dX9_readBy_125 : decode cX9_readBy 125 = .ok (.istore 4, 2) := by decide +kernel
theorem dX9_readBy_127 : decode cX9_readBy 127 = .ok (.iinc 6 1, 3) := by decide +kernel
theorem dX9_readBy_130 : decode cX9_readBy 130 = .ok (.goto (-66), 3) := by decide +kernel
theorem dX9_readBy_133 : decode cX9_readBy 133 = .ok (.iinc 5 1, 3) := by decide +kernel
theorem dX9_readBy_136 : decode cX9_readBy 136 = .ok (.goto (-82), 3) := by decide +kernel
theorem dX9_readBy_139 : decode cX9_readBy 139 = .ok (.aload_n 0, 1) := by decide +kernel
theorem dX9_readBy_140 : decode cX9_readBy 140 = .ok (.getfield 44, 3) := by decide +kernel
theorem dX9_readBy_143 : decode cX9_readBy 143 = .ok (.bipush 10, 2) := by decide +kernel
theorem dX9_readBy_145 : decode cX9_readBy 145 = .ok (.iload_n 2, 1) := by decide +kernel
theorem dX9_readBy_146 : decode cX9_readBy 146 = .ok (.imul, 1) := by decide +kernel
theorem dX9_readBy_147 : decode cX9_readBy 147 = .ok (.iload_n 3, 1) := by decide +kernel
theorem dX9_readBy_148 : decode cX9_readBy 148 = .ok (.iadd, 1) := by decide +kernel
theorem dX9_readBy_149 : decode cX9_readBy 149 = .ok (.iload 4, 2) := by decide +kernel
theorem dX9_readBy_151 : decode cX9_readBy 151 = .ok (.iastore, 1) := by decide +kernel
theorem dX9_readBy_152 : decode cX9_readBy 152 = .ok (.iinc 3 1, 3) := by decide +kernel
theorem dX9_readBy_155 : decode cX9_readBy 155 = .ok (.goto (-113), 3) := by decide +kernel
theorem dX9_readBy_158 : decode cX9_readBy 158 = .ok (.iinc 2 (-1), 3) := by decide +kernel
theorem dX9_readBy_161 : decode cX9_readBy 161 = .ok (.goto (-125), 3) := by decide +kernel
theorem dX9_readBy_164 : decode cX9_readBy 164 = .ok (.aload_n 0, 1) := by decide +kernel
theorem dX9_readBy_165 : decode cX9_readBy 165 = .ok (.getfield 44, 3) := by decide +kernel
theorem dX9_readBy_168 : decode cX9_readBy 168 = .ok (.bipush 9, 2) := by decide +kernel
theorem dX9_readBy_170 : decode cX9_readBy 170 = .ok (.iaload, 1) := by decide +kernel
theorem dX9_readBy_171 : decode cX9_readBy 171 = .ok (.ireturn, 1) := by decide +kernel
theorem dX9_read_0 : decode cX9_read 0 = .ok (.iload_n 1, 1) := by decide +kernel
theorem dX9_read_1 : decode cX9_read 1 = .ok (.invokestatic 121, 3) := by decide +kernel
theorem dX9_read_4 : decode cX9_read 4 = .ok (.ifCond .eq 11, 3) := by decide +kernel
theorem dX9_read_7 : decode cX9_read 7 = .ok (.aload_n 0, 1) := by decide +kernel
theorem dX9_read_8 : decode cX9_read 8 = .ok (.iload_n 1, 1) := by decide +kernel
theorem dX9_read_9 : decode cX9_read 9 = .ok (.invokevirtual 135, 3) := by decide +kernel
theorem dX9_read_12 : decode cX9_read 12 = .ok (.goto 5, 3) := by decide +kernel
theorem dX9_read_15 : decode cX9_read 15 = .ok (.bipush (-2), 2) := by decide +kernel
theorem dX9_read_17 : decode cX9_read 17 = .ok (.ireturn, 1) := by decide +kernel
theorem dX9_first_0 : decode cX9_first 0 = .ok (.iload_n 1, 1) := by decide +kernel
theorem dX9_first_1 : decode cX9_first 1 = .ok (.invokestatic 121, 3) := by decide +kernel
theorem dX9_first_4 : decode cX9_first 4 = .ok (.ifCond .ne 6, 3) := by decide +kernel
theorem dX9_first_7 : decode cX9_first 7 = .ok (.bipush (-2), 2) := by decide +kernel
theorem dX9_first_9 : decode cX9_first 9 = .ok (.ireturn, 1) := by decide +kernel
theorem dX9_first_10 : decode cX9_first 10 = .ok (.iload_n 2, 1) := by decide +kernel
theorem dX9_first_11 : decode cX9_first 11 = .ok (.ifCond .ge 6, 3) := by decide +kernel
theorem dX9_first_14 : decode cX9_first 14 = .ok (.bipush (-3), 2) := by decide +kernel
theorem dX9_first_16 : decode cX9_first 16 = .ok (.ireturn, 1) := by decide +kernel
theorem dX9_first_17 : decode cX9_first 17 = .ok (.aload_n 0, 1) := by decide +kernel
theorem dX9_first_18 : decode cX9_first 18 = .ok (.iload_n 1, 1) := by decide +kernel
theorem dX9_first_19 : decode cX9_first 19 = .ok (.invokevirtual 135, 3) := by decide +kernel
theorem dX9_first_22 : decode cX9_first 22 = .ok (.ifCond .eq 11, 3) := by decide +kernel
theorem dX9_first_25 : decode cX9_first 25 = .ok (.iload_n 2, 1) := by decide +kernel
theorem dX9_first_26 : decode cX9_first 26 = .ok (.aload_n 0, 1) := by decide +kernel
theorem dX9_first_27 : decode cX9_first 27 = .ok (.getfield 124, 3) := by decide +kernel
theorem dX9_first_30 : decode cX9_first 30 = .ok (.if_icmp .lt 5, 3) := by decide +kernel
theorem dX9_first_33 : decode cX9_first 33 = .ok (.iconst (-1), 1) := by decide +kernel
theorem dX9_first_34 : decode cX9_first 34 = .ok (.ireturn, 1) := by decide +kernel
theorem dX9_first_35 : decode cX9_first 35 = .ok (.bipush 9, 2) := by decide +kernel
theorem dX9_first_37 : decode cX9_first 37 = .ok (.istore_n 3, 1) := by decide +kernel
theorem dX9_first_38 : decode cX9_first 38 = .ok (.iconst (-1), 1) := by decide +kernel
theorem dX9_first_39 : decode cX9_first 39 = .ok (.istore 4, 2) := by decide +kernel
theorem dX9_first_41 : decode cX9_first 41 = .ok (.iconst 0, 1) := by decide +kernel
theorem dX9_first_42 : decode cX9_first 42 = .ok (.istore 5, 2) := by decide +kernel
theorem dX9_first_44 : decode cX9_first 44 = .ok (.iload 5, 2) := by decide +kernel
theorem dX9_first_46 : decode cX9_first 46 = .ok (.iload_n 2, 1) := by decide +kernel
theorem dX9_first_47 : decode cX9_first 47 = .ok (.if_icmp .gt 118, 3) := by decide +kernel
theorem dX9_first_50 : decode cX9_first 50 = .ok (.iconst (-1), 1) := by decide +kernel
theorem dX9_first_51 : decode cX9_first 51 = .ok (.istore 4, 2) := by decide +kernel
theorem dX9_first_53 : decode cX9_first 53 = .ok (.iconst 0, 1) := by decide +kernel
theorem dX9_first_54 : decode cX9_first 54 = .ok (.istore 6, 2) := by decide +kernel
theorem dX9_first_56 : decode cX9_first 56 = .ok (.iload 6, 2) := by decide +kernel
theorem dX9_first_58 : decode cX9_first 58 = .ok (.bipush 72, 2) := by decide +kernel
theorem dX9_first_60 : decode cX9_first 60 = .ok (.if_icmp .ge 93, 3) := by decide +kernel
theorem dX9_first_63 : decode cX9_first 63 = .ok (.iload 4, 2) := by decide +kernel
theorem dX9_first_65 : decode cX9_first 65 = .ok (.iconst (-1), 1) := by decide +kernel
theorem dX9_first_66 : decode cX9_first 66 = .ok (.if_icmp .ne 87, 3) := by decide +kernel
theorem dX9_first_69 : decode cX9_first 69 = .ok (.iload 6, 2) := by decide +kernel
theorem dX9_first_71 : decode cX9_first 71 = .ok (.bipush 8, 2) := by decide +kernel
theorem dX9_first_73 : decode cX9_first 73 = .ok (.idiv, 1) := by decide +kernel
theorem dX9_first_74 : decode cX9_first 74 = .ok (.istore 7, 2) := by decide +kernel
theorem dX9_first_76 : decode cX9_first 76 = .ok (.iload 6, 2) := by decide +kernel
theorem dX9_first_78 : decode cX9_first 78 = .ok (.bipush 8, 2) := by decide +kernel
theorem dX9_first_80 : decode cX9_first 80 = .ok (.irem, 1) := by decide +kernel
theorem dX9_first_81 : decode cX9_first 81 = .ok (.istore 8, 2) := by decide +kernel
theorem dX9_first_83 : decode cX9_first 83 = .ok (.aload_n 0, 1) := by decide +kernel
theorem dX9_first_84 : decode cX9_first 84 = .ok (.iload_n 1, 1) := by decide +kernel
theorem dX9_first_85 : decode cX9_first 85 = .ok (.iload 5, 2) := by decide +kernel
theorem dX9_first_87 : decode cX9_first 87 = .ok (.iload 7, 2) := by decide +kernel
theorem dX9_first_89 : decode cX9_first 89 = .ok (.iload 8, 2) := by decide +kernel
theorem dX9_first_91 : decode cX9_first 91 = .ok (.invokevirtual 127, 3) := by decide +kernel
theorem dX9_first_94 : decode cX9_first 94 = .ok (.ifCond .eq 53, 3) := by decide +kernel
theorem dX9_first_97 : decode cX9_first 97 = .ok (.aload_n 0, 1) := by decide +kernel
theorem dX9_first_98 : decode cX9_first 98 = .ok (.iload 8, 2) := by decide +kernel
theorem dX9_first_100 : decode cX9_first 100 = .ok (.iload_n 3, 1) := by decide +kernel
theorem dX9_first_101 : decode cX9_first 101 = .ok (.bipush 9, 2) := by decide +kernel
theorem dX9_first_103 : decode cX9_first 103 = .ok (.if_icmp .ne 7, 3) := by decide +kernel
theorem dX9_first_106 : decode cX9_first 106 = .ok (.iconst (-1), 1) := by decide +kernel
theorem dX9_first_107 : decode cX9_first 107 = .ok (.goto 4, 3) := by decide +kernel
theorem dX9_first_110 : decode cX9_first 110 = .ok (.iload_n 3, 1) := by decide +kernel
theorem dX9_first_111 : decode cX9_first 111 = .ok (.iload 7, 2) := by decide +kernel
theorem dX9_first_113 : decode cX9_first 113 = .ok (.invokevirtual 98, 3) := by decide +kernel
theorem dX9_first_116 : decode cX9_first 116 = .ok (.ifCond .eq 31, 3) := by decide +kernel
theorem dX9_first_119 : decode cX9_first 119 = .ok (.aload_n 0, 1) := by decide +kernel
theorem dX9_first_120 : decode cX9_first 120 = .ok (.getfield 44, 3) := by decide +kernel
theorem dX9_first_123 : decode cX9_first 123 = .ok (.bipush 10, 2) := by decide +kernel
theorem dX9_first_125 : decode cX9_first 125 = .ok (.iload 5, 2) := by decide +kernel
theorem dX9_first_127 : decode cX9_first 127 = .ok (.iconst 1, 1) := by decide +kernel
theorem dX9_first_128 : decode cX9_first 128 = .ok (.iadd, 1) := by decide +kernel
theorem dX9_first_129 : decode cX9_first 129 = .ok (.imul, 1) := by decide +kernel
theorem dX9_first_130 : decode cX9_first 130 = .ok (.iload 7, 2) := by decide +kernel
theorem dX9_first_132 : decode cX9_first 132 = .ok (.iadd, 1) := by decide +kernel
theorem dX9_first_133 : decode cX9_first 133 = .ok (.iaload, 1) := by decide +kernel
theorem dX9_first_134 : decode cX9_first 134 = .ok (.ifCond .le 13, 3) := by decide +kernel
theorem dX9_first_137 : decode cX9_first 137 = .ok (.bipush 16, 2) := by decide +kernel
theorem dX9_first_139 : decode cX9_first 139 = .ok (.iload 7, 2) := by decide +kernel
theorem dX9_first_141 : decode cX9_first 141 = .ok (.imul, 1) := by decide +kernel
theorem dX9_first_142 : decode cX9_first 142 = .ok (.iload 8, 2) := by decide +kernel
theorem dX9_first_144 : decode cX9_first 144 = .ok (.iadd, 1) := by decide +kernel
theorem dX9_first_145 : decode cX9_first 145 = .ok (.istore 4, 2) := by decide +kernel
theorem dX9_first_147 : decode cX9_first 147 = .ok (.iinc 6 1, 3) := by decide +kernel
theorem dX9_first_150 : decode cX9_first 150 = .ok (.goto (-94), 3) := by decide +kernel
theorem dX9_first_153 : decode cX9_first 153 = .ok (.iload 4, 2) := by decide +kernel
theorem dX9_first_155 : decode cX9_first 155 = .ok (.bipush 16, 2) := by decide +kernel
theorem dX9_first_157 : decode cX9_first 157 = .ok (.idiv, 1) := by decide +kernel
theorem dX9_first_158 : decode cX9_first 158 = .ok (.istore_n 3, 1) := by decide +kernel
theorem dX9_first_159 : decode cX9_first 159 = .ok (.iinc 5 1, 3) := by decide +kernel
theorem dX9_first_162 : decode cX9_first 162 = .ok (.goto (-118), 3) := by decide +kernel
theorem dX9_first_165 : decode cX9_first 165 = .ok (.iload 4, 2) := by decide +kernel
theorem dX9_first_167 : decode cX9_first 167 = .ok (.ireturn, 1) := by decide +kernel
theorem dX9_home_0 : decode cX9_home 0 = .ok (.iconst (-1), 1) := by decide +kernel
theorem dX9_home_1 : decode cX9_home 1 = .ok (.istore_n 1, 1) := by decide +kernel
theorem dX9_home_2 : decode cX9_home 2 = .ok (.iconst 0, 1) := by decide +kernel
theorem dX9_home_3 : decode cX9_home 3 = .ok (.istore_n 2, 1) := by decide +kernel
theorem dX9_home_4 : decode cX9_home 4 = .ok (.iconst 0, 1) := by decide +kernel
theorem dX9_home_5 : decode cX9_home 5 = .ok (.istore_n 3, 1) := by decide +kernel
theorem dX9_home_6 : decode cX9_home 6 = .ok (.iload_n 3, 1) := by decide +kernel
theorem dX9_home_7 : decode cX9_home 7 = .ok (.iconst 3, 1) := by decide +kernel
theorem dX9_home_8 : decode cX9_home 8 = .ok (.if_icmp .ge 37, 3) := by decide +kernel
theorem dX9_home_11 : decode cX9_home 11 = .ok (.aload_n 0, 1) := by decide +kernel
theorem dX9_home_12 : decode cX9_home 12 = .ok (.iload_n 3, 1) := by decide +kernel
theorem dX9_home_13 : decode cX9_home 13 = .ok (.invokevirtual 135, 3) := by decide +kernel
theorem dX9_home_16 : decode cX9_home 16 = .ok (.istore 4, 2) := by decide +kernel
theorem dX9_home_18 : decode cX9_home 18 = .ok (.iload 4, 2) := by decide +kernel
theorem dX9_home_20 : decode cX9_home 20 = .ok (.ifCond .le 19, 3) := by decide +kernel
theorem dX9_home_23 : decode cX9_home 23 = .ok (.iload_n 1, 1) := by decide +kernel
theorem dX9_home_24 : decode cX9_home 24 = .ok (.iconst (-1), 1) := by decide +kernel
theorem dX9_home_25 : decode cX9_home 25 = .ok (.if_icmp .eq 9, 3) := by decide +kernel
theorem dX9_home_28 : decode cX9_home 28 = .ok (.iload 4, 2) := by decide +kernel
theorem dX9_home_30 : decode cX9_home 30 = .ok (.iload_n 2, 1) := by decide +kernel
theorem dX9_home_31 : decode cX9_home 31 = .ok (.if_icmp .ge 8, 3) := by decide +kernel
theorem dX9_home_34 : decode cX9_home 34 = .ok (.iload_n 3, 1) := by decide +kernel
theorem dX9_home_35 : decode cX9_home 35 = .ok (.istore_n 1, 1) := by decide +kernel
theorem dX9_home_36 : decode cX9_home 36 = .ok (.iload 4, 2) := by decide +kernel
theorem dX9_home_38 : decode cX9_home 38 = .ok (.istore_n 2, 1) := by decide +kernel
theorem dX9_home_39 : decode cX9_home 39 = .ok (.iinc 3 1, 3) := by decide +kernel
theorem dX9_home_42 : decode cX9_home 42 = .ok (.goto (-36), 3) := by decide +kernel
theorem dX9_home_45 : decode cX9_home 45 = .ok (.iload_n 1, 1) := by decide +kernel
theorem dX9_home_46 : decode cX9_home 46 = .ok (.ireturn, 1) := by decide +kernel
theorem dX9_rule_0 : decode cX9_rule 0 = .ok (.iload_n 1, 1) := by decide +kernel
theorem dX9_rule_1 : decode cX9_rule 1 = .ok (.invokestatic 138, 3) := by decide +kernel
theorem dX9_rule_4 : decode cX9_rule 4 = .ok (.ifCond .ne 6, 3) := by decide +kernel
theorem dX9_rule_7 : decode cX9_rule 7 = .ok (.bipush (-2), 2) := by decide +kernel
theorem dX9_rule_9 : decode cX9_rule 9 = .ok (.ireturn, 1) := by decide +kernel
theorem dX9_rule_10 : decode cX9_rule 10 = .ok (.iload_n 2, 1) := by decide +kernel
theorem dX9_rule_11 : decode cX9_rule 11 = .ok (.iconst 1, 1) := by decide +kernel
theorem dX9_rule_12 : decode cX9_rule 12 = .ok (.iconst 4, 1) := by decide +kernel
theorem dX9_rule_13 : decode cX9_rule 13 = .ok (.invokestatic 86, 3) := by decide +kernel
theorem dX9_rule_16 : decode cX9_rule 16 = .ok (.ifCond .ne 6, 3) := by decide +kernel
theorem dX9_rule_19 : decode cX9_rule 19 = .ok (.bipush (-3), 2) := by decide +kernel
theorem dX9_rule_21 : decode cX9_rule 21 = .ok (.ireturn, 1) := by decide +kernel
theorem dX9_rule_22 : decode cX9_rule 22 = .ok (.iconst 0, 1) := by decide +kernel
theorem dX9_rule_23 : decode cX9_rule 23 = .ok (.istore 4, 2) := by decide +kernel
theorem dX9_rule_25 : decode cX9_rule 25 = .ok (.iload 4, 2) := by decide +kernel
theorem dX9_rule_27 : decode cX9_rule 27 = .ok (.iload_n 2, 1) := by decide +kernel
theorem dX9_rule_28 : decode cX9_rule 28 = .ok (.if_icmp .ge 26, 3) := by decide +kernel
theorem dX9_rule_31 : decode cX9_rule 31 = .ok (.iload_n 3, 1) := by decide +kernel
theorem dX9_rule_32 : decode cX9_rule 32 = .ok (.iconst 4, 1) := by decide +kernel
theorem dX9_rule_33 : decode cX9_rule 33 = .ok (.iload 4, 2) := by decide +kernel
theorem dX9_rule_35 : decode cX9_rule 35 = .ok (.imul, 1) := by decide +kernel
theorem dX9_rule_36 : decode cX9_rule 36 = .ok (.ishr, 1) := by decide +kernel
theorem dX9_rule_37 : decode cX9_rule 37 = .ok (.bipush 15, 2) := by decide +kernel
theorem dX9_rule_39 : decode cX9_rule 39 = .ok (.iand, 1) := by decide +kernel
theorem dX9_rule_40 : decode cX9_rule 40 = .ok (.bipush 10, 2) := by decide +kernel
theorem dX9_rule_42 : decode cX9_rule 42 = .ok (.if_icmp .le 6, 3) := by decide +kernel
theorem dX9_rule_45 : decode cX9_rule 45 = .ok (.bipush (-3), 2) := by decide +kernel
theorem dX9_rule_47 : decode cX9_rule 47 = .ok (.ireturn, 1) := by decide +kernel
theorem dX9_rule_48 : decode cX9_rule 48 = .ok (.iinc 4 1, 3) := by decide +kernel
theorem dX9_rule_51 : decode cX9_rule 51 = .ok (.goto (-26), 3) := by decide +kernel
theorem dX9_rule_54 : decode cX9_rule 54 = .ok (.iconst 0, 1) := by decide +kernel
theorem dX9_rule_55 : decode cX9_rule 55 = .ok (.istore 4, 2) := by decide +kernel
theorem dX9_rule_57 : decode cX9_rule 57 = .ok (.iload 4, 2) := by decide +kernel
theorem dX9_rule_59 : decode cX9_rule 59 = .ok (.aload_n 0, 1) := by decide +kernel
theorem dX9_rule_60 : decode cX9_rule 60 = .ok (.getfield 141, 3) := by decide +kernel
theorem dX9_rule_63 : decode cX9_rule 63 = .ok (.if_icmp .ge 23, 3) := by decide +kernel
theorem dX9_rule_66 : decode cX9_rule 66 = .ok (.aload_n 0, 1) := by decide +kernel
theorem dX9_rule_67 : decode cX9_rule 67 = .ok (.getfield 56, 3) := by decide +kernel
theorem dX9_rule_70 : decode cX9_rule 70 = .ok (.iload 4, 2) := by decide +kernel
theorem dX9_rule_72 : decode cX9_rule 72 = .ok (.iaload, 1) := by decide +kernel
theorem dX9_rule_73 : decode cX9_rule 73 = .ok (.iload_n 1, 1) := by decide +kernel
theorem dX9_rule_74 : decode cX9_rule 74 = .ok (.if_icmp .ne 6, 3) := by decide +kernel
theorem dX9_rule_77 : decode cX9_rule 77 = .ok (.bipush (-4), 2) := by decide +kernel
theorem dX9_rule_79 : decode cX9_rule 79 = .ok (.ireturn, 1) := by decide +kernel
theorem dX9_rule_80 : decode cX9_rule 80 = .ok (.iinc 4 1, 3) := by decide +kernel
theorem dX9_rule_83 : decode cX9_rule 83 = .ok (.goto (-26), 3) := by decide +kernel
theorem dX9_rule_86 : decode cX9_rule 86 = .ok (.aload_n 0, 1) := by decide +kernel
theorem dX9_rule_87 : decode cX9_rule 87 = .ok (.getfield 47, 3) := by decide +kernel
theorem dX9_rule_90 : decode cX9_rule 90 = .ok (.iload_n 1, 1) := by decide +kernel
theorem dX9_rule_91 : decode cX9_rule 91 = .ok (.iload_n 2, 1) := by decide +kernel
theorem dX9_rule_92 : decode cX9_rule 92 = .ok (.iastore, 1) := by decide +kernel
theorem dX9_rule_93 : decode cX9_rule 93 = .ok (.iconst 0, 1) := by decide +kernel
theorem dX9_rule_94 : decode cX9_rule 94 = .ok (.istore 4, 2) := by decide +kernel
theorem dX9_rule_96 : decode cX9_rule 96 = .ok (.iload 4, 2) := by decide +kernel
theorem dX9_rule_98 : decode cX9_rule 98 = .ok (.iload_n 2, 1) := by decide +kernel
theorem dX9_rule_99 : decode cX9_rule 99 = .ok (.if_icmp .ge 29, 3) := by decide +kernel
theorem dX9_rule_102 : decode cX9_rule 102 = .ok (.aload_n 0, 1) := by decide +kernel
theorem dX9_rule_103 : decode cX9_rule 103 = .ok (.getfield 50, 3) := by decide +kernel
theorem dX9_rule_106 : decode cX9_rule 106 = .ok (.iconst 4, 1) := by decide +kernel
theorem dX9_rule_107 : decode cX9_rule 107 = .ok (.iload_n 1, 1) := by decide +kernel
theorem dX9_rule_108 : decode cX9_rule 108 = .ok (.imul, 1) := by decide +kernel
