theorem dX9_rule_109 : decode cX9_rule 109 = .ok (.iload 4, 2) := by decide +kernel
theorem dX9_rule_111 : decode cX9_rule 111 = .ok (.iadd, 1) := by decide +kernel
theorem dX9_rule_112 : decode cX9_rule 112 = .ok (.iload_n 3, 1) := by decide +kernel
theorem dX9_rule_113 : decode cX9_rule 113 = .ok (.iconst 4, 1) := by decide +kernel
theorem dX9_rule_114 : decode cX9_rule 114 = .ok (.iload 4, 2) := by decide +kernel
theorem dX9_rule_116 : decode cX9_rule 116 = .ok (.imul, 1) := by decide +kernel
theorem dX9_rule_117 : decode cX9_rule 117 = .ok (.ishr, 1) := by decide +kernel
theorem dX9_rule_118 : decode cX9_rule 118 = .ok (.bipush 15, 2) := by decide +kernel
theorem dX9_rule_120 : decode cX9_rule 120 = .ok (.iand, 1) := by decide +kernel
theorem dX9_rule_121 : decode cX9_rule 121 = .ok (.iastore, 1) := by decide +kernel
theorem dX9_rule_122 : decode cX9_rule 122 = .ok (.iinc 4 1, 3) := by decide +kernel
theorem dX9_rule_125 : decode cX9_rule 125 = .ok (.goto (-29), 3) := by decide +kernel
theorem dX9_rule_128 : decode cX9_rule 128 = .ok (.iconst 1, 1) := by decide +kernel
theorem dX9_rule_129 : decode cX9_rule 129 = .ok (.ireturn, 1) := by decide +kernel
theorem dX9_note_0 : decode cX9_note 0 = .ok (.iload_n 1, 1) := by decide +kernel
theorem dX9_note_1 : decode cX9_note 1 = .ok (.invokestatic 95, 3) := by decide +kernel
theorem dX9_note_4 : decode cX9_note 4 = .ok (.ifCond .ne 6, 3) := by decide +kernel
theorem dX9_note_7 : decode cX9_note 7 = .ok (.bipush (-2), 2) := by decide +kernel
theorem dX9_note_9 : decode cX9_note 9 = .ok (.ireturn, 1) := by decide +kernel
theorem dX9_note_10 : decode cX9_note 10 = .ok (.aload_n 0, 1) := by decide +kernel
theorem dX9_note_11 : decode cX9_note 11 = .ok (.getfield 144, 3) := by decide +kernel
theorem dX9_note_14 : decode cX9_note 14 = .ok (.bipush 16, 2) := by decide +kernel
theorem dX9_note_16 : decode cX9_note 16 = .ok (.if_icmp .ne 6, 3) := by decide +kernel
theorem dX9_note_19 : decode cX9_note 19 = .ok (.bipush (-5), 2) := by decide +kernel
theorem dX9_note_21 : decode cX9_note 21 = .ok (.ireturn, 1) := by decide +kernel
theorem dX9_note_22 : decode cX9_note 22 = .ok (.aload_n 0, 1) := by decide +kernel
theorem dX9_note_23 : decode cX9_note 23 = .ok (.getfield 53, 3) := by decide +kernel
theorem dX9_note_26 : decode cX9_note 26 = .ok (.aload_n 0, 1) := by decide +kernel
theorem dX9_note_27 : decode cX9_note 27 = .ok (.getfield 144, 3) := by decide +kernel
theorem dX9_note_30 : decode cX9_note 30 = .ok (.iload_n 1, 1) := by decide +kernel
theorem dX9_note_31 : decode cX9_note 31 = .ok (.iastore, 1) := by decide +kernel
theorem dX9_note_32 : decode cX9_note 32 = .ok (.aload_n 0, 1) := by decide +kernel
theorem dX9_note_33 : decode cX9_note 33 = .ok (.dup, 1) := by decide +kernel
theorem dX9_note_34 : decode cX9_note 34 = .ok (.getfield 144, 3) := by decide +kernel
theorem dX9_note_37 : decode cX9_note 37 = .ok (.iconst 1, 1) := by decide +kernel
theorem dX9_note_38 : decode cX9_note 38 = .ok (.iadd, 1) := by decide +kernel
theorem dX9_note_39 : decode cX9_note 39 = .ok (.putfield 144, 3) := by decide +kernel
theorem dX9_note_42 : decode cX9_note 42 = .ok (.aload_n 0, 1) := by decide +kernel
theorem dX9_note_43 : decode cX9_note 43 = .ok (.getfield 144, 3) := by decide +kernel
theorem dX9_note_46 : decode cX9_note 46 = .ok (.ireturn, 1) := by decide +kernel
theorem dX9_silence_0 : decode cX9_silence 0 = .ok (.aload_n 0, 1) := by decide +kernel
theorem dX9_silence_1 : decode cX9_silence 1 = .ok (.getfield 144, 3) := by decide +kernel
theorem dX9_silence_4 : decode cX9_silence 4 = .ok (.istore_n 1, 1) := by decide +kernel
theorem dX9_silence_5 : decode cX9_silence 5 = .ok (.aload_n 0, 1) := by decide +kernel
theorem dX9_silence_6 : decode cX9_silence 6 = .ok (.iconst 0, 1) := by decide +kernel
theorem dX9_silence_7 : decode cX9_silence 7 = .ok (.putfield 144, 3) := by decide +kernel
theorem dX9_silence_10 : decode cX9_silence 10 = .ok (.iload_n 1, 1) := by decide +kernel
theorem dX9_silence_11 : decode cX9_silence 11 = .ok (.ireturn, 1) := by decide +kernel
theorem dX9_cellsOf_0 : decode cX9_cellsOf 0 = .ok (.iload_n 2, 1) := by decide +kernel
theorem dX9_cellsOf_1 : decode cX9_cellsOf 1 = .ok (.iload_n 3, 1) := by decide +kernel
theorem dX9_cellsOf_2 : decode cX9_cellsOf 2 = .ok (.ishr, 1) := by decide +kernel
theorem dX9_cellsOf_3 : decode cX9_cellsOf 3 = .ok (.iconst 1, 1) := by decide +kernel
theorem dX9_cellsOf_4 : decode cX9_cellsOf 4 = .ok (.iand, 1) := by decide +kernel
theorem dX9_cellsOf_5 : decode cX9_cellsOf 5 = .ok (.iconst 1, 1) := by decide +kernel
theorem dX9_cellsOf_6 : decode cX9_cellsOf 6 = .ok (.if_icmp .ne 7, 3) := by decide +kernel
theorem dX9_cellsOf_9 : decode cX9_cellsOf 9 = .ok (.iconst 1, 1) := by decide +kernel
theorem dX9_cellsOf_10 : decode cX9_cellsOf 10 = .ok (.goto 9, 3) := by decide +kernel
theorem dX9_cellsOf_13 : decode cX9_cellsOf 13 = .ok (.aload_n 0, 1) := by decide +kernel
theorem dX9_cellsOf_14 : decode cX9_cellsOf 14 = .ok (.getfield 47, 3) := by decide +kernel
theorem dX9_cellsOf_17 : decode cX9_cellsOf 17 = .ok (.iload_n 1, 1) := by decide +kernel
theorem dX9_cellsOf_18 : decode cX9_cellsOf 18 = .ok (.iaload, 1) := by decide +kernel
theorem dX9_cellsOf_19 : decode cX9_cellsOf 19 = .ok (.ireturn, 1) := by decide +kernel
theorem dX9_cellOf_0 : decode cX9_cellOf 0 = .ok (.iload_n 2, 1) := by decide +kernel
theorem dX9_cellOf_1 : decode cX9_cellOf 1 = .ok (.iload_n 3, 1) := by decide +kernel
theorem dX9_cellOf_2 : decode cX9_cellOf 2 = .ok (.ishr, 1) := by decide +kernel
theorem dX9_cellOf_3 : decode cX9_cellOf 3 = .ok (.iconst 1, 1) := by decide +kernel
theorem dX9_cellOf_4 : decode cX9_cellOf 4 = .ok (.iand, 1) := by decide +kernel
theorem dX9_cellOf_5 : decode cX9_cellOf 5 = .ok (.iconst 1, 1) := by decide +kernel
theorem dX9_cellOf_6 : decode cX9_cellOf 6 = .ok (.if_icmp .ne 8, 3) := by decide +kernel
theorem dX9_cellOf_9 : decode cX9_cellOf 9 = .ok (.bipush 9, 2) := by decide +kernel
theorem dX9_cellOf_11 : decode cX9_cellOf 11 = .ok (.goto 14, 3) := by decide +kernel
theorem dX9_cellOf_14 : decode cX9_cellOf 14 = .ok (.aload_n 0, 1) := by decide +kernel
theorem dX9_cellOf_15 : decode cX9_cellOf 15 = .ok (.getfield 50, 3) := by decide +kernel
theorem dX9_cellOf_18 : decode cX9_cellOf 18 = .ok (.iconst 4, 1) := by decide +kernel
theorem dX9_cellOf_19 : decode cX9_cellOf 19 = .ok (.iload_n 1, 1) := by decide +kernel
theorem dX9_cellOf_20 : decode cX9_cellOf 20 = .ok (.imul, 1) := by decide +kernel
theorem dX9_cellOf_21 : decode cX9_cellOf 21 = .ok (.iload 4, 2) := by decide +kernel
theorem dX9_cellOf_23 : decode cX9_cellOf 23 = .ok (.iadd, 1) := by decide +kernel
theorem dX9_cellOf_24 : decode cX9_cellOf 24 = .ok (.iaload, 1) := by decide +kernel
theorem dX9_cellOf_25 : decode cX9_cellOf 25 = .ok (.istore 7, 2) := by decide +kernel
theorem dX9_cellOf_27 : decode cX9_cellOf 27 = .ok (.iload 7, 2) := by decide +kernel
theorem dX9_cellOf_29 : decode cX9_cellOf 29 = .ok (.bipush 9, 2) := by decide +kernel
theorem dX9_cellOf_31 : decode cX9_cellOf 31 = .ok (.if_icmp .ne 8, 3) := by decide +kernel
theorem dX9_cellOf_34 : decode cX9_cellOf 34 = .ok (.iload 5, 2) := by decide +kernel
theorem dX9_cellOf_36 : decode cX9_cellOf 36 = .ok (.goto 17, 3) := by decide +kernel
theorem dX9_cellOf_39 : decode cX9_cellOf 39 = .ok (.iload 7, 2) := by decide +kernel
theorem dX9_cellOf_41 : decode cX9_cellOf 41 = .ok (.bipush 10, 2) := by decide +kernel
theorem dX9_cellOf_43 : decode cX9_cellOf 43 = .ok (.if_icmp .ne 8, 3) := by decide +kernel
theorem dX9_cellOf_46 : decode cX9_cellOf 46 = .ok (.iload 6, 2) := by decide +kernel
theorem dX9_cellOf_48 : decode cX9_cellOf 48 = .ok (.goto 5, 3) := by decide +kernel
theorem dX9_cellOf_51 : decode cX9_cellOf 51 = .ok (.iload 7, 2) := by decide +kernel
theorem dX9_cellOf_53 : decode cX9_cellOf 53 = .ok (.ireturn, 1) := by decide +kernel
theorem dX9_varied_0 : decode cX9_varied 0 = .ok (.iload_n 1, 1) := by decide +kernel
theorem dX9_varied_1 : decode cX9_varied 1 = .ok (.invokestatic 138, 3) := by decide +kernel
theorem dX9_varied_4 : decode cX9_varied 4 = .ok (.ifCond .ne 6, 3) := by decide +kernel
theorem dX9_varied_7 : decode cX9_varied 7 = .ok (.bipush (-2), 2) := by decide +kernel
theorem dX9_varied_9 : decode cX9_varied 9 = .ok (.ireturn, 1) := by decide +kernel
theorem dX9_varied_10 : decode cX9_varied 10 = .ok (.iload_n 2, 1) := by decide +kernel
theorem dX9_varied_11 : decode cX9_varied 11 = .ok (.iconst 0, 1) := by decide +kernel
theorem dX9_varied_12 : decode cX9_varied 12 = .ok (.ldc 147, 2) := by decide +kernel
theorem dX9_varied_14 : decode cX9_varied 14 = .ok (.invokestatic 86, 3) := by decide +kernel
theorem dX9_varied_17 : decode cX9_varied 17 = .ok (.ifCond .eq 7, 3) := by decide +kernel
theorem dX9_varied_20 : decode cX9_varied 20 = .ok (.iload_n 3, 1) := by decide +kernel
theorem dX9_varied_21 : decode cX9_varied 21 = .ok (.ifCond .ge 6, 3) := by decide +kernel
theorem dX9_varied_24 : decode cX9_varied 24 = .ok (.bipush (-3), 2) := by decide +kernel
theorem dX9_varied_26 : decode cX9_varied 26 = .ok (.ireturn, 1) := by decide +kernel
theorem dX9_varied_27 : decode cX9_varied 27 = .ok (.iload_n 3, 1) := by decide +kernel
theorem dX9_varied_28 : decode cX9_varied 28 = .ok (.istore 4, 2) := by decide +kernel
theorem dX9_varied_30 : decode cX9_varied 30 = .ok (.iconst 0, 1) := by decide +kernel
theorem dX9_varied_31 : decode cX9_varied 31 = .ok (.istore 5, 2) := by decide +kernel
theorem dX9_varied_33 : decode cX9_varied 33 = .ok (.iload 5, 2) := by decide +kernel
theorem dX9_varied_35 : decode cX9_varied 35 = .ok (.aload_n 0, 1) := by decide +kernel
theorem dX9_varied_36 : decode cX9_varied 36 = .ok (.getfield 144, 3) := by decide +kernel
theorem dX9_varied_39 : decode cX9_varied 39 = .ok (.if_icmp .ge 65, 3) := by decide +kernel
theorem dX9_varied_42 : decode cX9_varied 42 = .ok (.aload_n 0, 1) := by decide +kernel
theorem dX9_varied_43 : decode cX9_varied 43 = .ok (.iload_n 1, 1) := by decide +kernel
theorem dX9_varied_44 : decode cX9_varied 44 = .ok (.iload_n 2, 1) := by decide +kernel
theorem dX9_varied_45 : decode cX9_varied 45 = .ok (.iload 5, 2) := by decide +kernel
theorem dX9_varied_47 : decode cX9_varied 47 = .ok (.invokevirtual 148, 3) := by decide +kernel
theorem dX9_varied_50 : decode cX9_varied 50 = .ok (.istore 6, 2) := by decide +kernel
theorem dX9_varied_52 : decode cX9_varied 52 = .ok (.iload 4, 2) := by decide +kernel
theorem dX9_varied_54 : decode cX9_varied 54 = .ok (.iload 6, 2) := by decide +kernel
theorem dX9_varied_56 : decode cX9_varied 56 = .ok (.if_icmp .ge 35, 3) := by decide +kernel
theorem dX9_varied_59 : decode cX9_varied 59 = .ok (.aload_n 0, 1) := by decide +kernel
theorem dX9_varied_60 : decode cX9_varied 60 = .ok (.iload_n 1, 1) := by decide +kernel
theorem dX9_varied_61 : decode cX9_varied 61 = .ok (.iload_n 2, 1) := by decide +kernel
theorem dX9_varied_62 : decode cX9_varied 62 = .ok (.iload 5, 2) := by decide +kernel
theorem dX9_varied_64 : decode cX9_varied 64 = .ok (.iload 4, 2) := by decide +kernel
theorem dX9_varied_66 : decode cX9_varied 66 = .ok (.aload_n 0, 1) := by decide +kernel
theorem dX9_varied_67 : decode cX9_varied 67 = .ok (.getfield 53, 3) := by decide +kernel
theorem dX9_varied_70 : decode cX9_varied 70 = .ok (.iload 5, 2) := by decide +kernel
theorem dX9_varied_72 : decode cX9_varied 72 = .ok (.iaload, 1) := by decide +kernel
theorem dX9_varied_73 : decode cX9_varied 73 = .ok (.aload_n 0, 1) := by decide +kernel
theorem dX9_varied_74 : decode cX9_varied 74 = .ok (.getfield 53, 3) := by decide +kernel
theorem dX9_varied_77 : decode cX9_varied 77 = .ok (.iload 5, 2) := by decide +kernel
theorem dX9_varied_79 : decode cX9_varied 79 = .ok (.iconst 1, 1) := by decide +kernel
theorem dX9_varied_80 : decode cX9_varied 80 = .ok (.iadd, 1) := by decide +kernel
theorem dX9_varied_81 : decode cX9_varied 81 = .ok (.aload_n 0, 1) := by decide +kernel
theorem dX9_varied_82 : decode cX9_varied 82 = .ok (.getfield 144, 3) := by decide +kernel
theorem dX9_varied_85 : decode cX9_varied 85 = .ok (.irem, 1) := by decide +kernel
theorem dX9_varied_86 : decode cX9_varied 86 = .ok (.iaload, 1) := by decide +kernel
theorem dX9_varied_87 : decode cX9_varied 87 = .ok (.invokevirtual 152, 3) := by decide +kernel
theorem dX9_varied_90 : decode cX9_varied 90 = .ok (.ireturn, 1) := by decide +kernel
theorem dX9_varied_91 : decode cX9_varied 91 = .ok (.iload 4, 2) := by decide +kernel
theorem dX9_varied_93 : decode cX9_varied 93 = .ok (.iload 6, 2) := by decide +kernel
theorem dX9_varied_95 : decode cX9_varied 95 = .ok (.isub, 1) := by decide +kernel
theorem dX9_varied_96 : decode cX9_varied 96 = .ok (.istore 4, 2) := by decide +kernel
theorem dX9_varied_98 : decode cX9_varied 98 = .ok (.iinc 5 1, 3) := by decide +kernel
theorem dX9_varied_101 : decode cX9_varied 101 = .ok (.goto (-68), 3) := by decide +kernel
theorem dX9_varied_104 : decode cX9_varied 104 = .ok (.iconst (-1), 1) := by decide +kernel
theorem dX9_varied_105 : decode cX9_varied 105 = .ok (.ireturn, 1) := by decide +kernel
theorem dX9_sheet_0 : decode cX9_sheet 0 = .ok (.iload_n 1, 1) := by decide +kernel
theorem dX9_sheet_1 : decode cX9_sheet 1 = .ok (.invokestatic 138, 3) := by decide +kernel
theorem dX9_sheet_4 : decode cX9_sheet 4 = .ok (.ifCond .ne 6, 3) := by decide +kernel
theorem dX9_sheet_7 : decode cX9_sheet 7 = .ok (.bipush (-2), 2) := by decide +kernel
theorem dX9_sheet_9 : decode cX9_sheet 9 = .ok (.ireturn, 1) := by decide +kernel
theorem dX9_sheet_10 : decode cX9_sheet 10 = .ok (.iload_n 2, 1) := by decide +kernel
theorem dX9_sheet_11 : decode cX9_sheet 11 = .ok (.iconst 1, 1) := by decide +kernel
theorem dX9_sheet_12 : decode cX9_sheet 12 = .ok (.bipush 16, 2) := by decide +kernel
theorem dX9_sheet_14 : decode cX9_sheet 14 = .ok (.invokestatic 86, 3) := by decide +kernel
theorem dX9_sheet_17 : decode cX9_sheet 17 = .ok (.ifCond .eq 16, 3) := by decide +kernel
theorem dX9_sheet_20 : decode cX9_sheet 20 = .ok (.iload_n 3, 1) := by decide +kernel
theorem dX9_sheet_21 : decode cX9_sheet 21 = .ok (.iconst 0, 1) := by decide +kernel
theorem dX9_sheet_22 : decode cX9_sheet 22 = .ok (.iconst 1, 1) := by decide +kernel
theorem dX9_sheet_23 : decode cX9_sheet 23 = .ok (.iload_n 2, 1) := by decide +kernel
theorem dX9_sheet_24 : decode cX9_sheet 24 = .ok (.ishl, 1) := by decide +kernel
theorem dX9_sheet_25 : decode cX9_sheet 25 = .ok (.iconst 1, 1) := by decide +kernel
theorem dX9_sheet_26 : decode cX9_sheet 26 = .ok (.isub, 1) := by decide +kernel
theorem dX9_sheet_27 : decode cX9_sheet 27 = .ok (.invokestatic 86, 3) := by decide +kernel
theorem dX9_sheet_30 : decode cX9_sheet 30 = .ok (.ifCond .ne 6, 3) := by decide +kernel
theorem dX9_sheet_33 : decode cX9_sheet 33 = .ok (.bipush (-3), 2) := by decide +kernel
theorem dX9_sheet_35 : decode cX9_sheet 35 = .ok (.ireturn, 1) := by decide +kernel
theorem dX9_sheet_36 : decode cX9_sheet 36 = .ok (.aload_n 0, 1) := by decide +kernel
theorem dX9_sheet_37 : decode cX9_sheet 37 = .ok (.getfield 141, 3) := by decide +kernel
theorem dX9_sheet_40 : decode cX9_sheet 40 = .ok (.ifCond .le 22, 3) := by decide +kernel
theorem dX9_sheet_43 : decode cX9_sheet 43 = .ok (.iload_n 2, 1) := by decide +kernel
theorem dX9_sheet_44 : decode cX9_sheet 44 = .ok (.aload_n 0, 1) := by decide +kernel
theorem dX9_sheet_45 : decode cX9_sheet 45 = .ok (.getfield 156, 3) := by decide +kernel
theorem dX9_sheet_48 : decode cX9_sheet 48 = .ok (.if_icmp .ne 11, 3) := by decide +kernel
theorem dX9_sheet_51 : decode cX9_sheet 51 = .ok (.iload_n 3, 1) := by decide +kernel
theorem dX9_sheet_52 : decode cX9_sheet 52 = .ok (.aload_n 0, 1) := by decide +kernel
theorem dX9_sheet_53 : decode cX9_sheet 53 = .ok (.getfield 159, 3) := by decide +kernel
theorem dX9_sheet_56 : decode cX9_sheet 56 = .ok (.if_icmp .eq 6, 3) := by decide +kernel
theorem dX9_sheet_59 : decode cX9_sheet 59 = .ok (.bipush (-4), 2) := by decide +kernel
theorem dX9_sheet_61 : decode cX9_sheet 61 = .ok (.ireturn, 1) := by decide +kernel
theorem dX9_sheet_62 : decode cX9_sheet 62 = .ok (.aload_n 0, 1) := by decide +kernel
theorem dX9_sheet_63 : decode cX9_sheet 63 = .ok (.getfield 141, 3) := by decide +kernel
theorem dX9_sheet_66 : decode cX9_sheet 66 = .ok (.iconst 3, 1) := by decide +kernel
theorem dX9_sheet_67 : decode cX9_sheet 67 = .ok (.if_icmp .ne 6, 3) := by decide +kernel
theorem dX9_sheet_70 : decode cX9_sheet 70 = .ok (.bipush (-5), 2) := by decide +kernel
theorem dX9_sheet_72 : decode cX9_sheet 72 = .ok (.ireturn, 1) := by decide +kernel
theorem dX9_sheet_73 : decode cX9_sheet 73 = .ok (.aload_n 0, 1) := by decide +kernel
theorem dX9_sheet_74 : decode cX9_sheet 74 = .ok (.iload_n 2, 1) := by decide +kernel
theorem dX9_sheet_75 : decode cX9_sheet 75 = .ok (.putfield 156, 3) := by decide +kernel
theorem dX9_sheet_78 : decode cX9_sheet 78 = .ok (.aload_n 0, 1) := by decide +kernel
theorem dX9_sheet_79 : decode cX9_sheet 79 = .ok (.iload_n 3, 1) := by decide +kernel
theorem dX9_sheet_80 : decode cX9_sheet 80 = .ok (.putfield 159, 3) := by decide +kernel
theorem dX9_sheet_83 : decode cX9_sheet 83 = .ok (.aload_n 0, 1) := by decide +kernel
theorem dX9_sheet_84 : decode cX9_sheet 84 = .ok (.getfield 56, 3) := by decide +kernel
theorem dX9_sheet_87 : decode cX9_sheet 87 = .ok (.aload_n 0, 1) := by decide +kernel
theorem dX9_sheet_88 : decode cX9_sheet 88 = .ok (.getfield 141, 3) := by decide +kernel
theorem dX9_sheet_91 : decode cX9_sheet 91 = .ok (.iload_n 1, 1) := by decide +kernel
theorem dX9_sheet_92 : decode cX9_sheet 92 = .ok (.iastore, 1) := by decide +kernel
theorem dX9_sheet_93 : decode cX9_sheet 93 = .ok (.iconst 0, 1) := by decide +kernel
theorem dX9_sheet_94 : decode cX9_sheet 94 = .ok (.istore 4, 2) := by decide +kernel
theorem dX9_sheet_96 : decode cX9_sheet 96 = .ok (.iload 4, 2) := by decide +kernel
theorem dX9_sheet_98 : decode cX9_sheet 98 = .ok (.bipush 64, 2) := by decide +kernel
theorem dX9_sheet_100 : decode cX9_sheet 100 = .ok (.if_icmp .ge 25, 3) := by decide +kernel
theorem dX9_sheet_103 : decode cX9_sheet 103 = .ok (.aload_n 0, 1) := by decide +kernel
theorem dX9_sheet_104 : decode cX9_sheet 104 = .ok (.getfield 59, 3) := by decide +kernel
theorem dX9_sheet_107 : decode cX9_sheet 107 = .ok (.bipush 64, 2) := by decide +kernel
theorem dX9_sheet_109 : decode cX9_sheet 109 = .ok (.aload_n 0, 1) := by decide +kernel
theorem dX9_sheet_110 : decode cX9_sheet 110 = .ok (.getfield 141, 3) := by decide +kernel
theorem dX9_sheet_113 : decode cX9_sheet 113 = .ok (.imul, 1) := by decide +kernel
theorem dX9_sheet_114 : decode cX9_sheet 114 = .ok (.iload 4, 2) := by decide +kernel
theorem dX9_sheet_116 : decode cX9_sheet 116 = .ok (.iadd, 1) := by decide +kernel
theorem dX9_sheet_117 : decode cX9_sheet 117 = .ok (.iconst (-1), 1) := by decide +kernel
theorem dX9_sheet_118 : decode cX9_sheet 118 = .ok (.iastore, 1) := by decide +kernel
theorem dX9_sheet_119 : decode cX9_sheet 119 = .ok (.iinc 4 1, 3) := by decide +kernel
theorem dX9_sheet_122 : decode cX9_sheet 122 = .ok (.goto (-26), 3) := by decide +kernel
theorem dX9_sheet_125 : decode cX9_sheet 125 = .ok (.aload_n 0, 1) := by decide +kernel
theorem dX9_sheet_126 : decode cX9_sheet 126 = .ok (.dup, 1) := by decide +kernel
theorem dX9_sheet_127 : decode cX9_sheet 127 = .ok (.getfield 141, 3) := by decide +kernel
theorem dX9_sheet_130 : decode cX9_sheet 130 = .ok (.iconst 1, 1) := by decide +kernel
theorem dX9_sheet_131 : decode cX9_sheet 131 = .ok (.iadd, 1) := by decide +kernel
theorem dX9_sheet_132 : decode cX9_sheet 132 = .ok (.putfield 141, 3) := by decide +kernel
theorem dX9_sheet_135 : decode cX9_sheet 135 = .ok (.aload_n 0, 1) := by decide +kernel
theorem dX9_sheet_136 : decode cX9_sheet 136 = .ok (.getfield 141, 3) := by decide +kernel
theorem dX9_sheet_139 : decode cX9_sheet 139 = .ok (.iconst 1, 1) := by decide +kernel
theorem dX9_sheet_140 : decode cX9_sheet 140 = .ok (.isub, 1) := by decide +kernel
theorem dX9_sheet_141 : decode cX9_sheet 141 = .ok (.ireturn, 1) := by decide +kernel
theorem dX9_isSheet_0 : decode cX9_isSheet 0 = .ok (.iload_n 1, 1) := by decide +kernel
theorem dX9_isSheet_1 : decode cX9_isSheet 1 = .ok (.iconst 0, 1) := by decide +kernel
theorem dX9_isSheet_2 : decode cX9_isSheet 2 = .ok (.aload_n 0, 1) := by decide +kernel
theorem dX9_isSheet_3 : decode cX9_isSheet 3 = .ok (.getfield 141, 3) := by decide +kernel
theorem dX9_isSheet_6 : decode cX9_isSheet 6 = .ok (.iconst 1, 1) := by decide +kernel
theorem dX9_isSheet_7 : decode cX9_isSheet 7 = .ok (.isub, 1) := by decide +kernel
theorem dX9_isSheet_8 : decode cX9_isSheet 8 = .ok (.invokestatic 86, 3) := by decide +kernel
theorem dX9_isSheet_11 : decode cX9_isSheet 11 = .ok (.ireturn, 1) := by decide +kernel
theorem dX9_sizeOf_0 : decode cX9_sizeOf 0 = .ok (.iconst 0, 1) := by decide +kernel
theorem dX9_sizeOf_1 : decode cX9_sizeOf 1 = .ok (.istore_n 2, 1) := by decide +kernel
theorem dX9_sizeOf_2 : decode cX9_sizeOf 2 = .ok (.iconst 0, 1) := by decide +kernel
theorem dX9_sizeOf_3 : decode cX9_sizeOf 3 = .ok (.istore_n 3, 1) := by decide +kernel
theorem dX9_sizeOf_4 : decode cX9_sizeOf 4 = .ok (.iload_n 3, 1) := by decide +kernel
theorem dX9_sizeOf_5 : decode cX9_sizeOf 5 = .ok (.aload_n 0, 1) := by decide +kernel
theorem dX9_sizeOf_6 : decode cX9_sizeOf 6 = .ok (.getfield 156, 3) := by decide +kernel
theorem dX9_sizeOf_9 : decode cX9_sizeOf 9 = .ok (.if_icmp .ge 27, 3) := by decide +kernel
theorem dX9_sizeOf_12 : decode cX9_sizeOf 12 = .ok (.iload_n 2, 1) := by decide +kernel
theorem dX9_sizeOf_13 : decode cX9_sizeOf 13 = .ok (.aload_n 0, 1) := by decide +kernel
theorem dX9_sizeOf_14 : decode cX9_sizeOf 14 = .ok (.aload_n 0, 1) := by decide +kernel
theorem dX9_sizeOf_15 : decode cX9_sizeOf 15 = .ok (.getfield 56, 3) := by decide +kernel
theorem dX9_sizeOf_18 : decode cX9_sizeOf 18 = .ok (.iload_n 1, 1) := by decide +kernel
theorem dX9_sizeOf_19 : decode cX9_sizeOf 19 = .ok (.iaload, 1) := by decide +kernel
theorem dX9_sizeOf_20 : decode cX9_sizeOf 20 = .ok (.aload_n 0, 1) := by decide +kernel
theorem dX9_sizeOf_21 : decode cX9_sizeOf 21 = .ok (.getfield 159, 3) := by decide +kernel
theorem dX9_sizeOf_24 : decode cX9_sizeOf 24 = .ok (.iload_n 3, 1) := by decide +kernel
theorem dX9_sizeOf_25 : decode cX9_sizeOf 25 = .ok (.invokevirtual 148, 3) := by decide +kernel
theorem dX9_sizeOf_28 : decode cX9_sizeOf 28 = .ok (.iadd, 1) := by decide +kernel
theorem dX9_sizeOf_29 : decode cX9_sizeOf 29 = .ok (.istore_n 2, 1) := by decide +kernel
theorem dX9_sizeOf_30 : decode cX9_sizeOf 30 = .ok (.iinc 3 1, 3) := by decide +kernel
theorem dX9_sizeOf_33 : decode cX9_sizeOf 33 = .ok (.goto (-29), 3) := by decide +kernel
theorem dX9_sizeOf_36 : decode cX9_sizeOf 36 = .ok (.iload_n 2, 1) := by decide +kernel
theorem dX9_sizeOf_37 : decode cX9_sizeOf 37 = .ok (.ireturn, 1) := by decide +kernel
theorem dX9_tell_0 : decode cX9_tell 0 = .ok (.aload_n 0, 1) := by decide +kernel
theorem dX9_tell_1 : decode cX9_tell 1 = .ok (.iload_n 1, 1) := by decide +kernel
theorem dX9_tell_2 : decode cX9_tell 2 = .ok (.invokevirtual 162, 3) := by decide +kernel
theorem dX9_tell_5 : decode cX9_tell 5 = .ok (.ifCond .eq 18, 3) := by decide +kernel
theorem dX9_tell_8 : decode cX9_tell 8 = .ok (.iload_n 2, 1) := by decide +kernel
theorem dX9_tell_9 : decode cX9_tell 9 = .ok (.iconst 0, 1) := by decide +kernel
theorem dX9_tell_10 : decode cX9_tell 10 = .ok (.aload_n 0, 1) := by decide +kernel
theorem dX9_tell_11 : decode cX9_tell 11 = .ok (.iload_n 1, 1) := by decide +kernel
theorem dX9_tell_12 : decode cX9_tell 12 = .ok (.invokevirtual 165, 3) := by decide +kernel
theorem dX9_tell_15 : decode cX9_tell 15 = .ok (.iconst 1, 1) := by decide +kernel
theorem dX9_tell_16 : decode cX9_tell 16 = .ok (.isub, 1) := by decide +kernel
theorem dX9_tell_17 : decode cX9_tell 17 = .ok (.invokestatic 86, 3) := by decide +kernel
theorem dX9_tell_20 : decode cX9_tell 20 = .ok (.ifCond .ne 6, 3) := by decide +kernel
theorem dX9_tell_23 : decode cX9_tell 23 = .ok (.bipush (-2), 2) := by decide +kernel
theorem dX9_tell_25 : decode cX9_tell 25 = .ok (.ireturn, 1) := by decide +kernel
theorem dX9_tell_26 : decode cX9_tell 26 = .ok (.iload_n 3, 1) := by decide +kernel
theorem dX9_tell_27 : decode cX9_tell 27 = .ok (.iconst (-1), 1) := by decide +kernel
theorem dX9_tell_28 : decode cX9_tell 28 = .ok (.bipush 8, 2) := by decide +kernel
theorem dX9_tell_30 : decode cX9_tell 30 = .ok (.invokestatic 86, 3) := by decide +kernel
theorem dX9_tell_33 : decode cX9_tell 33 = .ok (.ifCond .ne 6, 3) := by decide +kernel
theorem dX9_tell_36 : decode cX9_tell 36 = .ok (.bipush (-3), 2) := by decide +kernel
theorem dX9_tell_38 : decode cX9_tell 38 = .ok (.ireturn, 1) := by decide +kernel
theorem dX9_tell_39 : decode cX9_tell 39 = .ok (.aload_n 0, 1) := by decide +kernel
theorem dX9_tell_40 : decode cX9_tell 40 = .ok (.getfield 59, 3) := by decide +kernel
theorem dX9_tell_43 : decode cX9_tell 43 = .ok (.bipush 64, 2) := by decide +kernel
theorem dX9_tell_45 : decode cX9_tell 45 = .ok (.iload_n 1, 1) := by decide +kernel
theorem dX9_tell_46 : decode cX9_tell 46 = .ok (.imul, 1) := by decide +kernel
theorem dX9_tell_47 : decode cX9_tell 47 = .ok (.iload_n 2, 1) := by decide +kernel
theorem dX9_tell_48 : decode cX9_tell 48 = .ok (.iadd, 1) := by decide +kernel
theorem dX9_tell_49 : decode cX9_tell 49 = .ok (.iaload, 1) := by decide +kernel
theorem dX9_tell_50 : decode cX9_tell 50 = .ok (.istore 4, 2) := by decide +kernel
theorem dX9_tell_52 : decode cX9_tell 52 = .ok (.aload_n 0, 1) := by decide +kernel
theorem dX9_tell_53 : decode cX9_tell 53 = .ok (.getfield 59, 3) := by decide +kernel
theorem dX9_tell_56 : decode cX9_tell 56 = .ok (.bipush 64, 2) := by decide +kernel
theorem dX9_tell_58 : decode cX9_tell 58 = .ok (.iload_n 1, 1) := by decide +kernel
theorem dX9_tell_59 : decode cX9_tell 59 = .ok (.imul, 1) := by decide +kernel
theorem dX9_tell_60 : decode cX9_tell 60 = .ok (.iload_n 2, 1) := by decide +kernel
theorem dX9_tell_61 : decode cX9_tell 61 = .ok (.iadd, 1) := by decide +kernel
theorem dX9_tell_62 : decode cX9_tell 62 = .ok (.iload_n 3, 1) := by decide +kernel
theorem dX9_tell_63 : decode cX9_tell 63 = .ok (.iastore, 1) := by decide +kernel
theorem dX9_tell_64 : decode cX9_tell 64 = .ok (.iload 4, 2) := by decide +kernel
theorem dX9_tell_66 : decode cX9_tell 66 = .ok (.ireturn, 1) := by decide +kernel
theorem dX9_cells_0 : decode cX9_cells 0 = .ok (.aload_n 0, 1) := by decide +kernel
theorem dX9_cells_1 : decode cX9_cells 1 = .ok (.iload_n 1, 1) := by decide +kernel
theorem dX9_cells_2 : decode cX9_cells 2 = .ok (.invokevirtual 162, 3) := by decide +kernel
theorem dX9_cells_5 : decode cX9_cells 5 = .ok (.ifCond .eq 11, 3) := by decide +kernel
theorem dX9_cells_8 : decode cX9_cells 8 = .ok (.aload_n 0, 1) := by decide +kernel
theorem dX9_cells_9 : decode cX9_cells 9 = .ok (.iload_n 1, 1) := by decide +kernel
theorem dX9_cells_10 : decode cX9_cells 10 = .ok (.invokevirtual 165, 3) := by decide +kernel
theorem dX9_cells_13 : decode cX9_cells 13 = .ok (.goto 5, 3) := by decide +kernel
theorem dX9_cells_16 : decode cX9_cells 16 = .ok (.bipush (-2), 2) := by decide +kernel
theorem dX9_cells_18 : decode cX9_cells 18 = .ok (.ireturn, 1) := by decide +kernel
theorem dX9_clear_0 : decode cX9_clear 0 = .ok (.aload_n 0, 1) := by decide +kernel
theorem dX9_clear_1 : decode cX9_clear 1 = .ok (.getfield 141, 3) := by decide +kernel
theorem dX9_clear_4 : decode cX9_clear 4 = .ok (.istore_n 1, 1) := by decide +kernel
theorem dX9_clear_5 : decode cX9_clear 5 = .ok (.aload_n 0, 1) := by decide +kernel
theorem dX9_clear_6 : decode cX9_clear 6 = .ok (.iconst 0, 1) := by decide +kernel
theorem dX9_clear_7 : decode cX9_clear 7 = .ok (.putfield 141, 3) := by decide +kernel
theorem dX9_clear_10 : decode cX9_clear 10 = .ok (.iload_n 1, 1) := by decide +kernel
theorem dX9_clear_11 : decode cX9_clear 11 = .ok (.ireturn, 1) := by decide +kernel
theorem dX9_findOff_0 : decode cX9_findOff 0 = .ok (.iconst 0, 1) := by decide +kernel
theorem dX9_findOff_1 : decode cX9_findOff 1 = .ok (.istore_n 1, 1) := by decide +kernel
theorem dX9_findOff_2 : decode cX9_findOff 2 = .ok (.iload_n 1, 1) := by decide +kernel
theorem dX9_findOff_3 : decode cX9_findOff 3 = .ok (.bipush 81, 2) := by decide +kernel
theorem dX9_findOff_5 : decode cX9_findOff 5 = .ok (.aload_n 0, 1) := by decide +kernel
theorem dX9_findOff_6 : decode cX9_findOff 6 = .ok (.getfield 156, 3) := by decide +kernel
theorem dX9_findOff_9 : decode cX9_findOff 9 = .ok (.imul, 1) := by decide +kernel
theorem dX9_findOff_10 : decode cX9_findOff 10 = .ok (.if_icmp .ge 16, 3) := by decide +kernel
theorem dX9_findOff_13 : decode cX9_findOff 13 = .ok (.aload_n 0, 1) := by decide +kernel
theorem dX9_findOff_14 : decode cX9_findOff 14 = .ok (.getfield 62, 3) := by decide +kernel
theorem dX9_findOff_17 : decode cX9_findOff 17 = .ok (.iload_n 1, 1) := by decide +kernel
theorem dX9_findOff_18 : decode cX9_findOff 18 = .ok (.iconst 0, 1) := by decide +kernel
theorem dX9_findOff_19 : decode cX9_findOff 19 = .ok (.iastore, 1) := by decide +kernel
theorem dX9_findOff_20 : decode cX9_findOff 20 = .ok (.iinc 1 1, 3) := by decide +kernel
theorem dX9_findOff_23 : decode cX9_findOff 23 = .ok (.goto (-21), 3) := by decide +kernel
theorem dX9_findOff_26 : decode cX9_findOff 26 = .ok (.iconst 0, 1) := by decide +kernel
theorem dX9_findOff_27 : decode cX9_findOff 27 = .ok (.istore_n 1, 1) := by decide +kernel
theorem dX9_findOff_28 : decode cX9_findOff 28 = .ok (.iload_n 1, 1) := by decide +kernel
theorem dX9_findOff_29 : decode cX9_findOff 29 = .ok (.aload_n 0, 1) := by decide +kernel
theorem dX9_findOff_30 : decode cX9_findOff 30 = .ok (.getfield 141, 3) := by decide +kernel
theorem dX9_findOff_33 : decode cX9_findOff 33 = .ok (.if_icmp .ge 146, 3) := by decide +kernel
theorem dX9_findOff_36 : decode cX9_findOff 36 = .ok (.iconst 0, 1) := by decide +kernel
theorem dX9_findOff_37 : decode cX9_findOff 37 = .ok (.istore_n 2, 1) := by decide +kernel
theorem dX9_findOff_38 : decode cX9_findOff 38 = .ok (.iconst 0, 1) := by decide +kernel
theorem dX9_findOff_39 : decode cX9_findOff 39 = .ok (.istore_n 3, 1) := by decide +kernel
theorem dX9_findOff_40 : decode cX9_findOff 40 = .ok (.iload_n 3, 1) := by decide +kernel
theorem dX9_findOff_41 : decode cX9_findOff 41 = .ok (.aload_n 0, 1) := by decide +kernel
theorem dX9_findOff_42 : decode cX9_findOff 42 = .ok (.getfield 156, 3) := by decide +kernel
theorem dX9_findOff_45 : decode cX9_findOff 45 = .ok (.if_icmp .ge 128, 3) := by decide +kernel
theorem dX9_findOff_48 : decode cX9_findOff 48 = .ok (.iconst 0, 1) := by decide +kernel
theorem dX9_findOff_49 : decode cX9_findOff 49 = .ok (.istore 4, 2) := by decide +kernel
theorem dX9_findOff_51 : decode cX9_findOff 51 = .ok (.iload 4, 2) := by decide +kernel
theorem dX9_findOff_53 : decode cX9_findOff 53 = .ok (.aload_n 0, 1) := by decide +kernel
theorem dX9_findOff_54 : decode cX9_findOff 54 = .ok (.aload_n 0, 1) := by decide +kernel
theorem dX9_findOff_55 : decode cX9_findOff 55 = .ok (.getfield 56, 3) := by decide +kernel
theorem dX9_findOff_58 : decode cX9_findOff 58 = .ok (.iload_n 1, 1) := by decide +kernel
theorem dX9_findOff_59 : decode cX9_findOff 59 = .ok (.iaload, 1) := by decide +kernel
theorem dX9_findOff_60 : decode cX9_findOff 60 = .ok (.aload_n 0, 1) := by decide +kernel
theorem dX9_findOff_61 : decode cX9_findOff 61 = .ok (.getfield 159, 3) := by decide +kernel
theorem dX9_findOff_64 : decode cX9_findOff 64 = .ok (.iload_n 3, 1) := by decide +kernel
theorem dX9_findOff_65 : decode cX9_findOff 65 = .ok (.invokevirtual 148, 3) := by decide +kernel
theorem dX9_findOff_68 : decode cX9_findOff 68 = .ok (.if_icmp .ge 99, 3) := by decide +kernel
theorem dX9_findOff_71 : decode cX9_findOff 71 = .ok (.aload_n 0, 1) := by decide +kernel
theorem dX9_findOff_72 : decode cX9_findOff 72 = .ok (.getfield 59, 3) := by decide +kernel
theorem dX9_findOff_75 : decode cX9_findOff 75 = .ok (.bipush 64, 2) := by decide +kernel
theorem dX9_findOff_77 : decode cX9_findOff 77 = .ok (.iload_n 1, 1) := by decide +kernel
theorem dX9_findOff_78 : decode cX9_findOff 78 = .ok (.imul, 1) := by decide +kernel
theorem dX9_findOff_79 : decode cX9_findOff 79 = .ok (.iload_n 2, 1) := by decide +kernel
theorem dX9_findOff_80 : decode cX9_findOff 80 = .ok (.iadd, 1) := by decide +kernel
theorem dX9_findOff_81 : decode cX9_findOff 81 = .ok (.iaload, 1) := by decide +kernel
theorem dX9_findOff_82 : decode cX9_findOff 82 = .ok (.istore 5, 2) := by decide +kernel
theorem dX9_findOff_84 : decode cX9_findOff 84 = .ok (.iconst 0, 1) := by decide +kernel
theorem dX9_findOff_85 : decode cX9_findOff 85 = .ok (.istore 6, 2) := by decide +kernel
theorem dX9_findOff_87 : decode cX9_findOff 87 = .ok (.iload 6, 2) := by decide +kernel
theorem dX9_findOff_89 : decode cX9_findOff 89 = .ok (.bipush 81, 2) := by decide +kernel
theorem dX9_findOff_91 : decode cX9_findOff 91 = .ok (.if_icmp .ge 67, 3) := by decide +kernel
theorem dX9_findOff_94 : decode cX9_findOff 94 = .ok (.iload 5, 2) := by decide +kernel
theorem dX9_findOff_96 : decode cX9_findOff 96 = .ok (.iconst (-1), 1) := by decide +kernel
theorem dX9_findOff_97 : decode cX9_findOff 97 = .ok (.if_icmp .eq 61, 3) := by decide +kernel
theorem dX9_findOff_100 : decode cX9_findOff 100 = .ok (.aload_n 0, 1) := by decide +kernel
theorem dX9_findOff_101 : decode cX9_findOff 101 = .ok (.getfield 62, 3) := by decide +kernel
theorem dX9_findOff_104 : decode cX9_findOff 104 = .ok (.bipush 81, 2) := by decide +kernel
theorem dX9_findOff_106 : decode cX9_findOff 106 = .ok (.iload_n 3, 1) := by decide +kernel
theorem dX9_findOff_107 : decode cX9_findOff 107 = .ok (.imul, 1) := by decide +kernel
theorem dX9_findOff_108 : decode cX9_findOff 108 = .ok (.iload 6, 2) := by decide +kernel
theorem dX9_findOff_110 : decode cX9_findOff 110 = .ok (.iadd, 1) := by decide +kernel
theorem dX9_findOff_111 : decode cX9_findOff 111 = .ok (.dup2, 1) := by decide +kernel
theorem dX9_findOff_112 : decode cX9_findOff 112 = .ok (.iaload, 1) := by decide +kernel
theorem dX9_findOff_113 : decode cX9_findOff 113 = .ok (.aload_n 0, 1) := by decide +kernel
theorem dX9_findOff_114 : decode cX9_findOff 114 = .ok (.aload_n 0, 1) := by decide +kernel
theorem dX9_findOff_115 : decode cX9_findOff 115 = .ok (.getfield 56, 3) := by decide +kernel
theorem dX9_findOff_118 : decode cX9_findOff 118 = .ok (.iload_n 1, 1) := by decide +kernel
theorem dX9_findOff_119 : decode cX9_findOff 119 = .ok (.iaload, 1) := by decide +kernel
theorem dX9_findOff_120 : decode cX9_findOff 120 = .ok (.aload_n 0, 1) := by decide +kernel
theorem dX9_findOff_121 : decode cX9_findOff 121 = .ok (.getfield 159, 3) := by decide +kernel
theorem dX9_findOff_124 : decode cX9_findOff 124 = .ok (.iload_n 3, 1) := by decide +kernel
theorem dX9_findOff_125 : decode cX9_findOff 125 = .ok (.iload 4, 2) := by decide +kernel
theorem dX9_findOff_127 : decode cX9_findOff 127 = .ok (.iload 6, 2) := by decide +kernel
theorem dX9_findOff_129 : decode cX9_findOff 129 = .ok (.bipush 9, 2) := by decide +kernel
theorem dX9_findOff_131 : decode cX9_findOff 131 = .ok (.idiv, 1) := by decide +kernel
theorem dX9_findOff_132 : decode cX9_findOff 132 = .ok (.iload 6, 2) := by decide +kernel
theorem dX9_findOff_134 : decode cX9_findOff 134 = .ok (.bipush 9, 2) := by decide +kernel
theorem dX9_findOff_136 : decode cX9_findOff 136 = .ok (.irem, 1) := by decide +kernel
theorem dX9_findOff_137 : decode cX9_findOff 137 = .ok (.invokevirtual 152, 3) := by decide +kernel
theorem dX9_findOff_140 : decode cX9_findOff 140 = .ok (.iload 5, 2) := by decide +kernel
theorem dX9_findOff_142 : decode cX9_findOff 142 = .ok (.if_icmp .eq 7, 3) := by decide +kernel
theorem dX9_findOff_145 : decode cX9_findOff 145 = .ok (.iconst 1, 1) := by decide +kernel
theorem dX9_findOff_146 : decode cX9_findOff 146 = .ok (.goto 4, 3) := by decide +kernel
theorem dX9_findOff_149 : decode cX9_findOff 149 = .ok (.iconst 0, 1) := by decide +kernel
theorem dX9_findOff_150 : decode cX9_findOff 150 = .ok (.iadd, 1) := by decide +kernel
theorem dX9_findOff_151 : decode cX9_findOff 151 = .ok (.iastore, 1) := by decide +kernel
theorem dX9_findOff_152 : decode cX9_findOff 152 = .ok (.iinc 6 1, 3) := by decide +kernel
theorem dX9_findOff_155 : decode cX9_findOff 155 = .ok (.goto (-68), 3) := by decide +kernel
theorem dX9_findOff_158 : decode cX9_findOff 158 = .ok (.iinc 2 1, 3) := by decide +kernel
theorem dX9_findOff_161 : decode cX9_findOff 161 = .ok (.iinc 4 1, 3) := by decide +kernel
theorem dX9_findOff_164 : decode cX9_findOff 164 = .ok (.goto (-113), 3) := by decide +kernel
theorem dX9_findOff_167 : decode cX9_findOff 167 = .ok (.iinc 3 1, 3) := by decide +kernel
theorem dX9_findOff_170 : decode cX9_findOff 170 = .ok (.goto (-130), 3) := by decide +kernel
theorem dX9_findOff_173 : decode cX9_findOff 173 = .ok (.iinc 1 1, 3) := by decide +kernel
theorem dX9_findOff_176 : decode cX9_findOff 176 = .ok (.goto (-148), 3) := by decide +kernel
theorem dX9_findOff_179 : decode cX9_findOff 179 = .ok (.return_, 1) := by decide +kernel
theorem dX9_agreeing_0 : decode cX9_agreeing 0 = .ok (.aload_n 0, 1) := by decide +kernel
theorem dX9_agreeing_1 : decode cX9_agreeing 1 = .ok (.getfield 141, 3) := by decide +kernel
theorem dX9_agreeing_4 : decode cX9_agreeing 4 = .ok (.ifCond .ne 6, 3) := by decide +kernel
theorem dX9_agreeing_7 : decode cX9_agreeing 7 = .ok (.bipush (-4), 2) := by decide +kernel
theorem dX9_agreeing_9 : decode cX9_agreeing 9 = .ok (.ireturn, 1) := by decide +kernel
theorem dX9_agreeing_10 : decode cX9_agreeing 10 = .ok (.aload_n 0, 1) := by decide +kernel
theorem dX9_agreeing_11 : decode cX9_agreeing 11 = .ok (.invokevirtual 168, 3) := by decide +kernel
theorem dX9_agreeing_14 : decode cX9_agreeing 14 = .ok (.iconst 0, 1) := by decide +kernel
theorem dX9_agreeing_15 : decode cX9_agreeing 15 = .ok (.istore_n 1, 1) := by decide +kernel
theorem dX9_agreeing_16 : decode cX9_agreeing 16 = .ok (.iconst 0, 1) := by decide +kernel
theorem dX9_agreeing_17 : decode cX9_agreeing 17 = .ok (.istore_n 2, 1) := by decide +kernel
theorem dX9_agreeing_18 : decode cX9_agreeing 18 = .ok (.iload_n 2, 1) := by decide +kernel
theorem dX9_agreeing_19 : decode cX9_agreeing 19 = .ok (.bipush 9, 2) := by decide +kernel
theorem dX9_agreeing_21 : decode cX9_agreeing 21 = .ok (.if_icmp .ge 171, 3) := by decide +kernel
theorem dX9_agreeing_24 : decode cX9_agreeing 24 = .ok (.iconst 0, 1) := by decide +kernel
theorem dX9_agreeing_25 : decode cX9_agreeing 25 = .ok (.istore_n 3, 1) := by decide +kernel
theorem dX9_agreeing_26 : decode cX9_agreeing 26 = .ok (.iload_n 3, 1) := by decide +kernel
theorem dX9_agreeing_27 : decode cX9_agreeing 27 = .ok (.bipush 9, 2) := by decide +kernel
theorem dX9_agreeing_29 : decode cX9_agreeing 29 = .ok (.if_icmp .ge 33, 3) := by decide +kernel
theorem dX9_agreeing_32 : decode cX9_agreeing 32 = .ok (.aload_n 0, 1) := by decide +kernel
theorem dX9_agreeing_33 : decode cX9_agreeing 33 = .ok (.getfield 65, 3) := by decide +kernel
theorem dX9_agreeing_36 : decode cX9_agreeing 36 = .ok (.bipush 9, 2) := by decide +kernel
theorem dX9_agreeing_38 : decode cX9_agreeing 38 = .ok (.aload_n 0, 1) := by decide +kernel
theorem dX9_agreeing_39 : decode cX9_agreeing 39 = .ok (.getfield 156, 3) := by decide +kernel
theorem dX9_agreeing_42 : decode cX9_agreeing 42 = .ok (.imul, 1) := by decide +kernel
theorem dX9_agreeing_43 : decode cX9_agreeing 43 = .ok (.iload_n 3, 1) := by decide +kernel
theorem dX9_agreeing_44 : decode cX9_agreeing 44 = .ok (.iadd, 1) := by decide +kernel
theorem dX9_agreeing_45 : decode cX9_agreeing 45 = .ok (.iload_n 3, 1) := by decide +kernel
theorem dX9_agreeing_46 : decode cX9_agreeing 46 = .ok (.iload_n 2, 1) := by decide +kernel
theorem dX9_agreeing_47 : decode cX9_agreeing 47 = .ok (.if_icmp .ne 7, 3) := by decide +kernel
theorem dX9_agreeing_50 : decode cX9_agreeing 50 = .ok (.iconst 1, 1) := by decide +kernel
theorem dX9_agreeing_51 : decode cX9_agreeing 51 = .ok (.goto 4, 3) := by decide +kernel
theorem dX9_agreeing_54 : decode cX9_agreeing 54 = .ok (.iconst 0, 1) := by decide +kernel
theorem dX9_agreeing_55 : decode cX9_agreeing 55 = .ok (.iastore, 1) := by decide +kernel
theorem dX9_agreeing_56 : decode cX9_agreeing 56 = .ok (.iinc 3 1, 3) := by decide +kernel
theorem dX9_agreeing_59 : decode cX9_agreeing 59 = .ok (.goto (-33), 3) := by decide +kernel
theorem dX9_agreeing_62 : decode cX9_agreeing 62 = .ok (.aload_n 0, 1) := by decide +kernel
theorem dX9_agreeing_63 : decode cX9_agreeing 63 = .ok (.getfield 156, 3) := by decide +kernel
theorem dX9_agreeing_66 : decode cX9_agreeing 66 = .ok (.iconst 1, 1) := by decide +kernel
theorem dX9_agreeing_67 : decode cX9_agreeing 67 = .ok (.isub, 1) := by decide +kernel
theorem dX9_agreeing_68 : decode cX9_agreeing 68 = .ok (.istore_n 3, 1) := by decide +kernel
theorem dX9_agreeing_69 : decode cX9_agreeing 69 = .ok (.iload_n 3, 1) := by decide +kernel
theorem dX9_agreeing_70 : decode cX9_agreeing 70 = .ok (.ifCond .lt 105, 3) := by decide +kernel
theorem dX9_agreeing_73 : decode cX9_agreeing 73 = .ok (.iconst 0, 1) := by decide +kernel
theorem dX9_agreeing_74 : decode cX9_agreeing 74 = .ok (.istore 4, 2) := by decide +kernel
theorem dX9_agreeing_76 : decode cX9_agreeing 76 = .ok (.iload 4, 2) := by decide +kernel
theorem dX9_agreeing_78 : decode cX9_agreeing 78 = .ok (.bipush 9, 2) := by decide +kernel
theorem dX9_agreeing_80 : decode cX9_agreeing 80 = .ok (.if_icmp .ge 89, 3) := by decide +kernel
theorem dX9_agreeing_83 : decode cX9_agreeing 83 = .ok (.iconst 0, 1) := by decide +kernel
theorem dX9_agreeing_84 : decode cX9_agreeing 84 = .ok (.istore 5, 2) := by decide +kernel
theorem dX9_agreeing_86 : decode cX9_agreeing 86 = .ok (.iconst 0, 1) := by decide +kernel
theorem dX9_agreeing_87 : decode cX9_agreeing 87 = .ok (.istore 6, 2) := by decide +kernel
theorem dX9_agreeing_89 : decode cX9_agreeing 89 = .ok (.iload 6, 2) := by decide +kernel
theorem dX9_agreeing_91 : decode cX9_agreeing 91 = .ok (.bipush 9, 2) := by decide +kernel
theorem dX9_agreeing_93 : decode cX9_agreeing 93 = .ok (.if_icmp .ge 56, 3) := by decide +kernel
theorem dX9_agreeing_96 : decode cX9_agreeing 96 = .ok (.aload_n 0, 1) := by decide +kernel
theorem dX9_agreeing_97 : decode cX9_agreeing 97 = .ok (.getfield 62, 3) := by decide +kernel
theorem dX9_agreeing_100 : decode cX9_agreeing 100 = .ok (.bipush 81, 2) := by decide +kernel
theorem dX9_agreeing_102 : decode cX9_agreeing 102 = .ok (.iload_n 3, 1) := by decide +kernel
theorem dX9_agreeing_103 : decode cX9_agreeing 103 = .ok (.imul, 1) := by decide +kernel
theorem dX9_agreeing_104 : decode cX9_agreeing 104 = .ok (.bipush 9, 2) := by decide +kernel
theorem dX9_agreeing_106 : decode cX9_agreeing 106 = .ok (.iload 4, 2) := by decide +kernel
theorem dX9_agreeing_108 : decode cX9_agreeing 108 = .ok (.imul, 1) := by decide +kernel
theorem dX9_agreeing_109 : decode cX9_agreeing 109 = .ok (.iadd, 1) := by decide +kernel
theorem dX9_agreeing_110 : decode cX9_agreeing 110 = .ok (.iload 6, 2) := by decide +kernel
theorem dX9_agreeing_112 : decode cX9_agreeing 112 = .ok (.iadd, 1) := by decide +kernel
theorem dX9_agreeing_113 : decode cX9_agreeing 113 = .ok (.iaload, 1) := by decide +kernel
theorem dX9_agreeing_114 : decode cX9_agreeing 114 = .ok (.ifCond .ne 25, 3) := by decide +kernel
theorem dX9_agreeing_117 : decode cX9_agreeing 117 = .ok (.iload 5, 2) := by decide +kernel
theorem dX9_agreeing_119 : decode cX9_agreeing 119 = .ok (.aload_n 0, 1) := by decide +kernel
theorem dX9_agreeing_120 : decode cX9_agreeing 120 = .ok (.getfield 65, 3) := by decide +kernel
theorem dX9_agreeing_123 : decode cX9_agreeing 123 = .ok (.bipush 9, 2) := by decide +kernel
theorem dX9_agreeing_125 : decode cX9_agreeing 125 = .ok (.iload_n 3, 1) := by decide +kernel
theorem dX9_agreeing_126 : decode cX9_agreeing 126 = .ok (.iconst 1, 1) := by decide +kernel
theorem dX9_agreeing_127 : decode cX9_agreeing 127 = .ok (.iadd, 1) := by decide +kernel
theorem dX9_agreeing_128 : decode cX9_agreeing 128 = .ok (.imul, 1) := by decide +kernel
theorem dX9_agreeing_129 : decode cX9_agreeing 129 = .ok (.iload 6, 2) := by decide +kernel
theorem dX9_agreeing_131 : decode cX9_agreeing 131 = .ok (.iadd, 1) := by decide +kernel
theorem dX9_agreeing_132 : decode cX9_agreeing 132 = .ok (.iaload, 1) := by decide +kernel
theorem dX9_agreeing_133 : decode cX9_agreeing 133 = .ok (.invokestatic 131, 3) := by decide +kernel
theorem dX9_agreeing_136 : decode cX9_agreeing 136 = .ok (.goto 5, 3) := by decide +kernel
theorem dX9_agreeing_139 : decode cX9_agreeing 139 = .ok (.iload 5, 2) := by decide +kernel
theorem dX9_agreeing_141 : decode cX9_agreeing 141 = .ok (.istore 5, 2) := by decide +kernel
theorem dX9_agreeing_143 : decode cX9_agreeing 143 = .ok (.iinc 6 1, 3) := by decide +kernel
theorem dX9_agreeing_146 : decode cX9_agreeing 146 = .ok (.goto (-57), 3) := by decide +kernel
theorem dX9_agreeing_149 : decode cX9_agreeing 149 = .ok (.aload_n 0, 1) := by decide +kernel
theorem dX9_agreeing_150 : decode cX9_agreeing 150 = .ok (.getfield 65, 3) := by decide +kernel
theorem dX9_agreeing_153 : decode cX9_agreeing 153 = .ok (.bipush 9, 2) := by decide +kernel
theorem dX9_agreeing_155 : decode cX9_agreeing 155 = .ok (.iload_n 3, 1) := by decide +kernel
theorem dX9_agreeing_156 : decode cX9_agreeing 156 = .ok (.imul, 1) := by decide +kernel
theorem dX9_agreeing_157 : decode cX9_agreeing 157 = .ok (.iload 4, 2) := by decide +kernel
theorem dX9_agreeing_159 : decode cX9_agreeing 159 = .ok (.iadd, 1) := by decide +kernel
theorem dX9_agreeing_160 : decode cX9_agreeing 160 = .ok (.iload 5, 2) := by decide +kernel
theorem dX9_agreeing_162 : decode cX9_agreeing 162 = .ok (.iastore, 1) := by decide +kernel
theorem dX9_agreeing_163 : decode cX9_agreeing 163 = .ok (.iinc 4 1, 3) := by decide +kernel
theorem dX9_agreeing_166 : decode cX9_agreeing 166 = .ok (.goto (-90), 3) := by decide +kernel
theorem dX9_agreeing_169 : decode cX9_agreeing 169 = .ok (.iinc 3 (-1), 3) := by decide +kernel
theorem dX9_agreeing_172 : decode cX9_agreeing 172 = .ok (.goto (-103), 3) := by decide +kernel
theorem dX9_agreeing_175 : decode cX9_agreeing 175 = .ok (.iload_n 1, 1) := by decide +kernel
theorem dX9_agreeing_176 : decode cX9_agreeing 176 = .ok (.aload_n 0, 1) := by decide +kernel
theorem dX9_agreeing_177 : decode cX9_agreeing 177 = .ok (.getfield 65, 3) := by decide +kernel
theorem dX9_agreeing_180 : decode cX9_agreeing 180 = .ok (.iload_n 2, 1) := by decide +kernel
theorem dX9_agreeing_181 : decode cX9_agreeing 181 = .ok (.iaload, 1) := by decide +kernel
theorem dX9_agreeing_182 : decode cX9_agreeing 182 = .ok (.invokestatic 131, 3) := by decide +kernel
theorem dX9_agreeing_185 : decode cX9_agreeing 185 = .ok (.istore_n 1, 1) := by decide +kernel
theorem dX9_agreeing_186 : decode cX9_agreeing 186 = .ok (.iinc 2 1, 3) := by decide +kernel
theorem dX9_agreeing_189 : decode cX9_agreeing 189 = .ok (.goto (-171), 3) := by decide +kernel
theorem dX9_agreeing_192 : decode cX9_agreeing 192 = .ok (.iload_n 1, 1) := by decide +kernel
theorem dX9_agreeing_193 : decode cX9_agreeing 193 = .ok (.ireturn, 1) := by decide +kernel
theorem dX9_findTable_0 : decode cX9_findTable 0 = .ok (.iconst 0, 1) := by decide +kernel
theorem dX9_findTable_1 : decode cX9_findTable 1 = .ok (.istore_n 2, 1) := by decide +kernel
theorem dX9_findTable_2 : decode cX9_findTable 2 = .ok (.iload_n 2, 1) := by decide +kernel
theorem dX9_findTable_3 : decode cX9_findTable 3 = .ok (.bipush 9, 2) := by decide +kernel
theorem dX9_findTable_5 : decode cX9_findTable 5 = .ok (.if_icmp .ge 35, 3) := by decide +kernel
theorem dX9_findTable_8 : decode cX9_findTable 8 = .ok (.aload_n 0, 1) := by decide +kernel
theorem dX9_findTable_9 : decode cX9_findTable 9 = .ok (.getfield 65, 3) := by decide +kernel
theorem dX9_findTable_12 : decode cX9_findTable 12 = .ok (.bipush 9, 2) := by decide +kernel
theorem dX9_findTable_14 : decode cX9_findTable 14 = .ok (.aload_n 0, 1) := by decide +kernel
theorem dX9_findTable_15 : decode cX9_findTable 15 = .ok (.getfield 156, 3) := by decide +kernel
theorem dX9_findTable_18 : decode cX9_findTable 18 = .ok (.imul, 1) := by decide +kernel
theorem dX9_findTable_19 : decode cX9_findTable 19 = .ok (.iload_n 2, 1) := by decide +kernel
theorem dX9_findTable_20 : decode cX9_findTable 20 = .ok (.iadd, 1) := by decide +kernel
theorem dX9_findTable_21 : decode cX9_findTable 21 = .ok (.iload_n 2, 1) := by decide +kernel
theorem dX9_findTable_22 : decode cX9_findTable 22 = .ok (.iload_n 1, 1) := by decide +kernel
theorem dX9_findTable_23 : decode cX9_findTable 23 = .ok (.if_icmp .ne 7, 3) := by decide +kernel
theorem dX9_findTable_26 : decode cX9_findTable 26 = .ok (.iconst 0, 1) := by decide +kernel
theorem dX9_findTable_27 : decode cX9_findTable 27 = .ok (.goto 6, 3) := by decide +kernel
theorem dX9_findTable_30 : decode cX9_findTable 30 = .ok (.sipush 10000, 3) := by decide +kernel
theorem dX9_findTable_33 : decode cX9_findTable 33 = .ok (.iastore, 1) := by decide +kernel
theorem dX9_findTable_34 : decode cX9_findTable 34 = .ok (.iinc 2 1, 3) := by decide +kernel
theorem dX9_findTable_37 : decode cX9_findTable 37 = .ok (.goto (-35), 3) := by decide +kernel
theorem dX9_findTable_40 : decode cX9_findTable 40 = .ok (.aload_n 0, 1) := by decide +kernel
theorem dX9_findTable_41 : decode cX9_findTable 41 = .ok (.getfield 156, 3) := by decide +kernel
theorem dX9_findTable_44 : decode cX9_findTable 44 = .ok (.iconst 1, 1) := by decide +kernel
theorem dX9_findTable_45 : decode cX9_findTable 45 = .ok (.isub, 1) := by decide +kernel
theorem dX9_findTable_46 : decode cX9_findTable 46 = .ok (.istore_n 2, 1) := by decide +kernel
theorem dX9_findTable_47 : decode cX9_findTable 47 = .ok (.iload_n 2, 1) := by decide +kernel
theorem dX9_findTable_48 : decode cX9_findTable 48 = .ok (.ifCond .lt 106, 3) := by decide +kernel
theorem dX9_findTable_51 : decode cX9_findTable 51 = .ok (.iconst 0, 1) := by decide +kernel
theorem dX9_findTable_52 : decode cX9_findTable 52 = .ok (.istore_n 3, 1) := by decide +kernel
theorem dX9_findTable_53 : decode cX9_findTable 53 = .ok (.iload_n 3, 1) := by decide +kernel
theorem dX9_findTable_54 : decode cX9_findTable 54 = .ok (.bipush 9, 2) := by decide +kernel
theorem dX9_findTable_56 : decode cX9_findTable 56 = .ok (.if_icmp .ge 92, 3) := by decide +kernel
theorem dX9_findTable_59 : decode cX9_findTable 59 = .ok (.ldc 171, 2) := by decide +kernel
theorem dX9_findTable_61 : decode cX9_findTable 61 = .ok (.istore 4, 2) := by decide +kernel
theorem dX9_findTable_63 : decode cX9_findTable 63 = .ok (.iconst 0, 1) := by decide +kernel
theorem dX9_findTable_64 : decode cX9_findTable 64 = .ok (.istore 5, 2) := by decide +kernel
theorem dX9_findTable_66 : decode cX9_findTable 66 = .ok (.iload 5, 2) := by decide +kernel
theorem dX9_findTable_68 : decode cX9_findTable 68 = .ok (.bipush 9, 2) := by decide +kernel
theorem dX9_findTable_70 : decode cX9_findTable 70 = .ok (.if_icmp .ge 59, 3) := by decide +kernel
theorem dX9_findTable_73 : decode cX9_findTable 73 = .ok (.aload_n 0, 1) := by decide +kernel
theorem dX9_findTable_74 : decode cX9_findTable 74 = .ok (.getfield 62, 3) := by decide +kernel
theorem dX9_findTable_77 : decode cX9_findTable 77 = .ok (.bipush 81, 2) := by decide +kernel
theorem dX9_findTable_79 : decode cX9_findTable 79 = .ok (.iload_n 2, 1) := by decide +kernel
theorem dX9_findTable_80 : decode cX9_findTable 80 = .ok (.imul, 1) := by decide +kernel
theorem dX9_findTable_81 : decode cX9_findTable 81 = .ok (.bipush 9, 2) := by decide +kernel
theorem dX9_findTable_83 : decode cX9_findTable 83 = .ok (.iload_n 3, 1) := by decide +kernel
theorem dX9_findTable_84 : decode cX9_findTable 84 = .ok (.imul, 1) := by decide +kernel
theorem dX9_findTable_85 : decode cX9_findTable 85 = .ok (.iadd, 1) := by decide +kernel
theorem dX9_findTable_86 : decode cX9_findTable 86 = .ok (.iload 5, 2) := by decide +kernel
theorem dX9_findTable_88 : decode cX9_findTable 88 = .ok (.iadd, 1) := by decide +kernel
theorem dX9_findTable_89 : decode cX9_findTable 89 = .ok (.iaload, 1) := by decide +kernel
theorem dX9_findTable_90 : decode cX9_findTable 90 = .ok (.aload_n 0, 1) := by decide +kernel
theorem dX9_findTable_91 : decode cX9_findTable 91 = .ok (.getfield 65, 3) := by decide +kernel
theorem dX9_findTable_94 : decode cX9_findTable 94 = .ok (.bipush 9, 2) := by decide +kernel
theorem dX9_findTable_96 : decode cX9_findTable 96 = .ok (.iload_n 2, 1) := by decide +kernel
theorem dX9_findTable_97 : decode cX9_findTable 97 = .ok (.iconst 1, 1) := by decide +kernel
theorem dX9_findTable_98 : decode cX9_findTable 98 = .ok (.iadd, 1) := by decide +kernel
theorem dX9_findTable_99 : decode cX9_findTable 99 = .ok (.imul, 1) := by decide +kernel
theorem dX9_findTable_100 : decode cX9_findTable 100 = .ok (.iload 5, 2) := by decide +kernel
theorem dX9_findTable_102 : decode cX9_findTable 102 = .ok (.iadd, 1) := by decide +kernel
theorem dX9_findTable_103 : decode cX9_findTable 103 = .ok (.iaload, 1) := by decide +kernel
theorem dX9_findTable_104 : decode cX9_findTable 104 = .ok (.iadd, 1) := by decide +kernel
theorem dX9_findTable_105 : decode cX9_findTable 105 = .ok (.istore 6, 2) := by decide +kernel
theorem dX9_findTable_107 : decode cX9_findTable 107 = .ok (.iload 6, 2) := by decide +kernel
theorem dX9_findTable_109 : decode cX9_findTable 109 = .ok (.iload 4, 2) := by decide +kernel
theorem dX9_findTable_111 : decode cX9_findTable 111 = .ok (.if_icmp .ge 8, 3) := by decide +kernel
theorem dX9_findTable_114 : decode cX9_findTable 114 = .ok (.iload 6, 2) := by decide +kernel
theorem dX9_findTable_116 : decode cX9_findTable 116 = .ok (.goto 5, 3) := by decide +kernel
theorem dX9_findTable_119 : decode cX9_findTable 119 = .ok (.iload 4, 2) := by decide +kernel
theorem dX9_findTable_121 : decode cX9_findTable 121 = .ok (.istore 4, 2) := by decide +kernel
theorem dX9_findTable_123 : decode cX9_findTable 123 = .ok (.iinc 5 1, 3) := by decide +kernel
theorem dX9_findTable_126 : decode cX9_findTable 126 = .ok (.goto (-60), 3) := by decide +kernel
theorem dX9_findTable_129 : decode cX9_findTable 129 = .ok (.aload_n 0, 1) := by decide +kernel
theorem dX9_findTable_130 : decode cX9_findTable 130 = .ok (.getfield 65, 3) := by decide +kernel
theorem dX9_findTable_133 : decode cX9_findTable 133 = .ok (.bipush 9, 2) := by decide +kernel
theorem dX9_findTable_135 : decode cX9_findTable 135 = .ok (.iload_n 2, 1) := by decide +kernel
theorem dX9_findTable_136 : decode cX9_findTable 136 = .ok (.imul, 1) := by decide +kernel
theorem dX9_findTable_137 : decode cX9_findTable 137 = .ok (.iload_n 3, 1) := by decide +kernel
theorem dX9_findTable_138 : decode cX9_findTable 138 = .ok (.iadd, 1) := by decide +kernel
theorem dX9_findTable_139 : decode cX9_findTable 139 = .ok (.iload 4, 2) := by decide +kernel
theorem dX9_findTable_141 : decode cX9_findTable 141 = .ok (.iastore, 1) := by decide +kernel
theorem dX9_findTable_142 : decode cX9_findTable 142 = .ok (.iinc 3 1, 3) := by decide +kernel
theorem dX9_findTable_145 : decode cX9_findTable 145 = .ok (.goto (-92), 3) := by decide +kernel
theorem dX9_findTable_148 : decode cX9_findTable 148 = .ok (.iinc 2 (-1), 3) := by decide +kernel
theorem dX9_findTable_151 : decode cX9_findTable 151 = .ok (.goto (-104), 3) := by decide +kernel
theorem dX9_findTable_154 : decode cX9_findTable 154 = .ok (.aload_n 0, 1) := by decide +kernel
theorem dX9_findTable_155 : decode cX9_findTable 155 = .ok (.getfield 65, 3) := by decide +kernel
theorem dX9_findTable_158 : decode cX9_findTable 158 = .ok (.iload_n 1, 1) := by decide +kernel
theorem dX9_findTable_159 : decode cX9_findTable 159 = .ok (.iaload, 1) := by decide +kernel
theorem dX9_findTable_160 : decode cX9_findTable 160 = .ok (.ireturn, 1) := by decide +kernel
theorem dX9_findBest_0 : decode cX9_findBest 0 = .ok (.aload_n 0, 1) := by decide +kernel
theorem dX9_findBest_1 : decode cX9_findBest 1 = .ok (.invokevirtual 168, 3) := by decide +kernel
theorem dX9_findBest_4 : decode cX9_findBest 4 = .ok (.iconst 0, 1) := by decide +kernel
theorem dX9_findBest_5 : decode cX9_findBest 5 = .ok (.istore_n 1, 1) := by decide +kernel
theorem dX9_findBest_6 : decode cX9_findBest 6 = .ok (.ldc 171, 2) := by decide +kernel
theorem dX9_findBest_8 : decode cX9_findBest 8 = .ok (.istore_n 2, 1) := by decide +kernel
theorem dX9_findBest_9 : decode cX9_findBest 9 = .ok (.iconst 0, 1) := by decide +kernel
theorem dX9_findBest_10 : decode cX9_findBest 10 = .ok (.istore_n 3, 1) := by decide +kernel
theorem dX9_findBest_11 : decode cX9_findBest 11 = .ok (.iload_n 3, 1) := by decide +kernel
theorem dX9_findBest_12 : decode cX9_findBest 12 = .ok (.bipush 9, 2) := by decide +kernel
theorem dX9_findBest_14 : decode cX9_findBest 14 = .ok (.if_icmp .ge 41, 3) := by decide +kernel
theorem dX9_findBest_17 : decode cX9_findBest 17 = .ok (.aload_n 0, 1) := by decide +kernel
theorem dX9_findBest_18 : decode cX9_findBest 18 = .ok (.iload_n 3, 1) := by decide +kernel
theorem dX9_findBest_19 : decode cX9_findBest 19 = .ok (.invokevirtual 172, 3) := by decide +kernel
theorem dX9_findBest_22 : decode cX9_findBest 22 = .ok (.istore 4, 2) := by decide +kernel
theorem dX9_findBest_24 : decode cX9_findBest 24 = .ok (.iload 4, 2) := by decide +kernel
theorem dX9_findBest_26 : decode cX9_findBest 26 = .ok (.iload_n 2, 1) := by decide +kernel
theorem dX9_findBest_27 : decode cX9_findBest 27 = .ok (.if_icmp .ge 7, 3) := by decide +kernel
theorem dX9_findBest_30 : decode cX9_findBest 30 = .ok (.iload_n 3, 1) := by decide +kernel
theorem dX9_findBest_31 : decode cX9_findBest 31 = .ok (.goto 4, 3) := by decide +kernel
theorem dX9_findBest_34 : decode cX9_findBest 34 = .ok (.iload_n 1, 1) := by decide +kernel
theorem dX9_findBest_35 : decode cX9_findBest 35 = .ok (.istore_n 1, 1) := by decide +kernel
theorem dX9_findBest_36 : decode cX9_findBest 36 = .ok (.iload 4, 2) := by decide +kernel
theorem dX9_findBest_38 : decode cX9_findBest 38 = .ok (.iload_n 2, 1) := by decide +kernel
theorem dX9_findBest_39 : decode cX9_findBest 39 = .ok (.if_icmp .ge 8, 3) := by decide +kernel
theorem dX9_findBest_42 : decode cX9_findBest 42 = .ok (.iload 4, 2) := by decide +kernel
theorem dX9_findBest_44 : decode cX9_findBest 44 = .ok (.goto 4, 3) := by decide +kernel
theorem dX9_findBest_47 : decode cX9_findBest 47 = .ok (.iload_n 2, 1) := by decide +kernel
theorem dX9_findBest_48 : decode cX9_findBest 48 = .ok (.istore_n 2, 1) := by decide +kernel
theorem dX9_findBest_49 : decode cX9_findBest 49 = .ok (.iinc 3 1, 3) := by decide +kernel
theorem dX9_findBest_52 : decode cX9_findBest 52 = .ok (.goto (-41), 3) := by decide +kernel
theorem dX9_findBest_55 : decode cX9_findBest 55 = .ok (.aload_n 0, 1) := by decide +kernel
theorem dX9_findBest_56 : decode cX9_findBest 56 = .ok (.iload_n 1, 1) := by decide +kernel
theorem dX9_findBest_57 : decode cX9_findBest 57 = .ok (.invokevirtual 172, 3) := by decide +kernel
theorem dX9_findBest_60 : decode cX9_findBest 60 = .ok (.pop, 1) := by decide +kernel
theorem dX9_findBest_61 : decode cX9_findBest 61 = .ok (.aload_n 0, 1) := by decide +kernel
theorem dX9_findBest_62 : decode cX9_findBest 62 = .ok (.getfield 68, 3) := by decide +kernel
theorem dX9_findBest_65 : decode cX9_findBest 65 = .ok (.iconst 0, 1) := by decide +kernel
theorem dX9_findBest_66 : decode cX9_findBest 66 = .ok (.iload_n 1, 1) := by decide +kernel
theorem dX9_findBest_67 : decode cX9_findBest 67 = .ok (.iastore, 1) := by decide +kernel
theorem dX9_findBest_68 : decode cX9_findBest 68 = .ok (.iconst 0, 1) := by decide +kernel
theorem dX9_findBest_69 : decode cX9_findBest 69 = .ok (.istore_n 3, 1) := by decide +kernel
theorem dX9_findBest_70 : decode cX9_findBest 70 = .ok (.iload_n 3, 1) := by decide +kernel
theorem dX9_findBest_71 : decode cX9_findBest 71 = .ok (.iconst 1, 1) := by decide +kernel
theorem dX9_findBest_72 : decode cX9_findBest 72 = .ok (.iadd, 1) := by decide +kernel
theorem dX9_findBest_73 : decode cX9_findBest 73 = .ok (.aload_n 0, 1) := by decide +kernel
theorem dX9_findBest_74 : decode cX9_findBest 74 = .ok (.getfield 156, 3) := by decide +kernel
theorem dX9_findBest_77 : decode cX9_findBest 77 = .ok (.if_icmp .ge 84, 3) := by decide +kernel
theorem dX9_findBest_80 : decode cX9_findBest 80 = .ok (.iconst 0, 1) := by decide +kernel
theorem dX9_findBest_81 : decode cX9_findBest 81 = .ok (.istore 4, 2) := by decide +kernel
theorem dX9_findBest_83 : decode cX9_findBest 83 = .ok (.aload_n 0, 1) := by decide +kernel
theorem dX9_findBest_84 : decode cX9_findBest 84 = .ok (.getfield 62, 3) := by decide +kernel
theorem dX9_findBest_87 : decode cX9_findBest 87 = .ok (.bipush 81, 2) := by decide +kernel
theorem dX9_findBest_89 : decode cX9_findBest 89 = .ok (.iload_n 3, 1) := by decide +kernel
theorem dX9_findBest_90 : decode cX9_findBest 90 = .ok (.imul, 1) := by decide +kernel
theorem dX9_findBest_91 : decode cX9_findBest 91 = .ok (.bipush 9, 2) := by decide +kernel
theorem dX9_findBest_93 : decode cX9_findBest 93 = .ok (.aload_n 0, 1) := by decide +kernel
theorem dX9_findBest_94 : decode cX9_findBest 94 = .ok (.getfield 68, 3) := by decide +kernel
theorem dX9_findBest_97 : decode cX9_findBest 97 = .ok (.iload_n 3, 1) := by decide +kernel
theorem dX9_findBest_98 : decode cX9_findBest 98 = .ok (.iaload, 1) := by decide +kernel
theorem dX9_findBest_99 : decode cX9_findBest 99 = .ok (.imul, 1) := by decide +kernel
theorem dX9_findBest_100 : decode cX9_findBest 100 = .ok (.iadd, 1) := by decide +kernel
theorem dX9_findBest_101 : decode cX9_findBest 101 = .ok (.iload 4, 2) := by decide +kernel
theorem dX9_findBest_103 : decode cX9_findBest 103 = .ok (.iadd, 1) := by decide +kernel
theorem dX9_findBest_104 : decode cX9_findBest 104 = .ok (.iaload, 1) := by decide +kernel
theorem dX9_findBest_105 : decode cX9_findBest 105 = .ok (.aload_n 0, 1) := by decide +kernel
theorem dX9_findBest_106 : decode cX9_findBest 106 = .ok (.getfield 65, 3) := by decide +kernel
theorem dX9_findBest_109 : decode cX9_findBest 109 = .ok (.bipush 9, 2) := by decide +kernel
theorem dX9_findBest_111 : decode cX9_findBest 111 = .ok (.iload_n 3, 1) := by decide +kernel
theorem dX9_findBest_112 : decode cX9_findBest 112 = .ok (.iconst 1, 1) := by decide +kernel
theorem dX9_findBest_113 : decode cX9_findBest 113 = .ok (.iadd, 1) := by decide +kernel
theorem dX9_findBest_114 : decode cX9_findBest 114 = .ok (.imul, 1) := by decide +kernel
theorem dX9_findBest_115 : decode cX9_findBest 115 = .ok (.iload 4, 2) := by decide +kernel
theorem dX9_findBest_117 : decode cX9_findBest 117 = .ok (.iadd, 1) := by decide +kernel
theorem dX9_findBest_118 : decode cX9_findBest 118 = .ok (.iaload, 1) := by decide +kernel
theorem dX9_findBest_119 : decode cX9_findBest 119 = .ok (.iadd, 1) := by decide +kernel
theorem dX9_findBest_120 : decode cX9_findBest 120 = .ok (.aload_n 0, 1) := by decide +kernel
theorem dX9_findBest_121 : decode cX9_findBest 121 = .ok (.getfield 65, 3) := by decide +kernel
theorem dX9_findBest_124 : decode cX9_findBest 124 = .ok (.bipush 9, 2) := by decide +kernel
theorem dX9_findBest_126 : decode cX9_findBest 126 = .ok (.iload_n 3, 1) := by decide +kernel
theorem dX9_findBest_127 : decode cX9_findBest 127 = .ok (.imul, 1) := by decide +kernel
theorem dX9_findBest_128 : decode cX9_findBest 128 = .ok (.aload_n 0, 1) := by decide +kernel
theorem dX9_findBest_129 : decode cX9_findBest 129 = .ok (.getfield 68, 3) := by decide +kernel
theorem dX9_findBest_132 : decode cX9_findBest 132 = .ok (.iload_n 3, 1) := by decide +kernel
theorem dX9_findBest_133 : decode cX9_findBest 133 = .ok (.iaload, 1) := by decide +kernel
theorem dX9_findBest_134 : decode cX9_findBest 134 = .ok (.iadd, 1) := by decide +kernel
theorem dX9_findBest_135 : decode cX9_findBest 135 = .ok (.iaload, 1) := by decide +kernel
theorem dX9_findBest_136 : decode cX9_findBest 136 = .ok (.if_icmp .eq 9, 3) := by decide +kernel
theorem dX9_findBest_139 : decode cX9_findBest 139 = .ok (.iinc 4 1, 3) := by decide +kernel
theorem dX9_findBest_142 : decode cX9_findBest 142 = .ok (.goto (-59), 3) := by decide +kernel
theorem dX9_findBest_145 : decode cX9_findBest 145 = .ok (.aload_n 0, 1) := by decide +kernel
theorem dX9_findBest_146 : decode cX9_findBest 146 = .ok (.getfield 68, 3) := by decide +kernel
theorem dX9_findBest_149 : decode cX9_findBest 149 = .ok (.iload_n 3, 1) := by decide +kernel
theorem dX9_findBest_150 : decode cX9_findBest 150 = .ok (.iconst 1, 1) := by decide +kernel
theorem dX9_findBest_151 : decode cX9_findBest 151 = .ok (.iadd, 1) := by decide +kernel
theorem dX9_findBest_152 : decode cX9_findBest 152 = .ok (.iload 4, 2) := by decide +kernel
theorem dX9_findBest_154 : decode cX9_findBest 154 = .ok (.iastore, 1) := by decide +kernel
theorem dX9_findBest_155 : decode cX9_findBest 155 = .ok (.iinc 3 1, 3) := by decide +kernel
theorem dX9_findBest_158 : decode cX9_findBest 158 = .ok (.goto (-88), 3) := by decide +kernel
theorem dX9_findBest_161 : decode cX9_findBest 161 = .ok (.return_, 1) := by decide +kernel
theorem dX9_least_0 : decode cX9_least 0 = .ok (.aload_n 0, 1) := by decide +kernel
theorem dX9_least_1 : decode cX9_least 1 = .ok (.getfield 141, 3) := by decide +kernel
theorem dX9_least_4 : decode cX9_least 4 = .ok (.ifCond .ne 6, 3) := by decide +kernel
theorem dX9_least_7 : decode cX9_least 7 = .ok (.bipush (-4), 2) := by decide +kernel
theorem dX9_least_9 : decode cX9_least 9 = .ok (.ireturn, 1) := by decide +kernel
theorem dX9_least_10 : decode cX9_least 10 = .ok (.iload_n 1, 1) := by decide +kernel
theorem dX9_least_11 : decode cX9_least 11 = .ok (.iconst 0, 1) := by decide +kernel
theorem dX9_least_12 : decode cX9_least 12 = .ok (.aload_n 0, 1) := by decide +kernel
theorem dX9_least_13 : decode cX9_least 13 = .ok (.getfield 156, 3) := by decide +kernel
theorem dX9_least_16 : decode cX9_least 16 = .ok (.iconst 1, 1) := by decide +kernel
theorem dX9_least_17 : decode cX9_least 17 = .ok (.isub, 1) := by decide +kernel
theorem dX9_least_18 : decode cX9_least 18 = .ok (.invokestatic 86, 3) := by decide +kernel
theorem dX9_least_21 : decode cX9_least 21 = .ok (.ifCond .ne 5, 3) := by decide +kernel
theorem dX9_least_24 : decode cX9_least 24 = .ok (.iconst (-1), 1) := by decide +kernel
theorem dX9_least_25 : decode cX9_least 25 = .ok (.ireturn, 1) := by decide +kernel
theorem dX9_least_26 : decode cX9_least 26 = .ok (.aload_n 0, 1) := by decide +kernel
theorem dX9_least_27 : decode cX9_least 27 = .ok (.invokevirtual 175, 3) := by decide +kernel
theorem dX9_least_30 : decode cX9_least 30 = .ok (.aload_n 0, 1) := by decide +kernel
theorem dX9_least_31 : decode cX9_least 31 = .ok (.getfield 68, 3) := by decide +kernel
theorem dX9_least_34 : decode cX9_least 34 = .ok (.iload_n 1, 1) := by decide +kernel
theorem dX9_least_35 : decode cX9_least 35 = .ok (.iaload, 1) := by decide +kernel
theorem dX9_least_36 : decode cX9_least 36 = .ok (.ireturn, 1) := by decide +kernel
theorem dX9_blamed_0 : decode cX9_blamed 0 = .ok (.aload_n 0, 1) := by decide +kernel
theorem dX9_blamed_1 : decode cX9_blamed 1 = .ok (.iload_n 1, 1) := by decide +kernel
theorem dX9_blamed_2 : decode cX9_blamed 2 = .ok (.invokevirtual 162, 3) := by decide +kernel
theorem dX9_blamed_5 : decode cX9_blamed 5 = .ok (.ifCond .eq 18, 3) := by decide +kernel
theorem dX9_blamed_8 : decode cX9_blamed 8 = .ok (.iload_n 2, 1) := by decide +kernel
theorem dX9_blamed_9 : decode cX9_blamed 9 = .ok (.iconst (-1), 1) := by decide +kernel
theorem dX9_blamed_10 : decode cX9_blamed 10 = .ok (.aload_n 0, 1) := by decide +kernel
theorem dX9_blamed_11 : decode cX9_blamed 11 = .ok (.iload_n 1, 1) := by decide +kernel
theorem dX9_blamed_12 : decode cX9_blamed 12 = .ok (.invokevirtual 165, 3) := by decide +kernel
theorem dX9_blamed_15 : decode cX9_blamed 15 = .ok (.iconst 1, 1) := by decide +kernel
theorem dX9_blamed_16 : decode cX9_blamed 16 = .ok (.isub, 1) := by decide +kernel
theorem dX9_blamed_17 : decode cX9_blamed 17 = .ok (.invokestatic 86, 3) := by decide +kernel
theorem dX9_blamed_20 : decode cX9_blamed 20 = .ok (.ifCond .ne 6, 3) := by decide +kernel
theorem dX9_blamed_23 : decode cX9_blamed 23 = .ok (.bipush (-2), 2) := by decide +kernel
theorem dX9_blamed_25 : decode cX9_blamed 25 = .ok (.ireturn, 1) := by decide +kernel
theorem dX9_blamed_26 : decode cX9_blamed 26 = .ok (.aload_n 0, 1) := by decide +kernel
theorem dX9_blamed_27 : decode cX9_blamed 27 = .ok (.invokevirtual 175, 3) := by decide +kernel
theorem dX9_blamed_30 : decode cX9_blamed 30 = .ok (.iconst 0, 1) := by decide +kernel
theorem dX9_blamed_31 : decode cX9_blamed 31 = .ok (.istore_n 3, 1) := by decide +kernel
theorem dX9_blamed_32 : decode cX9_blamed 32 = .ok (.iconst 0, 1) := by decide +kernel
theorem dX9_blamed_33 : decode cX9_blamed 33 = .ok (.istore 4, 2) := by decide +kernel
theorem dX9_blamed_35 : decode cX9_blamed 35 = .ok (.iconst 0, 1) := by decide +kernel
theorem dX9_blamed_36 : decode cX9_blamed 36 = .ok (.istore 5, 2) := by decide +kernel
theorem dX9_blamed_38 : decode cX9_blamed 38 = .ok (.iload 5, 2) := by decide +kernel
theorem dX9_blamed_40 : decode cX9_blamed 40 = .ok (.aload_n 0, 1) := by decide +kernel
theorem dX9_blamed_41 : decode cX9_blamed 41 = .ok (.getfield 156, 3) := by decide +kernel
theorem dX9_blamed_44 : decode cX9_blamed 44 = .ok (.if_icmp .ge 137, 3) := by decide +kernel
theorem dX9_blamed_47 : decode cX9_blamed 47 = .ok (.iconst 0, 1) := by decide +kernel
theorem dX9_blamed_48 : decode cX9_blamed 48 = .ok (.istore 6, 2) := by decide +kernel
theorem dX9_blamed_50 : decode cX9_blamed 50 = .ok (.iload 6, 2) := by decide +kernel
theorem dX9_blamed_52 : decode cX9_blamed 52 = .ok (.aload_n 0, 1) := by decide +kernel
theorem dX9_blamed_53 : decode cX9_blamed 53 = .ok (.aload_n 0, 1) := by decide +kernel
theorem dX9_blamed_54 : decode cX9_blamed 54 = .ok (.getfield 56, 3) := by decide +kernel
theorem dX9_blamed_57 : decode cX9_blamed 57 = .ok (.iload_n 1, 1) := by decide +kernel
theorem dX9_blamed_58 : decode cX9_blamed 58 = .ok (.iaload, 1) := by decide +kernel
theorem dX9_blamed_59 : decode cX9_blamed 59 = .ok (.aload_n 0, 1) := by decide +kernel
theorem dX9_blamed_60 : decode cX9_blamed 60 = .ok (.getfield 159, 3) := by decide +kernel
theorem dX9_blamed_63 : decode cX9_blamed 63 = .ok (.iload 5, 2) := by decide +kernel
theorem dX9_blamed_65 : decode cX9_blamed 65 = .ok (.invokevirtual 148, 3) := by decide +kernel
theorem dX9_blamed_68 : decode cX9_blamed 68 = .ok (.if_icmp .ge 107, 3) := by decide +kernel
theorem dX9_blamed_71 : decode cX9_blamed 71 = .ok (.aload_n 0, 1) := by decide +kernel
theorem dX9_blamed_72 : decode cX9_blamed 72 = .ok (.getfield 59, 3) := by decide +kernel
theorem dX9_blamed_75 : decode cX9_blamed 75 = .ok (.bipush 64, 2) := by decide +kernel
theorem dX9_blamed_77 : decode cX9_blamed 77 = .ok (.iload_n 1, 1) := by decide +kernel
theorem dX9_blamed_78 : decode cX9_blamed 78 = .ok (.imul, 1) := by decide +kernel
theorem dX9_blamed_79 : decode cX9_blamed 79 = .ok (.iload 4, 2) := by decide +kernel
theorem dX9_blamed_81 : decode cX9_blamed 81 = .ok (.iadd, 1) := by decide +kernel
theorem dX9_blamed_82 : decode cX9_blamed 82 = .ok (.iaload, 1) := by decide +kernel
theorem dX9_blamed_83 : decode cX9_blamed 83 = .ok (.istore 7, 2) := by decide +kernel
theorem dX9_blamed_85 : decode cX9_blamed 85 = .ok (.iload 7, 2) := by decide +kernel
theorem dX9_blamed_87 : decode cX9_blamed 87 = .ok (.iconst (-1), 1) := by decide +kernel
theorem dX9_blamed_88 : decode cX9_blamed 88 = .ok (.if_icmp .eq 51, 3) := by decide +kernel
theorem dX9_blamed_91 : decode cX9_blamed 91 = .ok (.iload 7, 2) := by decide +kernel
theorem dX9_blamed_93 : decode cX9_blamed 93 = .ok (.aload_n 0, 1) := by decide +kernel
theorem dX9_blamed_94 : decode cX9_blamed 94 = .ok (.aload_n 0, 1) := by decide +kernel
theorem dX9_blamed_95 : decode cX9_blamed 95 = .ok (.getfield 56, 3) := by decide +kernel
theorem dX9_blamed_98 : decode cX9_blamed 98 = .ok (.iload_n 1, 1) := by decide +kernel
theorem dX9_blamed_99 : decode cX9_blamed 99 = .ok (.iaload, 1) := by decide +kernel
theorem dX9_blamed_100 : decode cX9_blamed 100 = .ok (.aload_n 0, 1) := by decide +kernel
theorem dX9_blamed_101 : decode cX9_blamed 101 = .ok (.getfield 159, 3) := by decide +kernel
theorem dX9_blamed_104 : decode cX9_blamed 104 = .ok (.iload 5, 2) := by decide +kernel
theorem dX9_blamed_106 : decode cX9_blamed 106 = .ok (.iload 6, 2) := by decide +kernel
theorem dX9_blamed_108 : decode cX9_blamed 108 = .ok (.aload_n 0, 1) := by decide +kernel
theorem dX9_blamed_109 : decode cX9_blamed 109 = .ok (.getfield 68, 3) := by decide +kernel
theorem dX9_blamed_112 : decode cX9_blamed 112 = .ok (.iload 5, 2) := by decide +kernel
theorem dX9_blamed_114 : decode cX9_blamed 114 = .ok (.iaload, 1) := by decide +kernel
theorem dX9_blamed_115 : decode cX9_blamed 115 = .ok (.aload_n 0, 1) := by decide +kernel
theorem dX9_blamed_116 : decode cX9_blamed 116 = .ok (.getfield 68, 3) := by decide +kernel
theorem dX9_blamed_119 : decode cX9_blamed 119 = .ok (.iload 5, 2) := by decide +kernel
theorem dX9_blamed_121 : decode cX9_blamed 121 = .ok (.iconst 1, 1) := by decide +kernel
theorem dX9_blamed_122 : decode cX9_blamed 122 = .ok (.iadd, 1) := by decide +kernel
theorem dX9_blamed_123 : decode cX9_blamed 123 = .ok (.aload_n 0, 1) := by decide +kernel
theorem dX9_blamed_124 : decode cX9_blamed 124 = .ok (.getfield 156, 3) := by decide +kernel
theorem dX9_blamed_127 : decode cX9_blamed 127 = .ok (.irem, 1) := by decide +kernel
theorem dX9_blamed_128 : decode cX9_blamed 128 = .ok (.iaload, 1) := by decide +kernel
theorem dX9_blamed_129 : decode cX9_blamed 129 = .ok (.invokevirtual 152, 3) := by decide +kernel
theorem dX9_blamed_132 : decode cX9_blamed 132 = .ok (.if_icmp .eq 7, 3) := by decide +kernel
theorem dX9_blamed_135 : decode cX9_blamed 135 = .ok (.iconst 1, 1) := by decide +kernel
theorem dX9_blamed_136 : decode cX9_blamed 136 = .ok (.goto 4, 3) := by decide +kernel
theorem dX9_blamed_139 : decode cX9_blamed 139 = .ok (.iconst 0, 1) := by decide +kernel
theorem dX9_blamed_140 : decode cX9_blamed 140 = .ok (.istore 8, 2) := by decide +kernel
theorem dX9_blamed_142 : decode cX9_blamed 142 = .ok (.iload_n 3, 1) := by decide +kernel
theorem dX9_blamed_143 : decode cX9_blamed 143 = .ok (.iload 8, 2) := by decide +kernel
theorem dX9_blamed_145 : decode cX9_blamed 145 = .ok (.ifCond .eq 18, 3) := by decide +kernel
theorem dX9_blamed_148 : decode cX9_blamed 148 = .ok (.iload_n 2, 1) := by decide +kernel
theorem dX9_blamed_149 : decode cX9_blamed 149 = .ok (.iconst (-1), 1) := by decide +kernel
theorem dX9_blamed_150 : decode cX9_blamed 150 = .ok (.if_icmp .eq 9, 3) := by decide +kernel
theorem dX9_blamed_153 : decode cX9_blamed 153 = .ok (.iload_n 2, 1) := by decide +kernel
theorem dX9_blamed_154 : decode cX9_blamed 154 = .ok (.iload 4, 2) := by decide +kernel
theorem dX9_blamed_156 : decode cX9_blamed 156 = .ok (.if_icmp .ne 7, 3) := by decide +kernel
theorem dX9_blamed_159 : decode cX9_blamed 159 = .ok (.iconst 1, 1) := by decide +kernel
theorem dX9_blamed_160 : decode cX9_blamed 160 = .ok (.goto 4, 3) := by decide +kernel
theorem dX9_blamed_163 : decode cX9_blamed 163 = .ok (.iconst 0, 1) := by decide +kernel
theorem dX9_blamed_164 : decode cX9_blamed 164 = .ok (.iadd, 1) := by decide +kernel
theorem dX9_blamed_165 : decode cX9_blamed 165 = .ok (.istore_n 3, 1) := by decide +kernel
theorem dX9_blamed_166 : decode cX9_blamed 166 = .ok (.iinc 4 1, 3) := by decide +kernel
theorem dX9_blamed_169 : decode cX9_blamed 169 = .ok (.iinc 6 1, 3) := by decide +kernel
theorem dX9_blamed_172 : decode cX9_blamed 172 = .ok (.goto (-122), 3) := by decide +kernel
theorem dX9_blamed_175 : decode cX9_blamed 175 = .ok (.iinc 5 1, 3) := by decide +kernel
theorem dX9_blamed_178 : decode cX9_blamed 178 = .ok (.goto (-140), 3) := by decide +kernel
theorem dX9_blamed_181 : decode cX9_blamed 181 = .ok (.iload_n 3, 1) := by decide +kernel
theorem dX9_blamed_182 : decode cX9_blamed 182 = .ok (.ireturn, 1) := by decide +kernel
theorem dX9_piper_0 : decode cX9_piper 0 = .ok (.iload_n 1, 1) := by decide +kernel
theorem dX9_piper_1 : decode cX9_piper 1 = .ok (.invokestatic 178, 3) := by decide +kernel
theorem dX9_piper_4 : decode cX9_piper 4 = .ok (.ifCond .ne 6, 3) := by decide +kernel
theorem dX9_piper_7 : decode cX9_piper 7 = .ok (.bipush (-2), 2) := by decide +kernel
theorem dX9_piper_9 : decode cX9_piper 9 = .ok (.ireturn, 1) := by decide +kernel
theorem dX9_piper_10 : decode cX9_piper 10 = .ok (.iload_n 2, 1) := by decide +kernel
theorem dX9_piper_11 : decode cX9_piper 11 = .ok (.bipush (-99), 2) := by decide +kernel
theorem dX9_piper_13 : decode cX9_piper 13 = .ok (.bipush 99, 2) := by decide +kernel
theorem dX9_piper_15 : decode cX9_piper 15 = .ok (.invokestatic 86, 3) := by decide +kernel
theorem dX9_piper_18 : decode cX9_piper 18 = .ok (.ifCond .eq 35, 3) := by decide +kernel
theorem dX9_piper_21 : decode cX9_piper 21 = .ok (.iload_n 3, 1) := by decide +kernel
theorem dX9_piper_22 : decode cX9_piper 22 = .ok (.iconst 0, 1) := by decide +kernel
theorem dX9_piper_23 : decode cX9_piper 23 = .ok (.bipush 9, 2) := by decide +kernel
theorem dX9_piper_25 : decode cX9_piper 25 = .ok (.invokestatic 86, 3) := by decide +kernel
theorem dX9_piper_28 : decode cX9_piper 28 = .ok (.ifCond .eq 25, 3) := by decide +kernel
theorem dX9_piper_31 : decode cX9_piper 31 = .ok (.iload 4, 2) := by decide +kernel
theorem dX9_piper_33 : decode cX9_piper 33 = .ok (.iconst 1, 1) := by decide +kernel
theorem dX9_piper_34 : decode cX9_piper 34 = .ok (.bipush 60, 2) := by decide +kernel
theorem dX9_piper_36 : decode cX9_piper 36 = .ok (.invokestatic 86, 3) := by decide +kernel
theorem dX9_piper_39 : decode cX9_piper 39 = .ok (.ifCond .eq 14, 3) := by decide +kernel
theorem dX9_piper_42 : decode cX9_piper 42 = .ok (.iload 5, 2) := by decide +kernel
theorem dX9_piper_44 : decode cX9_piper 44 = .ok (.iconst 0, 1) := by decide +kernel
theorem dX9_piper_45 : decode cX9_piper 45 = .ok (.bipush 90, 2) := by decide +kernel
theorem dX9_piper_47 : decode cX9_piper 47 = .ok (.invokestatic 86, 3) := by decide +kernel
theorem dX9_piper_50 : decode cX9_piper 50 = .ok (.ifCond .ne 6, 3) := by decide +kernel
theorem dX9_piper_53 : decode cX9_piper 53 = .ok (.bipush (-3), 2) := by decide +kernel
theorem dX9_piper_55 : decode cX9_piper 55 = .ok (.ireturn, 1) := by decide +kernel
theorem dX9_piper_56 : decode cX9_piper 56 = .ok (.aload_n 0, 1) := by decide +kernel
theorem dX9_piper_57 : decode cX9_piper 57 = .ok (.getfield 71, 3) := by decide +kernel
theorem dX9_piper_60 : decode cX9_piper 60 = .ok (.iload_n 1, 1) := by decide +kernel
theorem dX9_piper_61 : decode cX9_piper 61 = .ok (.iload_n 2, 1) := by decide +kernel
theorem dX9_piper_62 : decode cX9_piper 62 = .ok (.iastore, 1) := by decide +kernel
theorem dX9_piper_63 : decode cX9_piper 63 = .ok (.aload_n 0, 1) := by decide +kernel
theorem dX9_piper_64 : decode cX9_piper 64 = .ok (.getfield 74, 3) := by decide +kernel
theorem dX9_piper_67 : decode cX9_piper 67 = .ok (.iload_n 1, 1) := by decide +kernel
theorem dX9_piper_68 : decode cX9_piper 68 = .ok (.iload_n 3, 1) := by decide +kernel
theorem dX9_piper_69 : decode cX9_piper 69 = .ok (.iastore, 1) := by decide +kernel
theorem dX9_piper_70 : decode cX9_piper 70 = .ok (.aload_n 0, 1) := by decide +kernel
theorem dX9_piper_71 : decode cX9_piper 71 = .ok (.getfield 77, 3) := by decide +kernel
theorem dX9_piper_74 : decode cX9_piper 74 = .ok (.iload_n 1, 1) := by decide +kernel
theorem dX9_piper_75 : decode cX9_piper 75 = .ok (.iload 4, 2) := by decide +kernel
theorem dX9_piper_77 : decode cX9_piper 77 = .ok (.iastore, 1) := by decide +kernel
theorem dX9_piper_78 : decode cX9_piper 78 = .ok (.aload_n 0, 1) := by decide +kernel
theorem dX9_piper_79 : decode cX9_piper 79 = .ok (.getfield 80, 3) := by decide +kernel
theorem dX9_piper_82 : decode cX9_piper 82 = .ok (.iload_n 1, 1) := by decide +kernel
theorem dX9_piper_83 : decode cX9_piper 83 = .ok (.iload 5, 2) := by decide +kernel
theorem dX9_piper_85 : decode cX9_piper 85 = .ok (.iastore, 1) := by decide +kernel
theorem dX9_piper_86 : decode cX9_piper 86 = .ok (.iconst 1, 1) := by decide +kernel
theorem dX9_piper_87 : decode cX9_piper 87 = .ok (.ireturn, 1) := by decide +kernel
theorem dX9_damp_0 : decode cX9_damp 0 = .ok (.iload_n 1, 1) := by decide +kernel
theorem dX9_damp_1 : decode cX9_damp 1 = .ok (.iconst 0, 1) := by decide +kernel
theorem dX9_damp_2 : decode cX9_damp 2 = .ok (.iconst 5, 1) := by decide +kernel
theorem dX9_damp_3 : decode cX9_damp 3 = .ok (.invokestatic 86, 3) := by decide +kernel
theorem dX9_damp_6 : decode cX9_damp 6 = .ok (.ifCond .ne 6, 3) := by decide +kernel
theorem dX9_damp_9 : decode cX9_damp 9 = .ok (.bipush (-3), 2) := by decide +kernel
theorem dX9_damp_11 : decode cX9_damp 11 = .ok (.ireturn, 1) := by decide +kernel
theorem dX9_damp_12 : decode cX9_damp 12 = .ok (.aload_n 0, 1) := by decide +kernel
theorem dX9_damp_13 : decode cX9_damp 13 = .ok (.getfield 181, 3) := by decide +kernel
theorem dX9_damp_16 : decode cX9_damp 16 = .ok (.istore_n 2, 1) := by decide +kernel
theorem dX9_damp_17 : decode cX9_damp 17 = .ok (.aload_n 0, 1) := by decide +kernel
theorem dX9_damp_18 : decode cX9_damp 18 = .ok (.iload_n 1, 1) := by decide +kernel
theorem dX9_damp_19 : decode cX9_damp 19 = .ok (.putfield 181, 3) := by decide +kernel
theorem dX9_damp_22 : decode cX9_damp 22 = .ok (.iload_n 2, 1) := by decide +kernel
theorem dX9_damp_23 : decode cX9_damp 23 = .ok (.ireturn, 1) := by decide +kernel
theorem dX9_pitchFor_0 : decode cX9_pitchFor 0 = .ok (.aload_n 0, 1) := by decide +kernel
theorem dX9_pitchFor_1 : decode cX9_pitchFor 1 = .ok (.getfield 74, 3) := by decide +kernel
theorem dX9_pitchFor_4 : decode cX9_pitchFor 4 = .ok (.iload_n 1, 1) := by decide +kernel
theorem dX9_pitchFor_5 : decode cX9_pitchFor 5 = .ok (.iaload, 1) := by decide +kernel
theorem dX9_pitchFor_6 : decode cX9_pitchFor 6 = .ok (.aload_n 0, 1) := by decide +kernel
theorem dX9_pitchFor_7 : decode cX9_pitchFor 7 = .ok (.getfield 181, 3) := by decide +kernel
theorem dX9_pitchFor_10 : decode cX9_pitchFor 10 = .ok (.if_icmp .ge 7, 3) := by decide +kernel
theorem dX9_pitchFor_13 : decode cX9_pitchFor 13 = .ok (.iconst 0, 1) := by decide +kernel
theorem dX9_pitchFor_14 : decode cX9_pitchFor 14 = .ok (.goto 14, 3) := by decide +kernel
theorem dX9_pitchFor_17 : decode cX9_pitchFor 17 = .ok (.aload_n 0, 1) := by decide +kernel
theorem dX9_pitchFor_18 : decode cX9_pitchFor 18 = .ok (.getfield 74, 3) := by decide +kernel
theorem dX9_pitchFor_21 : decode cX9_pitchFor 21 = .ok (.iload_n 1, 1) := by decide +kernel
theorem dX9_pitchFor_22 : decode cX9_pitchFor 22 = .ok (.iaload, 1) := by decide +kernel
theorem dX9_pitchFor_23 : decode cX9_pitchFor 23 = .ok (.aload_n 0, 1) := by decide +kernel
theorem dX9_pitchFor_24 : decode cX9_pitchFor 24 = .ok (.getfield 181, 3) := by decide +kernel
theorem dX9_pitchFor_27 : decode cX9_pitchFor 27 = .ok (.isub, 1) := by decide +kernel
theorem dX9_pitchFor_28 : decode cX9_pitchFor 28 = .ok (.istore_n 3, 1) := by decide +kernel
theorem dX9_pitchFor_29 : decode cX9_pitchFor 29 = .ok (.aload_n 0, 1) := by decide +kernel
theorem dX9_pitchFor_30 : decode cX9_pitchFor 30 = .ok (.getfield 71, 3) := by decide +kernel
theorem dX9_pitchFor_33 : decode cX9_pitchFor 33 = .ok (.iload_n 1, 1) := by decide +kernel
theorem dX9_pitchFor_34 : decode cX9_pitchFor 34 = .ok (.iaload, 1) := by decide +kernel
theorem dX9_pitchFor_35 : decode cX9_pitchFor 35 = .ok (.iload_n 3, 1) := by decide +kernel
theorem dX9_pitchFor_36 : decode cX9_pitchFor 36 = .ok (.iload_n 2, 1) := by decide +kernel
theorem dX9_pitchFor_37 : decode cX9_pitchFor 37 = .ok (.aload_n 0, 1) := by decide +kernel
theorem dX9_pitchFor_38 : decode cX9_pitchFor 38 = .ok (.getfield 77, 3) := by decide +kernel
theorem dX9_pitchFor_41 : decode cX9_pitchFor 41 = .ok (.iload_n 1, 1) := by decide +kernel
theorem dX9_pitchFor_42 : decode cX9_pitchFor 42 = .ok (.iaload, 1) := by decide +kernel
theorem dX9_pitchFor_43 : decode cX9_pitchFor 43 = .ok (.if_icmp .ge 7, 3) := by decide +kernel
theorem dX9_pitchFor_46 : decode cX9_pitchFor 46 = .ok (.iload_n 2, 1) := by decide +kernel
theorem dX9_pitchFor_47 : decode cX9_pitchFor 47 = .ok (.goto 9, 3) := by decide +kernel
theorem dX9_pitchFor_50 : decode cX9_pitchFor 50 = .ok (.aload_n 0, 1) := by decide +kernel
theorem dX9_pitchFor_51 : decode cX9_pitchFor 51 = .ok (.getfield 77, 3) := by decide +kernel
theorem dX9_pitchFor_54 : decode cX9_pitchFor 54 = .ok (.iload_n 1, 1) := by decide +kernel
theorem dX9_pitchFor_55 : decode cX9_pitchFor 55 = .ok (.iaload, 1) := by decide +kernel
theorem dX9_pitchFor_56 : decode cX9_pitchFor 56 = .ok (.imul, 1) := by decide +kernel
theorem dX9_pitchFor_57 : decode cX9_pitchFor 57 = .ok (.iadd, 1) := by decide +kernel
theorem dX9_pitchFor_58 : decode cX9_pitchFor 58 = .ok (.ireturn, 1) := by decide +kernel
theorem dX9_pitch_0 : decode cX9_pitch 0 = .ok (.iload_n 1, 1) := by decide +kernel
theorem dX9_pitch_1 : decode cX9_pitch 1 = .ok (.invokestatic 178, 3) := by decide +kernel
theorem dX9_pitch_4 : decode cX9_pitch 4 = .ok (.ifCond .eq 28, 3) := by decide +kernel
theorem dX9_pitch_7 : decode cX9_pitch 7 = .ok (.iload_n 3, 1) := by decide +kernel
theorem dX9_pitch_8 : decode cX9_pitch 8 = .ok (.iconst 0, 1) := by decide +kernel
theorem dX9_pitch_9 : decode cX9_pitch 9 = .ok (.sipush 150, 3) := by decide +kernel
theorem dX9_pitch_12 : decode cX9_pitch 12 = .ok (.invokestatic 86, 3) := by decide +kernel
theorem dX9_pitch_15 : decode cX9_pitch 15 = .ok (.ifCond .eq 17, 3) := by decide +kernel
theorem dX9_pitch_18 : decode cX9_pitch 18 = .ok (.iload_n 2, 1) := by decide +kernel
theorem dX9_pitch_19 : decode cX9_pitch 19 = .ok (.aload_n 0, 1) := by decide +kernel
theorem dX9_pitch_20 : decode cX9_pitch 20 = .ok (.getfield 80, 3) := by decide +kernel
theorem dX9_pitch_23 : decode cX9_pitch 23 = .ok (.iload_n 1, 1) := by decide +kernel
theorem dX9_pitch_24 : decode cX9_pitch 24 = .ok (.iaload, 1) := by decide +kernel
theorem dX9_pitch_25 : decode cX9_pitch 25 = .ok (.iload_n 3, 1) := by decide +kernel
theorem dX9_pitch_26 : decode cX9_pitch 26 = .ok (.invokestatic 86, 3) := by decide +kernel
theorem dX9_pitch_29 : decode cX9_pitch 29 = .ok (.ifCond .ne 6, 3) := by decide +kernel
theorem dX9_pitch_32 : decode cX9_pitch 32 = .ok (.ldc 184, 2) := by decide +kernel
theorem dX9_pitch_34 : decode cX9_pitch 34 = .ok (.ireturn, 1) := by decide +kernel
theorem dX9_pitch_35 : decode cX9_pitch 35 = .ok (.aload_n 0, 1) := by decide +kernel
theorem dX9_pitch_36 : decode cX9_pitch 36 = .ok (.iload_n 1, 1) := by decide +kernel
theorem dX9_pitch_37 : decode cX9_pitch 37 = .ok (.iload_n 3, 1) := by decide +kernel
theorem dX9_pitch_38 : decode cX9_pitch 38 = .ok (.iload_n 2, 1) := by decide +kernel
theorem dX9_pitch_39 : decode cX9_pitch 39 = .ok (.isub, 1) := by decide +kernel
theorem dX9_pitch_40 : decode cX9_pitch 40 = .ok (.invokevirtual 185, 3) := by decide +kernel
theorem dX9_pitch_43 : decode cX9_pitch 43 = .ok (.ireturn, 1) := by decide +kernel
theorem dX9_longFor_0 : decode cX9_longFor 0 = .ok (.iconst 0, 1) := by decide +kernel
theorem dX9_longFor_1 : decode cX9_longFor 1 = .ok (.istore 4, 2) := by decide +kernel
theorem dX9_longFor_3 : decode cX9_longFor 3 = .ok (.iload 4, 2) := by decide +kernel
theorem dX9_longFor_5 : decode cX9_longFor 5 = .ok (.iload_n 2, 1) := by decide +kernel
theorem dX9_longFor_6 : decode cX9_longFor 6 = .ok (.aload_n 0, 1) := by decide +kernel
theorem dX9_longFor_7 : decode cX9_longFor 7 = .ok (.getfield 80, 3) := by decide +kernel
theorem dX9_longFor_10 : decode cX9_longFor 10 = .ok (.iload_n 1, 1) := by decide +kernel
theorem dX9_longFor_11 : decode cX9_longFor 11 = .ok (.iaload, 1) := by decide +kernel
theorem dX9_longFor_12 : decode cX9_longFor 12 = .ok (.isub, 1) := by decide +kernel
theorem dX9_longFor_13 : decode cX9_longFor 13 = .ok (.if_icmp .gt 23, 3) := by decide +kernel
theorem dX9_longFor_16 : decode cX9_longFor 16 = .ok (.aload_n 0, 1) := by decide +kernel
theorem dX9_longFor_17 : decode cX9_longFor 17 = .ok (.iload_n 1, 1) := by decide +kernel
theorem dX9_longFor_18 : decode cX9_longFor 18 = .ok (.iload 4, 2) := by decide +kernel
theorem dX9_longFor_20 : decode cX9_longFor 20 = .ok (.invokevirtual 185, 3) := by decide +kernel
theorem dX9_longFor_23 : decode cX9_longFor 23 = .ok (.iload_n 3, 1) := by decide +kernel
theorem dX9_longFor_24 : decode cX9_longFor 24 = .ok (.if_icmp .lt 6, 3) := by decide +kernel
theorem dX9_longFor_27 : decode cX9_longFor 27 = .ok (.iload 4, 2) := by decide +kernel
theorem dX9_longFor_29 : decode cX9_longFor 29 = .ok (.ireturn, 1) := by decide +kernel
theorem dX9_longFor_30 : decode cX9_longFor 30 = .ok (.iinc 4 1, 3) := by decide +kernel
theorem dX9_longFor_33 : decode cX9_longFor 33 = .ok (.goto (-30), 3) := by decide +kernel
theorem dX9_longFor_36 : decode cX9_longFor 36 = .ok (.iconst (-1), 1) := by decide +kernel
theorem dX9_longFor_37 : decode cX9_longFor 37 = .ok (.ireturn, 1) := by decide +kernel
theorem dX9_spreadFor_0 : decode cX9_spreadFor 0 = .ok (.iload_n 3, 1) := by decide +kernel
theorem dX9_spreadFor_1 : decode cX9_spreadFor 1 = .ok (.istore 4, 2) := by decide +kernel
theorem dX9_spreadFor_3 : decode cX9_spreadFor 3 = .ok (.iconst 0, 1) := by decide +kernel
