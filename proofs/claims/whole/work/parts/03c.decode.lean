theorem dX8_quickest_8 : decode cX8_quickest 8 = .ok (.bipush (-2), 2) := by decide +kernel
theorem dX8_quickest_10 : decode cX8_quickest 10 = .ok (.ireturn, 1) := by decide +kernel
theorem dX8_quickest_11 : decode cX8_quickest 11 = .ok (.aload_n 0, 1) := by decide +kernel
theorem dX8_quickest_12 : decode cX8_quickest 12 = .ok (.getfield 21, 3) := by decide +kernel
theorem dX8_quickest_15 : decode cX8_quickest 15 = .ok (.invokevirtual 125, 3) := by decide +kernel
theorem dX8_quickest_18 : decode cX8_quickest 18 = .ok (.ifCond .le 14, 3) := by decide +kernel
theorem dX8_quickest_21 : decode cX8_quickest 21 = .ok (.aload_n 0, 1) := by decide +kernel
theorem dX8_quickest_22 : decode cX8_quickest 22 = .ok (.getfield 21, 3) := by decide +kernel
theorem dX8_quickest_25 : decode cX8_quickest 25 = .ok (.iload_n 1, 1) := by decide +kernel
theorem dX8_quickest_26 : decode cX8_quickest 26 = .ok (.invokevirtual 128, 3) := by decide +kernel
theorem dX8_quickest_29 : decode cX8_quickest 29 = .ok (.goto 4, 3) := by decide +kernel
theorem dX8_quickest_32 : decode cX8_quickest 32 = .ok (.iconst (-1), 1) := by decide +kernel
theorem dX8_quickest_33 : decode cX8_quickest 33 = .ok (.ireturn, 1) := by decide +kernel
theorem dX8_graces_0 : decode cX8_graces 0 = .ok (.aload_n 0, 1) := by decide +kernel
theorem dX8_graces_1 : decode cX8_graces 1 = .ok (.getfield 21, 3) := by decide +kernel
theorem dX8_graces_4 : decode cX8_graces 4 = .ok (.invokevirtual 125, 3) := by decide +kernel
theorem dX8_graces_7 : decode cX8_graces 7 = .ok (.ifCond .le 13, 3) := by decide +kernel
theorem dX8_graces_10 : decode cX8_graces 10 = .ok (.aload_n 0, 1) := by decide +kernel
theorem dX8_graces_11 : decode cX8_graces 11 = .ok (.getfield 21, 3) := by decide +kernel
theorem dX8_graces_14 : decode cX8_graces 14 = .ok (.invokevirtual 132, 3) := by decide +kernel
theorem dX8_graces_17 : decode cX8_graces 17 = .ok (.goto 4, 3) := by decide +kernel
theorem dX8_graces_20 : decode cX8_graces 20 = .ok (.iconst (-1), 1) := by decide +kernel
theorem dX8_graces_21 : decode cX8_graces 21 = .ok (.ireturn, 1) := by decide +kernel
theorem dX8_region_0 : decode cX8_region 0 = .ok (.iload_n 1, 1) := by decide +kernel
theorem dX8_region_1 : decode cX8_region 1 = .ok (.invokestatic 135, 3) := by decide +kernel
theorem dX8_region_4 : decode cX8_region 4 = .ok (.ifCond .ne 6, 3) := by decide +kernel
theorem dX8_region_7 : decode cX8_region 7 = .ok (.bipush (-2), 2) := by decide +kernel
theorem dX8_region_9 : decode cX8_region 9 = .ok (.ireturn, 1) := by decide +kernel
theorem dX8_region_10 : decode cX8_region 10 = .ok (.iload_n 2, 1) := by decide +kernel
theorem dX8_region_11 : decode cX8_region 11 = .ok (.iconst 0, 1) := by decide +kernel
theorem dX8_region_12 : decode cX8_region 12 = .ok (.iconst 1, 1) := by decide +kernel
theorem dX8_region_13 : decode cX8_region 13 = .ok (.invokestatic 73, 3) := by decide +kernel
theorem dX8_region_16 : decode cX8_region 16 = .ok (.ifCond .ne 6, 3) := by decide +kernel
theorem dX8_region_19 : decode cX8_region 19 = .ok (.bipush (-3), 2) := by decide +kernel
theorem dX8_region_21 : decode cX8_region 21 = .ok (.ireturn, 1) := by decide +kernel
theorem dX8_region_22 : decode cX8_region 22 = .ok (.iload_n 2, 1) := by decide +kernel
theorem dX8_region_23 : decode cX8_region 23 = .ok (.ifCond .ne 7, 3) := by decide +kernel
theorem dX8_region_26 : decode cX8_region 26 = .ok (.iconst 1, 1) := by decide +kernel
theorem dX8_region_27 : decode cX8_region 27 = .ok (.goto 4, 3) := by decide +kernel
theorem dX8_region_30 : decode cX8_region 30 = .ok (.iconst 0, 1) := by decide +kernel
theorem dX8_region_31 : decode cX8_region 31 = .ok (.istore 5, 2) := by decide +kernel
theorem dX8_region_33 : decode cX8_region 33 = .ok (.iload 5, 2) := by decide +kernel
theorem dX8_region_35 : decode cX8_region 35 = .ok (.ifCond .eq 13, 3) := by decide +kernel
theorem dX8_region_38 : decode cX8_region 38 = .ok (.iload_n 3, 1) := by decide +kernel
theorem dX8_region_39 : decode cX8_region 39 = .ok (.invokestatic 69, 3) := by decide +kernel
theorem dX8_region_42 : decode cX8_region 42 = .ok (.ifCond .ne 16, 3) := by decide +kernel
theorem dX8_region_45 : decode cX8_region 45 = .ok (.goto 10, 3) := by decide +kernel
theorem dX8_region_48 : decode cX8_region 48 = .ok (.iload_n 3, 1) := by decide +kernel
theorem dX8_region_49 : decode cX8_region 49 = .ok (.invokestatic 99, 3) := by decide +kernel
theorem dX8_region_52 : decode cX8_region 52 = .ok (.ifCond .ne 6, 3) := by decide +kernel
theorem dX8_region_55 : decode cX8_region 55 = .ok (.bipush (-2), 2) := by decide +kernel
theorem dX8_region_57 : decode cX8_region 57 = .ok (.ireturn, 1) := by decide +kernel
theorem dX8_region_58 : decode cX8_region 58 = .ok (.iload 4, 2) := by decide +kernel
theorem dX8_region_60 : decode cX8_region 60 = .ok (.iconst 0, 1) := by decide +kernel
theorem dX8_region_61 : decode cX8_region 61 = .ok (.iload 5, 2) := by decide +kernel
theorem dX8_region_63 : decode cX8_region 63 = .ok (.ifCond .eq 8, 3) := by decide +kernel
theorem dX8_region_66 : decode cX8_region 66 = .ok (.bipush 7, 2) := by decide +kernel
theorem dX8_region_68 : decode cX8_region 68 = .ok (.goto 4, 3) := by decide +kernel
theorem dX8_region_71 : decode cX8_region 71 = .ok (.iconst 3, 1) := by decide +kernel
theorem dX8_region_72 : decode cX8_region 72 = .ok (.invokestatic 73, 3) := by decide +kernel
theorem dX8_region_75 : decode cX8_region 75 = .ok (.ifCond .ne 6, 3) := by decide +kernel
theorem dX8_region_78 : decode cX8_region 78 = .ok (.bipush (-3), 2) := by decide +kernel
theorem dX8_region_80 : decode cX8_region 80 = .ok (.ireturn, 1) := by decide +kernel
theorem dX8_region_81 : decode cX8_region 81 = .ok (.iload 5, 2) := by decide +kernel
theorem dX8_region_83 : decode cX8_region 83 = .ok (.ifCond .eq 15, 3) := by decide +kernel
theorem dX8_region_86 : decode cX8_region 86 = .ok (.aload_n 0, 1) := by decide +kernel
theorem dX8_region_87 : decode cX8_region 87 = .ok (.getfield 28, 3) := by decide +kernel
theorem dX8_region_90 : decode cX8_region 90 = .ok (.getfield 138, 3) := by decide +kernel
theorem dX8_region_93 : decode cX8_region 93 = .ok (.iload_n 1, 1) := by decide +kernel
theorem dX8_region_94 : decode cX8_region 94 = .ok (.aaload, 1) := by decide +kernel
theorem dX8_region_95 : decode cX8_region 95 = .ok (.goto 12, 3) := by decide +kernel
theorem dX8_region_98 : decode cX8_region 98 = .ok (.aload_n 0, 1) := by decide +kernel
theorem dX8_region_99 : decode cX8_region 99 = .ok (.getfield 28, 3) := by decide +kernel
theorem dX8_region_102 : decode cX8_region 102 = .ok (.getfield 142, 3) := by decide +kernel
theorem dX8_region_105 : decode cX8_region 105 = .ok (.iload_n 1, 1) := by decide +kernel
theorem dX8_region_106 : decode cX8_region 106 = .ok (.aaload, 1) := by decide +kernel
theorem dX8_region_107 : decode cX8_region 107 = .ok (.iload_n 3, 1) := by decide +kernel
theorem dX8_region_108 : decode cX8_region 108 = .ok (.iload 4, 2) := by decide +kernel
theorem dX8_region_110 : decode cX8_region 110 = .ok (.invokestatic 91, 3) := by decide +kernel
theorem dX8_region_113 : decode cX8_region 113 = .ok (.ireturn, 1) := by decide +kernel
theorem dX8_sung_0 : decode cX8_sung 0 = .ok (.iload_n 1, 1) := by decide +kernel
theorem dX8_sung_1 : decode cX8_sung 1 = .ok (.invokestatic 135, 3) := by decide +kernel
theorem dX8_sung_4 : decode cX8_sung 4 = .ok (.ifCond .eq 11, 3) := by decide +kernel
theorem dX8_sung_7 : decode cX8_sung 7 = .ok (.aload_n 0, 1) := by decide +kernel
theorem dX8_sung_8 : decode cX8_sung 8 = .ok (.iload_n 2, 1) := by decide +kernel
theorem dX8_sung_9 : decode cX8_sung 9 = .ok (.invokevirtual 115, 3) := by decide +kernel
theorem dX8_sung_12 : decode cX8_sung 12 = .ok (.ifCond .ne 6, 3) := by decide +kernel
theorem dX8_sung_15 : decode cX8_sung 15 = .ok (.bipush (-2), 2) := by decide +kernel
theorem dX8_sung_17 : decode cX8_sung 17 = .ok (.ireturn, 1) := by decide +kernel
theorem dX8_sung_18 : decode cX8_sung 18 = .ok (.aload_n 0, 1) := by decide +kernel
theorem dX8_sung_19 : decode cX8_sung 19 = .ok (.getfield 21, 3) := by decide +kernel
theorem dX8_sung_22 : decode cX8_sung 22 = .ok (.getfield 118, 3) := by decide +kernel
theorem dX8_sung_25 : decode cX8_sung 25 = .ok (.iload_n 2, 1) := by decide +kernel
theorem dX8_sung_26 : decode cX8_sung 26 = .ok (.iaload, 1) := by decide +kernel
theorem dX8_sung_27 : decode cX8_sung 27 = .ok (.istore_n 3, 1) := by decide +kernel
theorem dX8_sung_28 : decode cX8_sung 28 = .ok (.iload_n 3, 1) := by decide +kernel
theorem dX8_sung_29 : decode cX8_sung 29 = .ok (.iconst (-1), 1) := by decide +kernel
theorem dX8_sung_30 : decode cX8_sung 30 = .ok (.if_icmp .ne 6, 3) := by decide +kernel
theorem dX8_sung_33 : decode cX8_sung 33 = .ok (.bipush (-4), 2) := by decide +kernel
theorem dX8_sung_35 : decode cX8_sung 35 = .ok (.ireturn, 1) := by decide +kernel
theorem dX8_sung_36 : decode cX8_sung 36 = .ok (.aload_n 0, 1) := by decide +kernel
theorem dX8_sung_37 : decode cX8_sung 37 = .ok (.getfield 28, 3) := by decide +kernel
theorem dX8_sung_40 : decode cX8_sung 40 = .ok (.iload_n 1, 1) := by decide +kernel
theorem dX8_sung_41 : decode cX8_sung 41 = .ok (.aload_n 0, 1) := by decide +kernel
theorem dX8_sung_42 : decode cX8_sung 42 = .ok (.getfield 21, 3) := by decide +kernel
theorem dX8_sung_45 : decode cX8_sung 45 = .ok (.getfield 145, 3) := by decide +kernel
theorem dX8_sung_48 : decode cX8_sung 48 = .ok (.iload_n 2, 1) := by decide +kernel
theorem dX8_sung_49 : decode cX8_sung 49 = .ok (.iaload, 1) := by decide +kernel
theorem dX8_sung_50 : decode cX8_sung 50 = .ok (.iload_n 3, 1) := by decide +kernel
theorem dX8_sung_51 : decode cX8_sung 51 = .ok (.invokevirtual 148, 3) := by decide +kernel
theorem dX8_sung_54 : decode cX8_sung 54 = .ok (.ireturn, 1) := by decide +kernel
theorem dX8_syllable_0 : decode cX8_syllable 0 = .ok (.iload_n 1, 1) := by decide +kernel
theorem dX8_syllable_1 : decode cX8_syllable 1 = .ok (.iconst 0, 1) := by decide +kernel
theorem dX8_syllable_2 : decode cX8_syllable 2 = .ok (.bipush 31, 2) := by decide +kernel
theorem dX8_syllable_4 : decode cX8_syllable 4 = .ok (.invokestatic 73, 3) := by decide +kernel
theorem dX8_syllable_7 : decode cX8_syllable 7 = .ok (.ifCond .ne 6, 3) := by decide +kernel
theorem dX8_syllable_10 : decode cX8_syllable 10 = .ok (.bipush (-3), 2) := by decide +kernel
theorem dX8_syllable_12 : decode cX8_syllable 12 = .ok (.ireturn, 1) := by decide +kernel
theorem dX8_syllable_13 : decode cX8_syllable 13 = .ok (.aload_n 0, 1) := by decide +kernel
theorem dX8_syllable_14 : decode cX8_syllable 14 = .ok (.getfield 28, 3) := by decide +kernel
theorem dX8_syllable_17 : decode cX8_syllable 17 = .ok (.getfield 151, 3) := by decide +kernel
theorem dX8_syllable_20 : decode cX8_syllable 20 = .ok (.bipush 12, 2) := by decide +kernel
theorem dX8_syllable_22 : decode cX8_syllable 22 = .ok (.if_icmp .lt 6, 3) := by decide +kernel
theorem dX8_syllable_25 : decode cX8_syllable 25 = .ok (.bipush (-5), 2) := by decide +kernel
theorem dX8_syllable_27 : decode cX8_syllable 27 = .ok (.ireturn, 1) := by decide +kernel
theorem dX8_syllable_28 : decode cX8_syllable 28 = .ok (.aload_n 0, 1) := by decide +kernel
theorem dX8_syllable_29 : decode cX8_syllable 29 = .ok (.getfield 28, 3) := by decide +kernel
theorem dX8_syllable_32 : decode cX8_syllable 32 = .ok (.iload_n 1, 1) := by decide +kernel
theorem dX8_syllable_33 : decode cX8_syllable 33 = .ok (.invokevirtual 152, 3) := by decide +kernel
theorem dX8_syllable_36 : decode cX8_syllable 36 = .ok (.ireturn, 1) := by decide +kernel
theorem dX8_hush_0 : decode cX8_hush 0 = .ok (.aload_n 0, 1) := by decide +kernel
theorem dX8_hush_1 : decode cX8_hush 1 = .ok (.getfield 28, 3) := by decide +kernel
theorem dX8_hush_4 : decode cX8_hush 4 = .ok (.getfield 151, 3) := by decide +kernel
theorem dX8_hush_7 : decode cX8_hush 7 = .ok (.istore_n 1, 1) := by decide +kernel
theorem dX8_hush_8 : decode cX8_hush 8 = .ok (.aload_n 0, 1) := by decide +kernel
theorem dX8_hush_9 : decode cX8_hush 9 = .ok (.getfield 28, 3) := by decide +kernel
theorem dX8_hush_12 : decode cX8_hush 12 = .ok (.iconst 0, 1) := by decide +kernel
theorem dX8_hush_13 : decode cX8_hush 13 = .ok (.putfield 151, 3) := by decide +kernel
theorem dX8_hush_16 : decode cX8_hush 16 = .ok (.iload_n 1, 1) := by decide +kernel
theorem dX8_hush_17 : decode cX8_hush 17 = .ok (.ireturn, 1) := by decide +kernel
theorem dX8_read_0 : decode cX8_read 0 = .ok (.iload_n 1, 1) := by decide +kernel
theorem dX8_read_1 : decode cX8_read 1 = .ok (.invokestatic 135, 3) := by decide +kernel
theorem dX8_read_4 : decode cX8_read 4 = .ok (.ifCond .ne 6, 3) := by decide +kernel
theorem dX8_read_7 : decode cX8_read 7 = .ok (.bipush (-2), 2) := by decide +kernel
theorem dX8_read_9 : decode cX8_read 9 = .ok (.ireturn, 1) := by decide +kernel
theorem dX8_read_10 : decode cX8_read 10 = .ok (.aload_n 0, 1) := by decide +kernel
theorem dX8_read_11 : decode cX8_read 11 = .ok (.getfield 28, 3) := by decide +kernel
theorem dX8_read_14 : decode cX8_read 14 = .ok (.iload_n 1, 1) := by decide +kernel
theorem dX8_read_15 : decode cX8_read 15 = .ok (.invokevirtual 154, 3) := by decide +kernel
theorem dX8_read_18 : decode cX8_read 18 = .ok (.ireturn, 1) := by decide +kernel
theorem dX8_first_0 : decode cX8_first 0 = .ok (.iload_n 1, 1) := by decide +kernel
theorem dX8_first_1 : decode cX8_first 1 = .ok (.invokestatic 135, 3) := by decide +kernel
theorem dX8_first_4 : decode cX8_first 4 = .ok (.ifCond .ne 6, 3) := by decide +kernel
theorem dX8_first_7 : decode cX8_first 7 = .ok (.bipush (-2), 2) := by decide +kernel
theorem dX8_first_9 : decode cX8_first 9 = .ok (.ireturn, 1) := by decide +kernel
theorem dX8_first_10 : decode cX8_first 10 = .ok (.iload_n 2, 1) := by decide +kernel
theorem dX8_first_11 : decode cX8_first 11 = .ok (.ifCond .ge 6, 3) := by decide +kernel
theorem dX8_first_14 : decode cX8_first 14 = .ok (.bipush (-3), 2) := by decide +kernel
theorem dX8_first_16 : decode cX8_first 16 = .ok (.ireturn, 1) := by decide +kernel
theorem dX8_first_17 : decode cX8_first 17 = .ok (.aload_n 0, 1) := by decide +kernel
theorem dX8_first_18 : decode cX8_first 18 = .ok (.getfield 28, 3) := by decide +kernel
theorem dX8_first_21 : decode cX8_first 21 = .ok (.iload_n 1, 1) := by decide +kernel
theorem dX8_first_22 : decode cX8_first 22 = .ok (.iload_n 2, 1) := by decide +kernel
theorem dX8_first_23 : decode cX8_first 23 = .ok (.invokevirtual 157, 3) := by decide +kernel
theorem dX8_first_26 : decode cX8_first 26 = .ok (.ireturn, 1) := by decide +kernel
theorem dX8_home_0 : decode cX8_home 0 = .ok (.aload_n 0, 1) := by decide +kernel
theorem dX8_home_1 : decode cX8_home 1 = .ok (.getfield 28, 3) := by decide +kernel
theorem dX8_home_4 : decode cX8_home 4 = .ok (.invokevirtual 161, 3) := by decide +kernel
theorem dX8_home_7 : decode cX8_home 7 = .ok (.ireturn, 1) := by decide +kernel
theorem dX8_rule_0 : decode cX8_rule 0 = .ok (.iload_n 1, 1) := by decide +kernel
theorem dX8_rule_1 : decode cX8_rule 1 = .ok (.invokestatic 164, 3) := by decide +kernel
theorem dX8_rule_4 : decode cX8_rule 4 = .ok (.ifCond .ne 6, 3) := by decide +kernel
theorem dX8_rule_7 : decode cX8_rule 7 = .ok (.bipush (-2), 2) := by decide +kernel
theorem dX8_rule_9 : decode cX8_rule 9 = .ok (.ireturn, 1) := by decide +kernel
theorem dX8_rule_10 : decode cX8_rule 10 = .ok (.iload_n 2, 1) := by decide +kernel
theorem dX8_rule_11 : decode cX8_rule 11 = .ok (.iconst 1, 1) := by decide +kernel
theorem dX8_rule_12 : decode cX8_rule 12 = .ok (.iconst 4, 1) := by decide +kernel
theorem dX8_rule_13 : decode cX8_rule 13 = .ok (.invokestatic 73, 3) := by decide +kernel
theorem dX8_rule_16 : decode cX8_rule 16 = .ok (.ifCond .eq 13, 3) := by decide +kernel
theorem dX8_rule_19 : decode cX8_rule 19 = .ok (.iload_n 3, 1) := by decide +kernel
theorem dX8_rule_20 : decode cX8_rule 20 = .ok (.iload_n 2, 1) := by decide +kernel
theorem dX8_rule_21 : decode cX8_rule 21 = .ok (.bipush 10, 2) := by decide +kernel
theorem dX8_rule_23 : decode cX8_rule 23 = .ok (.invokestatic 77, 3) := by decide +kernel
theorem dX8_rule_26 : decode cX8_rule 26 = .ok (.ifCond .ne 6, 3) := by decide +kernel
theorem dX8_rule_29 : decode cX8_rule 29 = .ok (.bipush (-3), 2) := by decide +kernel
theorem dX8_rule_31 : decode cX8_rule 31 = .ok (.ireturn, 1) := by decide +kernel
theorem dX8_rule_32 : decode cX8_rule 32 = .ok (.aload_n 0, 1) := by decide +kernel
theorem dX8_rule_33 : decode cX8_rule 33 = .ok (.getfield 51, 3) := by decide +kernel
theorem dX8_rule_36 : decode cX8_rule 36 = .ok (.iload_n 1, 1) := by decide +kernel
theorem dX8_rule_37 : decode cX8_rule 37 = .ok (.invokevirtual 167, 3) := by decide +kernel
theorem dX8_rule_40 : decode cX8_rule 40 = .ok (.ifCond .eq 6, 3) := by decide +kernel
theorem dX8_rule_43 : decode cX8_rule 43 = .ok (.bipush (-4), 2) := by decide +kernel
theorem dX8_rule_45 : decode cX8_rule 45 = .ok (.ireturn, 1) := by decide +kernel
theorem dX8_rule_46 : decode cX8_rule 46 = .ok (.aload_n 0, 1) := by decide +kernel
theorem dX8_rule_47 : decode cX8_rule 47 = .ok (.getfield 35, 3) := by decide +kernel
theorem dX8_rule_50 : decode cX8_rule 50 = .ok (.iload_n 1, 1) := by decide +kernel
theorem dX8_rule_51 : decode cX8_rule 51 = .ok (.iload_n 2, 1) := by decide +kernel
theorem dX8_rule_52 : decode cX8_rule 52 = .ok (.iload_n 3, 1) := by decide +kernel
theorem dX8_rule_53 : decode cX8_rule 53 = .ok (.invokevirtual 170, 3) := by decide +kernel
theorem dX8_rule_56 : decode cX8_rule 56 = .ok (.iconst 1, 1) := by decide +kernel
theorem dX8_rule_57 : decode cX8_rule 57 = .ok (.ireturn, 1) := by decide +kernel
theorem dX8_note_0 : decode cX8_note 0 = .ok (.iload_n 1, 1) := by decide +kernel
theorem dX8_note_1 : decode cX8_note 1 = .ok (.invokestatic 99, 3) := by decide +kernel
theorem dX8_note_4 : decode cX8_note 4 = .ok (.ifCond .ne 6, 3) := by decide +kernel
theorem dX8_note_7 : decode cX8_note 7 = .ok (.bipush (-2), 2) := by decide +kernel
theorem dX8_note_9 : decode cX8_note 9 = .ok (.ireturn, 1) := by decide +kernel
theorem dX8_note_10 : decode cX8_note 10 = .ok (.aload_n 0, 1) := by decide +kernel
theorem dX8_note_11 : decode cX8_note 11 = .ok (.getfield 44, 3) := by decide +kernel
theorem dX8_note_14 : decode cX8_note 14 = .ok (.getfield 171, 3) := by decide +kernel
theorem dX8_note_17 : decode cX8_note 17 = .ok (.bipush 16, 2) := by decide +kernel
theorem dX8_note_19 : decode cX8_note 19 = .ok (.if_icmp .lt 6, 3) := by decide +kernel
theorem dX8_note_22 : decode cX8_note 22 = .ok (.bipush (-5), 2) := by decide +kernel
theorem dX8_note_24 : decode cX8_note 24 = .ok (.ireturn, 1) := by decide +kernel
theorem dX8_note_25 : decode cX8_note 25 = .ok (.aload_n 0, 1) := by decide +kernel
theorem dX8_note_26 : decode cX8_note 26 = .ok (.getfield 44, 3) := by decide +kernel
theorem dX8_note_29 : decode cX8_note 29 = .ok (.iload_n 1, 1) := by decide +kernel
theorem dX8_note_30 : decode cX8_note 30 = .ok (.invokevirtual 172, 3) := by decide +kernel
theorem dX8_note_33 : decode cX8_note 33 = .ok (.ireturn, 1) := by decide +kernel
theorem dX8_silence_0 : decode cX8_silence 0 = .ok (.aload_n 0, 1) := by decide +kernel
theorem dX8_silence_1 : decode cX8_silence 1 = .ok (.getfield 44, 3) := by decide +kernel
theorem dX8_silence_4 : decode cX8_silence 4 = .ok (.getfield 171, 3) := by decide +kernel
theorem dX8_silence_7 : decode cX8_silence 7 = .ok (.istore_n 1, 1) := by decide +kernel
theorem dX8_silence_8 : decode cX8_silence 8 = .ok (.aload_n 0, 1) := by decide +kernel
theorem dX8_silence_9 : decode cX8_silence 9 = .ok (.getfield 44, 3) := by decide +kernel
theorem dX8_silence_12 : decode cX8_silence 12 = .ok (.iconst 0, 1) := by decide +kernel
theorem dX8_silence_13 : decode cX8_silence 13 = .ok (.putfield 171, 3) := by decide +kernel
theorem dX8_silence_16 : decode cX8_silence 16 = .ok (.iload_n 1, 1) := by decide +kernel
theorem dX8_silence_17 : decode cX8_silence 17 = .ok (.ireturn, 1) := by decide +kernel
theorem dX8_varied_0 : decode cX8_varied 0 = .ok (.iload_n 1, 1) := by decide +kernel
theorem dX8_varied_1 : decode cX8_varied 1 = .ok (.invokestatic 164, 3) := by decide +kernel
theorem dX8_varied_4 : decode cX8_varied 4 = .ok (.ifCond .ne 6, 3) := by decide +kernel
theorem dX8_varied_7 : decode cX8_varied 7 = .ok (.bipush (-2), 2) := by decide +kernel
theorem dX8_varied_9 : decode cX8_varied 9 = .ok (.ireturn, 1) := by decide +kernel
theorem dX8_varied_10 : decode cX8_varied 10 = .ok (.iload_n 2, 1) := by decide +kernel
theorem dX8_varied_11 : decode cX8_varied 11 = .ok (.iconst 0, 1) := by decide +kernel
theorem dX8_varied_12 : decode cX8_varied 12 = .ok (.ldc 173, 2) := by decide +kernel
theorem dX8_varied_14 : decode cX8_varied 14 = .ok (.invokestatic 73, 3) := by decide +kernel
theorem dX8_varied_17 : decode cX8_varied 17 = .ok (.ifCond .eq 7, 3) := by decide +kernel
theorem dX8_varied_20 : decode cX8_varied 20 = .ok (.iload_n 3, 1) := by decide +kernel
theorem dX8_varied_21 : decode cX8_varied 21 = .ok (.ifCond .ge 6, 3) := by decide +kernel
theorem dX8_varied_24 : decode cX8_varied 24 = .ok (.bipush (-3), 2) := by decide +kernel
theorem dX8_varied_26 : decode cX8_varied 26 = .ok (.ireturn, 1) := by decide +kernel
theorem dX8_varied_27 : decode cX8_varied 27 = .ok (.aload_n 0, 1) := by decide +kernel
theorem dX8_varied_28 : decode cX8_varied 28 = .ok (.getfield 44, 3) := by decide +kernel
theorem dX8_varied_31 : decode cX8_varied 31 = .ok (.iload_n 1, 1) := by decide +kernel
theorem dX8_varied_32 : decode cX8_varied 32 = .ok (.iload_n 2, 1) := by decide +kernel
theorem dX8_varied_33 : decode cX8_varied 33 = .ok (.iload_n 3, 1) := by decide +kernel
theorem dX8_varied_34 : decode cX8_varied 34 = .ok (.invokevirtual 174, 3) := by decide +kernel
theorem dX8_varied_37 : decode cX8_varied 37 = .ok (.ireturn, 1) := by decide +kernel
theorem dX8_sheet_0 : decode cX8_sheet 0 = .ok (.iload_n 1, 1) := by decide +kernel
theorem dX8_sheet_1 : decode cX8_sheet 1 = .ok (.invokestatic 164, 3) := by decide +kernel
theorem dX8_sheet_4 : decode cX8_sheet 4 = .ok (.ifCond .ne 6, 3) := by decide +kernel
theorem dX8_sheet_7 : decode cX8_sheet 7 = .ok (.bipush (-2), 2) := by decide +kernel
theorem dX8_sheet_9 : decode cX8_sheet 9 = .ok (.ireturn, 1) := by decide +kernel
theorem dX8_sheet_10 : decode cX8_sheet 10 = .ok (.iload_n 2, 1) := by decide +kernel
theorem dX8_sheet_11 : decode cX8_sheet 11 = .ok (.iconst 1, 1) := by decide +kernel
theorem dX8_sheet_12 : decode cX8_sheet 12 = .ok (.bipush 16, 2) := by decide +kernel
theorem dX8_sheet_14 : decode cX8_sheet 14 = .ok (.invokestatic 73, 3) := by decide +kernel
theorem dX8_sheet_17 : decode cX8_sheet 17 = .ok (.ifCond .eq 16, 3) := by decide +kernel
theorem dX8_sheet_20 : decode cX8_sheet 20 = .ok (.iload_n 3, 1) := by decide +kernel
theorem dX8_sheet_21 : decode cX8_sheet 21 = .ok (.iconst 0, 1) := by decide +kernel
theorem dX8_sheet_22 : decode cX8_sheet 22 = .ok (.iconst 1, 1) := by decide +kernel
theorem dX8_sheet_23 : decode cX8_sheet 23 = .ok (.iload_n 2, 1) := by decide +kernel
theorem dX8_sheet_24 : decode cX8_sheet 24 = .ok (.ishl, 1) := by decide +kernel
theorem dX8_sheet_25 : decode cX8_sheet 25 = .ok (.iconst 1, 1) := by decide +kernel
theorem dX8_sheet_26 : decode cX8_sheet 26 = .ok (.isub, 1) := by decide +kernel
theorem dX8_sheet_27 : decode cX8_sheet 27 = .ok (.invokestatic 73, 3) := by decide +kernel
theorem dX8_sheet_30 : decode cX8_sheet 30 = .ok (.ifCond .ne 6, 3) := by decide +kernel
theorem dX8_sheet_33 : decode cX8_sheet 33 = .ok (.bipush (-3), 2) := by decide +kernel
theorem dX8_sheet_35 : decode cX8_sheet 35 = .ok (.ireturn, 1) := by decide +kernel
theorem dX8_sheet_36 : decode cX8_sheet 36 = .ok (.aload_n 0, 1) := by decide +kernel
theorem dX8_sheet_37 : decode cX8_sheet 37 = .ok (.getfield 51, 3) := by decide +kernel
theorem dX8_sheet_40 : decode cX8_sheet 40 = .ok (.iload_n 2, 1) := by decide +kernel
theorem dX8_sheet_41 : decode cX8_sheet 41 = .ok (.iload_n 3, 1) := by decide +kernel
theorem dX8_sheet_42 : decode cX8_sheet 42 = .ok (.invokevirtual 177, 3) := by decide +kernel
theorem dX8_sheet_45 : decode cX8_sheet 45 = .ok (.ifCond .ne 6, 3) := by decide +kernel
theorem dX8_sheet_48 : decode cX8_sheet 48 = .ok (.bipush (-4), 2) := by decide +kernel
theorem dX8_sheet_50 : decode cX8_sheet 50 = .ok (.ireturn, 1) := by decide +kernel
theorem dX8_sheet_51 : decode cX8_sheet 51 = .ok (.aload_n 0, 1) := by decide +kernel
theorem dX8_sheet_52 : decode cX8_sheet 52 = .ok (.getfield 51, 3) := by decide +kernel
theorem dX8_sheet_55 : decode cX8_sheet 55 = .ok (.getfield 181, 3) := by decide +kernel
theorem dX8_sheet_58 : decode cX8_sheet 58 = .ok (.iconst 3, 1) := by decide +kernel
theorem dX8_sheet_59 : decode cX8_sheet 59 = .ok (.if_icmp .lt 6, 3) := by decide +kernel
theorem dX8_sheet_62 : decode cX8_sheet 62 = .ok (.bipush (-5), 2) := by decide +kernel
theorem dX8_sheet_64 : decode cX8_sheet 64 = .ok (.ireturn, 1) := by decide +kernel
theorem dX8_sheet_65 : decode cX8_sheet 65 = .ok (.aload_n 0, 1) := by decide +kernel
theorem dX8_sheet_66 : decode cX8_sheet 66 = .ok (.getfield 51, 3) := by decide +kernel
theorem dX8_sheet_69 : decode cX8_sheet 69 = .ok (.iload_n 1, 1) := by decide +kernel
theorem dX8_sheet_70 : decode cX8_sheet 70 = .ok (.iload_n 2, 1) := by decide +kernel
theorem dX8_sheet_71 : decode cX8_sheet 71 = .ok (.iload_n 3, 1) := by decide +kernel
theorem dX8_sheet_72 : decode cX8_sheet 72 = .ok (.invokevirtual 182, 3) := by decide +kernel
theorem dX8_sheet_75 : decode cX8_sheet 75 = .ok (.ireturn, 1) := by decide +kernel
theorem dX8_tell_0 : decode cX8_tell 0 = .ok (.aload_n 0, 1) := by decide +kernel
theorem dX8_tell_1 : decode cX8_tell 1 = .ok (.iload_n 1, 1) := by decide +kernel
theorem dX8_tell_2 : decode cX8_tell 2 = .ok (.iload_n 2, 1) := by decide +kernel
theorem dX8_tell_3 : decode cX8_tell 3 = .ok (.invokevirtual 183, 3) := by decide +kernel
theorem dX8_tell_6 : decode cX8_tell 6 = .ok (.ifCond .ne 6, 3) := by decide +kernel
theorem dX8_tell_9 : decode cX8_tell 9 = .ok (.bipush (-2), 2) := by decide +kernel
theorem dX8_tell_11 : decode cX8_tell 11 = .ok (.ireturn, 1) := by decide +kernel
theorem dX8_tell_12 : decode cX8_tell 12 = .ok (.iload_n 3, 1) := by decide +kernel
theorem dX8_tell_13 : decode cX8_tell 13 = .ok (.iconst (-1), 1) := by decide +kernel
theorem dX8_tell_14 : decode cX8_tell 14 = .ok (.if_icmp .eq 13, 3) := by decide +kernel
theorem dX8_tell_17 : decode cX8_tell 17 = .ok (.iload_n 3, 1) := by decide +kernel
theorem dX8_tell_18 : decode cX8_tell 18 = .ok (.invokestatic 99, 3) := by decide +kernel
theorem dX8_tell_21 : decode cX8_tell 21 = .ok (.ifCond .ne 6, 3) := by decide +kernel
theorem dX8_tell_24 : decode cX8_tell 24 = .ok (.bipush (-3), 2) := by decide +kernel
theorem dX8_tell_26 : decode cX8_tell 26 = .ok (.ireturn, 1) := by decide +kernel
theorem dX8_tell_27 : decode cX8_tell 27 = .ok (.aload_n 0, 1) := by decide +kernel
theorem dX8_tell_28 : decode cX8_tell 28 = .ok (.getfield 51, 3) := by decide +kernel
theorem dX8_tell_31 : decode cX8_tell 31 = .ok (.getfield 186, 3) := by decide +kernel
theorem dX8_tell_34 : decode cX8_tell 34 = .ok (.iload_n 1, 1) := by decide +kernel
theorem dX8_tell_35 : decode cX8_tell 35 = .ok (.aaload, 1) := by decide +kernel
theorem dX8_tell_36 : decode cX8_tell 36 = .ok (.iload_n 2, 1) := by decide +kernel
theorem dX8_tell_37 : decode cX8_tell 37 = .ok (.iload_n 3, 1) := by decide +kernel
theorem dX8_tell_38 : decode cX8_tell 38 = .ok (.invokestatic 91, 3) := by decide +kernel
theorem dX8_tell_41 : decode cX8_tell 41 = .ok (.ireturn, 1) := by decide +kernel
theorem dX8_cells_0 : decode cX8_cells 0 = .ok (.aload_n 0, 1) := by decide +kernel
theorem dX8_cells_1 : decode cX8_cells 1 = .ok (.iload_n 1, 1) := by decide +kernel
theorem dX8_cells_2 : decode cX8_cells 2 = .ok (.invokevirtual 189, 3) := by decide +kernel
theorem dX8_cells_5 : decode cX8_cells 5 = .ok (.ifCond .ne 6, 3) := by decide +kernel
theorem dX8_cells_8 : decode cX8_cells 8 = .ok (.bipush (-2), 2) := by decide +kernel
theorem dX8_cells_10 : decode cX8_cells 10 = .ok (.ireturn, 1) := by decide +kernel
theorem dX8_cells_11 : decode cX8_cells 11 = .ok (.aload_n 0, 1) := by decide +kernel
theorem dX8_cells_12 : decode cX8_cells 12 = .ok (.getfield 51, 3) := by decide +kernel
theorem dX8_cells_15 : decode cX8_cells 15 = .ok (.getfield 192, 3) := by decide +kernel
theorem dX8_cells_18 : decode cX8_cells 18 = .ok (.iload_n 1, 1) := by decide +kernel
theorem dX8_cells_19 : decode cX8_cells 19 = .ok (.iaload, 1) := by decide +kernel
theorem dX8_cells_20 : decode cX8_cells 20 = .ok (.ireturn, 1) := by decide +kernel
theorem dX8_clear_0 : decode cX8_clear 0 = .ok (.aload_n 0, 1) := by decide +kernel
theorem dX8_clear_1 : decode cX8_clear 1 = .ok (.getfield 51, 3) := by decide +kernel
theorem dX8_clear_4 : decode cX8_clear 4 = .ok (.getfield 181, 3) := by decide +kernel
theorem dX8_clear_7 : decode cX8_clear 7 = .ok (.istore_n 1, 1) := by decide +kernel
theorem dX8_clear_8 : decode cX8_clear 8 = .ok (.aload_n 0, 1) := by decide +kernel
theorem dX8_clear_9 : decode cX8_clear 9 = .ok (.getfield 51, 3) := by decide +kernel
theorem dX8_clear_12 : decode cX8_clear 12 = .ok (.iconst 0, 1) := by decide +kernel
theorem dX8_clear_13 : decode cX8_clear 13 = .ok (.putfield 181, 3) := by decide +kernel
theorem dX8_clear_16 : decode cX8_clear 16 = .ok (.iload_n 1, 1) := by decide +kernel
theorem dX8_clear_17 : decode cX8_clear 17 = .ok (.ireturn, 1) := by decide +kernel
theorem dX8_agreeing_0 : decode cX8_agreeing 0 = .ok (.aload_n 0, 1) := by decide +kernel
theorem dX8_agreeing_1 : decode cX8_agreeing 1 = .ok (.getfield 51, 3) := by decide +kernel
theorem dX8_agreeing_4 : decode cX8_agreeing 4 = .ok (.getfield 181, 3) := by decide +kernel
theorem dX8_agreeing_7 : decode cX8_agreeing 7 = .ok (.ifCond .ne 6, 3) := by decide +kernel
theorem dX8_agreeing_10 : decode cX8_agreeing 10 = .ok (.bipush (-4), 2) := by decide +kernel
theorem dX8_agreeing_12 : decode cX8_agreeing 12 = .ok (.ireturn, 1) := by decide +kernel
theorem dX8_agreeing_13 : decode cX8_agreeing 13 = .ok (.aload_n 0, 1) := by decide +kernel
theorem dX8_agreeing_14 : decode cX8_agreeing 14 = .ok (.getfield 51, 3) := by decide +kernel
theorem dX8_agreeing_17 : decode cX8_agreeing 17 = .ok (.invokevirtual 195, 3) := by decide +kernel
theorem dX8_agreeing_20 : decode cX8_agreeing 20 = .ok (.ireturn, 1) := by decide +kernel
theorem dX8_least_0 : decode cX8_least 0 = .ok (.aload_n 0, 1) := by decide +kernel
theorem dX8_least_1 : decode cX8_least 1 = .ok (.getfield 51, 3) := by decide +kernel
theorem dX8_least_4 : decode cX8_least 4 = .ok (.getfield 181, 3) := by decide +kernel
theorem dX8_least_7 : decode cX8_least 7 = .ok (.ifCond .ne 6, 3) := by decide +kernel
theorem dX8_least_10 : decode cX8_least 10 = .ok (.bipush (-4), 2) := by decide +kernel
theorem dX8_least_12 : decode cX8_least 12 = .ok (.ireturn, 1) := by decide +kernel
theorem dX8_least_13 : decode cX8_least 13 = .ok (.iload_n 1, 1) := by decide +kernel
theorem dX8_least_14 : decode cX8_least 14 = .ok (.iconst 0, 1) := by decide +kernel
theorem dX8_least_15 : decode cX8_least 15 = .ok (.aload_n 0, 1) := by decide +kernel
theorem dX8_least_16 : decode cX8_least 16 = .ok (.getfield 51, 3) := by decide +kernel
theorem dX8_least_19 : decode cX8_least 19 = .ok (.getfield 198, 3) := by decide +kernel
theorem dX8_least_22 : decode cX8_least 22 = .ok (.iconst 1, 1) := by decide +kernel
theorem dX8_least_23 : decode cX8_least 23 = .ok (.isub, 1) := by decide +kernel
theorem dX8_least_24 : decode cX8_least 24 = .ok (.invokestatic 73, 3) := by decide +kernel
theorem dX8_least_27 : decode cX8_least 27 = .ok (.ifCond .ne 5, 3) := by decide +kernel
theorem dX8_least_30 : decode cX8_least 30 = .ok (.iconst (-1), 1) := by decide +kernel
theorem dX8_least_31 : decode cX8_least 31 = .ok (.ireturn, 1) := by decide +kernel
theorem dX8_least_32 : decode cX8_least 32 = .ok (.aload_n 0, 1) := by decide +kernel
theorem dX8_least_33 : decode cX8_least 33 = .ok (.getfield 51, 3) := by decide +kernel
theorem dX8_least_36 : decode cX8_least 36 = .ok (.invokevirtual 201, 3) := by decide +kernel
theorem dX8_least_39 : decode cX8_least 39 = .ok (.aload_n 0, 1) := by decide +kernel
theorem dX8_least_40 : decode cX8_least 40 = .ok (.getfield 51, 3) := by decide +kernel
theorem dX8_least_43 : decode cX8_least 43 = .ok (.getfield 204, 3) := by decide +kernel
theorem dX8_least_46 : decode cX8_least 46 = .ok (.iload_n 1, 1) := by decide +kernel
theorem dX8_least_47 : decode cX8_least 47 = .ok (.iaload, 1) := by decide +kernel
theorem dX8_least_48 : decode cX8_least 48 = .ok (.ireturn, 1) := by decide +kernel
theorem dX8_blamed_0 : decode cX8_blamed 0 = .ok (.aload_n 0, 1) := by decide +kernel
theorem dX8_blamed_1 : decode cX8_blamed 1 = .ok (.iload_n 1, 1) := by decide +kernel
theorem dX8_blamed_2 : decode cX8_blamed 2 = .ok (.invokevirtual 189, 3) := by decide +kernel
theorem dX8_blamed_5 : decode cX8_blamed 5 = .ok (.ifCond .eq 17, 3) := by decide +kernel
theorem dX8_blamed_8 : decode cX8_blamed 8 = .ok (.iload_n 2, 1) := by decide +kernel
theorem dX8_blamed_9 : decode cX8_blamed 9 = .ok (.iconst (-1), 1) := by decide +kernel
theorem dX8_blamed_10 : decode cX8_blamed 10 = .ok (.if_icmp .eq 15, 3) := by decide +kernel
theorem dX8_blamed_13 : decode cX8_blamed 13 = .ok (.aload_n 0, 1) := by decide +kernel
theorem dX8_blamed_14 : decode cX8_blamed 14 = .ok (.iload_n 1, 1) := by decide +kernel
theorem dX8_blamed_15 : decode cX8_blamed 15 = .ok (.iload_n 2, 1) := by decide +kernel
theorem dX8_blamed_16 : decode cX8_blamed 16 = .ok (.invokevirtual 183, 3) := by decide +kernel
theorem dX8_blamed_19 : decode cX8_blamed 19 = .ok (.ifCond .ne 6, 3) := by decide +kernel
theorem dX8_blamed_22 : decode cX8_blamed 22 = .ok (.bipush (-2), 2) := by decide +kernel
theorem dX8_blamed_24 : decode cX8_blamed 24 = .ok (.ireturn, 1) := by decide +kernel
theorem dX8_blamed_25 : decode cX8_blamed 25 = .ok (.aload_n 0, 1) := by decide +kernel
theorem dX8_blamed_26 : decode cX8_blamed 26 = .ok (.getfield 51, 3) := by decide +kernel
theorem dX8_blamed_29 : decode cX8_blamed 29 = .ok (.invokevirtual 201, 3) := by decide +kernel
theorem dX8_blamed_32 : decode cX8_blamed 32 = .ok (.iload_n 2, 1) := by decide +kernel
theorem dX8_blamed_33 : decode cX8_blamed 33 = .ok (.iconst (-1), 1) := by decide +kernel
theorem dX8_blamed_34 : decode cX8_blamed 34 = .ok (.if_icmp .ne 12, 3) := by decide +kernel
theorem dX8_blamed_37 : decode cX8_blamed 37 = .ok (.aload_n 0, 1) := by decide +kernel
theorem dX8_blamed_38 : decode cX8_blamed 38 = .ok (.getfield 51, 3) := by decide +kernel
theorem dX8_blamed_41 : decode cX8_blamed 41 = .ok (.iload_n 1, 1) := by decide +kernel
theorem dX8_blamed_42 : decode cX8_blamed 42 = .ok (.invokevirtual 207, 3) := by decide +kernel
theorem dX8_blamed_45 : decode cX8_blamed 45 = .ok (.ireturn, 1) := by decide +kernel
theorem dX8_blamed_46 : decode cX8_blamed 46 = .ok (.aload_n 0, 1) := by decide +kernel
theorem dX8_blamed_47 : decode cX8_blamed 47 = .ok (.getfield 51, 3) := by decide +kernel
theorem dX8_blamed_50 : decode cX8_blamed 50 = .ok (.iload_n 1, 1) := by decide +kernel
theorem dX8_blamed_51 : decode cX8_blamed 51 = .ok (.iload_n 2, 1) := by decide +kernel
theorem dX8_blamed_52 : decode cX8_blamed 52 = .ok (.invokevirtual 210, 3) := by decide +kernel
theorem dX8_blamed_55 : decode cX8_blamed 55 = .ok (.ifCond .eq 7, 3) := by decide +kernel
theorem dX8_blamed_58 : decode cX8_blamed 58 = .ok (.iconst 1, 1) := by decide +kernel
theorem dX8_blamed_59 : decode cX8_blamed 59 = .ok (.goto 4, 3) := by decide +kernel
theorem dX8_blamed_62 : decode cX8_blamed 62 = .ok (.iconst 0, 1) := by decide +kernel
theorem dX8_blamed_63 : decode cX8_blamed 63 = .ok (.ireturn, 1) := by decide +kernel
theorem dX8_piper_0 : decode cX8_piper 0 = .ok (.iload_n 1, 1) := by decide +kernel
theorem dX8_piper_1 : decode cX8_piper 1 = .ok (.invokestatic 213, 3) := by decide +kernel
theorem dX8_piper_4 : decode cX8_piper 4 = .ok (.ifCond .ne 6, 3) := by decide +kernel
theorem dX8_piper_7 : decode cX8_piper 7 = .ok (.bipush (-2), 2) := by decide +kernel
theorem dX8_piper_9 : decode cX8_piper 9 = .ok (.ireturn, 1) := by decide +kernel
theorem dX8_piper_10 : decode cX8_piper 10 = .ok (.iload_n 2, 1) := by decide +kernel
theorem dX8_piper_11 : decode cX8_piper 11 = .ok (.bipush (-99), 2) := by decide +kernel
theorem dX8_piper_13 : decode cX8_piper 13 = .ok (.bipush 99, 2) := by decide +kernel
theorem dX8_piper_15 : decode cX8_piper 15 = .ok (.invokestatic 73, 3) := by decide +kernel
theorem dX8_piper_18 : decode cX8_piper 18 = .ok (.ifCond .eq 35, 3) := by decide +kernel
theorem dX8_piper_21 : decode cX8_piper 21 = .ok (.iload_n 3, 1) := by decide +kernel
theorem dX8_piper_22 : decode cX8_piper 22 = .ok (.iconst 0, 1) := by decide +kernel
theorem dX8_piper_23 : decode cX8_piper 23 = .ok (.bipush 9, 2) := by decide +kernel
theorem dX8_piper_25 : decode cX8_piper 25 = .ok (.invokestatic 73, 3) := by decide +kernel
theorem dX8_piper_28 : decode cX8_piper 28 = .ok (.ifCond .eq 25, 3) := by decide +kernel
theorem dX8_piper_31 : decode cX8_piper 31 = .ok (.iload 4, 2) := by decide +kernel
theorem dX8_piper_33 : decode cX8_piper 33 = .ok (.iconst 1, 1) := by decide +kernel
theorem dX8_piper_34 : decode cX8_piper 34 = .ok (.bipush 60, 2) := by decide +kernel
theorem dX8_piper_36 : decode cX8_piper 36 = .ok (.invokestatic 73, 3) := by decide +kernel
theorem dX8_piper_39 : decode cX8_piper 39 = .ok (.ifCond .eq 14, 3) := by decide +kernel
theorem dX8_piper_42 : decode cX8_piper 42 = .ok (.iload 5, 2) := by decide +kernel
theorem dX8_piper_44 : decode cX8_piper 44 = .ok (.iconst 0, 1) := by decide +kernel
theorem dX8_piper_45 : decode cX8_piper 45 = .ok (.bipush 90, 2) := by decide +kernel
theorem dX8_piper_47 : decode cX8_piper 47 = .ok (.invokestatic 73, 3) := by decide +kernel
theorem dX8_piper_50 : decode cX8_piper 50 = .ok (.ifCond .ne 6, 3) := by decide +kernel
theorem dX8_piper_53 : decode cX8_piper 53 = .ok (.bipush (-3), 2) := by decide +kernel
theorem dX8_piper_55 : decode cX8_piper 55 = .ok (.ireturn, 1) := by decide +kernel
theorem dX8_piper_56 : decode cX8_piper 56 = .ok (.aload_n 0, 1) := by decide +kernel
theorem dX8_piper_57 : decode cX8_piper 57 = .ok (.getfield 58, 3) := by decide +kernel
theorem dX8_piper_60 : decode cX8_piper 60 = .ok (.iload_n 1, 1) := by decide +kernel
theorem dX8_piper_61 : decode cX8_piper 61 = .ok (.iload_n 2, 1) := by decide +kernel
theorem dX8_piper_62 : decode cX8_piper 62 = .ok (.iload_n 3, 1) := by decide +kernel
theorem dX8_piper_63 : decode cX8_piper 63 = .ok (.iload 4, 2) := by decide +kernel
theorem dX8_piper_65 : decode cX8_piper 65 = .ok (.iload 5, 2) := by decide +kernel
theorem dX8_piper_67 : decode cX8_piper 67 = .ok (.invokevirtual 216, 3) := by decide +kernel
theorem dX8_piper_70 : decode cX8_piper 70 = .ok (.iconst 1, 1) := by decide +kernel
theorem dX8_piper_71 : decode cX8_piper 71 = .ok (.ireturn, 1) := by decide +kernel
theorem dX8_damp_0 : decode cX8_damp 0 = .ok (.iload_n 1, 1) := by decide +kernel
theorem dX8_damp_1 : decode cX8_damp 1 = .ok (.iconst 0, 1) := by decide +kernel
theorem dX8_damp_2 : decode cX8_damp 2 = .ok (.iconst 5, 1) := by decide +kernel
theorem dX8_damp_3 : decode cX8_damp 3 = .ok (.invokestatic 73, 3) := by decide +kernel
theorem dX8_damp_6 : decode cX8_damp 6 = .ok (.ifCond .ne 6, 3) := by decide +kernel
theorem dX8_damp_9 : decode cX8_damp 9 = .ok (.bipush (-3), 2) := by decide +kernel
theorem dX8_damp_11 : decode cX8_damp 11 = .ok (.ireturn, 1) := by decide +kernel
theorem dX8_damp_12 : decode cX8_damp 12 = .ok (.aload_n 0, 1) := by decide +kernel
theorem dX8_damp_13 : decode cX8_damp 13 = .ok (.getfield 58, 3) := by decide +kernel
theorem dX8_damp_16 : decode cX8_damp 16 = .ok (.getfield 219, 3) := by decide +kernel
theorem dX8_damp_19 : decode cX8_damp 19 = .ok (.istore_n 2, 1) := by decide +kernel
theorem dX8_damp_20 : decode cX8_damp 20 = .ok (.aload_n 0, 1) := by decide +kernel
theorem dX8_damp_21 : decode cX8_damp 21 = .ok (.getfield 58, 3) := by decide +kernel
theorem dX8_damp_24 : decode cX8_damp 24 = .ok (.iload_n 1, 1) := by decide +kernel
theorem dX8_damp_25 : decode cX8_damp 25 = .ok (.putfield 219, 3) := by decide +kernel
theorem dX8_damp_28 : decode cX8_damp 28 = .ok (.iload_n 2, 1) := by decide +kernel
theorem dX8_damp_29 : decode cX8_damp 29 = .ok (.ireturn, 1) := by decide +kernel
theorem dX8_pitch_0 : decode cX8_pitch 0 = .ok (.iload_n 1, 1) := by decide +kernel
theorem dX8_pitch_1 : decode cX8_pitch 1 = .ok (.invokestatic 213, 3) := by decide +kernel
theorem dX8_pitch_4 : decode cX8_pitch 4 = .ok (.ifCond .eq 17, 3) := by decide +kernel
theorem dX8_pitch_7 : decode cX8_pitch 7 = .ok (.iload_n 2, 1) := by decide +kernel
theorem dX8_pitch_8 : decode cX8_pitch 8 = .ok (.invokestatic 222, 3) := by decide +kernel
theorem dX8_pitch_11 : decode cX8_pitch 11 = .ok (.ifCond .eq 10, 3) := by decide +kernel
theorem dX8_pitch_14 : decode cX8_pitch 14 = .ok (.iload_n 3, 1) := by decide +kernel
theorem dX8_pitch_15 : decode cX8_pitch 15 = .ok (.invokestatic 222, 3) := by decide +kernel
theorem dX8_pitch_18 : decode cX8_pitch 18 = .ok (.ifCond .ne 6, 3) := by decide +kernel
theorem dX8_pitch_21 : decode cX8_pitch 21 = .ok (.ldc 225, 2) := by decide +kernel
theorem dX8_pitch_23 : decode cX8_pitch 23 = .ok (.ireturn, 1) := by decide +kernel
theorem dX8_pitch_24 : decode cX8_pitch 24 = .ok (.iload_n 2, 1) := by decide +kernel
theorem dX8_pitch_25 : decode cX8_pitch 25 = .ok (.iload_n 3, 1) := by decide +kernel
theorem dX8_pitch_26 : decode cX8_pitch 26 = .ok (.if_icmp .gt 16, 3) := by decide +kernel
theorem dX8_pitch_29 : decode cX8_pitch 29 = .ok (.iload_n 2, 1) := by decide +kernel
theorem dX8_pitch_30 : decode cX8_pitch 30 = .ok (.aload_n 0, 1) := by decide +kernel
theorem dX8_pitch_31 : decode cX8_pitch 31 = .ok (.getfield 58, 3) := by decide +kernel
theorem dX8_pitch_34 : decode cX8_pitch 34 = .ok (.getfield 226, 3) := by decide +kernel
theorem dX8_pitch_37 : decode cX8_pitch 37 = .ok (.iload_n 1, 1) := by decide +kernel
theorem dX8_pitch_38 : decode cX8_pitch 38 = .ok (.iaload, 1) := by decide +kernel
theorem dX8_pitch_39 : decode cX8_pitch 39 = .ok (.if_icmp .ge 6, 3) := by decide +kernel
theorem dX8_pitch_42 : decode cX8_pitch 42 = .ok (.ldc 225, 2) := by decide +kernel
theorem dX8_pitch_44 : decode cX8_pitch 44 = .ok (.ireturn, 1) := by decide +kernel
theorem dX8_pitch_45 : decode cX8_pitch 45 = .ok (.aload_n 0, 1) := by decide +kernel
theorem dX8_pitch_46 : decode cX8_pitch 46 = .ok (.getfield 58, 3) := by decide +kernel
theorem dX8_pitch_49 : decode cX8_pitch 49 = .ok (.iload_n 1, 1) := by decide +kernel
theorem dX8_pitch_50 : decode cX8_pitch 50 = .ok (.iload_n 3, 1) := by decide +kernel
theorem dX8_pitch_51 : decode cX8_pitch 51 = .ok (.iload_n 2, 1) := by decide +kernel
theorem dX8_pitch_52 : decode cX8_pitch 52 = .ok (.isub, 1) := by decide +kernel
theorem dX8_pitch_53 : decode cX8_pitch 53 = .ok (.invokevirtual 229, 3) := by decide +kernel
theorem dX8_pitch_56 : decode cX8_pitch 56 = .ok (.ireturn, 1) := by decide +kernel
theorem dX8_band_0 : decode cX8_band 0 = .ok (.iload_n 1, 1) := by decide +kernel
theorem dX8_band_1 : decode cX8_band 1 = .ok (.invokestatic 232, 3) := by decide +kernel
theorem dX8_band_4 : decode cX8_band 4 = .ok (.ifCond .eq 19, 3) := by decide +kernel
theorem dX8_band_7 : decode cX8_band 7 = .ok (.iload_n 2, 1) := by decide +kernel
theorem dX8_band_8 : decode cX8_band 8 = .ok (.invokestatic 222, 3) := by decide +kernel
theorem dX8_band_11 : decode cX8_band 11 = .ok (.ifCond .eq 12, 3) := by decide +kernel
theorem dX8_band_14 : decode cX8_band 14 = .ok (.iload_n 3, 1) := by decide +kernel
theorem dX8_band_15 : decode cX8_band 15 = .ok (.iconst 0, 1) := by decide +kernel
theorem dX8_band_16 : decode cX8_band 16 = .ok (.iconst 1, 1) := by decide +kernel
theorem dX8_band_17 : decode cX8_band 17 = .ok (.invokestatic 73, 3) := by decide +kernel
theorem dX8_band_20 : decode cX8_band 20 = .ok (.ifCond .ne 6, 3) := by decide +kernel
theorem dX8_band_23 : decode cX8_band 23 = .ok (.bipush (-3), 2) := by decide +kernel
theorem dX8_band_25 : decode cX8_band 25 = .ok (.ireturn, 1) := by decide +kernel
theorem dX8_band_26 : decode cX8_band 26 = .ok (.aload_n 0, 1) := by decide +kernel
theorem dX8_band_27 : decode cX8_band 27 = .ok (.getfield 58, 3) := by decide +kernel
theorem dX8_band_30 : decode cX8_band 30 = .ok (.iload_n 1, 1) := by decide +kernel
theorem dX8_band_31 : decode cX8_band 31 = .ok (.iload_n 2, 1) := by decide +kernel
theorem dX8_band_32 : decode cX8_band 32 = .ok (.invokevirtual 235, 3) := by decide +kernel
theorem dX8_band_35 : decode cX8_band 35 = .ok (.ifCond .ne 6, 3) := by decide +kernel
theorem dX8_band_38 : decode cX8_band 38 = .ok (.bipush (-4), 2) := by decide +kernel
theorem dX8_band_40 : decode cX8_band 40 = .ok (.ireturn, 1) := by decide +kernel
theorem dX8_band_41 : decode cX8_band 41 = .ok (.aload_n 0, 1) := by decide +kernel
theorem dX8_band_42 : decode cX8_band 42 = .ok (.getfield 58, 3) := by decide +kernel
theorem dX8_band_45 : decode cX8_band 45 = .ok (.iload_n 1, 1) := by decide +kernel
theorem dX8_band_46 : decode cX8_band 46 = .ok (.iload_n 2, 1) := by decide +kernel
theorem dX8_band_47 : decode cX8_band 47 = .ok (.invokevirtual 238, 3) := by decide +kernel
theorem dX8_band_50 : decode cX8_band 50 = .ok (.iload_n 3, 1) := by decide +kernel
theorem dX8_band_51 : decode cX8_band 51 = .ok (.ifCond .ne 13, 3) := by decide +kernel
theorem dX8_band_54 : decode cX8_band 54 = .ok (.aload_n 0, 1) := by decide +kernel
theorem dX8_band_55 : decode cX8_band 55 = .ok (.getfield 58, 3) := by decide +kernel
theorem dX8_band_58 : decode cX8_band 58 = .ok (.getfield 242, 3) := by decide +kernel
theorem dX8_band_61 : decode cX8_band 61 = .ok (.goto 14, 3) := by decide +kernel
theorem dX8_band_64 : decode cX8_band 64 = .ok (.aload_n 0, 1) := by decide +kernel
theorem dX8_band_65 : decode cX8_band 65 = .ok (.getfield 58, 3) := by decide +kernel
theorem dX8_band_68 : decode cX8_band 68 = .ok (.getfield 245, 3) := by decide +kernel
theorem dX8_band_71 : decode cX8_band 71 = .ok (.sipush 1000, 3) := by decide +kernel
theorem dX8_band_74 : decode cX8_band 74 = .ok (.iadd, 1) := by decide +kernel
theorem dX8_band_75 : decode cX8_band 75 = .ok (.ireturn, 1) := by decide +kernel
theorem dX8_begins_0 : decode cX8_begins 0 = .ok (.iload_n 3, 1) := by decide +kernel
theorem dX8_begins_1 : decode cX8_begins 1 = .ok (.invokestatic 213, 3) := by decide +kernel
theorem dX8_begins_4 : decode cX8_begins 4 = .ok (.ifCond .ne 6, 3) := by decide +kernel
theorem dX8_begins_7 : decode cX8_begins 7 = .ok (.bipush (-2), 2) := by decide +kernel
theorem dX8_begins_9 : decode cX8_begins 9 = .ok (.ireturn, 1) := by decide +kernel
theorem dX8_begins_10 : decode cX8_begins 10 = .ok (.iload_n 1, 1) := by decide +kernel
theorem dX8_begins_11 : decode cX8_begins 11 = .ok (.invokestatic 232, 3) := by decide +kernel
theorem dX8_begins_14 : decode cX8_begins 14 = .ok (.ifCond .eq 10, 3) := by decide +kernel
theorem dX8_begins_17 : decode cX8_begins 17 = .ok (.iload_n 2, 1) := by decide +kernel
theorem dX8_begins_18 : decode cX8_begins 18 = .ok (.invokestatic 222, 3) := by decide +kernel
theorem dX8_begins_21 : decode cX8_begins 21 = .ok (.ifCond .ne 6, 3) := by decide +kernel
theorem dX8_begins_24 : decode cX8_begins 24 = .ok (.bipush (-3), 2) := by decide +kernel
theorem dX8_begins_26 : decode cX8_begins 26 = .ok (.ireturn, 1) := by decide +kernel
theorem dX8_begins_27 : decode cX8_begins 27 = .ok (.aload_n 0, 1) := by decide +kernel
theorem dX8_begins_28 : decode cX8_begins 28 = .ok (.getfield 58, 3) := by decide +kernel
theorem dX8_begins_31 : decode cX8_begins 31 = .ok (.iload_n 1, 1) := by decide +kernel
theorem dX8_begins_32 : decode cX8_begins 32 = .ok (.iload_n 2, 1) := by decide +kernel
theorem dX8_begins_33 : decode cX8_begins 33 = .ok (.invokevirtual 235, 3) := by decide +kernel
theorem dX8_begins_36 : decode cX8_begins 36 = .ok (.ifCond .ne 6, 3) := by decide +kernel
theorem dX8_begins_39 : decode cX8_begins 39 = .ok (.bipush (-4), 2) := by decide +kernel
theorem dX8_begins_41 : decode cX8_begins 41 = .ok (.ireturn, 1) := by decide +kernel
theorem dX8_begins_42 : decode cX8_begins 42 = .ok (.iload_n 1, 1) := by decide +kernel
theorem dX8_begins_43 : decode cX8_begins 43 = .ok (.iload_n 3, 1) := by decide +kernel
theorem dX8_begins_44 : decode cX8_begins 44 = .ok (.invokestatic 248, 3) := by decide +kernel
theorem dX8_begins_47 : decode cX8_begins 47 = .ok (.ifCond .ne 5, 3) := by decide +kernel
theorem dX8_begins_50 : decode cX8_begins 50 = .ok (.iconst (-1), 1) := by decide +kernel
theorem dX8_begins_51 : decode cX8_begins 51 = .ok (.ireturn, 1) := by decide +kernel
theorem dX8_begins_52 : decode cX8_begins 52 = .ok (.aload_n 0, 1) := by decide +kernel
theorem dX8_begins_53 : decode cX8_begins 53 = .ok (.getfield 58, 3) := by decide +kernel
theorem dX8_begins_56 : decode cX8_begins 56 = .ok (.iload_n 1, 1) := by decide +kernel
theorem dX8_begins_57 : decode cX8_begins 57 = .ok (.iload_n 2, 1) := by decide +kernel
theorem dX8_begins_58 : decode cX8_begins 58 = .ok (.invokevirtual 238, 3) := by decide +kernel
theorem dX8_begins_61 : decode cX8_begins 61 = .ok (.iload_n 2, 1) := by decide +kernel
theorem dX8_begins_62 : decode cX8_begins 62 = .ok (.aload_n 0, 1) := by decide +kernel
theorem dX8_begins_63 : decode cX8_begins 63 = .ok (.getfield 58, 3) := by decide +kernel
theorem dX8_begins_66 : decode cX8_begins 66 = .ok (.iload_n 3, 1) := by decide +kernel
theorem dX8_begins_67 : decode cX8_begins 67 = .ok (.aload_n 0, 1) := by decide +kernel
theorem dX8_begins_68 : decode cX8_begins 68 = .ok (.getfield 58, 3) := by decide +kernel
theorem dX8_begins_71 : decode cX8_begins 71 = .ok (.getfield 245, 3) := by decide +kernel
theorem dX8_begins_74 : decode cX8_begins 74 = .ok (.iload_n 2, 1) := by decide +kernel
theorem dX8_begins_75 : decode cX8_begins 75 = .ok (.invokevirtual 251, 3) := by decide +kernel
theorem dX8_begins_78 : decode cX8_begins 78 = .ok (.isub, 1) := by decide +kernel
theorem dX8_begins_79 : decode cX8_begins 79 = .ok (.ireturn, 1) := by decide +kernel
theorem dX8_tone_0 : decode cX8_tone 0 = .ok (.iload_n 1, 1) := by decide +kernel
theorem dX8_tone_1 : decode cX8_tone 1 = .ok (.invokestatic 99, 3) := by decide +kernel
theorem dX8_tone_4 : decode cX8_tone 4 = .ok (.ifCond .ne 6, 3) := by decide +kernel
theorem dX8_tone_7 : decode cX8_tone 7 = .ok (.bipush (-2), 2) := by decide +kernel
theorem dX8_tone_9 : decode cX8_tone 9 = .ok (.ireturn, 1) := by decide +kernel
theorem dX8_tone_10 : decode cX8_tone 10 = .ok (.iload_n 2, 1) := by decide +kernel
theorem dX8_tone_11 : decode cX8_tone 11 = .ok (.sipush (-300), 3) := by decide +kernel
theorem dX8_tone_14 : decode cX8_tone 14 = .ok (.sipush 300, 3) := by decide +kernel
theorem dX8_tone_17 : decode cX8_tone 17 = .ok (.invokestatic 73, 3) := by decide +kernel
theorem dX8_tone_20 : decode cX8_tone 20 = .ok (.ifCond .ne 6, 3) := by decide +kernel
theorem dX8_tone_23 : decode cX8_tone 23 = .ok (.bipush (-3), 2) := by decide +kernel
theorem dX8_tone_25 : decode cX8_tone 25 = .ok (.ireturn, 1) := by decide +kernel
theorem dX8_tone_26 : decode cX8_tone 26 = .ok (.aload_n 0, 1) := by decide +kernel
theorem dX8_tone_27 : decode cX8_tone 27 = .ok (.getfield 65, 3) := by decide +kernel
theorem dX8_tone_30 : decode cX8_tone 30 = .ok (.getfield 254, 3) := by decide +kernel
theorem dX8_tone_33 : decode cX8_tone 33 = .ok (.iload_n 1, 1) := by decide +kernel
theorem dX8_tone_34 : decode cX8_tone 34 = .ok (.iload_n 2, 1) := by decide +kernel
theorem dX8_tone_35 : decode cX8_tone 35 = .ok (.iastore, 1) := by decide +kernel
theorem dX8_tone_36 : decode cX8_tone 36 = .ok (.iconst 1, 1) := by decide +kernel
theorem dX8_tone_37 : decode cX8_tone 37 = .ok (.ireturn, 1) := by decide +kernel
theorem dX8_harsh_0 : decode cX8_harsh 0 = .ok (.iload_n 1, 1) := by decide +kernel
theorem dX8_harsh_1 : decode cX8_harsh 1 = .ok (.invokestatic 257, 3) := by decide +kernel
theorem dX8_harsh_4 : decode cX8_harsh 4 = .ok (.ifCond .eq 10, 3) := by decide +kernel
theorem dX8_harsh_7 : decode cX8_harsh 7 = .ok (.iload_n 2, 1) := by decide +kernel
theorem dX8_harsh_8 : decode cX8_harsh 8 = .ok (.invokestatic 257, 3) := by decide +kernel
theorem dX8_harsh_11 : decode cX8_harsh 11 = .ok (.ifCond .ne 6, 3) := by decide +kernel
theorem dX8_harsh_14 : decode cX8_harsh 14 = .ok (.bipush (-3), 2) := by decide +kernel
theorem dX8_harsh_16 : decode cX8_harsh 16 = .ok (.ireturn, 1) := by decide +kernel
theorem dX8_harsh_17 : decode cX8_harsh 17 = .ok (.aload_n 0, 1) := by decide +kernel
theorem dX8_harsh_18 : decode cX8_harsh 18 = .ok (.getfield 65, 3) := by decide +kernel
theorem dX8_harsh_21 : decode cX8_harsh 21 = .ok (.iload_n 1, 1) := by decide +kernel
theorem dX8_harsh_22 : decode cX8_harsh 22 = .ok (.iload_n 2, 1) := by decide +kernel
theorem dX8_harsh_23 : decode cX8_harsh 23 = .ok (.invokevirtual 260, 3) := by decide +kernel
theorem dX8_harsh_26 : decode cX8_harsh 26 = .ok (.ireturn, 1) := by decide +kernel
theorem dX8_set_0 : decode cX8_set 0 = .ok (.iload_n 1, 1) := by decide +kernel
theorem dX8_set_1 : decode cX8_set 1 = .ok (.invokestatic 257, 3) := by decide +kernel
theorem dX8_set_4 : decode cX8_set 4 = .ok (.ifCond .ne 6, 3) := by decide +kernel
theorem dX8_set_7 : decode cX8_set 7 = .ok (.ldc 225, 2) := by decide +kernel
theorem dX8_set_9 : decode cX8_set 9 = .ok (.ireturn, 1) := by decide +kernel
theorem dX8_set_10 : decode cX8_set 10 = .ok (.aload_n 0, 1) := by decide +kernel
theorem dX8_set_11 : decode cX8_set 11 = .ok (.getfield 65, 3) := by decide +kernel
theorem dX8_set_14 : decode cX8_set 14 = .ok (.iload_n 1, 1) := by decide +kernel
theorem dX8_set_15 : decode cX8_set 15 = .ok (.invokevirtual 263, 3) := by decide +kernel
theorem dX8_set_18 : decode cX8_set 18 = .ok (.ireturn, 1) := by decide +kernel
theorem dX8_count_0 : decode cX8_count 0 = .ok (.iload_n 1, 1) := by decide +kernel
theorem dX8_count_1 : decode cX8_count 1 = .ok (.tableswitch 75 0 4 #[35, 43, 51, 59, 67], 35) := by decide +kernel
theorem dX8_count_36 : decode cX8_count 36 = .ok (.aload_n 0, 1) := by decide +kernel
theorem dX8_count_37 : decode cX8_count 37 = .ok (.getfield 21, 3) := by decide +kernel
theorem dX8_count_40 : decode cX8_count 40 = .ok (.getfield 108, 3) := by decide +kernel
theorem dX8_count_43 : decode cX8_count 43 = .ok (.ireturn, 1) := by decide +kernel
theorem dX8_count_44 : decode cX8_count 44 = .ok (.aload_n 0, 1) := by decide +kernel
theorem dX8_count_45 : decode cX8_count 45 = .ok (.getfield 21, 3) := by decide +kernel
theorem dX8_count_48 : decode cX8_count 48 = .ok (.invokevirtual 266, 3) := by decide +kernel
theorem dX8_count_51 : decode cX8_count 51 = .ok (.ireturn, 1) := by decide +kernel
theorem dX8_count_52 : decode cX8_count 52 = .ok (.aload_n 0, 1) := by decide +kernel
theorem dX8_count_53 : decode cX8_count 53 = .ok (.getfield 28, 3) := by decide +kernel
theorem dX8_count_56 : decode cX8_count 56 = .ok (.getfield 151, 3) := by decide +kernel
theorem dX8_count_59 : decode cX8_count 59 = .ok (.ireturn, 1) := by decide +kernel
theorem dX8_count_60 : decode cX8_count 60 = .ok (.aload_n 0, 1) := by decide +kernel
theorem dX8_count_61 : decode cX8_count 61 = .ok (.getfield 44, 3) := by decide +kernel
theorem dX8_count_64 : decode cX8_count 64 = .ok (.getfield 171, 3) := by decide +kernel
theorem dX8_count_67 : decode cX8_count 67 = .ok (.ireturn, 1) := by decide +kernel
theorem dX8_count_68 : decode cX8_count 68 = .ok (.aload_n 0, 1) := by decide +kernel
theorem dX8_count_69 : decode cX8_count 69 = .ok (.getfield 51, 3) := by decide +kernel
theorem dX8_count_72 : decode cX8_count 72 = .ok (.getfield 181, 3) := by decide +kernel
theorem dX8_count_75 : decode cX8_count 75 = .ok (.ireturn, 1) := by decide +kernel
theorem dX8_count_76 : decode cX8_count 76 = .ok (.bipush (-3), 2) := by decide +kernel
theorem dX8_count_78 : decode cX8_count 78 = .ok (.ireturn, 1) := by decide +kernel
theorem dX8_within_0 : decode cX8_within 0 = .ok (.iload_n 0, 1) := by decide +kernel
theorem dX8_within_1 : decode cX8_within 1 = .ok (.iload_n 1, 1) := by decide +kernel
theorem dX8_within_2 : decode cX8_within 2 = .ok (.if_icmp .lt 12, 3) := by decide +kernel
theorem dX8_within_5 : decode cX8_within 5 = .ok (.iload_n 0, 1) := by decide +kernel
theorem dX8_within_6 : decode cX8_within 6 = .ok (.iload_n 2, 1) := by decide +kernel
theorem dX8_within_7 : decode cX8_within 7 = .ok (.if_icmp .gt 7, 3) := by decide +kernel
theorem dX8_within_10 : decode cX8_within 10 = .ok (.iconst 1, 1) := by decide +kernel
theorem dX8_within_11 : decode cX8_within 11 = .ok (.goto 4, 3) := by decide +kernel
theorem dX8_within_14 : decode cX8_within 14 = .ok (.iconst 0, 1) := by decide +kernel
theorem dX8_within_15 : decode cX8_within 15 = .ok (.ireturn, 1) := by decide +kernel
theorem dX8_hasBit_0 : decode cX8_hasBit 0 = .ok (.iload_n 0, 1) := by decide +kernel
theorem dX8_hasBit_1 : decode cX8_hasBit 1 = .ok (.iload_n 1, 1) := by decide +kernel
theorem dX8_hasBit_2 : decode cX8_hasBit 2 = .ok (.ishr, 1) := by decide +kernel
theorem dX8_hasBit_3 : decode cX8_hasBit 3 = .ok (.iconst 1, 1) := by decide +kernel
theorem dX8_hasBit_4 : decode cX8_hasBit 4 = .ok (.iand, 1) := by decide +kernel
theorem dX8_hasBit_5 : decode cX8_hasBit 5 = .ok (.iconst 1, 1) := by decide +kernel
theorem dX8_hasBit_6 : decode cX8_hasBit 6 = .ok (.if_icmp .ne 7, 3) := by decide +kernel
theorem dX8_hasBit_9 : decode cX8_hasBit 9 = .ok (.iconst 1, 1) := by decide +kernel
theorem dX8_hasBit_10 : decode cX8_hasBit 10 = .ok (.goto 4, 3) := by decide +kernel
theorem dX8_hasBit_13 : decode cX8_hasBit 13 = .ok (.iconst 0, 1) := by decide +kernel
theorem dX8_hasBit_14 : decode cX8_hasBit 14 = .ok (.ireturn, 1) := by decide +kernel
theorem dX8_nibble_0 : decode cX8_nibble 0 = .ok (.iload_n 0, 1) := by decide +kernel
theorem dX8_nibble_1 : decode cX8_nibble 1 = .ok (.iconst 4, 1) := by decide +kernel
theorem dX8_nibble_2 : decode cX8_nibble 2 = .ok (.iload_n 1, 1) := by decide +kernel
theorem dX8_nibble_3 : decode cX8_nibble 3 = .ok (.imul, 1) := by decide +kernel
theorem dX8_nibble_4 : decode cX8_nibble 4 = .ok (.ishr, 1) := by decide +kernel
theorem dX8_nibble_5 : decode cX8_nibble 5 = .ok (.bipush 15, 2) := by decide +kernel
theorem dX8_nibble_7 : decode cX8_nibble 7 = .ok (.iand, 1) := by decide +kernel
theorem dX8_nibble_8 : decode cX8_nibble 8 = .ok (.ireturn, 1) := by decide +kernel
theorem dX8_nibblesWithin_0 : decode cX8_nibblesWithin 0 = .ok (.iconst 0, 1) := by decide +kernel
theorem dX8_nibblesWithin_1 : decode cX8_nibblesWithin 1 = .ok (.istore_n 3, 1) := by decide +kernel
theorem dX8_nibblesWithin_2 : decode cX8_nibblesWithin 2 = .ok (.iload_n 3, 1) := by decide +kernel
theorem dX8_nibblesWithin_3 : decode cX8_nibblesWithin 3 = .ok (.iload_n 1, 1) := by decide +kernel
theorem dX8_nibblesWithin_4 : decode cX8_nibblesWithin 4 = .ok (.if_icmp .ge 20, 3) := by decide +kernel
theorem dX8_nibblesWithin_7 : decode cX8_nibblesWithin 7 = .ok (.iload_n 0, 1) := by decide +kernel
theorem dX8_nibblesWithin_8 : decode cX8_nibblesWithin 8 = .ok (.iload_n 3, 1) := by decide +kernel
theorem dX8_nibblesWithin_9 : decode cX8_nibblesWithin 9 = .ok (.invokestatic 269, 3) := by decide +kernel
theorem dX8_nibblesWithin_12 : decode cX8_nibblesWithin 12 = .ok (.iload_n 2, 1) := by decide +kernel
theorem dX8_nibblesWithin_13 : decode cX8_nibblesWithin 13 = .ok (.if_icmp .le 5, 3) := by decide +kernel
theorem dX8_nibblesWithin_16 : decode cX8_nibblesWithin 16 = .ok (.iconst 0, 1) := by decide +kernel
theorem dX8_nibblesWithin_17 : decode cX8_nibblesWithin 17 = .ok (.ireturn, 1) := by decide +kernel
theorem dX8_nibblesWithin_18 : decode cX8_nibblesWithin 18 = .ok (.iinc 3 1, 3) := by decide +kernel
theorem dX8_nibblesWithin_21 : decode cX8_nibblesWithin 21 = .ok (.goto (-19), 3) := by decide +kernel
theorem dX8_nibblesWithin_24 : decode cX8_nibblesWithin 24 = .ok (.iconst 1, 1) := by decide +kernel
theorem dX8_nibblesWithin_25 : decode cX8_nibblesWithin 25 = .ok (.ireturn, 1) := by decide +kernel
theorem dX8_replace_0 : decode cX8_replace 0 = .ok (.aload_n 0, 1) := by decide +kernel
theorem dX8_replace_1 : decode cX8_replace 1 = .ok (.iload_n 1, 1) := by decide +kernel
theorem dX8_replace_2 : decode cX8_replace 2 = .ok (.iaload, 1) := by decide +kernel
theorem dX8_replace_3 : decode cX8_replace 3 = .ok (.istore_n 3, 1) := by decide +kernel
theorem dX8_replace_4 : decode cX8_replace 4 = .ok (.aload_n 0, 1) := by decide +kernel
theorem dX8_replace_5 : decode cX8_replace 5 = .ok (.iload_n 1, 1) := by decide +kernel
theorem dX8_replace_6 : decode cX8_replace 6 = .ok (.iload_n 2, 1) := by decide +kernel
theorem dX8_replace_7 : decode cX8_replace 7 = .ok (.iastore, 1) := by decide +kernel
theorem dX8_replace_8 : decode cX8_replace 8 = .ok (.iload_n 3, 1) := by decide +kernel
theorem dX8_replace_9 : decode cX8_replace 9 = .ok (.ireturn, 1) := by decide +kernel
theorem dX8_isNote_0 : decode cX8_isNote 0 = .ok (.iload_n 0, 1) := by decide +kernel
theorem dX8_isNote_1 : decode cX8_isNote 1 = .ok (.iconst 0, 1) := by decide +kernel
theorem dX8_isNote_2 : decode cX8_isNote 2 = .ok (.bipush 8, 2) := by decide +kernel
theorem dX8_isNote_4 : decode cX8_isNote 4 = .ok (.invokestatic 73, 3) := by decide +kernel
theorem dX8_isNote_7 : decode cX8_isNote 7 = .ok (.ireturn, 1) := by decide +kernel
theorem dX8_isMovement_0 : decode cX8_isMovement 0 = .ok (.iload_n 0, 1) := by decide +kernel
theorem dX8_isMovement_1 : decode cX8_isMovement 1 = .ok (.iconst 0, 1) := by decide +kernel
theorem dX8_isMovement_2 : decode cX8_isMovement 2 = .ok (.bipush 7, 2) := by decide +kernel
theorem dX8_isMovement_4 : decode cX8_isMovement 4 = .ok (.invokestatic 73, 3) := by decide +kernel
theorem dX8_isMovement_7 : decode cX8_isMovement 7 = .ok (.ireturn, 1) := by decide +kernel
theorem dX8_isMovementOrLost_0 : decode cX8_isMovementOrLost 0 = .ok (.iload_n 0, 1) := by decide +kernel
theorem dX8_isMovementOrLost_1 : decode cX8_isMovementOrLost 1 = .ok (.iconst (-1), 1) := by decide +kernel
theorem dX8_isMovementOrLost_2 : decode cX8_isMovementOrLost 2 = .ok (.if_icmp .eq 10, 3) := by decide +kernel
theorem dX8_isMovementOrLost_5 : decode cX8_isMovementOrLost 5 = .ok (.iload_n 0, 1) := by decide +kernel
theorem dX8_isMovementOrLost_6 : decode cX8_isMovementOrLost 6 = .ok (.invokestatic 69, 3) := by decide +kernel
theorem dX8_isMovementOrLost_9 : decode cX8_isMovementOrLost 9 = .ok (.ifCond .eq 7, 3) := by decide +kernel
theorem dX8_isMovementOrLost_12 : decode cX8_isMovementOrLost 12 = .ok (.iconst 1, 1) := by decide +kernel
theorem dX8_isMovementOrLost_13 : decode cX8_isMovementOrLost 13 = .ok (.goto 4, 3) := by decide +kernel
theorem dX8_isMovementOrLost_16 : decode cX8_isMovementOrLost 16 = .ok (.iconst 0, 1) := by decide +kernel
theorem dX8_isMovementOrLost_17 : decode cX8_isMovementOrLost 17 = .ok (.ireturn, 1) := by decide +kernel
theorem dX8_isRegion_0 : decode cX8_isRegion 0 = .ok (.iload_n 0, 1) := by decide +kernel
theorem dX8_isRegion_1 : decode cX8_isRegion 1 = .ok (.iconst 0, 1) := by decide +kernel
theorem dX8_isRegion_2 : decode cX8_isRegion 2 = .ok (.iconst 2, 1) := by decide +kernel
theorem dX8_isRegion_3 : decode cX8_isRegion 3 = .ok (.invokestatic 73, 3) := by decide +kernel
theorem dX8_isRegion_6 : decode cX8_isRegion 6 = .ok (.ireturn, 1) := by decide +kernel
theorem dX8_isRule_0 : decode cX8_isRule 0 = .ok (.iload_n 0, 1) := by decide +kernel
theorem dX8_isRule_1 : decode cX8_isRule 1 = .ok (.iconst 0, 1) := by decide +kernel
theorem dX8_isRule_2 : decode cX8_isRule 2 = .ok (.iconst 4, 1) := by decide +kernel
theorem dX8_isRule_3 : decode cX8_isRule 3 = .ok (.invokestatic 73, 3) := by decide +kernel
theorem dX8_isRule_6 : decode cX8_isRule 6 = .ok (.ireturn, 1) := by decide +kernel
theorem dX8_isPiper_0 : decode cX8_isPiper 0 = .ok (.iload_n 0, 1) := by decide +kernel
theorem dX8_isPiper_1 : decode cX8_isPiper 1 = .ok (.iconst 0, 1) := by decide +kernel
theorem dX8_isPiper_2 : decode cX8_isPiper 2 = .ok (.iconst 5, 1) := by decide +kernel
theorem dX8_isPiper_3 : decode cX8_isPiper 3 = .ok (.invokestatic 73, 3) := by decide +kernel
theorem dX8_isPiper_6 : decode cX8_isPiper 6 = .ok (.ireturn, 1) := by decide +kernel
theorem dX8_isBand_0 : decode cX8_isBand 0 = .ok (.iload_n 0, 1) := by decide +kernel
theorem dX8_isBand_1 : decode cX8_isBand 1 = .ok (.iconst 1, 1) := by decide +kernel
theorem dX8_isBand_2 : decode cX8_isBand 2 = .ok (.bipush 63, 2) := by decide +kernel
theorem dX8_isBand_4 : decode cX8_isBand 4 = .ok (.invokestatic 73, 3) := by decide +kernel
theorem dX8_isBand_7 : decode cX8_isBand 7 = .ok (.ireturn, 1) := by decide +kernel
theorem dX8_isMinute_0 : decode cX8_isMinute 0 = .ok (.iload_n 0, 1) := by decide +kernel
theorem dX8_isMinute_1 : decode cX8_isMinute 1 = .ok (.iconst 0, 1) := by decide +kernel
theorem dX8_isMinute_2 : decode cX8_isMinute 2 = .ok (.sipush 150, 3) := by decide +kernel
theorem dX8_isMinute_5 : decode cX8_isMinute 5 = .ok (.invokestatic 73, 3) := by decide +kernel
theorem dX8_isMinute_8 : decode cX8_isMinute 8 = .ok (.ireturn, 1) := by decide +kernel
theorem dX8_isPitch_0 : decode cX8_isPitch 0 = .ok (.iload_n 0, 1) := by decide +kernel
theorem dX8_isPitch_1 : decode cX8_isPitch 1 = .ok (.sipush (-999), 3) := by decide +kernel
theorem dX8_isPitch_4 : decode cX8_isPitch 4 = .ok (.sipush 999, 3) := by decide +kernel
theorem dX8_isPitch_7 : decode cX8_isPitch 7 = .ok (.invokestatic 73, 3) := by decide +kernel
theorem dX8_isPitch_10 : decode cX8_isPitch 10 = .ok (.ireturn, 1) := by decide +kernel
theorem dX8_isStep_0 : decode cX8_isStep 0 = .ok (.iload_n 1, 1) := by decide +kernel
theorem dX8_isStep_1 : decode cX8_isStep 1 = .ok (.iconst 0, 1) := by decide +kernel
theorem dX8_isStep_2 : decode cX8_isStep 2 = .ok (.aload_n 0, 1) := by decide +kernel
theorem dX8_isStep_3 : decode cX8_isStep 3 = .ok (.getfield 21, 3) := by decide +kernel
theorem dX8_isStep_6 : decode cX8_isStep 6 = .ok (.getfield 108, 3) := by decide +kernel
theorem dX8_isStep_9 : decode cX8_isStep 9 = .ok (.iconst 1, 1) := by decide +kernel
theorem dX8_isStep_10 : decode cX8_isStep 10 = .ok (.isub, 1) := by decide +kernel
theorem dX8_isStep_11 : decode cX8_isStep 11 = .ok (.invokestatic 73, 3) := by decide +kernel
theorem dX8_isStep_14 : decode cX8_isStep 14 = .ok (.ireturn, 1) := by decide +kernel
theorem dX8_isSheet_0 : decode cX8_isSheet 0 = .ok (.iload_n 1, 1) := by decide +kernel
theorem dX8_isSheet_1 : decode cX8_isSheet 1 = .ok (.iconst 0, 1) := by decide +kernel
theorem dX8_isSheet_2 : decode cX8_isSheet 2 = .ok (.aload_n 0, 1) := by decide +kernel
theorem dX8_isSheet_3 : decode cX8_isSheet 3 = .ok (.getfield 51, 3) := by decide +kernel
theorem dX8_isSheet_6 : decode cX8_isSheet 6 = .ok (.getfield 181, 3) := by decide +kernel
theorem dX8_isSheet_9 : decode cX8_isSheet 9 = .ok (.iconst 1, 1) := by decide +kernel
theorem dX8_isSheet_10 : decode cX8_isSheet 10 = .ok (.isub, 1) := by decide +kernel
theorem dX8_isSheet_11 : decode cX8_isSheet 11 = .ok (.invokestatic 73, 3) := by decide +kernel
theorem dX8_isSheet_14 : decode cX8_isSheet 14 = .ok (.ireturn, 1) := by decide +kernel
theorem dX8_isCell_0 : decode cX8_isCell 0 = .ok (.aload_n 0, 1) := by decide +kernel
theorem dX8_isCell_1 : decode cX8_isCell 1 = .ok (.iload_n 1, 1) := by decide +kernel
theorem dX8_isCell_2 : decode cX8_isCell 2 = .ok (.invokevirtual 189, 3) := by decide +kernel
theorem dX8_isCell_5 : decode cX8_isCell 5 = .ok (.ifCond .eq 26, 3) := by decide +kernel
theorem dX8_isCell_8 : decode cX8_isCell 8 = .ok (.iload_n 2, 1) := by decide +kernel
theorem dX8_isCell_9 : decode cX8_isCell 9 = .ok (.iconst 0, 1) := by decide +kernel
theorem dX8_isCell_10 : decode cX8_isCell 10 = .ok (.aload_n 0, 1) := by decide +kernel
theorem dX8_isCell_11 : decode cX8_isCell 11 = .ok (.getfield 51, 3) := by decide +kernel
theorem dX8_isCell_14 : decode cX8_isCell 14 = .ok (.getfield 192, 3) := by decide +kernel
theorem dX8_isCell_17 : decode cX8_isCell 17 = .ok (.iload_n 1, 1) := by decide +kernel
theorem dX8_isCell_18 : decode cX8_isCell 18 = .ok (.iaload, 1) := by decide +kernel
theorem dX8_isCell_19 : decode cX8_isCell 19 = .ok (.iconst 1, 1) := by decide +kernel
theorem dX8_isCell_20 : decode cX8_isCell 20 = .ok (.isub, 1) := by decide +kernel
theorem dX8_isCell_21 : decode cX8_isCell 21 = .ok (.invokestatic 73, 3) := by decide +kernel
theorem dX8_isCell_24 : decode cX8_isCell 24 = .ok (.ifCond .eq 7, 3) := by decide +kernel
theorem dX8_isCell_27 : decode cX8_isCell 27 = .ok (.iconst 1, 1) := by decide +kernel
theorem dX8_isCell_28 : decode cX8_isCell 28 = .ok (.goto 4, 3) := by decide +kernel
theorem dX8_isCell_31 : decode cX8_isCell 31 = .ok (.iconst 0, 1) := by decide +kernel
theorem dX8_isCell_32 : decode cX8_isCell 32 = .ok (.ireturn, 1) := by decide +kernel
theorem dX9_init_0 : decode cX9_init 0 = .ok (.aload_n 0, 1) := by decide +kernel
theorem dX9_init_1 : decode cX9_init 1 = .ok (.invokespecial 1, 3) := by decide +kernel
theorem dX9_init_4 : decode cX9_init 4 = .ok (.aload_n 0, 1) := by decide +kernel
theorem dX9_init_5 : decode cX9_init 5 = .ok (.bipush 8, 2) := by decide +kernel
theorem dX9_init_7 : decode cX9_init 7 = .ok (.newarray .int, 2) := by decide +kernel
theorem dX9_init_9 : decode cX9_init 9 = .ok (.putfield 7, 3) := by decide +kernel
theorem dX9_init_12 : decode cX9_init 12 = .ok (.aload_n 0, 1) := by decide +kernel
theorem dX9_init_13 : decode cX9_init 13 = .ok (.bipush 32, 2) := by decide +kernel
theorem dX9_init_15 : decode cX9_init 15 = .ok (.newarray .int, 2) := by decide +kernel
theorem dX9_init_17 : decode cX9_init 17 = .ok (.putfield 13, 3) := by decide +kernel
theorem dX9_init_20 : decode cX9_init 20 = .ok (.aload_n 0, 1) := by decide +kernel
theorem dX9_init_21 : decode cX9_init 21 = .ok (.bipush 8, 2) := by decide +kernel
theorem dX9_init_23 : decode cX9_init 23 = .ok (.newarray .int, 2) := by decide +kernel
theorem dX9_init_25 : decode cX9_init 25 = .ok (.putfield 16, 3) := by decide +kernel
theorem dX9_init_28 : decode cX9_init 28 = .ok (.aload_n 0, 1) := by decide +kernel
theorem dX9_init_29 : decode cX9_init 29 = .ok (.bipush 8, 2) := by decide +kernel
theorem dX9_init_31 : decode cX9_init 31 = .ok (.newarray .int, 2) := by decide +kernel
theorem dX9_init_33 : decode cX9_init 33 = .ok (.putfield 19, 3) := by decide +kernel
theorem dX9_init_36 : decode cX9_init 36 = .ok (.aload_n 0, 1) := by decide +kernel
theorem dX9_init_37 : decode cX9_init 37 = .ok (.iconst 1, 1) := by decide +kernel
theorem dX9_init_38 : decode cX9_init 38 = .ok (.putfield 22, 3) := by decide +kernel
theorem dX9_init_41 : decode cX9_init 41 = .ok (.aload_n 0, 1) := by decide +kernel
theorem dX9_init_42 : decode cX9_init 42 = .ok (.bipush 24, 2) := by decide +kernel
theorem dX9_init_44 : decode cX9_init 44 = .ok (.newarray .int, 2) := by decide +kernel
theorem dX9_init_46 : decode cX9_init 46 = .ok (.putfield 26, 3) := by decide +kernel
theorem dX9_init_49 : decode cX9_init 49 = .ok (.aload_n 0, 1) := by decide +kernel
theorem dX9_init_50 : decode cX9_init 50 = .ok (.bipush 24, 2) := by decide +kernel
theorem dX9_init_52 : decode cX9_init 52 = .ok (.newarray .int, 2) := by decide +kernel
theorem dX9_init_54 : decode cX9_init 54 = .ok (.putfield 29, 3) := by decide +kernel
theorem dX9_init_57 : decode cX9_init 57 = .ok (.aload_n 0, 1) := by decide +kernel
theorem dX9_init_58 : decode cX9_init 58 = .ok (.bipush 24, 2) := by decide +kernel
theorem dX9_init_60 : decode cX9_init 60 = .ok (.newarray .int, 2) := by decide +kernel
theorem dX9_init_62 : decode cX9_init 62 = .ok (.putfield 32, 3) := by decide +kernel
theorem dX9_init_65 : decode cX9_init 65 = .ok (.aload_n 0, 1) := by decide +kernel
theorem dX9_init_66 : decode cX9_init 66 = .ok (.bipush 24, 2) := by decide +kernel
theorem dX9_init_68 : decode cX9_init 68 = .ok (.newarray .int, 2) := by decide +kernel
theorem dX9_init_70 : decode cX9_init 70 = .ok (.putfield 35, 3) := by decide +kernel
theorem dX9_init_73 : decode cX9_init 73 = .ok (.aload_n 0, 1) := by decide +kernel
theorem dX9_init_74 : decode cX9_init 74 = .ok (.bipush 27, 2) := by decide +kernel
theorem dX9_init_76 : decode cX9_init 76 = .ok (.newarray .int, 2) := by decide +kernel
theorem dX9_init_78 : decode cX9_init 78 = .ok (.putfield 38, 3) := by decide +kernel
theorem dX9_init_81 : decode cX9_init 81 = .ok (.aload_n 0, 1) := by decide +kernel
theorem dX9_init_82 : decode cX9_init 82 = .ok (.bipush 12, 2) := by decide +kernel
theorem dX9_init_84 : decode cX9_init 84 = .ok (.newarray .int, 2) := by decide +kernel
theorem dX9_init_86 : decode cX9_init 86 = .ok (.putfield 41, 3) := by decide +kernel
theorem dX9_init_89 : decode cX9_init 89 = .ok (.aload_n 0, 1) := by decide +kernel
theorem dX9_init_90 : decode cX9_init 90 = .ok (.sipush 130, 3) := by decide +kernel
theorem dX9_init_93 : decode cX9_init 93 = .ok (.newarray .int, 2) := by decide +kernel
theorem dX9_init_95 : decode cX9_init 95 = .ok (.putfield 44, 3) := by decide +kernel
theorem dX9_init_98 : decode cX9_init 98 = .ok (.aload_n 0, 1) := by decide +kernel
theorem dX9_init_99 : decode cX9_init 99 = .ok (.iconst 5, 1) := by decide +kernel
theorem dX9_init_100 : decode cX9_init 100 = .ok (.newarray .int, 2) := by decide +kernel
theorem dX9_init_102 : decode cX9_init 102 = .ok (.putfield 47, 3) := by decide +kernel
theorem dX9_init_105 : decode cX9_init 105 = .ok (.aload_n 0, 1) := by decide +kernel
theorem dX9_init_106 : decode cX9_init 106 = .ok (.bipush 20, 2) := by decide +kernel
theorem dX9_init_108 : decode cX9_init 108 = .ok (.newarray .int, 2) := by decide +kernel
theorem dX9_init_110 : decode cX9_init 110 = .ok (.putfield 50, 3) := by decide +kernel
theorem dX9_init_113 : decode cX9_init 113 = .ok (.aload_n 0, 1) := by decide +kernel
theorem dX9_init_114 : decode cX9_init 114 = .ok (.bipush 16, 2) := by decide +kernel
theorem dX9_init_116 : decode cX9_init 116 = .ok (.newarray .int, 2) := by decide +kernel
theorem dX9_init_118 : decode cX9_init 118 = .ok (.putfield 53, 3) := by decide +kernel
theorem dX9_init_121 : decode cX9_init 121 = .ok (.aload_n 0, 1) := by decide +kernel
theorem dX9_init_122 : decode cX9_init 122 = .ok (.iconst 3, 1) := by decide +kernel
theorem dX9_init_123 : decode cX9_init 123 = .ok (.newarray .int, 2) := by decide +kernel
theorem dX9_init_125 : decode cX9_init 125 = .ok (.putfield 56, 3) := by decide +kernel
theorem dX9_init_128 : decode cX9_init 128 = .ok (.aload_n 0, 1) := by decide +kernel
theorem dX9_init_129 : decode cX9_init 129 = .ok (.sipush 192, 3) := by decide +kernel
theorem dX9_init_132 : decode cX9_init 132 = .ok (.newarray .int, 2) := by decide +kernel
theorem dX9_init_134 : decode cX9_init 134 = .ok (.putfield 59, 3) := by decide +kernel
theorem dX9_init_137 : decode cX9_init 137 = .ok (.aload_n 0, 1) := by decide +kernel
theorem dX9_init_138 : decode cX9_init 138 = .ok (.sipush 1296, 3) := by decide +kernel
theorem dX9_init_141 : decode cX9_init 141 = .ok (.newarray .int, 2) := by decide +kernel
theorem dX9_init_143 : decode cX9_init 143 = .ok (.putfield 62, 3) := by decide +kernel
theorem dX9_init_146 : decode cX9_init 146 = .ok (.aload_n 0, 1) := by decide +kernel
theorem dX9_init_147 : decode cX9_init 147 = .ok (.sipush 153, 3) := by decide +kernel
theorem dX9_init_150 : decode cX9_init 150 = .ok (.newarray .int, 2) := by decide +kernel
theorem dX9_init_152 : decode cX9_init 152 = .ok (.putfield 65, 3) := by decide +kernel
theorem dX9_init_155 : decode cX9_init 155 = .ok (.aload_n 0, 1) := by decide +kernel
theorem dX9_init_156 : decode cX9_init 156 = .ok (.bipush 16, 2) := by decide +kernel
theorem dX9_init_158 : decode cX9_init 158 = .ok (.newarray .int, 2) := by decide +kernel
theorem dX9_init_160 : decode cX9_init 160 = .ok (.putfield 68, 3) := by decide +kernel
theorem dX9_init_163 : decode cX9_init 163 = .ok (.aload_n 0, 1) := by decide +kernel
theorem dX9_init_164 : decode cX9_init 164 = .ok (.bipush 6, 2) := by decide +kernel
theorem dX9_init_166 : decode cX9_init 166 = .ok (.newarray .int, 2) := by decide +kernel
theorem dX9_init_168 : decode cX9_init 168 = .ok (.putfield 71, 3) := by decide +kernel
theorem dX9_init_171 : decode cX9_init 171 = .ok (.aload_n 0, 1) := by decide +kernel
theorem dX9_init_172 : decode cX9_init 172 = .ok (.bipush 6, 2) := by decide +kernel
theorem dX9_init_174 : decode cX9_init 174 = .ok (.newarray .int, 2) := by decide +kernel
theorem dX9_init_176 : decode cX9_init 176 = .ok (.putfield 74, 3) := by decide +kernel
theorem dX9_init_179 : decode cX9_init 179 = .ok (.aload_n 0, 1) := by decide +kernel
theorem dX9_init_180 : decode cX9_init 180 = .ok (.bipush 6, 2) := by decide +kernel
theorem dX9_init_182 : decode cX9_init 182 = .ok (.newarray .int, 2) := by decide +kernel
theorem dX9_init_184 : decode cX9_init 184 = .ok (.putfield 77, 3) := by decide +kernel
theorem dX9_init_187 : decode cX9_init 187 = .ok (.aload_n 0, 1) := by decide +kernel
theorem dX9_init_188 : decode cX9_init 188 = .ok (.bipush 6, 2) := by decide +kernel
theorem dX9_init_190 : decode cX9_init 190 = .ok (.newarray .int, 2) := by decide +kernel
theorem dX9_init_192 : decode cX9_init 192 = .ok (.putfield 80, 3) := by decide +kernel
theorem dX9_init_195 : decode cX9_init 195 = .ok (.aload_n 0, 1) := by decide +kernel
theorem dX9_init_196 : decode cX9_init 196 = .ok (.bipush 9, 2) := by decide +kernel
theorem dX9_init_198 : decode cX9_init 198 = .ok (.newarray .int, 2) := by decide +kernel
theorem dX9_init_200 : decode cX9_init 200 = .ok (.putfield 83, 3) := by decide +kernel
theorem dX9_init_203 : decode cX9_init 203 = .ok (.aload_n 0, 1) := by decide +kernel
theorem dX9_init_204 : decode cX9_init 204 = .ok (.getfield 16, 3) := by decide +kernel
theorem dX9_init_207 : decode cX9_init 207 = .ok (.iconst 0, 1) := by decide +kernel
theorem dX9_init_208 : decode cX9_init 208 = .ok (.sipush 511, 3) := by decide +kernel
theorem dX9_init_211 : decode cX9_init 211 = .ok (.iastore, 1) := by decide +kernel
theorem dX9_init_212 : decode cX9_init 212 = .ok (.aload_n 0, 1) := by decide +kernel
theorem dX9_init_213 : decode cX9_init 213 = .ok (.getfield 19, 3) := by decide +kernel
theorem dX9_init_216 : decode cX9_init 216 = .ok (.iconst 0, 1) := by decide +kernel
theorem dX9_init_217 : decode cX9_init 217 = .ok (.sipush 511, 3) := by decide +kernel
theorem dX9_init_220 : decode cX9_init 220 = .ok (.iastore, 1) := by decide +kernel
theorem dX9_init_221 : decode cX9_init 221 = .ok (.iconst 0, 1) := by decide +kernel
theorem dX9_init_222 : decode cX9_init 222 = .ok (.istore_n 1, 1) := by decide +kernel
theorem dX9_init_223 : decode cX9_init 223 = .ok (.iload_n 1, 1) := by decide +kernel
theorem dX9_init_224 : decode cX9_init 224 = .ok (.iconst 3, 1) := by decide +kernel
theorem dX9_init_225 : decode cX9_init 225 = .ok (.if_icmp .ge 69, 3) := by decide +kernel
theorem dX9_init_228 : decode cX9_init 228 = .ok (.iconst 0, 1) := by decide +kernel
theorem dX9_init_229 : decode cX9_init 229 = .ok (.istore_n 2, 1) := by decide +kernel
theorem dX9_init_230 : decode cX9_init 230 = .ok (.iload_n 2, 1) := by decide +kernel
theorem dX9_init_231 : decode cX9_init 231 = .ok (.bipush 9, 2) := by decide +kernel
theorem dX9_init_233 : decode cX9_init 233 = .ok (.if_icmp .ge 55, 3) := by decide +kernel
theorem dX9_init_236 : decode cX9_init 236 = .ok (.aload_n 0, 1) := by decide +kernel
theorem dX9_init_237 : decode cX9_init 237 = .ok (.getfield 35, 3) := by decide +kernel
theorem dX9_init_240 : decode cX9_init 240 = .ok (.bipush 8, 2) := by decide +kernel
theorem dX9_init_242 : decode cX9_init 242 = .ok (.iload_n 1, 1) := by decide +kernel
theorem dX9_init_243 : decode cX9_init 243 = .ok (.imul, 1) := by decide +kernel
theorem dX9_init_244 : decode cX9_init 244 = .ok (.iload_n 2, 1) := by decide +kernel
theorem dX9_init_245 : decode cX9_init 245 = .ok (.bipush 8, 2) := by decide +kernel
theorem dX9_init_247 : decode cX9_init 247 = .ok (.if_icmp .ge 7, 3) := by decide +kernel
theorem dX9_init_250 : decode cX9_init 250 = .ok (.iload_n 2, 1) := by decide +kernel
theorem dX9_init_251 : decode cX9_init 251 = .ok (.goto 4, 3) := by decide +kernel
theorem dX9_init_254 : decode cX9_init 254 = .ok (.iconst 0, 1) := by decide +kernel
theorem dX9_init_255 : decode cX9_init 255 = .ok (.iadd, 1) := by decide +kernel
theorem dX9_init_256 : decode cX9_init 256 = .ok (.iload_n 2, 1) := by decide +kernel
theorem dX9_init_257 : decode cX9_init 257 = .ok (.bipush 8, 2) := by decide +kernel
theorem dX9_init_259 : decode cX9_init 259 = .ok (.if_icmp .ge 7, 3) := by decide +kernel
theorem dX9_init_262 : decode cX9_init 262 = .ok (.iload_n 2, 1) := by decide +kernel
theorem dX9_init_263 : decode cX9_init 263 = .ok (.goto 4, 3) := by decide +kernel
theorem dX9_init_266 : decode cX9_init 266 = .ok (.iconst 0, 1) := by decide +kernel
theorem dX9_init_267 : decode cX9_init 267 = .ok (.iastore, 1) := by decide +kernel
theorem dX9_init_268 : decode cX9_init 268 = .ok (.aload_n 0, 1) := by decide +kernel
theorem dX9_init_269 : decode cX9_init 269 = .ok (.getfield 38, 3) := by decide +kernel
theorem dX9_init_272 : decode cX9_init 272 = .ok (.bipush 9, 2) := by decide +kernel
theorem dX9_init_274 : decode cX9_init 274 = .ok (.iload_n 1, 1) := by decide +kernel
theorem dX9_init_275 : decode cX9_init 275 = .ok (.imul, 1) := by decide +kernel
theorem dX9_init_276 : decode cX9_init 276 = .ok (.iload_n 2, 1) := by decide +kernel
theorem dX9_init_277 : decode cX9_init 277 = .ok (.iadd, 1) := by decide +kernel
theorem dX9_init_278 : decode cX9_init 278 = .ok (.iload_n 2, 1) := by decide +kernel
theorem dX9_init_279 : decode cX9_init 279 = .ok (.iconst 3, 1) := by decide +kernel
theorem dX9_init_280 : decode cX9_init 280 = .ok (.idiv, 1) := by decide +kernel
theorem dX9_init_281 : decode cX9_init 281 = .ok (.iastore, 1) := by decide +kernel
theorem dX9_init_282 : decode cX9_init 282 = .ok (.iinc 2 1, 3) := by decide +kernel
theorem dX9_init_285 : decode cX9_init 285 = .ok (.goto (-55), 3) := by decide +kernel
theorem dX9_init_288 : decode cX9_init 288 = .ok (.iinc 1 1, 3) := by decide +kernel
theorem dX9_init_291 : decode cX9_init 291 = .ok (.goto (-68), 3) := by decide +kernel
theorem dX9_init_294 : decode cX9_init 294 = .ok (.iconst 0, 1) := by decide +kernel
theorem dX9_init_295 : decode cX9_init 295 = .ok (.istore_n 1, 1) := by decide +kernel
theorem dX9_init_296 : decode cX9_init 296 = .ok (.iload_n 1, 1) := by decide +kernel
theorem dX9_init_297 : decode cX9_init 297 = .ok (.iconst 5, 1) := by decide +kernel
theorem dX9_init_298 : decode cX9_init 298 = .ok (.if_icmp .ge 26, 3) := by decide +kernel
theorem dX9_init_301 : decode cX9_init 301 = .ok (.aload_n 0, 1) := by decide +kernel
theorem dX9_init_302 : decode cX9_init 302 = .ok (.getfield 47, 3) := by decide +kernel
theorem dX9_init_305 : decode cX9_init 305 = .ok (.iload_n 1, 1) := by decide +kernel
theorem dX9_init_306 : decode cX9_init 306 = .ok (.iconst 1, 1) := by decide +kernel
theorem dX9_init_307 : decode cX9_init 307 = .ok (.iastore, 1) := by decide +kernel
theorem dX9_init_308 : decode cX9_init 308 = .ok (.aload_n 0, 1) := by decide +kernel
theorem dX9_init_309 : decode cX9_init 309 = .ok (.getfield 50, 3) := by decide +kernel
theorem dX9_init_312 : decode cX9_init 312 = .ok (.iconst 4, 1) := by decide +kernel
theorem dX9_init_313 : decode cX9_init 313 = .ok (.iload_n 1, 1) := by decide +kernel
theorem dX9_init_314 : decode cX9_init 314 = .ok (.imul, 1) := by decide +kernel
theorem dX9_init_315 : decode cX9_init 315 = .ok (.bipush 9, 2) := by decide +kernel
theorem dX9_init_317 : decode cX9_init 317 = .ok (.iastore, 1) := by decide +kernel
theorem dX9_init_318 : decode cX9_init 318 = .ok (.iinc 1 1, 3) := by decide +kernel
theorem dX9_init_321 : decode cX9_init 321 = .ok (.goto (-25), 3) := by decide +kernel
theorem dX9_init_324 : decode cX9_init 324 = .ok (.iconst 0, 1) := by decide +kernel
theorem dX9_init_325 : decode cX9_init 325 = .ok (.istore_n 1, 1) := by decide +kernel
theorem dX9_init_326 : decode cX9_init 326 = .ok (.iload_n 1, 1) := by decide +kernel
theorem dX9_init_327 : decode cX9_init 327 = .ok (.bipush 6, 2) := by decide +kernel
theorem dX9_init_329 : decode cX9_init 329 = .ok (.if_icmp .ge 16, 3) := by decide +kernel
theorem dX9_init_332 : decode cX9_init 332 = .ok (.aload_n 0, 1) := by decide +kernel
theorem dX9_init_333 : decode cX9_init 333 = .ok (.getfield 77, 3) := by decide +kernel
theorem dX9_init_336 : decode cX9_init 336 = .ok (.iload_n 1, 1) := by decide +kernel
theorem dX9_init_337 : decode cX9_init 337 = .ok (.iconst 1, 1) := by decide +kernel
theorem dX9_init_338 : decode cX9_init 338 = .ok (.iastore, 1) := by decide +kernel
theorem dX9_init_339 : decode cX9_init 339 = .ok (.iinc 1 1, 3) := by decide +kernel
theorem dX9_init_342 : decode cX9_init 342 = .ok (.goto (-16), 3) := by decide +kernel
theorem dX9_init_345 : decode cX9_init 345 = .ok (.return_, 1) := by decide +kernel
theorem dX9_in_0 : decode cX9_in 0 = .ok (.iload_n 0, 1) := by decide +kernel
theorem dX9_in_1 : decode cX9_in 1 = .ok (.iload_n 1, 1) := by decide +kernel
theorem dX9_in_2 : decode cX9_in 2 = .ok (.if_icmp .lt 12, 3) := by decide +kernel
theorem dX9_in_5 : decode cX9_in 5 = .ok (.iload_n 0, 1) := by decide +kernel
theorem dX9_in_6 : decode cX9_in 6 = .ok (.iload_n 2, 1) := by decide +kernel
theorem dX9_in_7 : decode cX9_in 7 = .ok (.if_icmp .gt 7, 3) := by decide +kernel
theorem dX9_in_10 : decode cX9_in 10 = .ok (.iconst 1, 1) := by decide +kernel
theorem dX9_in_11 : decode cX9_in 11 = .ok (.goto 4, 3) := by decide +kernel
theorem dX9_in_14 : decode cX9_in 14 = .ok (.iconst 0, 1) := by decide +kernel
theorem dX9_in_15 : decode cX9_in 15 = .ok (.ireturn, 1) := by decide +kernel
theorem dX9_isNote_0 : decode cX9_isNote 0 = .ok (.iload_n 0, 1) := by decide +kernel
theorem dX9_isNote_1 : decode cX9_isNote 1 = .ok (.iconst 0, 1) := by decide +kernel
theorem dX9_isNote_2 : decode cX9_isNote 2 = .ok (.bipush 8, 2) := by decide +kernel
theorem dX9_isNote_4 : decode cX9_isNote 4 = .ok (.invokestatic 86, 3) := by decide +kernel
theorem dX9_isNote_7 : decode cX9_isNote 7 = .ok (.ireturn, 1) := by decide +kernel
theorem dX9_isMovement_0 : decode cX9_isMovement 0 = .ok (.iload_n 0, 1) := by decide +kernel
theorem dX9_isMovement_1 : decode cX9_isMovement 1 = .ok (.iconst 0, 1) := by decide +kernel
theorem dX9_isMovement_2 : decode cX9_isMovement 2 = .ok (.bipush 7, 2) := by decide +kernel
theorem dX9_isMovement_4 : decode cX9_isMovement 4 = .ok (.invokestatic 86, 3) := by decide +kernel
theorem dX9_isMovement_7 : decode cX9_isMovement 7 = .ok (.ireturn, 1) := by decide +kernel
theorem dX9_isRegion_0 : decode cX9_isRegion 0 = .ok (.iload_n 0, 1) := by decide +kernel
theorem dX9_isRegion_1 : decode cX9_isRegion 1 = .ok (.iconst 0, 1) := by decide +kernel
theorem dX9_isRegion_2 : decode cX9_isRegion 2 = .ok (.iconst 2, 1) := by decide +kernel
theorem dX9_isRegion_3 : decode cX9_isRegion 3 = .ok (.invokestatic 86, 3) := by decide +kernel
theorem dX9_isRegion_6 : decode cX9_isRegion 6 = .ok (.ireturn, 1) := by decide +kernel
theorem dX9_isRule_0 : decode cX9_isRule 0 = .ok (.iload_n 0, 1) := by decide +kernel
theorem dX9_isRule_1 : decode cX9_isRule 1 = .ok (.iconst 0, 1) := by decide +kernel
theorem dX9_isRule_2 : decode cX9_isRule 2 = .ok (.iconst 4, 1) := by decide +kernel
