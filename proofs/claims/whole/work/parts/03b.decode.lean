theorem dX5_vote_34 : decode cX5_vote 34 = .ok (.goto 18, 3) := by decide +kernel
theorem dX5_vote_37 : decode cX5_vote 37 = .ok (.iload_n 1, 1) := by decide +kernel
theorem dX5_vote_38 : decode cX5_vote 38 = .ok (.iload_n 2, 1) := by decide +kernel
theorem dX5_vote_39 : decode cX5_vote 39 = .ok (.if_icmp .eq 13, 3) := by decide +kernel
theorem dX5_vote_42 : decode cX5_vote 42 = .ok (.aload_n 0, 1) := by decide +kernel
theorem dX5_vote_43 : decode cX5_vote 43 = .ok (.dup, 1) := by decide +kernel
theorem dX5_vote_44 : decode cX5_vote 44 = .ok (.getfield 61, 3) := by decide +kernel
theorem dX5_vote_47 : decode cX5_vote 47 = .ok (.iconst 1, 1) := by decide +kernel
theorem dX5_vote_48 : decode cX5_vote 48 = .ok (.iadd, 1) := by decide +kernel
theorem dX5_vote_49 : decode cX5_vote 49 = .ok (.putfield 61, 3) := by decide +kernel
theorem dX5_vote_52 : decode cX5_vote 52 = .ok (.return_, 1) := by decide +kernel
theorem dX5_blamelessNotes_0 : decode cX5_blamelessNotes 0 = .ok (.iconst 0, 1) := by decide +kernel
theorem dX5_blamelessNotes_1 : decode cX5_blamelessNotes 1 = .ok (.istore_n 2, 1) := by decide +kernel
theorem dX5_blamelessNotes_2 : decode cX5_blamelessNotes 2 = .ok (.iconst 0, 1) := by decide +kernel
theorem dX5_blamelessNotes_3 : decode cX5_blamelessNotes 3 = .ok (.istore_n 3, 1) := by decide +kernel
theorem dX5_blamelessNotes_4 : decode cX5_blamelessNotes 4 = .ok (.iload_n 3, 1) := by decide +kernel
theorem dX5_blamelessNotes_5 : decode cX5_blamelessNotes 5 = .ok (.bipush 9, 2) := by decide +kernel
theorem dX5_blamelessNotes_7 : decode cX5_blamelessNotes 7 = .ok (.if_icmp .ge 29, 3) := by decide +kernel
theorem dX5_blamelessNotes_10 : decode cX5_blamelessNotes 10 = .ok (.aload_n 0, 1) := by decide +kernel
theorem dX5_blamelessNotes_11 : decode cX5_blamelessNotes 11 = .ok (.getfield 23, 3) := by decide +kernel
theorem dX5_blamelessNotes_14 : decode cX5_blamelessNotes 14 = .ok (.iload_n 1, 1) := by decide +kernel
theorem dX5_blamelessNotes_15 : decode cX5_blamelessNotes 15 = .ok (.aaload, 1) := by decide +kernel
theorem dX5_blamelessNotes_16 : decode cX5_blamelessNotes 16 = .ok (.iload_n 3, 1) := by decide +kernel
theorem dX5_blamelessNotes_17 : decode cX5_blamelessNotes 17 = .ok (.iaload, 1) := by decide +kernel
theorem dX5_blamelessNotes_18 : decode cX5_blamelessNotes 18 = .ok (.aload_n 0, 1) := by decide +kernel
theorem dX5_blamelessNotes_19 : decode cX5_blamelessNotes 19 = .ok (.getfield 26, 3) := by decide +kernel
theorem dX5_blamelessNotes_22 : decode cX5_blamelessNotes 22 = .ok (.iload_n 1, 1) := by decide +kernel
theorem dX5_blamelessNotes_23 : decode cX5_blamelessNotes 23 = .ok (.iaload, 1) := by decide +kernel
theorem dX5_blamelessNotes_24 : decode cX5_blamelessNotes 24 = .ok (.if_icmp .ne 6, 3) := by decide +kernel
theorem dX5_blamelessNotes_27 : decode cX5_blamelessNotes 27 = .ok (.iinc 2 1, 3) := by decide +kernel
theorem dX5_blamelessNotes_30 : decode cX5_blamelessNotes 30 = .ok (.iinc 3 1, 3) := by decide +kernel
theorem dX5_blamelessNotes_33 : decode cX5_blamelessNotes 33 = .ok (.goto (-29), 3) := by decide +kernel
theorem dX5_blamelessNotes_36 : decode cX5_blamelessNotes 36 = .ok (.iload_n 2, 1) := by decide +kernel
theorem dX5_blamelessNotes_37 : decode cX5_blamelessNotes 37 = .ok (.ireturn, 1) := by decide +kernel
theorem dX5_mostVoted_0 : decode cX5_mostVoted 0 = .ok (.iconst 0, 1) := by decide +kernel
theorem dX5_mostVoted_1 : decode cX5_mostVoted 1 = .ok (.istore_n 1, 1) := by decide +kernel
theorem dX5_mostVoted_2 : decode cX5_mostVoted 2 = .ok (.iconst 1, 1) := by decide +kernel
theorem dX5_mostVoted_3 : decode cX5_mostVoted 3 = .ok (.istore_n 2, 1) := by decide +kernel
theorem dX5_mostVoted_4 : decode cX5_mostVoted 4 = .ok (.iload_n 2, 1) := by decide +kernel
theorem dX5_mostVoted_5 : decode cX5_mostVoted 5 = .ok (.bipush 9, 2) := by decide +kernel
theorem dX5_mostVoted_7 : decode cX5_mostVoted 7 = .ok (.if_icmp .ge 20, 3) := by decide +kernel
theorem dX5_mostVoted_10 : decode cX5_mostVoted 10 = .ok (.aload_n 0, 1) := by decide +kernel
theorem dX5_mostVoted_11 : decode cX5_mostVoted 11 = .ok (.iload_n 2, 1) := by decide +kernel
theorem dX5_mostVoted_12 : decode cX5_mostVoted 12 = .ok (.iaload, 1) := by decide +kernel
theorem dX5_mostVoted_13 : decode cX5_mostVoted 13 = .ok (.aload_n 0, 1) := by decide +kernel
theorem dX5_mostVoted_14 : decode cX5_mostVoted 14 = .ok (.iload_n 1, 1) := by decide +kernel
theorem dX5_mostVoted_15 : decode cX5_mostVoted 15 = .ok (.iaload, 1) := by decide +kernel
theorem dX5_mostVoted_16 : decode cX5_mostVoted 16 = .ok (.if_icmp .le 5, 3) := by decide +kernel
theorem dX5_mostVoted_19 : decode cX5_mostVoted 19 = .ok (.iload_n 2, 1) := by decide +kernel
theorem dX5_mostVoted_20 : decode cX5_mostVoted 20 = .ok (.istore_n 1, 1) := by decide +kernel
theorem dX5_mostVoted_21 : decode cX5_mostVoted 21 = .ok (.iinc 2 1, 3) := by decide +kernel
theorem dX5_mostVoted_24 : decode cX5_mostVoted 24 = .ok (.goto (-20), 3) := by decide +kernel
theorem dX5_mostVoted_27 : decode cX5_mostVoted 27 = .ok (.iload_n 1, 1) := by decide +kernel
theorem dX5_mostVoted_28 : decode cX5_mostVoted 28 = .ok (.ireturn, 1) := by decide +kernel
theorem dX6_init_0 : decode cX6_init 0 = .ok (.aload_n 0, 1) := by decide +kernel
theorem dX6_init_1 : decode cX6_init 1 = .ok (.invokespecial 3, 3) := by decide +kernel
theorem dX6_init_4 : decode cX6_init 4 = .ok (.aload_n 0, 1) := by decide +kernel
theorem dX6_init_5 : decode cX6_init 5 = .ok (.iconst 3, 1) := by decide +kernel
theorem dX6_init_6 : decode cX6_init 6 = .ok (.bipush 8, 2) := by decide +kernel
theorem dX6_init_8 : decode cX6_init 8 = .ok (.multianewarray 9 2, 4) := by decide +kernel
theorem dX6_init_12 : decode cX6_init 12 = .ok (.putfield 11, 3) := by decide +kernel
theorem dX6_init_15 : decode cX6_init 15 = .ok (.aload_n 0, 1) := by decide +kernel
theorem dX6_init_16 : decode cX6_init 16 = .ok (.iconst 3, 1) := by decide +kernel
theorem dX6_init_17 : decode cX6_init 17 = .ok (.bipush 9, 2) := by decide +kernel
theorem dX6_init_19 : decode cX6_init 19 = .ok (.multianewarray 9 2, 4) := by decide +kernel
theorem dX6_init_23 : decode cX6_init 23 = .ok (.putfield 16, 3) := by decide +kernel
theorem dX6_init_26 : decode cX6_init 26 = .ok (.aload_n 0, 1) := by decide +kernel
theorem dX6_init_27 : decode cX6_init 27 = .ok (.bipush 12, 2) := by decide +kernel
theorem dX6_init_29 : decode cX6_init 29 = .ok (.newarray .int, 2) := by decide +kernel
theorem dX6_init_31 : decode cX6_init 31 = .ok (.putfield 19, 3) := by decide +kernel
theorem dX6_init_34 : decode cX6_init 34 = .ok (.aload_n 0, 1) := by decide +kernel
theorem dX6_init_35 : decode cX6_init 35 = .ok (.bipush 10, 2) := by decide +kernel
theorem dX6_init_37 : decode cX6_init 37 = .ok (.newarray .int, 2) := by decide +kernel
theorem dX6_init_39 : decode cX6_init 39 = .ok (.putfield 23, 3) := by decide +kernel
theorem dX6_init_42 : decode cX6_init 42 = .ok (.aload_n 0, 1) := by decide +kernel
theorem dX6_init_43 : decode cX6_init 43 = .ok (.bipush 10, 2) := by decide +kernel
theorem dX6_init_45 : decode cX6_init 45 = .ok (.newarray .int, 2) := by decide +kernel
theorem dX6_init_47 : decode cX6_init 47 = .ok (.putfield 26, 3) := by decide +kernel
theorem dX6_init_50 : decode cX6_init 50 = .ok (.aload_n 0, 1) := by decide +kernel
theorem dX6_init_51 : decode cX6_init 51 = .ok (.bipush 12, 2) := by decide +kernel
theorem dX6_init_53 : decode cX6_init 53 = .ok (.newarray .int, 2) := by decide +kernel
theorem dX6_init_55 : decode cX6_init 55 = .ok (.putfield 29, 3) := by decide +kernel
theorem dX6_init_58 : decode cX6_init 58 = .ok (.aload_n 0, 1) := by decide +kernel
theorem dX6_init_59 : decode cX6_init 59 = .ok (.aload_n 1, 1) := by decide +kernel
theorem dX6_init_60 : decode cX6_init 60 = .ok (.putfield 32, 3) := by decide +kernel
theorem dX6_init_63 : decode cX6_init 63 = .ok (.iconst 0, 1) := by decide +kernel
theorem dX6_init_64 : decode cX6_init 64 = .ok (.istore_n 2, 1) := by decide +kernel
theorem dX6_init_65 : decode cX6_init 65 = .ok (.iload_n 2, 1) := by decide +kernel
theorem dX6_init_66 : decode cX6_init 66 = .ok (.iconst 3, 1) := by decide +kernel
theorem dX6_init_67 : decode cX6_init 67 = .ok (.if_icmp .ge 57, 3) := by decide +kernel
theorem dX6_init_70 : decode cX6_init 70 = .ok (.iconst 0, 1) := by decide +kernel
theorem dX6_init_71 : decode cX6_init 71 = .ok (.istore_n 3, 1) := by decide +kernel
theorem dX6_init_72 : decode cX6_init 72 = .ok (.iload_n 3, 1) := by decide +kernel
theorem dX6_init_73 : decode cX6_init 73 = .ok (.bipush 8, 2) := by decide +kernel
theorem dX6_init_75 : decode cX6_init 75 = .ok (.if_icmp .ge 18, 3) := by decide +kernel
theorem dX6_init_78 : decode cX6_init 78 = .ok (.aload_n 0, 1) := by decide +kernel
theorem dX6_init_79 : decode cX6_init 79 = .ok (.getfield 11, 3) := by decide +kernel
theorem dX6_init_82 : decode cX6_init 82 = .ok (.iload_n 2, 1) := by decide +kernel
theorem dX6_init_83 : decode cX6_init 83 = .ok (.aaload, 1) := by decide +kernel
theorem dX6_init_84 : decode cX6_init 84 = .ok (.iload_n 3, 1) := by decide +kernel
theorem dX6_init_85 : decode cX6_init 85 = .ok (.iload_n 3, 1) := by decide +kernel
theorem dX6_init_86 : decode cX6_init 86 = .ok (.iastore, 1) := by decide +kernel
theorem dX6_init_87 : decode cX6_init 87 = .ok (.iinc 3 1, 3) := by decide +kernel
theorem dX6_init_90 : decode cX6_init 90 = .ok (.goto (-18), 3) := by decide +kernel
theorem dX6_init_93 : decode cX6_init 93 = .ok (.iconst 0, 1) := by decide +kernel
theorem dX6_init_94 : decode cX6_init 94 = .ok (.istore_n 3, 1) := by decide +kernel
theorem dX6_init_95 : decode cX6_init 95 = .ok (.iload_n 3, 1) := by decide +kernel
theorem dX6_init_96 : decode cX6_init 96 = .ok (.bipush 9, 2) := by decide +kernel
theorem dX6_init_98 : decode cX6_init 98 = .ok (.if_icmp .ge 20, 3) := by decide +kernel
theorem dX6_init_101 : decode cX6_init 101 = .ok (.aload_n 0, 1) := by decide +kernel
theorem dX6_init_102 : decode cX6_init 102 = .ok (.getfield 16, 3) := by decide +kernel
theorem dX6_init_105 : decode cX6_init 105 = .ok (.iload_n 2, 1) := by decide +kernel
theorem dX6_init_106 : decode cX6_init 106 = .ok (.aaload, 1) := by decide +kernel
theorem dX6_init_107 : decode cX6_init 107 = .ok (.iload_n 3, 1) := by decide +kernel
theorem dX6_init_108 : decode cX6_init 108 = .ok (.iload_n 3, 1) := by decide +kernel
theorem dX6_init_109 : decode cX6_init 109 = .ok (.iconst 3, 1) := by decide +kernel
theorem dX6_init_110 : decode cX6_init 110 = .ok (.idiv, 1) := by decide +kernel
theorem dX6_init_111 : decode cX6_init 111 = .ok (.iastore, 1) := by decide +kernel
theorem dX6_init_112 : decode cX6_init 112 = .ok (.iinc 3 1, 3) := by decide +kernel
theorem dX6_init_115 : decode cX6_init 115 = .ok (.goto (-20), 3) := by decide +kernel
theorem dX6_init_118 : decode cX6_init 118 = .ok (.iinc 2 1, 3) := by decide +kernel
theorem dX6_init_121 : decode cX6_init 121 = .ok (.goto (-56), 3) := by decide +kernel
theorem dX6_init_124 : decode cX6_init 124 = .ok (.return_, 1) := by decide +kernel
theorem dX6_append_0 : decode cX6_append 0 = .ok (.aload_n 0, 1) := by decide +kernel
theorem dX6_append_1 : decode cX6_append 1 = .ok (.getfield 19, 3) := by decide +kernel
theorem dX6_append_4 : decode cX6_append 4 = .ok (.aload_n 0, 1) := by decide +kernel
theorem dX6_append_5 : decode cX6_append 5 = .ok (.getfield 36, 3) := by decide +kernel
theorem dX6_append_8 : decode cX6_append 8 = .ok (.iload_n 1, 1) := by decide +kernel
theorem dX6_append_9 : decode cX6_append 9 = .ok (.iastore, 1) := by decide +kernel
theorem dX6_append_10 : decode cX6_append 10 = .ok (.aload_n 0, 1) := by decide +kernel
theorem dX6_append_11 : decode cX6_append 11 = .ok (.dup, 1) := by decide +kernel
theorem dX6_append_12 : decode cX6_append 12 = .ok (.getfield 36, 3) := by decide +kernel
theorem dX6_append_15 : decode cX6_append 15 = .ok (.iconst 1, 1) := by decide +kernel
theorem dX6_append_16 : decode cX6_append 16 = .ok (.iadd, 1) := by decide +kernel
theorem dX6_append_17 : decode cX6_append 17 = .ok (.putfield 36, 3) := by decide +kernel
theorem dX6_append_20 : decode cX6_append 20 = .ok (.aload_n 0, 1) := by decide +kernel
theorem dX6_append_21 : decode cX6_append 21 = .ok (.getfield 36, 3) := by decide +kernel
theorem dX6_append_24 : decode cX6_append 24 = .ok (.ireturn, 1) := by decide +kernel
theorem dX6_sound_0 : decode cX6_sound 0 = .ok (.iconst 4, 1) := by decide +kernel
theorem dX6_sound_1 : decode cX6_sound 1 = .ok (.aload_n 0, 1) := by decide +kernel
theorem dX6_sound_2 : decode cX6_sound 2 = .ok (.getfield 11, 3) := by decide +kernel
theorem dX6_sound_5 : decode cX6_sound 5 = .ok (.iload_n 1, 1) := by decide +kernel
theorem dX6_sound_6 : decode cX6_sound 6 = .ok (.aaload, 1) := by decide +kernel
theorem dX6_sound_7 : decode cX6_sound 7 = .ok (.iload_n 3, 1) := by decide +kernel
theorem dX6_sound_8 : decode cX6_sound 8 = .ok (.iaload, 1) := by decide +kernel
theorem dX6_sound_9 : decode cX6_sound 9 = .ok (.imul, 1) := by decide +kernel
theorem dX6_sound_10 : decode cX6_sound 10 = .ok (.aload_n 0, 1) := by decide +kernel
theorem dX6_sound_11 : decode cX6_sound 11 = .ok (.getfield 16, 3) := by decide +kernel
theorem dX6_sound_14 : decode cX6_sound 14 = .ok (.iload_n 1, 1) := by decide +kernel
theorem dX6_sound_15 : decode cX6_sound 15 = .ok (.aaload, 1) := by decide +kernel
theorem dX6_sound_16 : decode cX6_sound 16 = .ok (.iload_n 2, 1) := by decide +kernel
theorem dX6_sound_17 : decode cX6_sound 17 = .ok (.iaload, 1) := by decide +kernel
theorem dX6_sound_18 : decode cX6_sound 18 = .ok (.iadd, 1) := by decide +kernel
theorem dX6_sound_19 : decode cX6_sound 19 = .ok (.ireturn, 1) := by decide +kernel
theorem dX6_rows_0 : decode cX6_rows 0 = .ok (.aload_n 0, 1) := by decide +kernel
theorem dX6_rows_1 : decode cX6_rows 1 = .ok (.getfield 23, 3) := by decide +kernel
theorem dX6_rows_4 : decode cX6_rows 4 = .ok (.iconst 0, 1) := by decide +kernel
theorem dX6_rows_5 : decode cX6_rows 5 = .ok (.invokestatic 40, 3) := by decide +kernel
theorem dX6_rows_8 : decode cX6_rows 8 = .ok (.aload_n 0, 1) := by decide +kernel
theorem dX6_rows_9 : decode cX6_rows 9 = .ok (.getfield 23, 3) := by decide +kernel
theorem dX6_rows_12 : decode cX6_rows 12 = .ok (.iconst 0, 1) := by decide +kernel
theorem dX6_rows_13 : decode cX6_rows 13 = .ok (.iconst 1, 1) := by decide +kernel
theorem dX6_rows_14 : decode cX6_rows 14 = .ok (.iastore, 1) := by decide +kernel
theorem dX6_rows_15 : decode cX6_rows 15 = .ok (.iconst 0, 1) := by decide +kernel
theorem dX6_rows_16 : decode cX6_rows 16 = .ok (.istore_n 2, 1) := by decide +kernel
theorem dX6_rows_17 : decode cX6_rows 17 = .ok (.iload_n 2, 1) := by decide +kernel
theorem dX6_rows_18 : decode cX6_rows 18 = .ok (.aload_n 0, 1) := by decide +kernel
theorem dX6_rows_19 : decode cX6_rows 19 = .ok (.getfield 36, 3) := by decide +kernel
theorem dX6_rows_22 : decode cX6_rows 22 = .ok (.if_icmp .ge 15, 3) := by decide +kernel
theorem dX6_rows_25 : decode cX6_rows 25 = .ok (.aload_n 0, 1) := by decide +kernel
theorem dX6_rows_26 : decode cX6_rows 26 = .ok (.iload_n 1, 1) := by decide +kernel
theorem dX6_rows_27 : decode cX6_rows 27 = .ok (.iload_n 2, 1) := by decide +kernel
theorem dX6_rows_28 : decode cX6_rows 28 = .ok (.invokevirtual 46, 3) := by decide +kernel
theorem dX6_rows_31 : decode cX6_rows 31 = .ok (.iinc 2 1, 3) := by decide +kernel
theorem dX6_rows_34 : decode cX6_rows 34 = .ok (.goto (-17), 3) := by decide +kernel
theorem dX6_rows_37 : decode cX6_rows 37 = .ok (.iconst 0, 1) := by decide +kernel
theorem dX6_rows_38 : decode cX6_rows 38 = .ok (.istore_n 2, 1) := by decide +kernel
theorem dX6_rows_39 : decode cX6_rows 39 = .ok (.iconst 0, 1) := by decide +kernel
theorem dX6_rows_40 : decode cX6_rows 40 = .ok (.istore_n 3, 1) := by decide +kernel
theorem dX6_rows_41 : decode cX6_rows 41 = .ok (.iload_n 3, 1) := by decide +kernel
theorem dX6_rows_42 : decode cX6_rows 42 = .ok (.bipush 9, 2) := by decide +kernel
theorem dX6_rows_44 : decode cX6_rows 44 = .ok (.if_icmp .gt 23, 3) := by decide +kernel
theorem dX6_rows_47 : decode cX6_rows 47 = .ok (.ldc 50, 2) := by decide +kernel
theorem dX6_rows_49 : decode cX6_rows 49 = .ok (.iload_n 2, 1) := by decide +kernel
theorem dX6_rows_50 : decode cX6_rows 50 = .ok (.aload_n 0, 1) := by decide +kernel
theorem dX6_rows_51 : decode cX6_rows 51 = .ok (.getfield 23, 3) := by decide +kernel
theorem dX6_rows_54 : decode cX6_rows 54 = .ok (.iload_n 3, 1) := by decide +kernel
theorem dX6_rows_55 : decode cX6_rows 55 = .ok (.iaload, 1) := by decide +kernel
theorem dX6_rows_56 : decode cX6_rows 56 = .ok (.iadd, 1) := by decide +kernel
theorem dX6_rows_57 : decode cX6_rows 57 = .ok (.invokestatic 51, 3) := by decide +kernel
theorem dX6_rows_60 : decode cX6_rows 60 = .ok (.istore_n 2, 1) := by decide +kernel
theorem dX6_rows_61 : decode cX6_rows 61 = .ok (.iinc 3 1, 3) := by decide +kernel
theorem dX6_rows_64 : decode cX6_rows 64 = .ok (.goto (-23), 3) := by decide +kernel
theorem dX6_rows_67 : decode cX6_rows 67 = .ok (.iload_n 2, 1) := by decide +kernel
theorem dX6_rows_68 : decode cX6_rows 68 = .ok (.ireturn, 1) := by decide +kernel
theorem dX6_firstRowAt_0 : decode cX6_firstRowAt 0 = .ok (.iload_n 2, 1) := by decide +kernel
theorem dX6_firstRowAt_1 : decode cX6_firstRowAt 1 = .ok (.aload_n 0, 1) := by decide +kernel
theorem dX6_firstRowAt_2 : decode cX6_firstRowAt 2 = .ok (.getfield 36, 3) := by decide +kernel
theorem dX6_firstRowAt_5 : decode cX6_firstRowAt 5 = .ok (.if_icmp .lt 5, 3) := by decide +kernel
theorem dX6_firstRowAt_8 : decode cX6_firstRowAt 8 = .ok (.iconst (-1), 1) := by decide +kernel
theorem dX6_firstRowAt_9 : decode cX6_firstRowAt 9 = .ok (.ireturn, 1) := by decide +kernel
theorem dX6_firstRowAt_10 : decode cX6_firstRowAt 10 = .ok (.aload_n 0, 1) := by decide +kernel
theorem dX6_firstRowAt_11 : decode cX6_firstRowAt 11 = .ok (.iload_n 1, 1) := by decide +kernel
theorem dX6_firstRowAt_12 : decode cX6_firstRowAt 12 = .ok (.invokevirtual 57, 3) := by decide +kernel
theorem dX6_firstRowAt_15 : decode cX6_firstRowAt 15 = .ok (.iconst (-1), 1) := by decide +kernel
theorem dX6_firstRowAt_16 : decode cX6_firstRowAt 16 = .ok (.istore_n 3, 1) := by decide +kernel
theorem dX6_firstRowAt_17 : decode cX6_firstRowAt 17 = .ok (.iconst (-1), 1) := by decide +kernel
theorem dX6_firstRowAt_18 : decode cX6_firstRowAt 18 = .ok (.istore 4, 2) := by decide +kernel
theorem dX6_firstRowAt_20 : decode cX6_firstRowAt 20 = .ok (.iconst 0, 1) := by decide +kernel
theorem dX6_firstRowAt_21 : decode cX6_firstRowAt 21 = .ok (.istore 5, 2) := by decide +kernel
theorem dX6_firstRowAt_23 : decode cX6_firstRowAt 23 = .ok (.iload 5, 2) := by decide +kernel
theorem dX6_firstRowAt_25 : decode cX6_firstRowAt 25 = .ok (.iload_n 2, 1) := by decide +kernel
theorem dX6_firstRowAt_26 : decode cX6_firstRowAt 26 = .ok (.if_icmp .gt 33, 3) := by decide +kernel
theorem dX6_firstRowAt_29 : decode cX6_firstRowAt 29 = .ok (.aload_n 0, 1) := by decide +kernel
theorem dX6_firstRowAt_30 : decode cX6_firstRowAt 30 = .ok (.iload_n 1, 1) := by decide +kernel
theorem dX6_firstRowAt_31 : decode cX6_firstRowAt 31 = .ok (.iload 5, 2) := by decide +kernel
theorem dX6_firstRowAt_33 : decode cX6_firstRowAt 33 = .ok (.iload_n 3, 1) := by decide +kernel
theorem dX6_firstRowAt_34 : decode cX6_firstRowAt 34 = .ok (.invokevirtual 61, 3) := by decide +kernel
theorem dX6_firstRowAt_37 : decode cX6_firstRowAt 37 = .ok (.istore 4, 2) := by decide +kernel
theorem dX6_firstRowAt_39 : decode cX6_firstRowAt 39 = .ok (.iload 4, 2) := by decide +kernel
theorem dX6_firstRowAt_41 : decode cX6_firstRowAt 41 = .ok (.iconst (-1), 1) := by decide +kernel
theorem dX6_firstRowAt_42 : decode cX6_firstRowAt 42 = .ok (.if_icmp .ne 5, 3) := by decide +kernel
theorem dX6_firstRowAt_45 : decode cX6_firstRowAt 45 = .ok (.iconst (-1), 1) := by decide +kernel
theorem dX6_firstRowAt_46 : decode cX6_firstRowAt 46 = .ok (.ireturn, 1) := by decide +kernel
theorem dX6_firstRowAt_47 : decode cX6_firstRowAt 47 = .ok (.iload 4, 2) := by decide +kernel
theorem dX6_firstRowAt_49 : decode cX6_firstRowAt 49 = .ok (.bipush 16, 2) := by decide +kernel
theorem dX6_firstRowAt_51 : decode cX6_firstRowAt 51 = .ok (.idiv, 1) := by decide +kernel
theorem dX6_firstRowAt_52 : decode cX6_firstRowAt 52 = .ok (.istore_n 3, 1) := by decide +kernel
theorem dX6_firstRowAt_53 : decode cX6_firstRowAt 53 = .ok (.iinc 5 1, 3) := by decide +kernel
theorem dX6_firstRowAt_56 : decode cX6_firstRowAt 56 = .ok (.goto (-33), 3) := by decide +kernel
theorem dX6_firstRowAt_59 : decode cX6_firstRowAt 59 = .ok (.iload 4, 2) := by decide +kernel
theorem dX6_firstRowAt_61 : decode cX6_firstRowAt 61 = .ok (.ireturn, 1) := by decide +kernel
theorem dX6_homeRegion_0 : decode cX6_homeRegion 0 = .ok (.iconst (-1), 1) := by decide +kernel
theorem dX6_homeRegion_1 : decode cX6_homeRegion 1 = .ok (.istore_n 1, 1) := by decide +kernel
theorem dX6_homeRegion_2 : decode cX6_homeRegion 2 = .ok (.iconst 0, 1) := by decide +kernel
theorem dX6_homeRegion_3 : decode cX6_homeRegion 3 = .ok (.istore_n 2, 1) := by decide +kernel
theorem dX6_homeRegion_4 : decode cX6_homeRegion 4 = .ok (.iconst 0, 1) := by decide +kernel
theorem dX6_homeRegion_5 : decode cX6_homeRegion 5 = .ok (.istore_n 3, 1) := by decide +kernel
theorem dX6_homeRegion_6 : decode cX6_homeRegion 6 = .ok (.iload_n 3, 1) := by decide +kernel
theorem dX6_homeRegion_7 : decode cX6_homeRegion 7 = .ok (.iconst 3, 1) := by decide +kernel
theorem dX6_homeRegion_8 : decode cX6_homeRegion 8 = .ok (.if_icmp .ge 37, 3) := by decide +kernel
theorem dX6_homeRegion_11 : decode cX6_homeRegion 11 = .ok (.aload_n 0, 1) := by decide +kernel
theorem dX6_homeRegion_12 : decode cX6_homeRegion 12 = .ok (.iload_n 3, 1) := by decide +kernel
theorem dX6_homeRegion_13 : decode cX6_homeRegion 13 = .ok (.invokevirtual 65, 3) := by decide +kernel
theorem dX6_homeRegion_16 : decode cX6_homeRegion 16 = .ok (.istore 4, 2) := by decide +kernel
theorem dX6_homeRegion_18 : decode cX6_homeRegion 18 = .ok (.iload 4, 2) := by decide +kernel
theorem dX6_homeRegion_20 : decode cX6_homeRegion 20 = .ok (.ifCond .le 19, 3) := by decide +kernel
theorem dX6_homeRegion_23 : decode cX6_homeRegion 23 = .ok (.iload_n 1, 1) := by decide +kernel
theorem dX6_homeRegion_24 : decode cX6_homeRegion 24 = .ok (.iconst (-1), 1) := by decide +kernel
theorem dX6_homeRegion_25 : decode cX6_homeRegion 25 = .ok (.if_icmp .eq 9, 3) := by decide +kernel
theorem dX6_homeRegion_28 : decode cX6_homeRegion 28 = .ok (.iload 4, 2) := by decide +kernel
theorem dX6_homeRegion_30 : decode cX6_homeRegion 30 = .ok (.iload_n 2, 1) := by decide +kernel
theorem dX6_homeRegion_31 : decode cX6_homeRegion 31 = .ok (.if_icmp .ge 8, 3) := by decide +kernel
theorem dX6_homeRegion_34 : decode cX6_homeRegion 34 = .ok (.iload_n 3, 1) := by decide +kernel
theorem dX6_homeRegion_35 : decode cX6_homeRegion 35 = .ok (.istore_n 1, 1) := by decide +kernel
theorem dX6_homeRegion_36 : decode cX6_homeRegion 36 = .ok (.iload 4, 2) := by decide +kernel
theorem dX6_homeRegion_38 : decode cX6_homeRegion 38 = .ok (.istore_n 2, 1) := by decide +kernel
theorem dX6_homeRegion_39 : decode cX6_homeRegion 39 = .ok (.iinc 3 1, 3) := by decide +kernel
theorem dX6_homeRegion_42 : decode cX6_homeRegion 42 = .ok (.goto (-36), 3) := by decide +kernel
theorem dX6_homeRegion_45 : decode cX6_homeRegion 45 = .ok (.iload_n 1, 1) := by decide +kernel
theorem dX6_homeRegion_46 : decode cX6_homeRegion 46 = .ok (.ireturn, 1) := by decide +kernel
theorem dX6_readOn_0 : decode cX6_readOn 0 = .ok (.aload_n 0, 1) := by decide +kernel
theorem dX6_readOn_1 : decode cX6_readOn 1 = .ok (.getfield 26, 3) := by decide +kernel
theorem dX6_readOn_4 : decode cX6_readOn 4 = .ok (.iconst 0, 1) := by decide +kernel
theorem dX6_readOn_5 : decode cX6_readOn 5 = .ok (.invokestatic 40, 3) := by decide +kernel
theorem dX6_readOn_8 : decode cX6_readOn 8 = .ok (.aload_n 0, 1) := by decide +kernel
theorem dX6_readOn_9 : decode cX6_readOn 9 = .ok (.iload_n 1, 1) := by decide +kernel
theorem dX6_readOn_10 : decode cX6_readOn 10 = .ok (.iload_n 2, 1) := by decide +kernel
theorem dX6_readOn_11 : decode cX6_readOn 11 = .ok (.invokevirtual 69, 3) := by decide +kernel
theorem dX6_readOn_14 : decode cX6_readOn 14 = .ok (.istore_n 3, 1) := by decide +kernel
theorem dX6_readOn_15 : decode cX6_readOn 15 = .ok (.iconst (-1), 1) := by decide +kernel
theorem dX6_readOn_16 : decode cX6_readOn 16 = .ok (.istore 4, 2) := by decide +kernel
theorem dX6_readOn_18 : decode cX6_readOn 18 = .ok (.iload 4, 2) := by decide +kernel
theorem dX6_readOn_20 : decode cX6_readOn 20 = .ok (.bipush 9, 2) := by decide +kernel
theorem dX6_readOn_22 : decode cX6_readOn 22 = .ok (.if_icmp .ge 74, 3) := by decide +kernel
theorem dX6_readOn_25 : decode cX6_readOn 25 = .ok (.iconst 0, 1) := by decide +kernel
theorem dX6_readOn_26 : decode cX6_readOn 26 = .ok (.istore 5, 2) := by decide +kernel
theorem dX6_readOn_28 : decode cX6_readOn 28 = .ok (.iload 5, 2) := by decide +kernel
theorem dX6_readOn_30 : decode cX6_readOn 30 = .ok (.bipush 8, 2) := by decide +kernel
theorem dX6_readOn_32 : decode cX6_readOn 32 = .ok (.if_icmp .ge 58, 3) := by decide +kernel
theorem dX6_readOn_35 : decode cX6_readOn 35 = .ok (.aload_n 0, 1) := by decide +kernel
theorem dX6_readOn_36 : decode cX6_readOn 36 = .ok (.getfield 23, 3) := by decide +kernel
theorem dX6_readOn_39 : decode cX6_readOn 39 = .ok (.iload 4, 2) := by decide +kernel
theorem dX6_readOn_41 : decode cX6_readOn 41 = .ok (.iconst 1, 1) := by decide +kernel
theorem dX6_readOn_42 : decode cX6_readOn 42 = .ok (.iadd, 1) := by decide +kernel
theorem dX6_readOn_43 : decode cX6_readOn 43 = .ok (.iaload, 1) := by decide +kernel
theorem dX6_readOn_44 : decode cX6_readOn 44 = .ok (.ifCond .le 40, 3) := by decide +kernel
theorem dX6_readOn_47 : decode cX6_readOn 47 = .ok (.aload_n 0, 1) := by decide +kernel
theorem dX6_readOn_48 : decode cX6_readOn 48 = .ok (.iload_n 1, 1) := by decide +kernel
theorem dX6_readOn_49 : decode cX6_readOn 49 = .ok (.iload_n 2, 1) := by decide +kernel
theorem dX6_readOn_50 : decode cX6_readOn 50 = .ok (.iload 5, 2) := by decide +kernel
theorem dX6_readOn_52 : decode cX6_readOn 52 = .ok (.invokevirtual 72, 3) := by decide +kernel
theorem dX6_readOn_55 : decode cX6_readOn 55 = .ok (.ifCond .eq 29, 3) := by decide +kernel
theorem dX6_readOn_58 : decode cX6_readOn 58 = .ok (.aload_n 0, 1) := by decide +kernel
theorem dX6_readOn_59 : decode cX6_readOn 59 = .ok (.aload_n 0, 1) := by decide +kernel
theorem dX6_readOn_60 : decode cX6_readOn 60 = .ok (.getfield 32, 3) := by decide +kernel
theorem dX6_readOn_63 : decode cX6_readOn 63 = .ok (.iload 5, 2) := by decide +kernel
theorem dX6_readOn_65 : decode cX6_readOn 65 = .ok (.iload 4, 2) := by decide +kernel
theorem dX6_readOn_67 : decode cX6_readOn 67 = .ok (.invokevirtual 76, 3) := by decide +kernel
theorem dX6_readOn_70 : decode cX6_readOn 70 = .ok (.iload_n 3, 1) := by decide +kernel
theorem dX6_readOn_71 : decode cX6_readOn 71 = .ok (.iand, 1) := by decide +kernel
theorem dX6_readOn_72 : decode cX6_readOn 72 = .ok (.aload_n 0, 1) := by decide +kernel
theorem dX6_readOn_73 : decode cX6_readOn 73 = .ok (.getfield 23, 3) := by decide +kernel
theorem dX6_readOn_76 : decode cX6_readOn 76 = .ok (.iload 4, 2) := by decide +kernel
theorem dX6_readOn_78 : decode cX6_readOn 78 = .ok (.iconst 1, 1) := by decide +kernel
theorem dX6_readOn_79 : decode cX6_readOn 79 = .ok (.iadd, 1) := by decide +kernel
theorem dX6_readOn_80 : decode cX6_readOn 80 = .ok (.iaload, 1) := by decide +kernel
theorem dX6_readOn_81 : decode cX6_readOn 81 = .ok (.invokevirtual 81, 3) := by decide +kernel
theorem dX6_readOn_84 : decode cX6_readOn 84 = .ok (.iinc 5 1, 3) := by decide +kernel
theorem dX6_readOn_87 : decode cX6_readOn 87 = .ok (.goto (-59), 3) := by decide +kernel
theorem dX6_readOn_90 : decode cX6_readOn 90 = .ok (.iinc 4 1, 3) := by decide +kernel
theorem dX6_readOn_93 : decode cX6_readOn 93 = .ok (.goto (-75), 3) := by decide +kernel
theorem dX6_readOn_96 : decode cX6_readOn 96 = .ok (.aload_n 0, 1) := by decide +kernel
theorem dX6_readOn_97 : decode cX6_readOn 97 = .ok (.getfield 26, 3) := by decide +kernel
theorem dX6_readOn_100 : decode cX6_readOn 100 = .ok (.iconst 0, 1) := by decide +kernel
theorem dX6_readOn_101 : decode cX6_readOn 101 = .ok (.aload_n 0, 1) := by decide +kernel
theorem dX6_readOn_102 : decode cX6_readOn 102 = .ok (.getfield 23, 3) := by decide +kernel
theorem dX6_readOn_105 : decode cX6_readOn 105 = .ok (.iconst 0, 1) := by decide +kernel
theorem dX6_readOn_106 : decode cX6_readOn 106 = .ok (.bipush 10, 2) := by decide +kernel
theorem dX6_readOn_108 : decode cX6_readOn 108 = .ok (.invokestatic 84, 3) := by decide +kernel
theorem dX6_readOn_111 : decode cX6_readOn 111 = .ok (.return_, 1) := by decide +kernel
theorem dX6_addRows_0 : decode cX6_addRows 0 = .ok (.iconst 0, 1) := by decide +kernel
theorem dX6_addRows_1 : decode cX6_addRows 1 = .ok (.istore_n 3, 1) := by decide +kernel
theorem dX6_addRows_2 : decode cX6_addRows 2 = .ok (.iload_n 3, 1) := by decide +kernel
theorem dX6_addRows_3 : decode cX6_addRows 3 = .ok (.bipush 9, 2) := by decide +kernel
theorem dX6_addRows_5 : decode cX6_addRows 5 = .ok (.if_icmp .ge 40, 3) := by decide +kernel
theorem dX6_addRows_8 : decode cX6_addRows 8 = .ok (.iload_n 1, 1) := by decide +kernel
theorem dX6_addRows_9 : decode cX6_addRows 9 = .ok (.iload_n 3, 1) := by decide +kernel
theorem dX6_addRows_10 : decode cX6_addRows 10 = .ok (.invokestatic 90, 3) := by decide +kernel
theorem dX6_addRows_13 : decode cX6_addRows 13 = .ok (.ifCond .eq 26, 3) := by decide +kernel
theorem dX6_addRows_16 : decode cX6_addRows 16 = .ok (.aload_n 0, 1) := by decide +kernel
theorem dX6_addRows_17 : decode cX6_addRows 17 = .ok (.getfield 26, 3) := by decide +kernel
theorem dX6_addRows_20 : decode cX6_addRows 20 = .ok (.iload_n 3, 1) := by decide +kernel
theorem dX6_addRows_21 : decode cX6_addRows 21 = .ok (.iconst 1, 1) := by decide +kernel
theorem dX6_addRows_22 : decode cX6_addRows 22 = .ok (.iadd, 1) := by decide +kernel
theorem dX6_addRows_23 : decode cX6_addRows 23 = .ok (.ldc 50, 2) := by decide +kernel
theorem dX6_addRows_25 : decode cX6_addRows 25 = .ok (.aload_n 0, 1) := by decide +kernel
theorem dX6_addRows_26 : decode cX6_addRows 26 = .ok (.getfield 26, 3) := by decide +kernel
theorem dX6_addRows_29 : decode cX6_addRows 29 = .ok (.iload_n 3, 1) := by decide +kernel
theorem dX6_addRows_30 : decode cX6_addRows 30 = .ok (.iconst 1, 1) := by decide +kernel
theorem dX6_addRows_31 : decode cX6_addRows 31 = .ok (.iadd, 1) := by decide +kernel
theorem dX6_addRows_32 : decode cX6_addRows 32 = .ok (.iaload, 1) := by decide +kernel
theorem dX6_addRows_33 : decode cX6_addRows 33 = .ok (.iload_n 2, 1) := by decide +kernel
theorem dX6_addRows_34 : decode cX6_addRows 34 = .ok (.iadd, 1) := by decide +kernel
theorem dX6_addRows_35 : decode cX6_addRows 35 = .ok (.invokestatic 51, 3) := by decide +kernel
theorem dX6_addRows_38 : decode cX6_addRows 38 = .ok (.iastore, 1) := by decide +kernel
theorem dX6_addRows_39 : decode cX6_addRows 39 = .ok (.iinc 3 1, 3) := by decide +kernel
theorem dX6_addRows_42 : decode cX6_addRows 42 = .ok (.goto (-40), 3) := by decide +kernel
theorem dX6_addRows_45 : decode cX6_addRows 45 = .ok (.return_, 1) := by decide +kernel
theorem dX6_hasHead_0 : decode cX6_hasHead 0 = .ok (.aload_n 0, 1) := by decide +kernel
theorem dX6_hasHead_1 : decode cX6_hasHead 1 = .ok (.getfield 11, 3) := by decide +kernel
theorem dX6_hasHead_4 : decode cX6_hasHead 4 = .ok (.iload_n 1, 1) := by decide +kernel
theorem dX6_hasHead_5 : decode cX6_hasHead 5 = .ok (.aaload, 1) := by decide +kernel
theorem dX6_hasHead_6 : decode cX6_hasHead 6 = .ok (.iload_n 3, 1) := by decide +kernel
theorem dX6_hasHead_7 : decode cX6_hasHead 7 = .ok (.iaload, 1) := by decide +kernel
theorem dX6_hasHead_8 : decode cX6_hasHead 8 = .ok (.aload_n 0, 1) := by decide +kernel
theorem dX6_hasHead_9 : decode cX6_hasHead 9 = .ok (.getfield 19, 3) := by decide +kernel
theorem dX6_hasHead_12 : decode cX6_hasHead 12 = .ok (.iload_n 2, 1) := by decide +kernel
theorem dX6_hasHead_13 : decode cX6_hasHead 13 = .ok (.iaload, 1) := by decide +kernel
theorem dX6_hasHead_14 : decode cX6_hasHead 14 = .ok (.iconst 4, 1) := by decide +kernel
theorem dX6_hasHead_15 : decode cX6_hasHead 15 = .ok (.idiv, 1) := by decide +kernel
theorem dX6_hasHead_16 : decode cX6_hasHead 16 = .ok (.if_icmp .ne 7, 3) := by decide +kernel
theorem dX6_hasHead_19 : decode cX6_hasHead 19 = .ok (.iconst 1, 1) := by decide +kernel
theorem dX6_hasHead_20 : decode cX6_hasHead 20 = .ok (.goto 4, 3) := by decide +kernel
theorem dX6_hasHead_23 : decode cX6_hasHead 23 = .ok (.iconst 0, 1) := by decide +kernel
theorem dX6_hasHead_24 : decode cX6_hasHead 24 = .ok (.ireturn, 1) := by decide +kernel
theorem dX6_notesFor_0 : decode cX6_notesFor 0 = .ok (.iconst 0, 1) := by decide +kernel
theorem dX6_notesFor_1 : decode cX6_notesFor 1 = .ok (.istore_n 3, 1) := by decide +kernel
theorem dX6_notesFor_2 : decode cX6_notesFor 2 = .ok (.iconst 0, 1) := by decide +kernel
theorem dX6_notesFor_3 : decode cX6_notesFor 3 = .ok (.istore 4, 2) := by decide +kernel
theorem dX6_notesFor_5 : decode cX6_notesFor 5 = .ok (.iload 4, 2) := by decide +kernel
theorem dX6_notesFor_7 : decode cX6_notesFor 7 = .ok (.bipush 9, 2) := by decide +kernel
theorem dX6_notesFor_9 : decode cX6_notesFor 9 = .ok (.if_icmp .ge 36, 3) := by decide +kernel
theorem dX6_notesFor_12 : decode cX6_notesFor 12 = .ok (.aload_n 0, 1) := by decide +kernel
theorem dX6_notesFor_13 : decode cX6_notesFor 13 = .ok (.getfield 16, 3) := by decide +kernel
theorem dX6_notesFor_16 : decode cX6_notesFor 16 = .ok (.iload_n 1, 1) := by decide +kernel
theorem dX6_notesFor_17 : decode cX6_notesFor 17 = .ok (.aaload, 1) := by decide +kernel
theorem dX6_notesFor_18 : decode cX6_notesFor 18 = .ok (.iload 4, 2) := by decide +kernel
theorem dX6_notesFor_20 : decode cX6_notesFor 20 = .ok (.iaload, 1) := by decide +kernel
theorem dX6_notesFor_21 : decode cX6_notesFor 21 = .ok (.aload_n 0, 1) := by decide +kernel
theorem dX6_notesFor_22 : decode cX6_notesFor 22 = .ok (.getfield 19, 3) := by decide +kernel
theorem dX6_notesFor_25 : decode cX6_notesFor 25 = .ok (.iload_n 2, 1) := by decide +kernel
theorem dX6_notesFor_26 : decode cX6_notesFor 26 = .ok (.iaload, 1) := by decide +kernel
theorem dX6_notesFor_27 : decode cX6_notesFor 27 = .ok (.iconst 4, 1) := by decide +kernel
theorem dX6_notesFor_28 : decode cX6_notesFor 28 = .ok (.irem, 1) := by decide +kernel
theorem dX6_notesFor_29 : decode cX6_notesFor 29 = .ok (.if_icmp .ne 10, 3) := by decide +kernel
theorem dX6_notesFor_32 : decode cX6_notesFor 32 = .ok (.iload_n 3, 1) := by decide +kernel
theorem dX6_notesFor_33 : decode cX6_notesFor 33 = .ok (.iconst 1, 1) := by decide +kernel
theorem dX6_notesFor_34 : decode cX6_notesFor 34 = .ok (.iload 4, 2) := by decide +kernel
theorem dX6_notesFor_36 : decode cX6_notesFor 36 = .ok (.ishl, 1) := by decide +kernel
theorem dX6_notesFor_37 : decode cX6_notesFor 37 = .ok (.ior, 1) := by decide +kernel
theorem dX6_notesFor_38 : decode cX6_notesFor 38 = .ok (.istore_n 3, 1) := by decide +kernel
theorem dX6_notesFor_39 : decode cX6_notesFor 39 = .ok (.iinc 4 1, 3) := by decide +kernel
theorem dX6_notesFor_42 : decode cX6_notesFor 42 = .ok (.goto (-37), 3) := by decide +kernel
theorem dX6_notesFor_45 : decode cX6_notesFor 45 = .ok (.iload_n 3, 1) := by decide +kernel
theorem dX6_notesFor_46 : decode cX6_notesFor 46 = .ok (.ireturn, 1) := by decide +kernel
theorem dX6_markOpen_0 : decode cX6_markOpen 0 = .ok (.aload_n 0, 1) := by decide +kernel
theorem dX6_markOpen_1 : decode cX6_markOpen 1 = .ok (.getfield 36, 3) := by decide +kernel
theorem dX6_markOpen_4 : decode cX6_markOpen 4 = .ok (.iconst 1, 1) := by decide +kernel
theorem dX6_markOpen_5 : decode cX6_markOpen 5 = .ok (.isub, 1) := by decide +kernel
theorem dX6_markOpen_6 : decode cX6_markOpen 6 = .ok (.istore_n 2, 1) := by decide +kernel
theorem dX6_markOpen_7 : decode cX6_markOpen 7 = .ok (.iload_n 2, 1) := by decide +kernel
theorem dX6_markOpen_8 : decode cX6_markOpen 8 = .ok (.ifCond .lt 43, 3) := by decide +kernel
theorem dX6_markOpen_11 : decode cX6_markOpen 11 = .ok (.aload_n 0, 1) := by decide +kernel
theorem dX6_markOpen_12 : decode cX6_markOpen 12 = .ok (.iload_n 1, 1) := by decide +kernel
theorem dX6_markOpen_13 : decode cX6_markOpen 13 = .ok (.iload_n 2, 1) := by decide +kernel
theorem dX6_markOpen_14 : decode cX6_markOpen 14 = .ok (.invokevirtual 69, 3) := by decide +kernel
theorem dX6_markOpen_17 : decode cX6_markOpen 17 = .ok (.istore_n 3, 1) := by decide +kernel
theorem dX6_markOpen_18 : decode cX6_markOpen 18 = .ok (.aload_n 0, 1) := by decide +kernel
theorem dX6_markOpen_19 : decode cX6_markOpen 19 = .ok (.getfield 29, 3) := by decide +kernel
theorem dX6_markOpen_22 : decode cX6_markOpen 22 = .ok (.iload_n 2, 1) := by decide +kernel
theorem dX6_markOpen_23 : decode cX6_markOpen 23 = .ok (.iload_n 2, 1) := by decide +kernel
theorem dX6_markOpen_24 : decode cX6_markOpen 24 = .ok (.aload_n 0, 1) := by decide +kernel
theorem dX6_markOpen_25 : decode cX6_markOpen 25 = .ok (.getfield 36, 3) := by decide +kernel
theorem dX6_markOpen_28 : decode cX6_markOpen 28 = .ok (.iconst 1, 1) := by decide +kernel
theorem dX6_markOpen_29 : decode cX6_markOpen 29 = .ok (.isub, 1) := by decide +kernel
theorem dX6_markOpen_30 : decode cX6_markOpen 30 = .ok (.if_icmp .ne 7, 3) := by decide +kernel
theorem dX6_markOpen_33 : decode cX6_markOpen 33 = .ok (.iload_n 3, 1) := by decide +kernel
theorem dX6_markOpen_34 : decode cX6_markOpen 34 = .ok (.goto 10, 3) := by decide +kernel
theorem dX6_markOpen_37 : decode cX6_markOpen 37 = .ok (.aload_n 0, 1) := by decide +kernel
theorem dX6_markOpen_38 : decode cX6_markOpen 38 = .ok (.iload_n 1, 1) := by decide +kernel
theorem dX6_markOpen_39 : decode cX6_markOpen 39 = .ok (.iload_n 2, 1) := by decide +kernel
theorem dX6_markOpen_40 : decode cX6_markOpen 40 = .ok (.iload_n 3, 1) := by decide +kernel
theorem dX6_markOpen_41 : decode cX6_markOpen 41 = .ok (.invokevirtual 94, 3) := by decide +kernel
theorem dX6_markOpen_44 : decode cX6_markOpen 44 = .ok (.iastore, 1) := by decide +kernel
theorem dX6_markOpen_45 : decode cX6_markOpen 45 = .ok (.iinc 2 (-1), 3) := by decide +kernel
theorem dX6_markOpen_48 : decode cX6_markOpen 48 = .ok (.goto (-41), 3) := by decide +kernel
theorem dX6_markOpen_51 : decode cX6_markOpen 51 = .ok (.return_, 1) := by decide +kernel
theorem dX6_openAmong_0 : decode cX6_openAmong 0 = .ok (.iconst 0, 1) := by decide +kernel
theorem dX6_openAmong_1 : decode cX6_openAmong 1 = .ok (.istore 4, 2) := by decide +kernel
theorem dX6_openAmong_3 : decode cX6_openAmong 3 = .ok (.iconst 0, 1) := by decide +kernel
theorem dX6_openAmong_4 : decode cX6_openAmong 4 = .ok (.istore 5, 2) := by decide +kernel
theorem dX6_openAmong_6 : decode cX6_openAmong 6 = .ok (.iload 5, 2) := by decide +kernel
theorem dX6_openAmong_8 : decode cX6_openAmong 8 = .ok (.bipush 9, 2) := by decide +kernel
theorem dX6_openAmong_10 : decode cX6_openAmong 10 = .ok (.if_icmp .ge 40, 3) := by decide +kernel
theorem dX6_openAmong_13 : decode cX6_openAmong 13 = .ok (.iload_n 3, 1) := by decide +kernel
theorem dX6_openAmong_14 : decode cX6_openAmong 14 = .ok (.iload 5, 2) := by decide +kernel
theorem dX6_openAmong_16 : decode cX6_openAmong 16 = .ok (.invokestatic 90, 3) := by decide +kernel
theorem dX6_openAmong_19 : decode cX6_openAmong 19 = .ok (.ifCond .eq 25, 3) := by decide +kernel
theorem dX6_openAmong_22 : decode cX6_openAmong 22 = .ok (.aload_n 0, 1) := by decide +kernel
theorem dX6_openAmong_23 : decode cX6_openAmong 23 = .ok (.iload_n 1, 1) := by decide +kernel
theorem dX6_openAmong_24 : decode cX6_openAmong 24 = .ok (.iload_n 2, 1) := by decide +kernel
theorem dX6_openAmong_25 : decode cX6_openAmong 25 = .ok (.iconst 1, 1) := by decide +kernel
theorem dX6_openAmong_26 : decode cX6_openAmong 26 = .ok (.iadd, 1) := by decide +kernel
theorem dX6_openAmong_27 : decode cX6_openAmong 27 = .ok (.iload 5, 2) := by decide +kernel
theorem dX6_openAmong_29 : decode cX6_openAmong 29 = .ok (.invokevirtual 97, 3) := by decide +kernel
theorem dX6_openAmong_32 : decode cX6_openAmong 32 = .ok (.ifCond .eq 12, 3) := by decide +kernel
theorem dX6_openAmong_35 : decode cX6_openAmong 35 = .ok (.iload 4, 2) := by decide +kernel
theorem dX6_openAmong_37 : decode cX6_openAmong 37 = .ok (.iconst 1, 1) := by decide +kernel
theorem dX6_openAmong_38 : decode cX6_openAmong 38 = .ok (.iload 5, 2) := by decide +kernel
theorem dX6_openAmong_40 : decode cX6_openAmong 40 = .ok (.ishl, 1) := by decide +kernel
theorem dX6_openAmong_41 : decode cX6_openAmong 41 = .ok (.ior, 1) := by decide +kernel
theorem dX6_openAmong_42 : decode cX6_openAmong 42 = .ok (.istore 4, 2) := by decide +kernel
theorem dX6_openAmong_44 : decode cX6_openAmong 44 = .ok (.iinc 5 1, 3) := by decide +kernel
theorem dX6_openAmong_47 : decode cX6_openAmong 47 = .ok (.goto (-41), 3) := by decide +kernel
theorem dX6_openAmong_50 : decode cX6_openAmong 50 = .ok (.iload 4, 2) := by decide +kernel
theorem dX6_openAmong_52 : decode cX6_openAmong 52 = .ok (.ireturn, 1) := by decide +kernel
theorem dX6_goesOn_0 : decode cX6_goesOn 0 = .ok (.iconst 0, 1) := by decide +kernel
theorem dX6_goesOn_1 : decode cX6_goesOn 1 = .ok (.istore 4, 2) := by decide +kernel
theorem dX6_goesOn_3 : decode cX6_goesOn 3 = .ok (.iload 4, 2) := by decide +kernel
theorem dX6_goesOn_5 : decode cX6_goesOn 5 = .ok (.bipush 8, 2) := by decide +kernel
theorem dX6_goesOn_7 : decode cX6_goesOn 7 = .ok (.if_icmp .ge 42, 3) := by decide +kernel
theorem dX6_goesOn_10 : decode cX6_goesOn 10 = .ok (.aload_n 0, 1) := by decide +kernel
theorem dX6_goesOn_11 : decode cX6_goesOn 11 = .ok (.iload_n 1, 1) := by decide +kernel
theorem dX6_goesOn_12 : decode cX6_goesOn 12 = .ok (.iload_n 2, 1) := by decide +kernel
theorem dX6_goesOn_13 : decode cX6_goesOn 13 = .ok (.iload 4, 2) := by decide +kernel
theorem dX6_goesOn_15 : decode cX6_goesOn 15 = .ok (.invokevirtual 72, 3) := by decide +kernel
theorem dX6_goesOn_18 : decode cX6_goesOn 18 = .ok (.ifCond .eq 25, 3) := by decide +kernel
theorem dX6_goesOn_21 : decode cX6_goesOn 21 = .ok (.aload_n 0, 1) := by decide +kernel
theorem dX6_goesOn_22 : decode cX6_goesOn 22 = .ok (.getfield 32, 3) := by decide +kernel
theorem dX6_goesOn_25 : decode cX6_goesOn 25 = .ok (.iload 4, 2) := by decide +kernel
theorem dX6_goesOn_27 : decode cX6_goesOn 27 = .ok (.iload_n 3, 1) := by decide +kernel
theorem dX6_goesOn_28 : decode cX6_goesOn 28 = .ok (.invokevirtual 76, 3) := by decide +kernel
theorem dX6_goesOn_31 : decode cX6_goesOn 31 = .ok (.aload_n 0, 1) := by decide +kernel
theorem dX6_goesOn_32 : decode cX6_goesOn 32 = .ok (.getfield 29, 3) := by decide +kernel
theorem dX6_goesOn_35 : decode cX6_goesOn 35 = .ok (.iload_n 2, 1) := by decide +kernel
theorem dX6_goesOn_36 : decode cX6_goesOn 36 = .ok (.iaload, 1) := by decide +kernel
theorem dX6_goesOn_37 : decode cX6_goesOn 37 = .ok (.iand, 1) := by decide +kernel
theorem dX6_goesOn_38 : decode cX6_goesOn 38 = .ok (.ifCond .eq 5, 3) := by decide +kernel
theorem dX6_goesOn_41 : decode cX6_goesOn 41 = .ok (.iconst 1, 1) := by decide +kernel
theorem dX6_goesOn_42 : decode cX6_goesOn 42 = .ok (.ireturn, 1) := by decide +kernel
theorem dX6_goesOn_43 : decode cX6_goesOn 43 = .ok (.iinc 4 1, 3) := by decide +kernel
theorem dX6_goesOn_46 : decode cX6_goesOn 46 = .ok (.goto (-43), 3) := by decide +kernel
theorem dX6_goesOn_49 : decode cX6_goesOn 49 = .ok (.iconst 0, 1) := by decide +kernel
theorem dX6_goesOn_50 : decode cX6_goesOn 50 = .ok (.ireturn, 1) := by decide +kernel
theorem dX6_firstStep_0 : decode cX6_firstStep 0 = .ok (.iconst 0, 1) := by decide +kernel
theorem dX6_firstStep_1 : decode cX6_firstStep 1 = .ok (.istore 4, 2) := by decide +kernel
theorem dX6_firstStep_3 : decode cX6_firstStep 3 = .ok (.iload 4, 2) := by decide +kernel
theorem dX6_firstStep_5 : decode cX6_firstStep 5 = .ok (.bipush 9, 2) := by decide +kernel
theorem dX6_firstStep_7 : decode cX6_firstStep 7 = .ok (.if_icmp .ge 74, 3) := by decide +kernel
theorem dX6_firstStep_10 : decode cX6_firstStep 10 = .ok (.iconst 0, 1) := by decide +kernel
theorem dX6_firstStep_11 : decode cX6_firstStep 11 = .ok (.istore 5, 2) := by decide +kernel
theorem dX6_firstStep_13 : decode cX6_firstStep 13 = .ok (.iload 5, 2) := by decide +kernel
theorem dX6_firstStep_15 : decode cX6_firstStep 15 = .ok (.bipush 8, 2) := by decide +kernel
theorem dX6_firstStep_17 : decode cX6_firstStep 17 = .ok (.if_icmp .ge 58, 3) := by decide +kernel
theorem dX6_firstStep_20 : decode cX6_firstStep 20 = .ok (.aload_n 0, 1) := by decide +kernel
theorem dX6_firstStep_21 : decode cX6_firstStep 21 = .ok (.getfield 29, 3) := by decide +kernel
theorem dX6_firstStep_24 : decode cX6_firstStep 24 = .ok (.iload_n 2, 1) := by decide +kernel
theorem dX6_firstStep_25 : decode cX6_firstStep 25 = .ok (.iaload, 1) := by decide +kernel
theorem dX6_firstStep_26 : decode cX6_firstStep 26 = .ok (.iload 4, 2) := by decide +kernel
theorem dX6_firstStep_28 : decode cX6_firstStep 28 = .ok (.invokestatic 90, 3) := by decide +kernel
theorem dX6_firstStep_31 : decode cX6_firstStep 31 = .ok (.ifCond .eq 38, 3) := by decide +kernel
theorem dX6_firstStep_34 : decode cX6_firstStep 34 = .ok (.aload_n 0, 1) := by decide +kernel
theorem dX6_firstStep_35 : decode cX6_firstStep 35 = .ok (.iload_n 1, 1) := by decide +kernel
theorem dX6_firstStep_36 : decode cX6_firstStep 36 = .ok (.iload_n 2, 1) := by decide +kernel
theorem dX6_firstStep_37 : decode cX6_firstStep 37 = .ok (.iload 5, 2) := by decide +kernel
theorem dX6_firstStep_39 : decode cX6_firstStep 39 = .ok (.invokevirtual 72, 3) := by decide +kernel
theorem dX6_firstStep_42 : decode cX6_firstStep 42 = .ok (.ifCond .eq 27, 3) := by decide +kernel
theorem dX6_firstStep_45 : decode cX6_firstStep 45 = .ok (.aload_n 0, 1) := by decide +kernel
theorem dX6_firstStep_46 : decode cX6_firstStep 46 = .ok (.getfield 32, 3) := by decide +kernel
theorem dX6_firstStep_49 : decode cX6_firstStep 49 = .ok (.iload 5, 2) := by decide +kernel
theorem dX6_firstStep_51 : decode cX6_firstStep 51 = .ok (.iload_n 3, 1) := by decide +kernel
theorem dX6_firstStep_52 : decode cX6_firstStep 52 = .ok (.iload 4, 2) := by decide +kernel
theorem dX6_firstStep_54 : decode cX6_firstStep 54 = .ok (.invokevirtual 100, 3) := by decide +kernel
theorem dX6_firstStep_57 : decode cX6_firstStep 57 = .ok (.ifCond .eq 12, 3) := by decide +kernel
theorem dX6_firstStep_60 : decode cX6_firstStep 60 = .ok (.bipush 16, 2) := by decide +kernel
theorem dX6_firstStep_62 : decode cX6_firstStep 62 = .ok (.iload 4, 2) := by decide +kernel
theorem dX6_firstStep_64 : decode cX6_firstStep 64 = .ok (.imul, 1) := by decide +kernel
theorem dX6_firstStep_65 : decode cX6_firstStep 65 = .ok (.iload 5, 2) := by decide +kernel
theorem dX6_firstStep_67 : decode cX6_firstStep 67 = .ok (.iadd, 1) := by decide +kernel
theorem dX6_firstStep_68 : decode cX6_firstStep 68 = .ok (.ireturn, 1) := by decide +kernel
theorem dX6_firstStep_69 : decode cX6_firstStep 69 = .ok (.iinc 5 1, 3) := by decide +kernel
theorem dX6_firstStep_72 : decode cX6_firstStep 72 = .ok (.goto (-59), 3) := by decide +kernel
theorem dX6_firstStep_75 : decode cX6_firstStep 75 = .ok (.iinc 4 1, 3) := by decide +kernel
theorem dX6_firstStep_78 : decode cX6_firstStep 78 = .ok (.goto (-75), 3) := by decide +kernel
theorem dX6_firstStep_81 : decode cX6_firstStep 81 = .ok (.iconst (-1), 1) := by decide +kernel
theorem dX6_firstStep_82 : decode cX6_firstStep 82 = .ok (.ireturn, 1) := by decide +kernel
theorem dX7_init_0 : decode cX7_init 0 = .ok (.aload_n 0, 1) := by decide +kernel
theorem dX7_init_1 : decode cX7_init 1 = .ok (.invokespecial 3, 3) := by decide +kernel
theorem dX7_init_4 : decode cX7_init 4 = .ok (.aload_n 0, 1) := by decide +kernel
theorem dX7_init_5 : decode cX7_init 5 = .ok (.bipush 24, 2) := by decide +kernel
theorem dX7_init_7 : decode cX7_init 7 = .ok (.newarray .int, 2) := by decide +kernel
theorem dX7_init_9 : decode cX7_init 9 = .ok (.putfield 9, 3) := by decide +kernel
theorem dX7_init_12 : decode cX7_init 12 = .ok (.aload_n 0, 1) := by decide +kernel
theorem dX7_init_13 : decode cX7_init 13 = .ok (.bipush 24, 2) := by decide +kernel
theorem dX7_init_15 : decode cX7_init 15 = .ok (.newarray .int, 2) := by decide +kernel
theorem dX7_init_17 : decode cX7_init 17 = .ok (.putfield 15, 3) := by decide +kernel
theorem dX7_init_20 : decode cX7_init 20 = .ok (.aload_n 0, 1) := by decide +kernel
theorem dX7_init_21 : decode cX7_init 21 = .ok (.bipush 24, 2) := by decide +kernel
theorem dX7_init_23 : decode cX7_init 23 = .ok (.newarray .int, 2) := by decide +kernel
theorem dX7_init_25 : decode cX7_init 25 = .ok (.putfield 18, 3) := by decide +kernel
theorem dX7_init_28 : decode cX7_init 28 = .ok (.aload_n 0, 1) := by decide +kernel
theorem dX7_init_29 : decode cX7_init 29 = .ok (.aload_n 1, 1) := by decide +kernel
theorem dX7_init_30 : decode cX7_init 30 = .ok (.putfield 21, 3) := by decide +kernel
theorem dX7_init_33 : decode cX7_init 33 = .ok (.return_, 1) := by decide +kernel
theorem dX7_append_0 : decode cX7_append 0 = .ok (.aload_n 0, 1) := by decide +kernel
theorem dX7_append_1 : decode cX7_append 1 = .ok (.getfield 9, 3) := by decide +kernel
theorem dX7_append_4 : decode cX7_append 4 = .ok (.aload_n 0, 1) := by decide +kernel
theorem dX7_append_5 : decode cX7_append 5 = .ok (.getfield 25, 3) := by decide +kernel
theorem dX7_append_8 : decode cX7_append 8 = .ok (.iload_n 1, 1) := by decide +kernel
theorem dX7_append_9 : decode cX7_append 9 = .ok (.iastore, 1) := by decide +kernel
theorem dX7_append_10 : decode cX7_append 10 = .ok (.aload_n 0, 1) := by decide +kernel
theorem dX7_append_11 : decode cX7_append 11 = .ok (.getfield 15, 3) := by decide +kernel
theorem dX7_append_14 : decode cX7_append 14 = .ok (.aload_n 0, 1) := by decide +kernel
theorem dX7_append_15 : decode cX7_append 15 = .ok (.getfield 25, 3) := by decide +kernel
theorem dX7_append_18 : decode cX7_append 18 = .ok (.iload_n 2, 1) := by decide +kernel
theorem dX7_append_19 : decode cX7_append 19 = .ok (.iastore, 1) := by decide +kernel
theorem dX7_append_20 : decode cX7_append 20 = .ok (.aload_n 0, 1) := by decide +kernel
theorem dX7_append_21 : decode cX7_append 21 = .ok (.getfield 18, 3) := by decide +kernel
theorem dX7_append_24 : decode cX7_append 24 = .ok (.aload_n 0, 1) := by decide +kernel
theorem dX7_append_25 : decode cX7_append 25 = .ok (.getfield 25, 3) := by decide +kernel
theorem dX7_append_28 : decode cX7_append 28 = .ok (.iload_n 3, 1) := by decide +kernel
theorem dX7_append_29 : decode cX7_append 29 = .ok (.iastore, 1) := by decide +kernel
theorem dX7_append_30 : decode cX7_append 30 = .ok (.aload_n 0, 1) := by decide +kernel
theorem dX7_append_31 : decode cX7_append 31 = .ok (.dup, 1) := by decide +kernel
theorem dX7_append_32 : decode cX7_append 32 = .ok (.getfield 25, 3) := by decide +kernel
theorem dX7_append_35 : decode cX7_append 35 = .ok (.iconst 1, 1) := by decide +kernel
theorem dX7_append_36 : decode cX7_append 36 = .ok (.iadd, 1) := by decide +kernel
theorem dX7_append_37 : decode cX7_append 37 = .ok (.putfield 25, 3) := by decide +kernel
theorem dX7_append_40 : decode cX7_append 40 = .ok (.aload_n 0, 1) := by decide +kernel
theorem dX7_append_41 : decode cX7_append 41 = .ok (.getfield 25, 3) := by decide +kernel
theorem dX7_append_44 : decode cX7_append 44 = .ok (.ireturn, 1) := by decide +kernel
theorem dX7_lostOnes_0 : decode cX7_lostOnes 0 = .ok (.iconst 0, 1) := by decide +kernel
theorem dX7_lostOnes_1 : decode cX7_lostOnes 1 = .ok (.istore_n 1, 1) := by decide +kernel
theorem dX7_lostOnes_2 : decode cX7_lostOnes 2 = .ok (.iconst 0, 1) := by decide +kernel
theorem dX7_lostOnes_3 : decode cX7_lostOnes 3 = .ok (.istore_n 2, 1) := by decide +kernel
theorem dX7_lostOnes_4 : decode cX7_lostOnes 4 = .ok (.iload_n 2, 1) := by decide +kernel
theorem dX7_lostOnes_5 : decode cX7_lostOnes 5 = .ok (.aload_n 0, 1) := by decide +kernel
theorem dX7_lostOnes_6 : decode cX7_lostOnes 6 = .ok (.getfield 25, 3) := by decide +kernel
theorem dX7_lostOnes_9 : decode cX7_lostOnes 9 = .ok (.if_icmp .ge 22, 3) := by decide +kernel
theorem dX7_lostOnes_12 : decode cX7_lostOnes 12 = .ok (.aload_n 0, 1) := by decide +kernel
theorem dX7_lostOnes_13 : decode cX7_lostOnes 13 = .ok (.getfield 18, 3) := by decide +kernel
theorem dX7_lostOnes_16 : decode cX7_lostOnes 16 = .ok (.iload_n 2, 1) := by decide +kernel
theorem dX7_lostOnes_17 : decode cX7_lostOnes 17 = .ok (.iaload, 1) := by decide +kernel
theorem dX7_lostOnes_18 : decode cX7_lostOnes 18 = .ok (.iconst (-1), 1) := by decide +kernel
theorem dX7_lostOnes_19 : decode cX7_lostOnes 19 = .ok (.if_icmp .ne 6, 3) := by decide +kernel
theorem dX7_lostOnes_22 : decode cX7_lostOnes 22 = .ok (.iinc 1 1, 3) := by decide +kernel
theorem dX7_lostOnes_25 : decode cX7_lostOnes 25 = .ok (.iinc 2 1, 3) := by decide +kernel
theorem dX7_lostOnes_28 : decode cX7_lostOnes 28 = .ok (.goto (-24), 3) := by decide +kernel
theorem dX7_lostOnes_31 : decode cX7_lostOnes 31 = .ok (.iload_n 1, 1) := by decide +kernel
theorem dX7_lostOnes_32 : decode cX7_lostOnes 32 = .ok (.ireturn, 1) := by decide +kernel
theorem dX7_firstWrong_0 : decode cX7_firstWrong 0 = .ok (.iconst 0, 1) := by decide +kernel
theorem dX7_firstWrong_1 : decode cX7_firstWrong 1 = .ok (.istore_n 1, 1) := by decide +kernel
theorem dX7_firstWrong_2 : decode cX7_firstWrong 2 = .ok (.iload_n 1, 1) := by decide +kernel
theorem dX7_firstWrong_3 : decode cX7_firstWrong 3 = .ok (.aload_n 0, 1) := by decide +kernel
theorem dX7_firstWrong_4 : decode cX7_firstWrong 4 = .ok (.getfield 25, 3) := by decide +kernel
theorem dX7_firstWrong_7 : decode cX7_firstWrong 7 = .ok (.if_icmp .ge 35, 3) := by decide +kernel
theorem dX7_firstWrong_10 : decode cX7_firstWrong 10 = .ok (.aload_n 0, 1) := by decide +kernel
theorem dX7_firstWrong_11 : decode cX7_firstWrong 11 = .ok (.getfield 18, 3) := by decide +kernel
theorem dX7_firstWrong_14 : decode cX7_firstWrong 14 = .ok (.iload_n 1, 1) := by decide +kernel
theorem dX7_firstWrong_15 : decode cX7_firstWrong 15 = .ok (.iaload, 1) := by decide +kernel
theorem dX7_firstWrong_16 : decode cX7_firstWrong 16 = .ok (.iconst (-1), 1) := by decide +kernel
theorem dX7_firstWrong_17 : decode cX7_firstWrong 17 = .ok (.if_icmp .eq 19, 3) := by decide +kernel
theorem dX7_firstWrong_20 : decode cX7_firstWrong 20 = .ok (.aload_n 0, 1) := by decide +kernel
theorem dX7_firstWrong_21 : decode cX7_firstWrong 21 = .ok (.iload_n 1, 1) := by decide +kernel
theorem dX7_firstWrong_22 : decode cX7_firstWrong 22 = .ok (.aload_n 0, 1) := by decide +kernel
theorem dX7_firstWrong_23 : decode cX7_firstWrong 23 = .ok (.getfield 18, 3) := by decide +kernel
theorem dX7_firstWrong_26 : decode cX7_firstWrong 26 = .ok (.iload_n 1, 1) := by decide +kernel
theorem dX7_firstWrong_27 : decode cX7_firstWrong 27 = .ok (.iaload, 1) := by decide +kernel
theorem dX7_firstWrong_28 : decode cX7_firstWrong 28 = .ok (.invokevirtual 29, 3) := by decide +kernel
theorem dX7_firstWrong_31 : decode cX7_firstWrong 31 = .ok (.ifCond .ne 5, 3) := by decide +kernel
theorem dX7_firstWrong_34 : decode cX7_firstWrong 34 = .ok (.iload_n 1, 1) := by decide +kernel
theorem dX7_firstWrong_35 : decode cX7_firstWrong 35 = .ok (.ireturn, 1) := by decide +kernel
theorem dX7_firstWrong_36 : decode cX7_firstWrong 36 = .ok (.iinc 1 1, 3) := by decide +kernel
theorem dX7_firstWrong_39 : decode cX7_firstWrong 39 = .ok (.goto (-37), 3) := by decide +kernel
theorem dX7_firstWrong_42 : decode cX7_firstWrong 42 = .ok (.iconst (-1), 1) := by decide +kernel
theorem dX7_firstWrong_43 : decode cX7_firstWrong 43 = .ok (.ireturn, 1) := by decide +kernel
theorem dX7_fillingCount_0 : decode cX7_fillingCount 0 = .ok (.iconst 1, 1) := by decide +kernel
theorem dX7_fillingCount_1 : decode cX7_fillingCount 1 = .ok (.istore_n 1, 1) := by decide +kernel
theorem dX7_fillingCount_2 : decode cX7_fillingCount 2 = .ok (.iconst 0, 1) := by decide +kernel
theorem dX7_fillingCount_3 : decode cX7_fillingCount 3 = .ok (.istore_n 2, 1) := by decide +kernel
theorem dX7_fillingCount_4 : decode cX7_fillingCount 4 = .ok (.iload_n 2, 1) := by decide +kernel
theorem dX7_fillingCount_5 : decode cX7_fillingCount 5 = .ok (.aload_n 0, 1) := by decide +kernel
theorem dX7_fillingCount_6 : decode cX7_fillingCount 6 = .ok (.getfield 25, 3) := by decide +kernel
theorem dX7_fillingCount_9 : decode cX7_fillingCount 9 = .ok (.if_icmp .ge 22, 3) := by decide +kernel
theorem dX7_fillingCount_12 : decode cX7_fillingCount 12 = .ok (.ldc 33, 2) := by decide +kernel
theorem dX7_fillingCount_14 : decode cX7_fillingCount 14 = .ok (.iload_n 1, 1) := by decide +kernel
theorem dX7_fillingCount_15 : decode cX7_fillingCount 15 = .ok (.aload_n 0, 1) := by decide +kernel
theorem dX7_fillingCount_16 : decode cX7_fillingCount 16 = .ok (.iload_n 2, 1) := by decide +kernel
theorem dX7_fillingCount_17 : decode cX7_fillingCount 17 = .ok (.invokevirtual 34, 3) := by decide +kernel
theorem dX7_fillingCount_20 : decode cX7_fillingCount 20 = .ok (.imul, 1) := by decide +kernel
theorem dX7_fillingCount_21 : decode cX7_fillingCount 21 = .ok (.invokestatic 38, 3) := by decide +kernel
theorem dX7_fillingCount_24 : decode cX7_fillingCount 24 = .ok (.istore_n 1, 1) := by decide +kernel
theorem dX7_fillingCount_25 : decode cX7_fillingCount 25 = .ok (.iinc 2 1, 3) := by decide +kernel
theorem dX7_fillingCount_28 : decode cX7_fillingCount 28 = .ok (.goto (-24), 3) := by decide +kernel
theorem dX7_fillingCount_31 : decode cX7_fillingCount 31 = .ok (.iload_n 1, 1) := by decide +kernel
theorem dX7_fillingCount_32 : decode cX7_fillingCount 32 = .ok (.ireturn, 1) := by decide +kernel
theorem dX7_quickestAt_0 : decode cX7_quickestAt 0 = .ok (.aload_n 0, 1) := by decide +kernel
theorem dX7_quickestAt_1 : decode cX7_quickestAt 1 = .ok (.getfield 18, 3) := by decide +kernel
theorem dX7_quickestAt_4 : decode cX7_quickestAt 4 = .ok (.iload_n 1, 1) := by decide +kernel
theorem dX7_quickestAt_5 : decode cX7_quickestAt 5 = .ok (.iaload, 1) := by decide +kernel
theorem dX7_quickestAt_6 : decode cX7_quickestAt 6 = .ok (.iconst (-1), 1) := by decide +kernel
theorem dX7_quickestAt_7 : decode cX7_quickestAt 7 = .ok (.if_icmp .eq 10, 3) := by decide +kernel
theorem dX7_quickestAt_10 : decode cX7_quickestAt 10 = .ok (.aload_n 0, 1) := by decide +kernel
theorem dX7_quickestAt_11 : decode cX7_quickestAt 11 = .ok (.getfield 18, 3) := by decide +kernel
theorem dX7_quickestAt_14 : decode cX7_quickestAt 14 = .ok (.iload_n 1, 1) := by decide +kernel
theorem dX7_quickestAt_15 : decode cX7_quickestAt 15 = .ok (.iaload, 1) := by decide +kernel
theorem dX7_quickestAt_16 : decode cX7_quickestAt 16 = .ok (.ireturn, 1) := by decide +kernel
theorem dX7_quickestAt_17 : decode cX7_quickestAt 17 = .ok (.iconst (-1), 1) := by decide +kernel
theorem dX7_quickestAt_18 : decode cX7_quickestAt 18 = .ok (.istore_n 2, 1) := by decide +kernel
theorem dX7_quickestAt_19 : decode cX7_quickestAt 19 = .ok (.iconst 0, 1) := by decide +kernel
theorem dX7_quickestAt_20 : decode cX7_quickestAt 20 = .ok (.istore_n 3, 1) := by decide +kernel
theorem dX7_quickestAt_21 : decode cX7_quickestAt 21 = .ok (.iload_n 3, 1) := by decide +kernel
theorem dX7_quickestAt_22 : decode cX7_quickestAt 22 = .ok (.bipush 8, 2) := by decide +kernel
theorem dX7_quickestAt_24 : decode cX7_quickestAt 24 = .ok (.if_icmp .ge 46, 3) := by decide +kernel
theorem dX7_quickestAt_27 : decode cX7_quickestAt 27 = .ok (.aload_n 0, 1) := by decide +kernel
theorem dX7_quickestAt_28 : decode cX7_quickestAt 28 = .ok (.iload_n 1, 1) := by decide +kernel
theorem dX7_quickestAt_29 : decode cX7_quickestAt 29 = .ok (.iload_n 3, 1) := by decide +kernel
theorem dX7_quickestAt_30 : decode cX7_quickestAt 30 = .ok (.invokevirtual 29, 3) := by decide +kernel
theorem dX7_quickestAt_33 : decode cX7_quickestAt 33 = .ok (.ifCond .eq 31, 3) := by decide +kernel
theorem dX7_quickestAt_36 : decode cX7_quickestAt 36 = .ok (.iload_n 2, 1) := by decide +kernel
theorem dX7_quickestAt_37 : decode cX7_quickestAt 37 = .ok (.iconst (-1), 1) := by decide +kernel
theorem dX7_quickestAt_38 : decode cX7_quickestAt 38 = .ok (.if_icmp .eq 24, 3) := by decide +kernel
theorem dX7_quickestAt_41 : decode cX7_quickestAt 41 = .ok (.aload_n 0, 1) := by decide +kernel
theorem dX7_quickestAt_42 : decode cX7_quickestAt 42 = .ok (.getfield 21, 3) := by decide +kernel
theorem dX7_quickestAt_45 : decode cX7_quickestAt 45 = .ok (.getfield 44, 3) := by decide +kernel
theorem dX7_quickestAt_48 : decode cX7_quickestAt 48 = .ok (.iload_n 3, 1) := by decide +kernel
theorem dX7_quickestAt_49 : decode cX7_quickestAt 49 = .ok (.iaload, 1) := by decide +kernel
theorem dX7_quickestAt_50 : decode cX7_quickestAt 50 = .ok (.aload_n 0, 1) := by decide +kernel
theorem dX7_quickestAt_51 : decode cX7_quickestAt 51 = .ok (.getfield 21, 3) := by decide +kernel
theorem dX7_quickestAt_54 : decode cX7_quickestAt 54 = .ok (.getfield 44, 3) := by decide +kernel
theorem dX7_quickestAt_57 : decode cX7_quickestAt 57 = .ok (.iload_n 2, 1) := by decide +kernel
theorem dX7_quickestAt_58 : decode cX7_quickestAt 58 = .ok (.iaload, 1) := by decide +kernel
theorem dX7_quickestAt_59 : decode cX7_quickestAt 59 = .ok (.if_icmp .ge 5, 3) := by decide +kernel
theorem dX7_quickestAt_62 : decode cX7_quickestAt 62 = .ok (.iload_n 3, 1) := by decide +kernel
theorem dX7_quickestAt_63 : decode cX7_quickestAt 63 = .ok (.istore_n 2, 1) := by decide +kernel
theorem dX7_quickestAt_64 : decode cX7_quickestAt 64 = .ok (.iinc 3 1, 3) := by decide +kernel
theorem dX7_quickestAt_67 : decode cX7_quickestAt 67 = .ok (.goto (-46), 3) := by decide +kernel
theorem dX7_quickestAt_70 : decode cX7_quickestAt 70 = .ok (.iload_n 2, 1) := by decide +kernel
theorem dX7_quickestAt_71 : decode cX7_quickestAt 71 = .ok (.ireturn, 1) := by decide +kernel
theorem dX7_quickestGraces_0 : decode cX7_quickestGraces 0 = .ok (.iconst 0, 1) := by decide +kernel
theorem dX7_quickestGraces_1 : decode cX7_quickestGraces 1 = .ok (.istore_n 1, 1) := by decide +kernel
theorem dX7_quickestGraces_2 : decode cX7_quickestGraces 2 = .ok (.iconst 0, 1) := by decide +kernel
theorem dX7_quickestGraces_3 : decode cX7_quickestGraces 3 = .ok (.istore_n 2, 1) := by decide +kernel
theorem dX7_quickestGraces_4 : decode cX7_quickestGraces 4 = .ok (.iload_n 2, 1) := by decide +kernel
theorem dX7_quickestGraces_5 : decode cX7_quickestGraces 5 = .ok (.aload_n 0, 1) := by decide +kernel
theorem dX7_quickestGraces_6 : decode cX7_quickestGraces 6 = .ok (.getfield 25, 3) := by decide +kernel
theorem dX7_quickestGraces_9 : decode cX7_quickestGraces 9 = .ok (.if_icmp .ge 36, 3) := by decide +kernel
theorem dX7_quickestGraces_12 : decode cX7_quickestGraces 12 = .ok (.aload_n 0, 1) := by decide +kernel
theorem dX7_quickestGraces_13 : decode cX7_quickestGraces 13 = .ok (.iload_n 2, 1) := by decide +kernel
theorem dX7_quickestGraces_14 : decode cX7_quickestGraces 14 = .ok (.invokevirtual 48, 3) := by decide +kernel
theorem dX7_quickestGraces_17 : decode cX7_quickestGraces 17 = .ok (.istore_n 3, 1) := by decide +kernel
theorem dX7_quickestGraces_18 : decode cX7_quickestGraces 18 = .ok (.iload_n 1, 1) := by decide +kernel
theorem dX7_quickestGraces_19 : decode cX7_quickestGraces 19 = .ok (.iload_n 3, 1) := by decide +kernel
theorem dX7_quickestGraces_20 : decode cX7_quickestGraces 20 = .ok (.iconst (-1), 1) := by decide +kernel
theorem dX7_quickestGraces_21 : decode cX7_quickestGraces 21 = .ok (.if_icmp .ne 7, 3) := by decide +kernel
theorem dX7_quickestGraces_24 : decode cX7_quickestGraces 24 = .ok (.iconst 0, 1) := by decide +kernel
theorem dX7_quickestGraces_25 : decode cX7_quickestGraces 25 = .ok (.goto 12, 3) := by decide +kernel
theorem dX7_quickestGraces_28 : decode cX7_quickestGraces 28 = .ok (.aload_n 0, 1) := by decide +kernel
theorem dX7_quickestGraces_29 : decode cX7_quickestGraces 29 = .ok (.getfield 21, 3) := by decide +kernel
theorem dX7_quickestGraces_32 : decode cX7_quickestGraces 32 = .ok (.getfield 44, 3) := by decide +kernel
theorem dX7_quickestGraces_35 : decode cX7_quickestGraces 35 = .ok (.iload_n 3, 1) := by decide +kernel
theorem dX7_quickestGraces_36 : decode cX7_quickestGraces 36 = .ok (.iaload, 1) := by decide +kernel
theorem dX7_quickestGraces_37 : decode cX7_quickestGraces 37 = .ok (.iadd, 1) := by decide +kernel
theorem dX7_quickestGraces_38 : decode cX7_quickestGraces 38 = .ok (.istore_n 1, 1) := by decide +kernel
theorem dX7_quickestGraces_39 : decode cX7_quickestGraces 39 = .ok (.iinc 2 1, 3) := by decide +kernel
theorem dX7_quickestGraces_42 : decode cX7_quickestGraces 42 = .ok (.goto (-38), 3) := by decide +kernel
theorem dX7_quickestGraces_45 : decode cX7_quickestGraces 45 = .ok (.iload_n 1, 1) := by decide +kernel
theorem dX7_quickestGraces_46 : decode cX7_quickestGraces 46 = .ok (.ireturn, 1) := by decide +kernel
theorem dX7_waysAt_0 : decode cX7_waysAt 0 = .ok (.aload_n 0, 1) := by decide +kernel
theorem dX7_waysAt_1 : decode cX7_waysAt 1 = .ok (.getfield 18, 3) := by decide +kernel
theorem dX7_waysAt_4 : decode cX7_waysAt 4 = .ok (.iload_n 1, 1) := by decide +kernel
theorem dX7_waysAt_5 : decode cX7_waysAt 5 = .ok (.iaload, 1) := by decide +kernel
theorem dX7_waysAt_6 : decode cX7_waysAt 6 = .ok (.iconst (-1), 1) := by decide +kernel
theorem dX7_waysAt_7 : decode cX7_waysAt 7 = .ok (.if_icmp .eq 23, 3) := by decide +kernel
theorem dX7_waysAt_10 : decode cX7_waysAt 10 = .ok (.aload_n 0, 1) := by decide +kernel
theorem dX7_waysAt_11 : decode cX7_waysAt 11 = .ok (.iload_n 1, 1) := by decide +kernel
theorem dX7_waysAt_12 : decode cX7_waysAt 12 = .ok (.aload_n 0, 1) := by decide +kernel
theorem dX7_waysAt_13 : decode cX7_waysAt 13 = .ok (.getfield 18, 3) := by decide +kernel
theorem dX7_waysAt_16 : decode cX7_waysAt 16 = .ok (.iload_n 1, 1) := by decide +kernel
theorem dX7_waysAt_17 : decode cX7_waysAt 17 = .ok (.iaload, 1) := by decide +kernel
theorem dX7_waysAt_18 : decode cX7_waysAt 18 = .ok (.invokevirtual 29, 3) := by decide +kernel
theorem dX7_waysAt_21 : decode cX7_waysAt 21 = .ok (.ifCond .eq 7, 3) := by decide +kernel
theorem dX7_waysAt_24 : decode cX7_waysAt 24 = .ok (.iconst 1, 1) := by decide +kernel
theorem dX7_waysAt_25 : decode cX7_waysAt 25 = .ok (.goto 4, 3) := by decide +kernel
theorem dX7_waysAt_28 : decode cX7_waysAt 28 = .ok (.iconst 0, 1) := by decide +kernel
theorem dX7_waysAt_29 : decode cX7_waysAt 29 = .ok (.ireturn, 1) := by decide +kernel
theorem dX7_waysAt_30 : decode cX7_waysAt 30 = .ok (.iconst 0, 1) := by decide +kernel
theorem dX7_waysAt_31 : decode cX7_waysAt 31 = .ok (.istore_n 2, 1) := by decide +kernel
theorem dX7_waysAt_32 : decode cX7_waysAt 32 = .ok (.iconst 0, 1) := by decide +kernel
theorem dX7_waysAt_33 : decode cX7_waysAt 33 = .ok (.istore_n 3, 1) := by decide +kernel
theorem dX7_waysAt_34 : decode cX7_waysAt 34 = .ok (.iload_n 3, 1) := by decide +kernel
theorem dX7_waysAt_35 : decode cX7_waysAt 35 = .ok (.bipush 8, 2) := by decide +kernel
theorem dX7_waysAt_37 : decode cX7_waysAt 37 = .ok (.if_icmp .ge 21, 3) := by decide +kernel
theorem dX7_waysAt_40 : decode cX7_waysAt 40 = .ok (.aload_n 0, 1) := by decide +kernel
theorem dX7_waysAt_41 : decode cX7_waysAt 41 = .ok (.iload_n 1, 1) := by decide +kernel
theorem dX7_waysAt_42 : decode cX7_waysAt 42 = .ok (.iload_n 3, 1) := by decide +kernel
theorem dX7_waysAt_43 : decode cX7_waysAt 43 = .ok (.invokevirtual 29, 3) := by decide +kernel
theorem dX7_waysAt_46 : decode cX7_waysAt 46 = .ok (.ifCond .eq 6, 3) := by decide +kernel
theorem dX7_waysAt_49 : decode cX7_waysAt 49 = .ok (.iinc 2 1, 3) := by decide +kernel
theorem dX7_waysAt_52 : decode cX7_waysAt 52 = .ok (.iinc 3 1, 3) := by decide +kernel
theorem dX7_waysAt_55 : decode cX7_waysAt 55 = .ok (.goto (-21), 3) := by decide +kernel
theorem dX7_waysAt_58 : decode cX7_waysAt 58 = .ok (.iload_n 2, 1) := by decide +kernel
theorem dX7_waysAt_59 : decode cX7_waysAt 59 = .ok (.ireturn, 1) := by decide +kernel
theorem dX7_holdsWith_0 : decode cX7_holdsWith 0 = .ok (.iload_n 1, 1) := by decide +kernel
theorem dX7_holdsWith_1 : decode cX7_holdsWith 1 = .ok (.ifCond .ne 7, 3) := by decide +kernel
theorem dX7_holdsWith_4 : decode cX7_holdsWith 4 = .ok (.iconst (-1), 1) := by decide +kernel
theorem dX7_holdsWith_5 : decode cX7_holdsWith 5 = .ok (.goto 11, 3) := by decide +kernel
theorem dX7_holdsWith_8 : decode cX7_holdsWith 8 = .ok (.aload_n 0, 1) := by decide +kernel
theorem dX7_holdsWith_9 : decode cX7_holdsWith 9 = .ok (.getfield 9, 3) := by decide +kernel
theorem dX7_holdsWith_12 : decode cX7_holdsWith 12 = .ok (.iload_n 1, 1) := by decide +kernel
theorem dX7_holdsWith_13 : decode cX7_holdsWith 13 = .ok (.iconst 1, 1) := by decide +kernel
theorem dX7_holdsWith_14 : decode cX7_holdsWith 14 = .ok (.isub, 1) := by decide +kernel
theorem dX7_holdsWith_15 : decode cX7_holdsWith 15 = .ok (.iaload, 1) := by decide +kernel
theorem dX7_holdsWith_16 : decode cX7_holdsWith 16 = .ok (.istore_n 3, 1) := by decide +kernel
theorem dX7_holdsWith_17 : decode cX7_holdsWith 17 = .ok (.aload_n 0, 1) := by decide +kernel
theorem dX7_holdsWith_18 : decode cX7_holdsWith 18 = .ok (.getfield 21, 3) := by decide +kernel
theorem dX7_holdsWith_21 : decode cX7_holdsWith 21 = .ok (.iload_n 2, 1) := by decide +kernel
theorem dX7_holdsWith_22 : decode cX7_holdsWith 22 = .ok (.iload_n 3, 1) := by decide +kernel
theorem dX7_holdsWith_23 : decode cX7_holdsWith 23 = .ok (.aload_n 0, 1) := by decide +kernel
theorem dX7_holdsWith_24 : decode cX7_holdsWith 24 = .ok (.getfield 9, 3) := by decide +kernel
theorem dX7_holdsWith_27 : decode cX7_holdsWith 27 = .ok (.iload_n 1, 1) := by decide +kernel
theorem dX7_holdsWith_28 : decode cX7_holdsWith 28 = .ok (.iaload, 1) := by decide +kernel
theorem dX7_holdsWith_29 : decode cX7_holdsWith 29 = .ok (.invokevirtual 51, 3) := by decide +kernel
theorem dX7_holdsWith_32 : decode cX7_holdsWith 32 = .ok (.ifCond .eq 24, 3) := by decide +kernel
theorem dX7_holdsWith_35 : decode cX7_holdsWith 35 = .ok (.aload_n 0, 1) := by decide +kernel
theorem dX7_holdsWith_36 : decode cX7_holdsWith 36 = .ok (.getfield 21, 3) := by decide +kernel
theorem dX7_holdsWith_39 : decode cX7_holdsWith 39 = .ok (.iload_n 2, 1) := by decide +kernel
theorem dX7_holdsWith_40 : decode cX7_holdsWith 40 = .ok (.aload_n 0, 1) := by decide +kernel
theorem dX7_holdsWith_41 : decode cX7_holdsWith 41 = .ok (.getfield 15, 3) := by decide +kernel
theorem dX7_holdsWith_44 : decode cX7_holdsWith 44 = .ok (.iload_n 1, 1) := by decide +kernel
theorem dX7_holdsWith_45 : decode cX7_holdsWith 45 = .ok (.iaload, 1) := by decide +kernel
theorem dX7_holdsWith_46 : decode cX7_holdsWith 46 = .ok (.invokevirtual 55, 3) := by decide +kernel
theorem dX7_holdsWith_49 : decode cX7_holdsWith 49 = .ok (.ifCond .eq 7, 3) := by decide +kernel
theorem dX7_holdsWith_52 : decode cX7_holdsWith 52 = .ok (.iconst 1, 1) := by decide +kernel
theorem dX7_holdsWith_53 : decode cX7_holdsWith 53 = .ok (.goto 4, 3) := by decide +kernel
theorem dX7_holdsWith_56 : decode cX7_holdsWith 56 = .ok (.iconst 0, 1) := by decide +kernel
theorem dX7_holdsWith_57 : decode cX7_holdsWith 57 = .ok (.ireturn, 1) := by decide +kernel
theorem dX8_init_0 : decode cX8_init 0 = .ok (.aload_n 0, 1) := by decide +kernel
theorem dX8_init_1 : decode cX8_init 1 = .ok (.invokespecial 3, 3) := by decide +kernel
theorem dX8_init_4 : decode cX8_init 4 = .ok (.aload_n 0, 1) := by decide +kernel
theorem dX8_init_5 : decode cX8_init 5 = .ok (.new 9, 3) := by decide +kernel
theorem dX8_init_8 : decode cX8_init 8 = .ok (.dup, 1) := by decide +kernel
theorem dX8_init_9 : decode cX8_init 9 = .ok (.invokespecial 11, 3) := by decide +kernel
theorem dX8_init_12 : decode cX8_init 12 = .ok (.putfield 12, 3) := by decide +kernel
theorem dX8_init_15 : decode cX8_init 15 = .ok (.aload_n 0, 1) := by decide +kernel
theorem dX8_init_16 : decode cX8_init 16 = .ok (.new 16, 3) := by decide +kernel
theorem dX8_init_19 : decode cX8_init 19 = .ok (.dup, 1) := by decide +kernel
theorem dX8_init_20 : decode cX8_init 20 = .ok (.aload_n 0, 1) := by decide +kernel
theorem dX8_init_21 : decode cX8_init 21 = .ok (.getfield 12, 3) := by decide +kernel
theorem dX8_init_24 : decode cX8_init 24 = .ok (.invokespecial 18, 3) := by decide +kernel
theorem dX8_init_27 : decode cX8_init 27 = .ok (.putfield 21, 3) := by decide +kernel
theorem dX8_init_30 : decode cX8_init 30 = .ok (.aload_n 0, 1) := by decide +kernel
theorem dX8_init_31 : decode cX8_init 31 = .ok (.new 25, 3) := by decide +kernel
theorem dX8_init_34 : decode cX8_init 34 = .ok (.dup, 1) := by decide +kernel
theorem dX8_init_35 : decode cX8_init 35 = .ok (.aload_n 0, 1) := by decide +kernel
theorem dX8_init_36 : decode cX8_init 36 = .ok (.getfield 12, 3) := by decide +kernel
theorem dX8_init_39 : decode cX8_init 39 = .ok (.invokespecial 27, 3) := by decide +kernel
theorem dX8_init_42 : decode cX8_init 42 = .ok (.putfield 28, 3) := by decide +kernel
theorem dX8_init_45 : decode cX8_init 45 = .ok (.aload_n 0, 1) := by decide +kernel
theorem dX8_init_46 : decode cX8_init 46 = .ok (.new 32, 3) := by decide +kernel
theorem dX8_init_49 : decode cX8_init 49 = .ok (.dup, 1) := by decide +kernel
theorem dX8_init_50 : decode cX8_init 50 = .ok (.invokespecial 34, 3) := by decide +kernel
theorem dX8_init_53 : decode cX8_init 53 = .ok (.putfield 35, 3) := by decide +kernel
theorem dX8_init_56 : decode cX8_init 56 = .ok (.aload_n 0, 1) := by decide +kernel
theorem dX8_init_57 : decode cX8_init 57 = .ok (.new 39, 3) := by decide +kernel
theorem dX8_init_60 : decode cX8_init 60 = .ok (.dup, 1) := by decide +kernel
theorem dX8_init_61 : decode cX8_init 61 = .ok (.aload_n 0, 1) := by decide +kernel
theorem dX8_init_62 : decode cX8_init 62 = .ok (.getfield 35, 3) := by decide +kernel
theorem dX8_init_65 : decode cX8_init 65 = .ok (.invokespecial 41, 3) := by decide +kernel
theorem dX8_init_68 : decode cX8_init 68 = .ok (.putfield 44, 3) := by decide +kernel
theorem dX8_init_71 : decode cX8_init 71 = .ok (.aload_n 0, 1) := by decide +kernel
theorem dX8_init_72 : decode cX8_init 72 = .ok (.new 48, 3) := by decide +kernel
theorem dX8_init_75 : decode cX8_init 75 = .ok (.dup, 1) := by decide +kernel
theorem dX8_init_76 : decode cX8_init 76 = .ok (.aload_n 0, 1) := by decide +kernel
theorem dX8_init_77 : decode cX8_init 77 = .ok (.getfield 35, 3) := by decide +kernel
theorem dX8_init_80 : decode cX8_init 80 = .ok (.invokespecial 50, 3) := by decide +kernel
theorem dX8_init_83 : decode cX8_init 83 = .ok (.putfield 51, 3) := by decide +kernel
theorem dX8_init_86 : decode cX8_init 86 = .ok (.aload_n 0, 1) := by decide +kernel
theorem dX8_init_87 : decode cX8_init 87 = .ok (.new 55, 3) := by decide +kernel
theorem dX8_init_90 : decode cX8_init 90 = .ok (.dup, 1) := by decide +kernel
theorem dX8_init_91 : decode cX8_init 91 = .ok (.invokespecial 57, 3) := by decide +kernel
theorem dX8_init_94 : decode cX8_init 94 = .ok (.putfield 58, 3) := by decide +kernel
theorem dX8_init_97 : decode cX8_init 97 = .ok (.aload_n 0, 1) := by decide +kernel
theorem dX8_init_98 : decode cX8_init 98 = .ok (.new 62, 3) := by decide +kernel
theorem dX8_init_101 : decode cX8_init 101 = .ok (.dup, 1) := by decide +kernel
theorem dX8_init_102 : decode cX8_init 102 = .ok (.invokespecial 64, 3) := by decide +kernel
theorem dX8_init_105 : decode cX8_init 105 = .ok (.putfield 65, 3) := by decide +kernel
theorem dX8_init_108 : decode cX8_init 108 = .ok (.return_, 1) := by decide +kernel
theorem dX8_movement_0 : decode cX8_movement 0 = .ok (.iload_n 1, 1) := by decide +kernel
theorem dX8_movement_1 : decode cX8_movement 1 = .ok (.invokestatic 69, 3) := by decide +kernel
theorem dX8_movement_4 : decode cX8_movement 4 = .ok (.ifCond .ne 6, 3) := by decide +kernel
theorem dX8_movement_7 : decode cX8_movement 7 = .ok (.bipush (-2), 2) := by decide +kernel
theorem dX8_movement_9 : decode cX8_movement 9 = .ok (.ireturn, 1) := by decide +kernel
theorem dX8_movement_10 : decode cX8_movement 10 = .ok (.iload_n 2, 1) := by decide +kernel
theorem dX8_movement_11 : decode cX8_movement 11 = .ok (.iconst 0, 1) := by decide +kernel
theorem dX8_movement_12 : decode cX8_movement 12 = .ok (.iconst 4, 1) := by decide +kernel
theorem dX8_movement_13 : decode cX8_movement 13 = .ok (.invokestatic 73, 3) := by decide +kernel
theorem dX8_movement_16 : decode cX8_movement 16 = .ok (.ifCond .eq 13, 3) := by decide +kernel
theorem dX8_movement_19 : decode cX8_movement 19 = .ok (.iload_n 3, 1) := by decide +kernel
theorem dX8_movement_20 : decode cX8_movement 20 = .ok (.iload_n 2, 1) := by decide +kernel
theorem dX8_movement_21 : decode cX8_movement 21 = .ok (.bipush 8, 2) := by decide +kernel
theorem dX8_movement_23 : decode cX8_movement 23 = .ok (.invokestatic 77, 3) := by decide +kernel
theorem dX8_movement_26 : decode cX8_movement 26 = .ok (.ifCond .ne 6, 3) := by decide +kernel
theorem dX8_movement_29 : decode cX8_movement 29 = .ok (.bipush (-3), 2) := by decide +kernel
theorem dX8_movement_31 : decode cX8_movement 31 = .ok (.ireturn, 1) := by decide +kernel
theorem dX8_movement_32 : decode cX8_movement 32 = .ok (.aload_n 0, 1) := by decide +kernel
theorem dX8_movement_33 : decode cX8_movement 33 = .ok (.getfield 12, 3) := by decide +kernel
theorem dX8_movement_36 : decode cX8_movement 36 = .ok (.iload_n 1, 1) := by decide +kernel
theorem dX8_movement_37 : decode cX8_movement 37 = .ok (.iload_n 2, 1) := by decide +kernel
theorem dX8_movement_38 : decode cX8_movement 38 = .ok (.iload_n 3, 1) := by decide +kernel
theorem dX8_movement_39 : decode cX8_movement 39 = .ok (.invokevirtual 80, 3) := by decide +kernel
theorem dX8_movement_42 : decode cX8_movement 42 = .ok (.iconst 1, 1) := by decide +kernel
theorem dX8_movement_43 : decode cX8_movement 43 = .ok (.ireturn, 1) := by decide +kernel
theorem dX8_may_0 : decode cX8_may 0 = .ok (.iload_n 1, 1) := by decide +kernel
theorem dX8_may_1 : decode cX8_may 1 = .ok (.invokestatic 69, 3) := by decide +kernel
theorem dX8_may_4 : decode cX8_may 4 = .ok (.ifCond .ne 6, 3) := by decide +kernel
theorem dX8_may_7 : decode cX8_may 7 = .ok (.bipush (-2), 2) := by decide +kernel
theorem dX8_may_9 : decode cX8_may 9 = .ok (.ireturn, 1) := by decide +kernel
theorem dX8_may_10 : decode cX8_may 10 = .ok (.iload_n 2, 1) := by decide +kernel
theorem dX8_may_11 : decode cX8_may 11 = .ok (.iconst 0, 1) := by decide +kernel
theorem dX8_may_12 : decode cX8_may 12 = .ok (.iconst 1, 1) := by decide +kernel
theorem dX8_may_13 : decode cX8_may 13 = .ok (.invokestatic 73, 3) := by decide +kernel
theorem dX8_may_16 : decode cX8_may 16 = .ok (.ifCond .eq 14, 3) := by decide +kernel
theorem dX8_may_19 : decode cX8_may 19 = .ok (.iload_n 3, 1) := by decide +kernel
theorem dX8_may_20 : decode cX8_may 20 = .ok (.iconst 0, 1) := by decide +kernel
theorem dX8_may_21 : decode cX8_may 21 = .ok (.sipush 511, 3) := by decide +kernel
theorem dX8_may_24 : decode cX8_may 24 = .ok (.invokestatic 73, 3) := by decide +kernel
theorem dX8_may_27 : decode cX8_may 27 = .ok (.ifCond .ne 6, 3) := by decide +kernel
theorem dX8_may_30 : decode cX8_may 30 = .ok (.bipush (-3), 2) := by decide +kernel
theorem dX8_may_32 : decode cX8_may 32 = .ok (.ireturn, 1) := by decide +kernel
theorem dX8_may_33 : decode cX8_may 33 = .ok (.iload_n 2, 1) := by decide +kernel
theorem dX8_may_34 : decode cX8_may 34 = .ok (.ifCond .ne 13, 3) := by decide +kernel
theorem dX8_may_37 : decode cX8_may 37 = .ok (.aload_n 0, 1) := by decide +kernel
theorem dX8_may_38 : decode cX8_may 38 = .ok (.getfield 12, 3) := by decide +kernel
theorem dX8_may_41 : decode cX8_may 41 = .ok (.getfield 84, 3) := by decide +kernel
theorem dX8_may_44 : decode cX8_may 44 = .ok (.goto 10, 3) := by decide +kernel
theorem dX8_may_47 : decode cX8_may 47 = .ok (.aload_n 0, 1) := by decide +kernel
theorem dX8_may_48 : decode cX8_may 48 = .ok (.getfield 12, 3) := by decide +kernel
theorem dX8_may_51 : decode cX8_may 51 = .ok (.getfield 88, 3) := by decide +kernel
theorem dX8_may_54 : decode cX8_may 54 = .ok (.iload_n 1, 1) := by decide +kernel
theorem dX8_may_55 : decode cX8_may 55 = .ok (.iload_n 3, 1) := by decide +kernel
theorem dX8_may_56 : decode cX8_may 56 = .ok (.invokestatic 91, 3) := by decide +kernel
theorem dX8_may_59 : decode cX8_may 59 = .ok (.ireturn, 1) := by decide +kernel
theorem dX8_beat_0 : decode cX8_beat 0 = .ok (.iload_n 1, 1) := by decide +kernel
theorem dX8_beat_1 : decode cX8_beat 1 = .ok (.iconst 1, 1) := by decide +kernel
theorem dX8_beat_2 : decode cX8_beat 2 = .ok (.iconst 3, 1) := by decide +kernel
theorem dX8_beat_3 : decode cX8_beat 3 = .ok (.invokestatic 73, 3) := by decide +kernel
theorem dX8_beat_6 : decode cX8_beat 6 = .ok (.ifCond .ne 6, 3) := by decide +kernel
theorem dX8_beat_9 : decode cX8_beat 9 = .ok (.bipush (-3), 2) := by decide +kernel
theorem dX8_beat_11 : decode cX8_beat 11 = .ok (.ireturn, 1) := by decide +kernel
theorem dX8_beat_12 : decode cX8_beat 12 = .ok (.aload_n 0, 1) := by decide +kernel
theorem dX8_beat_13 : decode cX8_beat 13 = .ok (.getfield 12, 3) := by decide +kernel
theorem dX8_beat_16 : decode cX8_beat 16 = .ok (.getfield 95, 3) := by decide +kernel
theorem dX8_beat_19 : decode cX8_beat 19 = .ok (.istore_n 2, 1) := by decide +kernel
theorem dX8_beat_20 : decode cX8_beat 20 = .ok (.aload_n 0, 1) := by decide +kernel
theorem dX8_beat_21 : decode cX8_beat 21 = .ok (.getfield 12, 3) := by decide +kernel
theorem dX8_beat_24 : decode cX8_beat 24 = .ok (.iload_n 1, 1) := by decide +kernel
theorem dX8_beat_25 : decode cX8_beat 25 = .ok (.putfield 95, 3) := by decide +kernel
theorem dX8_beat_28 : decode cX8_beat 28 = .ok (.iload_n 2, 1) := by decide +kernel
theorem dX8_beat_29 : decode cX8_beat 29 = .ok (.ireturn, 1) := by decide +kernel
theorem dX8_fits_0 : decode cX8_fits 0 = .ok (.iload_n 1, 1) := by decide +kernel
theorem dX8_fits_1 : decode cX8_fits 1 = .ok (.invokestatic 69, 3) := by decide +kernel
theorem dX8_fits_4 : decode cX8_fits 4 = .ok (.ifCond .eq 22, 3) := by decide +kernel
theorem dX8_fits_7 : decode cX8_fits 7 = .ok (.iload_n 3, 1) := by decide +kernel
theorem dX8_fits_8 : decode cX8_fits 8 = .ok (.invokestatic 99, 3) := by decide +kernel
theorem dX8_fits_11 : decode cX8_fits 11 = .ok (.ifCond .eq 15, 3) := by decide +kernel
theorem dX8_fits_14 : decode cX8_fits 14 = .ok (.iload_n 2, 1) := by decide +kernel
theorem dX8_fits_15 : decode cX8_fits 15 = .ok (.iconst (-1), 1) := by decide +kernel
theorem dX8_fits_16 : decode cX8_fits 16 = .ok (.if_icmp .eq 13, 3) := by decide +kernel
theorem dX8_fits_19 : decode cX8_fits 19 = .ok (.iload_n 2, 1) := by decide +kernel
theorem dX8_fits_20 : decode cX8_fits 20 = .ok (.invokestatic 99, 3) := by decide +kernel
theorem dX8_fits_23 : decode cX8_fits 23 = .ok (.ifCond .ne 6, 3) := by decide +kernel
theorem dX8_fits_26 : decode cX8_fits 26 = .ok (.bipush (-2), 2) := by decide +kernel
theorem dX8_fits_28 : decode cX8_fits 28 = .ok (.ireturn, 1) := by decide +kernel
theorem dX8_fits_29 : decode cX8_fits 29 = .ok (.aload_n 0, 1) := by decide +kernel
theorem dX8_fits_30 : decode cX8_fits 30 = .ok (.getfield 12, 3) := by decide +kernel
theorem dX8_fits_33 : decode cX8_fits 33 = .ok (.iload_n 1, 1) := by decide +kernel
theorem dX8_fits_34 : decode cX8_fits 34 = .ok (.iload_n 2, 1) := by decide +kernel
theorem dX8_fits_35 : decode cX8_fits 35 = .ok (.iload_n 3, 1) := by decide +kernel
theorem dX8_fits_36 : decode cX8_fits 36 = .ok (.invokevirtual 102, 3) := by decide +kernel
theorem dX8_fits_39 : decode cX8_fits 39 = .ok (.ifCond .eq 7, 3) := by decide +kernel
theorem dX8_fits_42 : decode cX8_fits 42 = .ok (.iconst 1, 1) := by decide +kernel
theorem dX8_fits_43 : decode cX8_fits 43 = .ok (.goto 4, 3) := by decide +kernel
theorem dX8_fits_46 : decode cX8_fits 46 = .ok (.iconst 0, 1) := by decide +kernel
theorem dX8_fits_47 : decode cX8_fits 47 = .ok (.ireturn, 1) := by decide +kernel
theorem dX8_step_0 : decode cX8_step 0 = .ok (.iload_n 1, 1) := by decide +kernel
theorem dX8_step_1 : decode cX8_step 1 = .ok (.invokestatic 99, 3) := by decide +kernel
theorem dX8_step_4 : decode cX8_step 4 = .ok (.ifCond .eq 10, 3) := by decide +kernel
theorem dX8_step_7 : decode cX8_step 7 = .ok (.iload_n 3, 1) := by decide +kernel
theorem dX8_step_8 : decode cX8_step 8 = .ok (.invokestatic 105, 3) := by decide +kernel
theorem dX8_step_11 : decode cX8_step 11 = .ok (.ifCond .ne 6, 3) := by decide +kernel
theorem dX8_step_14 : decode cX8_step 14 = .ok (.bipush (-2), 2) := by decide +kernel
theorem dX8_step_16 : decode cX8_step 16 = .ok (.ireturn, 1) := by decide +kernel
theorem dX8_step_17 : decode cX8_step 17 = .ok (.iload_n 2, 1) := by decide +kernel
theorem dX8_step_18 : decode cX8_step 18 = .ok (.iconst 1, 1) := by decide +kernel
theorem dX8_step_19 : decode cX8_step 19 = .ok (.bipush 9, 2) := by decide +kernel
theorem dX8_step_21 : decode cX8_step 21 = .ok (.invokestatic 73, 3) := by decide +kernel
theorem dX8_step_24 : decode cX8_step 24 = .ok (.ifCond .ne 6, 3) := by decide +kernel
theorem dX8_step_27 : decode cX8_step 27 = .ok (.bipush (-3), 2) := by decide +kernel
theorem dX8_step_29 : decode cX8_step 29 = .ok (.ireturn, 1) := by decide +kernel
theorem dX8_step_30 : decode cX8_step 30 = .ok (.aload_n 0, 1) := by decide +kernel
theorem dX8_step_31 : decode cX8_step 31 = .ok (.getfield 21, 3) := by decide +kernel
theorem dX8_step_34 : decode cX8_step 34 = .ok (.getfield 108, 3) := by decide +kernel
theorem dX8_step_37 : decode cX8_step 37 = .ok (.bipush 24, 2) := by decide +kernel
theorem dX8_step_39 : decode cX8_step 39 = .ok (.if_icmp .lt 6, 3) := by decide +kernel
theorem dX8_step_42 : decode cX8_step 42 = .ok (.bipush (-5), 2) := by decide +kernel
theorem dX8_step_44 : decode cX8_step 44 = .ok (.ireturn, 1) := by decide +kernel
theorem dX8_step_45 : decode cX8_step 45 = .ok (.aload_n 0, 1) := by decide +kernel
theorem dX8_step_46 : decode cX8_step 46 = .ok (.getfield 21, 3) := by decide +kernel
theorem dX8_step_49 : decode cX8_step 49 = .ok (.iload_n 1, 1) := by decide +kernel
theorem dX8_step_50 : decode cX8_step 50 = .ok (.iload_n 2, 1) := by decide +kernel
theorem dX8_step_51 : decode cX8_step 51 = .ok (.iload_n 3, 1) := by decide +kernel
theorem dX8_step_52 : decode cX8_step 52 = .ok (.invokevirtual 111, 3) := by decide +kernel
theorem dX8_step_55 : decode cX8_step 55 = .ok (.ireturn, 1) := by decide +kernel
theorem dX8_put_0 : decode cX8_put 0 = .ok (.aload_n 0, 1) := by decide +kernel
theorem dX8_put_1 : decode cX8_put 1 = .ok (.iload_n 1, 1) := by decide +kernel
theorem dX8_put_2 : decode cX8_put 2 = .ok (.invokevirtual 115, 3) := by decide +kernel
theorem dX8_put_5 : decode cX8_put 5 = .ok (.ifCond .eq 10, 3) := by decide +kernel
theorem dX8_put_8 : decode cX8_put 8 = .ok (.iload_n 2, 1) := by decide +kernel
theorem dX8_put_9 : decode cX8_put 9 = .ok (.invokestatic 105, 3) := by decide +kernel
theorem dX8_put_12 : decode cX8_put 12 = .ok (.ifCond .ne 6, 3) := by decide +kernel
theorem dX8_put_15 : decode cX8_put 15 = .ok (.bipush (-2), 2) := by decide +kernel
theorem dX8_put_17 : decode cX8_put 17 = .ok (.ireturn, 1) := by decide +kernel
theorem dX8_put_18 : decode cX8_put 18 = .ok (.aload_n 0, 1) := by decide +kernel
theorem dX8_put_19 : decode cX8_put 19 = .ok (.getfield 21, 3) := by decide +kernel
theorem dX8_put_22 : decode cX8_put 22 = .ok (.getfield 118, 3) := by decide +kernel
theorem dX8_put_25 : decode cX8_put 25 = .ok (.iload_n 1, 1) := by decide +kernel
theorem dX8_put_26 : decode cX8_put 26 = .ok (.iload_n 2, 1) := by decide +kernel
theorem dX8_put_27 : decode cX8_put 27 = .ok (.invokestatic 91, 3) := by decide +kernel
theorem dX8_put_30 : decode cX8_put 30 = .ok (.ireturn, 1) := by decide +kernel
theorem dX8_back_0 : decode cX8_back 0 = .ok (.aload_n 0, 1) := by decide +kernel
theorem dX8_back_1 : decode cX8_back 1 = .ok (.getfield 21, 3) := by decide +kernel
theorem dX8_back_4 : decode cX8_back 4 = .ok (.getfield 108, 3) := by decide +kernel
theorem dX8_back_7 : decode cX8_back 7 = .ok (.ifCond .ne 6, 3) := by decide +kernel
theorem dX8_back_10 : decode cX8_back 10 = .ok (.bipush (-4), 2) := by decide +kernel
theorem dX8_back_12 : decode cX8_back 12 = .ok (.ireturn, 1) := by decide +kernel
theorem dX8_back_13 : decode cX8_back 13 = .ok (.aload_n 0, 1) := by decide +kernel
theorem dX8_back_14 : decode cX8_back 14 = .ok (.getfield 21, 3) := by decide +kernel
theorem dX8_back_17 : decode cX8_back 17 = .ok (.dup, 1) := by decide +kernel
theorem dX8_back_18 : decode cX8_back 18 = .ok (.getfield 108, 3) := by decide +kernel
theorem dX8_back_21 : decode cX8_back 21 = .ok (.iconst 1, 1) := by decide +kernel
theorem dX8_back_22 : decode cX8_back 22 = .ok (.isub, 1) := by decide +kernel
theorem dX8_back_23 : decode cX8_back 23 = .ok (.putfield 108, 3) := by decide +kernel
theorem dX8_back_26 : decode cX8_back 26 = .ok (.aload_n 0, 1) := by decide +kernel
theorem dX8_back_27 : decode cX8_back 27 = .ok (.getfield 21, 3) := by decide +kernel
theorem dX8_back_30 : decode cX8_back 30 = .ok (.getfield 108, 3) := by decide +kernel
theorem dX8_back_33 : decode cX8_back 33 = .ok (.ireturn, 1) := by decide +kernel
theorem dX8_wrong_0 : decode cX8_wrong 0 = .ok (.aload_n 0, 1) := by decide +kernel
theorem dX8_wrong_1 : decode cX8_wrong 1 = .ok (.getfield 21, 3) := by decide +kernel
theorem dX8_wrong_4 : decode cX8_wrong 4 = .ok (.invokevirtual 121, 3) := by decide +kernel
theorem dX8_wrong_7 : decode cX8_wrong 7 = .ok (.ireturn, 1) := by decide +kernel
theorem dX8_fillings_0 : decode cX8_fillings 0 = .ok (.aload_n 0, 1) := by decide +kernel
theorem dX8_fillings_1 : decode cX8_fillings 1 = .ok (.getfield 21, 3) := by decide +kernel
theorem dX8_fillings_4 : decode cX8_fillings 4 = .ok (.invokevirtual 125, 3) := by decide +kernel
theorem dX8_fillings_7 : decode cX8_fillings 7 = .ok (.ireturn, 1) := by decide +kernel
theorem dX8_quickest_0 : decode cX8_quickest 0 = .ok (.aload_n 0, 1) := by decide +kernel
theorem dX8_quickest_1 : decode cX8_quickest 1 = .ok (.iload_n 1, 1) := by decide +kernel
theorem dX8_quickest_2 : decode cX8_quickest 2 = .ok (.invokevirtual 115, 3) := by decide +kernel
theorem dX8_quickest_5 : decode cX8_quickest 5 = .ok (.ifCond .ne 6, 3) := by decide +kernel
