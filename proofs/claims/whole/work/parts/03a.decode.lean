theorem dX0_init_0 : decode cX0_init 0 = .ok (.aload_n 0, 1) := by decide +kernel
theorem dX0_init_1 : decode cX0_init 1 = .ok (.invokespecial 3, 3) := by decide +kernel
theorem dX0_init_4 : decode cX0_init 4 = .ok (.aload_n 0, 1) := by decide +kernel
theorem dX0_init_5 : decode cX0_init 5 = .ok (.bipush 9, 2) := by decide +kernel
theorem dX0_init_7 : decode cX0_init 7 = .ok (.newarray .int, 2) := by decide +kernel
theorem dX0_init_9 : decode cX0_init 9 = .ok (.putfield 9, 3) := by decide +kernel
theorem dX0_init_12 : decode cX0_init 12 = .ok (.return_, 1) := by decide +kernel
theorem dX0_harshness_0 : decode cX0_harshness 0 = .ok (.iconst 0, 1) := by decide +kernel
theorem dX0_harshness_1 : decode cX0_harshness 1 = .ok (.istore_n 3, 1) := by decide +kernel
theorem dX0_harshness_2 : decode cX0_harshness 2 = .ok (.iconst 0, 1) := by decide +kernel
theorem dX0_harshness_3 : decode cX0_harshness 3 = .ok (.istore 4, 2) := by decide +kernel
theorem dX0_harshness_5 : decode cX0_harshness 5 = .ok (.iload 4, 2) := by decide +kernel
theorem dX0_harshness_7 : decode cX0_harshness 7 = .ok (.bipush 9, 2) := by decide +kernel
theorem dX0_harshness_9 : decode cX0_harshness 9 = .ok (.if_icmp .ge 26, 3) := by decide +kernel
theorem dX0_harshness_12 : decode cX0_harshness 12 = .ok (.iload_n 3, 1) := by decide +kernel
theorem dX0_harshness_13 : decode cX0_harshness 13 = .ok (.aload_n 0, 1) := by decide +kernel
theorem dX0_harshness_14 : decode cX0_harshness 14 = .ok (.getfield 9, 3) := by decide +kernel
theorem dX0_harshness_17 : decode cX0_harshness 17 = .ok (.iload 4, 2) := by decide +kernel
theorem dX0_harshness_19 : decode cX0_harshness 19 = .ok (.iaload, 1) := by decide +kernel
theorem dX0_harshness_20 : decode cX0_harshness 20 = .ok (.iload_n 2, 1) := by decide +kernel
theorem dX0_harshness_21 : decode cX0_harshness 21 = .ok (.iadd, 1) := by decide +kernel
theorem dX0_harshness_22 : decode cX0_harshness 22 = .ok (.iload_n 1, 1) := by decide +kernel
theorem dX0_harshness_23 : decode cX0_harshness 23 = .ok (.isub, 1) := by decide +kernel
theorem dX0_harshness_24 : decode cX0_harshness 24 = .ok (.invokestatic 15, 3) := by decide +kernel
theorem dX0_harshness_27 : decode cX0_harshness 27 = .ok (.iadd, 1) := by decide +kernel
theorem dX0_harshness_28 : decode cX0_harshness 28 = .ok (.istore_n 3, 1) := by decide +kernel
theorem dX0_harshness_29 : decode cX0_harshness 29 = .ok (.iinc 4 1, 3) := by decide +kernel
theorem dX0_harshness_32 : decode cX0_harshness 32 = .ok (.goto (-27), 3) := by decide +kernel
theorem dX0_harshness_35 : decode cX0_harshness 35 = .ok (.iload_n 3, 1) := by decide +kernel
theorem dX0_harshness_36 : decode cX0_harshness 36 = .ok (.ireturn, 1) := by decide +kernel
theorem dX0_mildest_0 : decode cX0_mildest 0 = .ok (.sipush (-999), 3) := by decide +kernel
theorem dX0_mildest_3 : decode cX0_mildest 3 = .ok (.sipush 999, 3) := by decide +kernel
theorem dX0_mildest_6 : decode cX0_mildest 6 = .ok (.aload_n 0, 1) := by decide +kernel
theorem dX0_mildest_7 : decode cX0_mildest 7 = .ok (.invokevirtual 21, 3) := by decide +kernel
theorem dX0_mildest_10 : decode cX0_mildest 10 = .ok (.iload_n 1, 1) := by decide +kernel
theorem dX0_mildest_11 : decode cX0_mildest 11 = .ok (.iadd, 1) := by decide +kernel
theorem dX0_mildest_12 : decode cX0_mildest 12 = .ok (.invokestatic 25, 3) := by decide +kernel
theorem dX0_mildest_15 : decode cX0_mildest 15 = .ok (.invokestatic 29, 3) := by decide +kernel
theorem dX0_mildest_18 : decode cX0_mildest 18 = .ok (.ireturn, 1) := by decide +kernel
theorem dX0_middleTone_0 : decode cX0_middleTone 0 = .ok (.iconst 0, 1) := by decide +kernel
theorem dX0_middleTone_1 : decode cX0_middleTone 1 = .ok (.istore_n 1, 1) := by decide +kernel
theorem dX0_middleTone_2 : decode cX0_middleTone 2 = .ok (.iload_n 1, 1) := by decide +kernel
theorem dX0_middleTone_3 : decode cX0_middleTone 3 = .ok (.bipush 9, 2) := by decide +kernel
theorem dX0_middleTone_5 : decode cX0_middleTone 5 = .ok (.if_icmp .ge 94, 3) := by decide +kernel
theorem dX0_middleTone_8 : decode cX0_middleTone 8 = .ok (.iconst 0, 1) := by decide +kernel
theorem dX0_middleTone_9 : decode cX0_middleTone 9 = .ok (.istore_n 2, 1) := by decide +kernel
theorem dX0_middleTone_10 : decode cX0_middleTone 10 = .ok (.iconst 0, 1) := by decide +kernel
theorem dX0_middleTone_11 : decode cX0_middleTone 11 = .ok (.istore_n 3, 1) := by decide +kernel
theorem dX0_middleTone_12 : decode cX0_middleTone 12 = .ok (.iconst 0, 1) := by decide +kernel
theorem dX0_middleTone_13 : decode cX0_middleTone 13 = .ok (.istore 4, 2) := by decide +kernel
theorem dX0_middleTone_15 : decode cX0_middleTone 15 = .ok (.iload 4, 2) := by decide +kernel
theorem dX0_middleTone_17 : decode cX0_middleTone 17 = .ok (.bipush 9, 2) := by decide +kernel
theorem dX0_middleTone_19 : decode cX0_middleTone 19 = .ok (.if_icmp .ge 57, 3) := by decide +kernel
theorem dX0_middleTone_22 : decode cX0_middleTone 22 = .ok (.iload_n 2, 1) := by decide +kernel
theorem dX0_middleTone_23 : decode cX0_middleTone 23 = .ok (.aload_n 0, 1) := by decide +kernel
theorem dX0_middleTone_24 : decode cX0_middleTone 24 = .ok (.getfield 9, 3) := by decide +kernel
theorem dX0_middleTone_27 : decode cX0_middleTone 27 = .ok (.iload 4, 2) := by decide +kernel
theorem dX0_middleTone_29 : decode cX0_middleTone 29 = .ok (.iaload, 1) := by decide +kernel
theorem dX0_middleTone_30 : decode cX0_middleTone 30 = .ok (.aload_n 0, 1) := by decide +kernel
theorem dX0_middleTone_31 : decode cX0_middleTone 31 = .ok (.getfield 9, 3) := by decide +kernel
theorem dX0_middleTone_34 : decode cX0_middleTone 34 = .ok (.iload_n 1, 1) := by decide +kernel
theorem dX0_middleTone_35 : decode cX0_middleTone 35 = .ok (.iaload, 1) := by decide +kernel
theorem dX0_middleTone_36 : decode cX0_middleTone 36 = .ok (.if_icmp .ge 7, 3) := by decide +kernel
theorem dX0_middleTone_39 : decode cX0_middleTone 39 = .ok (.iconst 1, 1) := by decide +kernel
theorem dX0_middleTone_40 : decode cX0_middleTone 40 = .ok (.goto 4, 3) := by decide +kernel
theorem dX0_middleTone_43 : decode cX0_middleTone 43 = .ok (.iconst 0, 1) := by decide +kernel
theorem dX0_middleTone_44 : decode cX0_middleTone 44 = .ok (.iadd, 1) := by decide +kernel
theorem dX0_middleTone_45 : decode cX0_middleTone 45 = .ok (.istore_n 2, 1) := by decide +kernel
theorem dX0_middleTone_46 : decode cX0_middleTone 46 = .ok (.iload_n 3, 1) := by decide +kernel
theorem dX0_middleTone_47 : decode cX0_middleTone 47 = .ok (.aload_n 0, 1) := by decide +kernel
theorem dX0_middleTone_48 : decode cX0_middleTone 48 = .ok (.getfield 9, 3) := by decide +kernel
theorem dX0_middleTone_51 : decode cX0_middleTone 51 = .ok (.iload 4, 2) := by decide +kernel
theorem dX0_middleTone_53 : decode cX0_middleTone 53 = .ok (.iaload, 1) := by decide +kernel
theorem dX0_middleTone_54 : decode cX0_middleTone 54 = .ok (.aload_n 0, 1) := by decide +kernel
theorem dX0_middleTone_55 : decode cX0_middleTone 55 = .ok (.getfield 9, 3) := by decide +kernel
theorem dX0_middleTone_58 : decode cX0_middleTone 58 = .ok (.iload_n 1, 1) := by decide +kernel
theorem dX0_middleTone_59 : decode cX0_middleTone 59 = .ok (.iaload, 1) := by decide +kernel
theorem dX0_middleTone_60 : decode cX0_middleTone 60 = .ok (.if_icmp .gt 7, 3) := by decide +kernel
theorem dX0_middleTone_63 : decode cX0_middleTone 63 = .ok (.iconst 1, 1) := by decide +kernel
theorem dX0_middleTone_64 : decode cX0_middleTone 64 = .ok (.goto 4, 3) := by decide +kernel
theorem dX0_middleTone_67 : decode cX0_middleTone 67 = .ok (.iconst 0, 1) := by decide +kernel
theorem dX0_middleTone_68 : decode cX0_middleTone 68 = .ok (.iadd, 1) := by decide +kernel
theorem dX0_middleTone_69 : decode cX0_middleTone 69 = .ok (.istore_n 3, 1) := by decide +kernel
theorem dX0_middleTone_70 : decode cX0_middleTone 70 = .ok (.iinc 4 1, 3) := by decide +kernel
theorem dX0_middleTone_73 : decode cX0_middleTone 73 = .ok (.goto (-58), 3) := by decide +kernel
theorem dX0_middleTone_76 : decode cX0_middleTone 76 = .ok (.iload_n 2, 1) := by decide +kernel
theorem dX0_middleTone_77 : decode cX0_middleTone 77 = .ok (.iconst 4, 1) := by decide +kernel
theorem dX0_middleTone_78 : decode cX0_middleTone 78 = .ok (.if_icmp .gt 15, 3) := by decide +kernel
theorem dX0_middleTone_81 : decode cX0_middleTone 81 = .ok (.iload_n 3, 1) := by decide +kernel
theorem dX0_middleTone_82 : decode cX0_middleTone 82 = .ok (.iconst 4, 1) := by decide +kernel
theorem dX0_middleTone_83 : decode cX0_middleTone 83 = .ok (.if_icmp .le 10, 3) := by decide +kernel
theorem dX0_middleTone_86 : decode cX0_middleTone 86 = .ok (.aload_n 0, 1) := by decide +kernel
theorem dX0_middleTone_87 : decode cX0_middleTone 87 = .ok (.getfield 9, 3) := by decide +kernel
theorem dX0_middleTone_90 : decode cX0_middleTone 90 = .ok (.iload_n 1, 1) := by decide +kernel
theorem dX0_middleTone_91 : decode cX0_middleTone 91 = .ok (.iaload, 1) := by decide +kernel
theorem dX0_middleTone_92 : decode cX0_middleTone 92 = .ok (.ireturn, 1) := by decide +kernel
theorem dX0_middleTone_93 : decode cX0_middleTone 93 = .ok (.iinc 1 1, 3) := by decide +kernel
theorem dX0_middleTone_96 : decode cX0_middleTone 96 = .ok (.goto (-94), 3) := by decide +kernel
theorem dX0_middleTone_99 : decode cX0_middleTone 99 = .ok (.iconst 0, 1) := by decide +kernel
theorem dX0_middleTone_100 : decode cX0_middleTone 100 = .ok (.ireturn, 1) := by decide +kernel
theorem dX1_init_0 : decode cX1_init 0 = .ok (.aload_n 0, 1) := by decide +kernel
theorem dX1_init_1 : decode cX1_init 1 = .ok (.invokespecial 3, 3) := by decide +kernel
theorem dX1_init_4 : decode cX1_init 4 = .ok (.aload_n 0, 1) := by decide +kernel
theorem dX1_init_5 : decode cX1_init 5 = .ok (.bipush 16, 2) := by decide +kernel
theorem dX1_init_7 : decode cX1_init 7 = .ok (.newarray .int, 2) := by decide +kernel
theorem dX1_init_9 : decode cX1_init 9 = .ok (.putfield 9, 3) := by decide +kernel
theorem dX1_init_12 : decode cX1_init 12 = .ok (.aload_n 0, 1) := by decide +kernel
theorem dX1_init_13 : decode cX1_init 13 = .ok (.aload_n 1, 1) := by decide +kernel
theorem dX1_init_14 : decode cX1_init 14 = .ok (.putfield 15, 3) := by decide +kernel
theorem dX1_init_17 : decode cX1_init 17 = .ok (.return_, 1) := by decide +kernel
theorem dX1_append_0 : decode cX1_append 0 = .ok (.aload_n 0, 1) := by decide +kernel
theorem dX1_append_1 : decode cX1_append 1 = .ok (.getfield 9, 3) := by decide +kernel
theorem dX1_append_4 : decode cX1_append 4 = .ok (.aload_n 0, 1) := by decide +kernel
theorem dX1_append_5 : decode cX1_append 5 = .ok (.getfield 19, 3) := by decide +kernel
theorem dX1_append_8 : decode cX1_append 8 = .ok (.iload_n 1, 1) := by decide +kernel
theorem dX1_append_9 : decode cX1_append 9 = .ok (.iastore, 1) := by decide +kernel
theorem dX1_append_10 : decode cX1_append 10 = .ok (.aload_n 0, 1) := by decide +kernel
theorem dX1_append_11 : decode cX1_append 11 = .ok (.dup, 1) := by decide +kernel
theorem dX1_append_12 : decode cX1_append 12 = .ok (.getfield 19, 3) := by decide +kernel
theorem dX1_append_15 : decode cX1_append 15 = .ok (.iconst 1, 1) := by decide +kernel
theorem dX1_append_16 : decode cX1_append 16 = .ok (.iadd, 1) := by decide +kernel
theorem dX1_append_17 : decode cX1_append 17 = .ok (.putfield 19, 3) := by decide +kernel
theorem dX1_append_20 : decode cX1_append 20 = .ok (.aload_n 0, 1) := by decide +kernel
theorem dX1_append_21 : decode cX1_append 21 = .ok (.getfield 19, 3) := by decide +kernel
theorem dX1_append_24 : decode cX1_append 24 = .ok (.ireturn, 1) := by decide +kernel
theorem dX1_variationAt_0 : decode cX1_variationAt 0 = .ok (.aload_n 0, 1) := by decide +kernel
theorem dX1_variationAt_1 : decode cX1_variationAt 1 = .ok (.getfield 15, 3) := by decide +kernel
theorem dX1_variationAt_4 : decode cX1_variationAt 4 = .ok (.iload_n 1, 1) := by decide +kernel
theorem dX1_variationAt_5 : decode cX1_variationAt 5 = .ok (.aload_n 0, 1) := by decide +kernel
theorem dX1_variationAt_6 : decode cX1_variationAt 6 = .ok (.getfield 19, 3) := by decide +kernel
theorem dX1_variationAt_9 : decode cX1_variationAt 9 = .ok (.iload_n 2, 1) := by decide +kernel
theorem dX1_variationAt_10 : decode cX1_variationAt 10 = .ok (.iload_n 3, 1) := by decide +kernel
theorem dX1_variationAt_11 : decode cX1_variationAt 11 = .ok (.invokevirtual 23, 3) := by decide +kernel
theorem dX1_variationAt_14 : decode cX1_variationAt 14 = .ok (.istore 4, 2) := by decide +kernel
theorem dX1_variationAt_16 : decode cX1_variationAt 16 = .ok (.iload 4, 2) := by decide +kernel
theorem dX1_variationAt_18 : decode cX1_variationAt 18 = .ok (.bipush 16, 2) := by decide +kernel
theorem dX1_variationAt_20 : decode cX1_variationAt 20 = .ok (.if_icmp .ge 8, 3) := by decide +kernel
theorem dX1_variationAt_23 : decode cX1_variationAt 23 = .ok (.iload 4, 2) := by decide +kernel
theorem dX1_variationAt_25 : decode cX1_variationAt 25 = .ok (.goto 13, 3) := by decide +kernel
theorem dX1_variationAt_28 : decode cX1_variationAt 28 = .ok (.aload_n 0, 1) := by decide +kernel
theorem dX1_variationAt_29 : decode cX1_variationAt 29 = .ok (.getfield 9, 3) := by decide +kernel
theorem dX1_variationAt_32 : decode cX1_variationAt 32 = .ok (.iload 4, 2) := by decide +kernel
theorem dX1_variationAt_34 : decode cX1_variationAt 34 = .ok (.bipush 16, 2) := by decide +kernel
theorem dX1_variationAt_36 : decode cX1_variationAt 36 = .ok (.isub, 1) := by decide +kernel
theorem dX1_variationAt_37 : decode cX1_variationAt 37 = .ok (.iaload, 1) := by decide +kernel
theorem dX1_variationAt_38 : decode cX1_variationAt 38 = .ok (.ireturn, 1) := by decide +kernel
theorem dX2_init_0 : decode cX2_init 0 = .ok (.aload_n 0, 1) := by decide +kernel
theorem dX2_init_1 : decode cX2_init 1 = .ok (.invokespecial 3, 3) := by decide +kernel
theorem dX2_init_4 : decode cX2_init 4 = .ok (.aload_n 0, 1) := by decide +kernel
theorem dX2_init_5 : decode cX2_init 5 = .ok (.bipush 8, 2) := by decide +kernel
theorem dX2_init_7 : decode cX2_init 7 = .ok (.newarray .int, 2) := by decide +kernel
theorem dX2_init_9 : decode cX2_init 9 = .ok (.putfield 9, 3) := by decide +kernel
theorem dX2_init_12 : decode cX2_init 12 = .ok (.aload_n 0, 1) := by decide +kernel
theorem dX2_init_13 : decode cX2_init 13 = .ok (.bipush 8, 2) := by decide +kernel
theorem dX2_init_15 : decode cX2_init 15 = .ok (.iconst 4, 1) := by decide +kernel
theorem dX2_init_16 : decode cX2_init 16 = .ok (.multianewarray 15 2, 4) := by decide +kernel
theorem dX2_init_20 : decode cX2_init 20 = .ok (.putfield 17, 3) := by decide +kernel
theorem dX2_init_23 : decode cX2_init 23 = .ok (.aload_n 0, 1) := by decide +kernel
theorem dX2_init_24 : decode cX2_init 24 = .ok (.bipush 8, 2) := by decide +kernel
theorem dX2_init_26 : decode cX2_init 26 = .ok (.newarray .int, 2) := by decide +kernel
theorem dX2_init_28 : decode cX2_init 28 = .ok (.putfield 20, 3) := by decide +kernel
theorem dX2_init_31 : decode cX2_init 31 = .ok (.aload_n 0, 1) := by decide +kernel
theorem dX2_init_32 : decode cX2_init 32 = .ok (.bipush 8, 2) := by decide +kernel
theorem dX2_init_34 : decode cX2_init 34 = .ok (.newarray .int, 2) := by decide +kernel
theorem dX2_init_36 : decode cX2_init 36 = .ok (.putfield 23, 3) := by decide +kernel
theorem dX2_init_39 : decode cX2_init 39 = .ok (.aload_n 0, 1) := by decide +kernel
theorem dX2_init_40 : decode cX2_init 40 = .ok (.iconst 1, 1) := by decide +kernel
theorem dX2_init_41 : decode cX2_init 41 = .ok (.putfield 26, 3) := by decide +kernel
theorem dX2_init_44 : decode cX2_init 44 = .ok (.aload_n 0, 1) := by decide +kernel
theorem dX2_init_45 : decode cX2_init 45 = .ok (.getfield 20, 3) := by decide +kernel
theorem dX2_init_48 : decode cX2_init 48 = .ok (.iconst 0, 1) := by decide +kernel
theorem dX2_init_49 : decode cX2_init 49 = .ok (.sipush 511, 3) := by decide +kernel
theorem dX2_init_52 : decode cX2_init 52 = .ok (.iastore, 1) := by decide +kernel
theorem dX2_init_53 : decode cX2_init 53 = .ok (.aload_n 0, 1) := by decide +kernel
theorem dX2_init_54 : decode cX2_init 54 = .ok (.getfield 23, 3) := by decide +kernel
theorem dX2_init_57 : decode cX2_init 57 = .ok (.iconst 0, 1) := by decide +kernel
theorem dX2_init_58 : decode cX2_init 58 = .ok (.sipush 511, 3) := by decide +kernel
theorem dX2_init_61 : decode cX2_init 61 = .ok (.iastore, 1) := by decide +kernel
theorem dX2_init_62 : decode cX2_init 62 = .ok (.return_, 1) := by decide +kernel
theorem dX2_become_0 : decode cX2_become 0 = .ok (.aload_n 0, 1) := by decide +kernel
theorem dX2_become_1 : decode cX2_become 1 = .ok (.getfield 9, 3) := by decide +kernel
theorem dX2_become_4 : decode cX2_become 4 = .ok (.iload_n 1, 1) := by decide +kernel
theorem dX2_become_5 : decode cX2_become 5 = .ok (.iload_n 2, 1) := by decide +kernel
theorem dX2_become_6 : decode cX2_become 6 = .ok (.iastore, 1) := by decide +kernel
theorem dX2_become_7 : decode cX2_become 7 = .ok (.iconst 0, 1) := by decide +kernel
theorem dX2_become_8 : decode cX2_become 8 = .ok (.istore 4, 2) := by decide +kernel
theorem dX2_become_10 : decode cX2_become 10 = .ok (.iload 4, 2) := by decide +kernel
theorem dX2_become_12 : decode cX2_become 12 = .ok (.iload_n 2, 1) := by decide +kernel
theorem dX2_become_13 : decode cX2_become 13 = .ok (.if_icmp .ge 24, 3) := by decide +kernel
theorem dX2_become_16 : decode cX2_become 16 = .ok (.aload_n 0, 1) := by decide +kernel
theorem dX2_become_17 : decode cX2_become 17 = .ok (.getfield 17, 3) := by decide +kernel
theorem dX2_become_20 : decode cX2_become 20 = .ok (.iload_n 1, 1) := by decide +kernel
theorem dX2_become_21 : decode cX2_become 21 = .ok (.aaload, 1) := by decide +kernel
theorem dX2_become_22 : decode cX2_become 22 = .ok (.iload 4, 2) := by decide +kernel
theorem dX2_become_24 : decode cX2_become 24 = .ok (.iload_n 3, 1) := by decide +kernel
theorem dX2_become_25 : decode cX2_become 25 = .ok (.iload 4, 2) := by decide +kernel
theorem dX2_become_27 : decode cX2_become 27 = .ok (.invokestatic 30, 3) := by decide +kernel
theorem dX2_become_30 : decode cX2_become 30 = .ok (.iastore, 1) := by decide +kernel
theorem dX2_become_31 : decode cX2_become 31 = .ok (.iinc 4 1, 3) := by decide +kernel
theorem dX2_become_34 : decode cX2_become 34 = .ok (.goto (-24), 3) := by decide +kernel
theorem dX2_become_37 : decode cX2_become 37 = .ok (.return_, 1) := by decide +kernel
theorem dX2_leadsTo_0 : decode cX2_leadsTo 0 = .ok (.iload_n 2, 1) := by decide +kernel
theorem dX2_leadsTo_1 : decode cX2_leadsTo 1 = .ok (.iconst (-1), 1) := by decide +kernel
theorem dX2_leadsTo_2 : decode cX2_leadsTo 2 = .ok (.if_icmp .eq 18, 3) := by decide +kernel
theorem dX2_leadsTo_5 : decode cX2_leadsTo 5 = .ok (.aload_n 0, 1) := by decide +kernel
theorem dX2_leadsTo_6 : decode cX2_leadsTo 6 = .ok (.getfield 20, 3) := by decide +kernel
theorem dX2_leadsTo_9 : decode cX2_leadsTo 9 = .ok (.iload_n 1, 1) := by decide +kernel
theorem dX2_leadsTo_10 : decode cX2_leadsTo 10 = .ok (.iaload, 1) := by decide +kernel
theorem dX2_leadsTo_11 : decode cX2_leadsTo 11 = .ok (.iload_n 2, 1) := by decide +kernel
theorem dX2_leadsTo_12 : decode cX2_leadsTo 12 = .ok (.invokestatic 34, 3) := by decide +kernel
theorem dX2_leadsTo_15 : decode cX2_leadsTo 15 = .ok (.ifCond .ne 5, 3) := by decide +kernel
theorem dX2_leadsTo_18 : decode cX2_leadsTo 18 = .ok (.iconst 0, 1) := by decide +kernel
theorem dX2_leadsTo_19 : decode cX2_leadsTo 19 = .ok (.ireturn, 1) := by decide +kernel
theorem dX2_leadsTo_20 : decode cX2_leadsTo 20 = .ok (.aload_n 0, 1) := by decide +kernel
theorem dX2_leadsTo_21 : decode cX2_leadsTo 21 = .ok (.getfield 9, 3) := by decide +kernel
theorem dX2_leadsTo_24 : decode cX2_leadsTo 24 = .ok (.iload_n 1, 1) := by decide +kernel
theorem dX2_leadsTo_25 : decode cX2_leadsTo 25 = .ok (.iaload, 1) := by decide +kernel
theorem dX2_leadsTo_26 : decode cX2_leadsTo 26 = .ok (.istore_n 3, 1) := by decide +kernel
theorem dX2_leadsTo_27 : decode cX2_leadsTo 27 = .ok (.iload_n 3, 1) := by decide +kernel
theorem dX2_leadsTo_28 : decode cX2_leadsTo 28 = .ok (.ifCond .ne 30, 3) := by decide +kernel
theorem dX2_leadsTo_31 : decode cX2_leadsTo 31 = .ok (.iload_n 2, 1) := by decide +kernel
theorem dX2_leadsTo_32 : decode cX2_leadsTo 32 = .ok (.iconst (-1), 1) := by decide +kernel
theorem dX2_leadsTo_33 : decode cX2_leadsTo 33 = .ok (.if_icmp .ne 12, 3) := by decide +kernel
theorem dX2_leadsTo_36 : decode cX2_leadsTo 36 = .ok (.aload_n 0, 1) := by decide +kernel
theorem dX2_leadsTo_37 : decode cX2_leadsTo 37 = .ok (.getfield 23, 3) := by decide +kernel
theorem dX2_leadsTo_40 : decode cX2_leadsTo 40 = .ok (.iload_n 1, 1) := by decide +kernel
theorem dX2_leadsTo_41 : decode cX2_leadsTo 41 = .ok (.iaload, 1) := by decide +kernel
theorem dX2_leadsTo_42 : decode cX2_leadsTo 42 = .ok (.goto 15, 3) := by decide +kernel
theorem dX2_leadsTo_45 : decode cX2_leadsTo 45 = .ok (.aload_n 0, 1) := by decide +kernel
theorem dX2_leadsTo_46 : decode cX2_leadsTo 46 = .ok (.getfield 23, 3) := by decide +kernel
theorem dX2_leadsTo_49 : decode cX2_leadsTo 49 = .ok (.iload_n 1, 1) := by decide +kernel
theorem dX2_leadsTo_50 : decode cX2_leadsTo 50 = .ok (.iaload, 1) := by decide +kernel
theorem dX2_leadsTo_51 : decode cX2_leadsTo 51 = .ok (.iconst 1, 1) := by decide +kernel
theorem dX2_leadsTo_52 : decode cX2_leadsTo 52 = .ok (.iload_n 2, 1) := by decide +kernel
theorem dX2_leadsTo_53 : decode cX2_leadsTo 53 = .ok (.ishl, 1) := by decide +kernel
theorem dX2_leadsTo_54 : decode cX2_leadsTo 54 = .ok (.iconst (-1), 1) := by decide +kernel
theorem dX2_leadsTo_55 : decode cX2_leadsTo 55 = .ok (.ixor, 1) := by decide +kernel
theorem dX2_leadsTo_56 : decode cX2_leadsTo 56 = .ok (.iand, 1) := by decide +kernel
theorem dX2_leadsTo_57 : decode cX2_leadsTo 57 = .ok (.ireturn, 1) := by decide +kernel
theorem dX2_leadsTo_58 : decode cX2_leadsTo 58 = .ok (.iload_n 2, 1) := by decide +kernel
theorem dX2_leadsTo_59 : decode cX2_leadsTo 59 = .ok (.aload_n 0, 1) := by decide +kernel
theorem dX2_leadsTo_60 : decode cX2_leadsTo 60 = .ok (.getfield 17, 3) := by decide +kernel
theorem dX2_leadsTo_63 : decode cX2_leadsTo 63 = .ok (.iload_n 1, 1) := by decide +kernel
theorem dX2_leadsTo_64 : decode cX2_leadsTo 64 = .ok (.aaload, 1) := by decide +kernel
theorem dX2_leadsTo_65 : decode cX2_leadsTo 65 = .ok (.iconst 0, 1) := by decide +kernel
theorem dX2_leadsTo_66 : decode cX2_leadsTo 66 = .ok (.iaload, 1) := by decide +kernel
theorem dX2_leadsTo_67 : decode cX2_leadsTo 67 = .ok (.if_icmp .eq 11, 3) := by decide +kernel
theorem dX2_leadsTo_70 : decode cX2_leadsTo 70 = .ok (.aload_n 0, 1) := by decide +kernel
theorem dX2_leadsTo_71 : decode cX2_leadsTo 71 = .ok (.iload_n 1, 1) := by decide +kernel
theorem dX2_leadsTo_72 : decode cX2_leadsTo 72 = .ok (.invokevirtual 38, 3) := by decide +kernel
theorem dX2_leadsTo_75 : decode cX2_leadsTo 75 = .ok (.ifCond .eq 5, 3) := by decide +kernel
theorem dX2_leadsTo_78 : decode cX2_leadsTo 78 = .ok (.iconst 0, 1) := by decide +kernel
theorem dX2_leadsTo_79 : decode cX2_leadsTo 79 = .ok (.ireturn, 1) := by decide +kernel
theorem dX2_leadsTo_80 : decode cX2_leadsTo 80 = .ok (.aload_n 0, 1) := by decide +kernel
theorem dX2_leadsTo_81 : decode cX2_leadsTo 81 = .ok (.getfield 23, 3) := by decide +kernel
theorem dX2_leadsTo_84 : decode cX2_leadsTo 84 = .ok (.iload_n 1, 1) := by decide +kernel
theorem dX2_leadsTo_85 : decode cX2_leadsTo 85 = .ok (.iaload, 1) := by decide +kernel
theorem dX2_leadsTo_86 : decode cX2_leadsTo 86 = .ok (.iconst 1, 1) := by decide +kernel
theorem dX2_leadsTo_87 : decode cX2_leadsTo 87 = .ok (.aload_n 0, 1) := by decide +kernel
theorem dX2_leadsTo_88 : decode cX2_leadsTo 88 = .ok (.getfield 17, 3) := by decide +kernel
theorem dX2_leadsTo_91 : decode cX2_leadsTo 91 = .ok (.iload_n 1, 1) := by decide +kernel
theorem dX2_leadsTo_92 : decode cX2_leadsTo 92 = .ok (.aaload, 1) := by decide +kernel
theorem dX2_leadsTo_93 : decode cX2_leadsTo 93 = .ok (.iload_n 3, 1) := by decide +kernel
theorem dX2_leadsTo_94 : decode cX2_leadsTo 94 = .ok (.iconst 1, 1) := by decide +kernel
theorem dX2_leadsTo_95 : decode cX2_leadsTo 95 = .ok (.isub, 1) := by decide +kernel
theorem dX2_leadsTo_96 : decode cX2_leadsTo 96 = .ok (.iaload, 1) := by decide +kernel
theorem dX2_leadsTo_97 : decode cX2_leadsTo 97 = .ok (.ishl, 1) := by decide +kernel
theorem dX2_leadsTo_98 : decode cX2_leadsTo 98 = .ok (.iconst (-1), 1) := by decide +kernel
theorem dX2_leadsTo_99 : decode cX2_leadsTo 99 = .ok (.ixor, 1) := by decide +kernel
theorem dX2_leadsTo_100 : decode cX2_leadsTo 100 = .ok (.iand, 1) := by decide +kernel
theorem dX2_leadsTo_101 : decode cX2_leadsTo 101 = .ok (.ireturn, 1) := by decide +kernel
theorem dX2_joins_0 : decode cX2_joins 0 = .ok (.aload_n 0, 1) := by decide +kernel
theorem dX2_joins_1 : decode cX2_joins 1 = .ok (.iload_n 1, 1) := by decide +kernel
theorem dX2_joins_2 : decode cX2_joins 2 = .ok (.iload_n 2, 1) := by decide +kernel
theorem dX2_joins_3 : decode cX2_joins 3 = .ok (.invokevirtual 42, 3) := by decide +kernel
theorem dX2_joins_6 : decode cX2_joins 6 = .ok (.iload_n 3, 1) := by decide +kernel
theorem dX2_joins_7 : decode cX2_joins 7 = .ok (.invokestatic 34, 3) := by decide +kernel
theorem dX2_joins_10 : decode cX2_joins 10 = .ok (.ireturn, 1) := by decide +kernel
theorem dX2_leavesTime_0 : decode cX2_leavesTime 0 = .ok (.iload_n 2, 1) := by decide +kernel
theorem dX2_leavesTime_1 : decode cX2_leavesTime 1 = .ok (.aload_n 0, 1) := by decide +kernel
theorem dX2_leavesTime_2 : decode cX2_leavesTime 2 = .ok (.getfield 26, 3) := by decide +kernel
theorem dX2_leavesTime_5 : decode cX2_leavesTime 5 = .ok (.aload_n 0, 1) := by decide +kernel
theorem dX2_leavesTime_6 : decode cX2_leavesTime 6 = .ok (.getfield 9, 3) := by decide +kernel
theorem dX2_leavesTime_9 : decode cX2_leavesTime 9 = .ok (.iload_n 1, 1) := by decide +kernel
theorem dX2_leavesTime_10 : decode cX2_leavesTime 10 = .ok (.iaload, 1) := by decide +kernel
theorem dX2_leavesTime_11 : decode cX2_leavesTime 11 = .ok (.imul, 1) := by decide +kernel
theorem dX2_leavesTime_12 : decode cX2_leavesTime 12 = .ok (.if_icmp .le 7, 3) := by decide +kernel
theorem dX2_leavesTime_15 : decode cX2_leavesTime 15 = .ok (.iconst 1, 1) := by decide +kernel
theorem dX2_leavesTime_16 : decode cX2_leavesTime 16 = .ok (.goto 4, 3) := by decide +kernel
theorem dX2_leavesTime_19 : decode cX2_leavesTime 19 = .ok (.iconst 0, 1) := by decide +kernel
theorem dX2_leavesTime_20 : decode cX2_leavesTime 20 = .ok (.ireturn, 1) := by decide +kernel
theorem dX2_repeatsGrace_0 : decode cX2_repeatsGrace 0 = .ok (.iconst 1, 1) := by decide +kernel
theorem dX2_repeatsGrace_1 : decode cX2_repeatsGrace 1 = .ok (.istore_n 2, 1) := by decide +kernel
theorem dX2_repeatsGrace_2 : decode cX2_repeatsGrace 2 = .ok (.iload_n 2, 1) := by decide +kernel
theorem dX2_repeatsGrace_3 : decode cX2_repeatsGrace 3 = .ok (.aload_n 0, 1) := by decide +kernel
theorem dX2_repeatsGrace_4 : decode cX2_repeatsGrace 4 = .ok (.getfield 9, 3) := by decide +kernel
theorem dX2_repeatsGrace_7 : decode cX2_repeatsGrace 7 = .ok (.iload_n 1, 1) := by decide +kernel
theorem dX2_repeatsGrace_8 : decode cX2_repeatsGrace 8 = .ok (.iaload, 1) := by decide +kernel
theorem dX2_repeatsGrace_9 : decode cX2_repeatsGrace 9 = .ok (.if_icmp .ge 32, 3) := by decide +kernel
theorem dX2_repeatsGrace_12 : decode cX2_repeatsGrace 12 = .ok (.aload_n 0, 1) := by decide +kernel
theorem dX2_repeatsGrace_13 : decode cX2_repeatsGrace 13 = .ok (.getfield 17, 3) := by decide +kernel
theorem dX2_repeatsGrace_16 : decode cX2_repeatsGrace 16 = .ok (.iload_n 1, 1) := by decide +kernel
theorem dX2_repeatsGrace_17 : decode cX2_repeatsGrace 17 = .ok (.aaload, 1) := by decide +kernel
theorem dX2_repeatsGrace_18 : decode cX2_repeatsGrace 18 = .ok (.iload_n 2, 1) := by decide +kernel
theorem dX2_repeatsGrace_19 : decode cX2_repeatsGrace 19 = .ok (.iaload, 1) := by decide +kernel
theorem dX2_repeatsGrace_20 : decode cX2_repeatsGrace 20 = .ok (.aload_n 0, 1) := by decide +kernel
theorem dX2_repeatsGrace_21 : decode cX2_repeatsGrace 21 = .ok (.getfield 17, 3) := by decide +kernel
theorem dX2_repeatsGrace_24 : decode cX2_repeatsGrace 24 = .ok (.iload_n 1, 1) := by decide +kernel
theorem dX2_repeatsGrace_25 : decode cX2_repeatsGrace 25 = .ok (.aaload, 1) := by decide +kernel
theorem dX2_repeatsGrace_26 : decode cX2_repeatsGrace 26 = .ok (.iload_n 2, 1) := by decide +kernel
theorem dX2_repeatsGrace_27 : decode cX2_repeatsGrace 27 = .ok (.iconst 1, 1) := by decide +kernel
theorem dX2_repeatsGrace_28 : decode cX2_repeatsGrace 28 = .ok (.isub, 1) := by decide +kernel
theorem dX2_repeatsGrace_29 : decode cX2_repeatsGrace 29 = .ok (.iaload, 1) := by decide +kernel
theorem dX2_repeatsGrace_30 : decode cX2_repeatsGrace 30 = .ok (.if_icmp .ne 5, 3) := by decide +kernel
theorem dX2_repeatsGrace_33 : decode cX2_repeatsGrace 33 = .ok (.iconst 1, 1) := by decide +kernel
theorem dX2_repeatsGrace_34 : decode cX2_repeatsGrace 34 = .ok (.ireturn, 1) := by decide +kernel
theorem dX2_repeatsGrace_35 : decode cX2_repeatsGrace 35 = .ok (.iinc 2 1, 3) := by decide +kernel
theorem dX2_repeatsGrace_38 : decode cX2_repeatsGrace 38 = .ok (.goto (-36), 3) := by decide +kernel
theorem dX2_repeatsGrace_41 : decode cX2_repeatsGrace 41 = .ok (.iconst 0, 1) := by decide +kernel
theorem dX2_repeatsGrace_42 : decode cX2_repeatsGrace 42 = .ok (.ireturn, 1) := by decide +kernel
theorem dX3_init_0 : decode cX3_init 0 = .ok (.aload_n 0, 1) := by decide +kernel
theorem dX3_init_1 : decode cX3_init 1 = .ok (.invokespecial 3, 3) := by decide +kernel
theorem dX3_init_4 : decode cX3_init 4 = .ok (.aload_n 0, 1) := by decide +kernel
theorem dX3_init_5 : decode cX3_init 5 = .ok (.bipush 6, 2) := by decide +kernel
theorem dX3_init_7 : decode cX3_init 7 = .ok (.newarray .int, 2) := by decide +kernel
theorem dX3_init_9 : decode cX3_init 9 = .ok (.putfield 9, 3) := by decide +kernel
theorem dX3_init_12 : decode cX3_init 12 = .ok (.aload_n 0, 1) := by decide +kernel
theorem dX3_init_13 : decode cX3_init 13 = .ok (.bipush 6, 2) := by decide +kernel
theorem dX3_init_15 : decode cX3_init 15 = .ok (.newarray .int, 2) := by decide +kernel
theorem dX3_init_17 : decode cX3_init 17 = .ok (.putfield 15, 3) := by decide +kernel
theorem dX3_init_20 : decode cX3_init 20 = .ok (.aload_n 0, 1) := by decide +kernel
theorem dX3_init_21 : decode cX3_init 21 = .ok (.bipush 6, 2) := by decide +kernel
theorem dX3_init_23 : decode cX3_init 23 = .ok (.newarray .int, 2) := by decide +kernel
theorem dX3_init_25 : decode cX3_init 25 = .ok (.putfield 18, 3) := by decide +kernel
theorem dX3_init_28 : decode cX3_init 28 = .ok (.aload_n 0, 1) := by decide +kernel
theorem dX3_init_29 : decode cX3_init 29 = .ok (.bipush 6, 2) := by decide +kernel
theorem dX3_init_31 : decode cX3_init 31 = .ok (.newarray .int, 2) := by decide +kernel
theorem dX3_init_33 : decode cX3_init 33 = .ok (.putfield 21, 3) := by decide +kernel
theorem dX3_init_36 : decode cX3_init 36 = .ok (.aload_n 0, 1) := by decide +kernel
theorem dX3_init_37 : decode cX3_init 37 = .ok (.getfield 18, 3) := by decide +kernel
theorem dX3_init_40 : decode cX3_init 40 = .ok (.iconst 1, 1) := by decide +kernel
theorem dX3_init_41 : decode cX3_init 41 = .ok (.invokestatic 24, 3) := by decide +kernel
theorem dX3_init_44 : decode cX3_init 44 = .ok (.return_, 1) := by decide +kernel
theorem dX3_become_0 : decode cX3_become 0 = .ok (.aload_n 0, 1) := by decide +kernel
theorem dX3_become_1 : decode cX3_become 1 = .ok (.getfield 9, 3) := by decide +kernel
theorem dX3_become_4 : decode cX3_become 4 = .ok (.iload_n 1, 1) := by decide +kernel
theorem dX3_become_5 : decode cX3_become 5 = .ok (.iload_n 2, 1) := by decide +kernel
theorem dX3_become_6 : decode cX3_become 6 = .ok (.iastore, 1) := by decide +kernel
theorem dX3_become_7 : decode cX3_become 7 = .ok (.aload_n 0, 1) := by decide +kernel
theorem dX3_become_8 : decode cX3_become 8 = .ok (.getfield 15, 3) := by decide +kernel
theorem dX3_become_11 : decode cX3_become 11 = .ok (.iload_n 1, 1) := by decide +kernel
theorem dX3_become_12 : decode cX3_become 12 = .ok (.iload_n 3, 1) := by decide +kernel
theorem dX3_become_13 : decode cX3_become 13 = .ok (.iastore, 1) := by decide +kernel
theorem dX3_become_14 : decode cX3_become 14 = .ok (.aload_n 0, 1) := by decide +kernel
theorem dX3_become_15 : decode cX3_become 15 = .ok (.getfield 18, 3) := by decide +kernel
theorem dX3_become_18 : decode cX3_become 18 = .ok (.iload_n 1, 1) := by decide +kernel
theorem dX3_become_19 : decode cX3_become 19 = .ok (.iload 4, 2) := by decide +kernel
theorem dX3_become_21 : decode cX3_become 21 = .ok (.iastore, 1) := by decide +kernel
theorem dX3_become_22 : decode cX3_become 22 = .ok (.aload_n 0, 1) := by decide +kernel
theorem dX3_become_23 : decode cX3_become 23 = .ok (.getfield 21, 3) := by decide +kernel
theorem dX3_become_26 : decode cX3_become 26 = .ok (.iload_n 1, 1) := by decide +kernel
theorem dX3_become_27 : decode cX3_become 27 = .ok (.iload 5, 2) := by decide +kernel
theorem dX3_become_29 : decode cX3_become 29 = .ok (.iastore, 1) := by decide +kernel
theorem dX3_become_30 : decode cX3_become 30 = .ok (.return_, 1) := by decide +kernel
theorem dX3_pitchAfter_0 : decode cX3_pitchAfter 0 = .ok (.aload_n 0, 1) := by decide +kernel
theorem dX3_pitchAfter_1 : decode cX3_pitchAfter 1 = .ok (.getfield 9, 3) := by decide +kernel
theorem dX3_pitchAfter_4 : decode cX3_pitchAfter 4 = .ok (.iload_n 1, 1) := by decide +kernel
theorem dX3_pitchAfter_5 : decode cX3_pitchAfter 5 = .ok (.iaload, 1) := by decide +kernel
theorem dX3_pitchAfter_6 : decode cX3_pitchAfter 6 = .ok (.aload_n 0, 1) := by decide +kernel
theorem dX3_pitchAfter_7 : decode cX3_pitchAfter 7 = .ok (.iload_n 1, 1) := by decide +kernel
theorem dX3_pitchAfter_8 : decode cX3_pitchAfter 8 = .ok (.invokevirtual 30, 3) := by decide +kernel
theorem dX3_pitchAfter_11 : decode cX3_pitchAfter 11 = .ok (.iload_n 2, 1) := by decide +kernel
theorem dX3_pitchAfter_12 : decode cX3_pitchAfter 12 = .ok (.aload_n 0, 1) := by decide +kernel
theorem dX3_pitchAfter_13 : decode cX3_pitchAfter 13 = .ok (.getfield 18, 3) := by decide +kernel
theorem dX3_pitchAfter_16 : decode cX3_pitchAfter 16 = .ok (.iload_n 1, 1) := by decide +kernel
theorem dX3_pitchAfter_17 : decode cX3_pitchAfter 17 = .ok (.iaload, 1) := by decide +kernel
theorem dX3_pitchAfter_18 : decode cX3_pitchAfter 18 = .ok (.invokestatic 34, 3) := by decide +kernel
theorem dX3_pitchAfter_21 : decode cX3_pitchAfter 21 = .ok (.imul, 1) := by decide +kernel
theorem dX3_pitchAfter_22 : decode cX3_pitchAfter 22 = .ok (.iadd, 1) := by decide +kernel
theorem dX3_pitchAfter_23 : decode cX3_pitchAfter 23 = .ok (.ireturn, 1) := by decide +kernel
theorem dX3_allCome_0 : decode cX3_allCome 0 = .ok (.iconst 0, 1) := by decide +kernel
theorem dX3_allCome_1 : decode cX3_allCome 1 = .ok (.istore_n 3, 1) := by decide +kernel
theorem dX3_allCome_2 : decode cX3_allCome 2 = .ok (.iload_n 3, 1) := by decide +kernel
theorem dX3_allCome_3 : decode cX3_allCome 3 = .ok (.bipush 6, 2) := by decide +kernel
theorem dX3_allCome_5 : decode cX3_allCome 5 = .ok (.if_icmp .ge 29, 3) := by decide +kernel
theorem dX3_allCome_8 : decode cX3_allCome 8 = .ok (.iload_n 1, 1) := by decide +kernel
theorem dX3_allCome_9 : decode cX3_allCome 9 = .ok (.iload_n 3, 1) := by decide +kernel
theorem dX3_allCome_10 : decode cX3_allCome 10 = .ok (.invokestatic 40, 3) := by decide +kernel
theorem dX3_allCome_13 : decode cX3_allCome 13 = .ok (.ifCond .eq 15, 3) := by decide +kernel
theorem dX3_allCome_16 : decode cX3_allCome 16 = .ok (.aload_n 0, 1) := by decide +kernel
theorem dX3_allCome_17 : decode cX3_allCome 17 = .ok (.getfield 21, 3) := by decide +kernel
theorem dX3_allCome_20 : decode cX3_allCome 20 = .ok (.iload_n 3, 1) := by decide +kernel
theorem dX3_allCome_21 : decode cX3_allCome 21 = .ok (.iaload, 1) := by decide +kernel
theorem dX3_allCome_22 : decode cX3_allCome 22 = .ok (.iload_n 2, 1) := by decide +kernel
theorem dX3_allCome_23 : decode cX3_allCome 23 = .ok (.if_icmp .le 5, 3) := by decide +kernel
theorem dX3_allCome_26 : decode cX3_allCome 26 = .ok (.iconst 0, 1) := by decide +kernel
theorem dX3_allCome_27 : decode cX3_allCome 27 = .ok (.ireturn, 1) := by decide +kernel
theorem dX3_allCome_28 : decode cX3_allCome 28 = .ok (.iinc 3 1, 3) := by decide +kernel
theorem dX3_allCome_31 : decode cX3_allCome 31 = .ok (.goto (-29), 3) := by decide +kernel
theorem dX3_allCome_34 : decode cX3_allCome 34 = .ok (.iconst 1, 1) := by decide +kernel
theorem dX3_allCome_35 : decode cX3_allCome 35 = .ok (.ireturn, 1) := by decide +kernel
theorem dX3_tuneBand_0 : decode cX3_tuneBand 0 = .ok (.aload_n 0, 1) := by decide +kernel
theorem dX3_tuneBand_1 : decode cX3_tuneBand 1 = .ok (.ldc 44, 2) := by decide +kernel
theorem dX3_tuneBand_3 : decode cX3_tuneBand 3 = .ok (.putfield 45, 3) := by decide +kernel
theorem dX3_tuneBand_6 : decode cX3_tuneBand 6 = .ok (.aload_n 0, 1) := by decide +kernel
theorem dX3_tuneBand_7 : decode cX3_tuneBand 7 = .ok (.iconst 0, 1) := by decide +kernel
theorem dX3_tuneBand_8 : decode cX3_tuneBand 8 = .ok (.putfield 49, 3) := by decide +kernel
theorem dX3_tuneBand_11 : decode cX3_tuneBand 11 = .ok (.iconst 0, 1) := by decide +kernel
theorem dX3_tuneBand_12 : decode cX3_tuneBand 12 = .ok (.istore_n 3, 1) := by decide +kernel
theorem dX3_tuneBand_13 : decode cX3_tuneBand 13 = .ok (.iload_n 3, 1) := by decide +kernel
theorem dX3_tuneBand_14 : decode cX3_tuneBand 14 = .ok (.bipush 6, 2) := by decide +kernel
theorem dX3_tuneBand_16 : decode cX3_tuneBand 16 = .ok (.if_icmp .ge 54, 3) := by decide +kernel
theorem dX3_tuneBand_19 : decode cX3_tuneBand 19 = .ok (.iload_n 1, 1) := by decide +kernel
theorem dX3_tuneBand_20 : decode cX3_tuneBand 20 = .ok (.iload_n 3, 1) := by decide +kernel
theorem dX3_tuneBand_21 : decode cX3_tuneBand 21 = .ok (.invokestatic 40, 3) := by decide +kernel
theorem dX3_tuneBand_24 : decode cX3_tuneBand 24 = .ok (.ifCond .eq 40, 3) := by decide +kernel
theorem dX3_tuneBand_27 : decode cX3_tuneBand 27 = .ok (.aload_n 0, 1) := by decide +kernel
theorem dX3_tuneBand_28 : decode cX3_tuneBand 28 = .ok (.iload_n 3, 1) := by decide +kernel
theorem dX3_tuneBand_29 : decode cX3_tuneBand 29 = .ok (.iload_n 2, 1) := by decide +kernel
theorem dX3_tuneBand_30 : decode cX3_tuneBand 30 = .ok (.invokevirtual 52, 3) := by decide +kernel
theorem dX3_tuneBand_33 : decode cX3_tuneBand 33 = .ok (.istore 4, 2) := by decide +kernel
theorem dX3_tuneBand_35 : decode cX3_tuneBand 35 = .ok (.iconst 0, 1) := by decide +kernel
theorem dX3_tuneBand_36 : decode cX3_tuneBand 36 = .ok (.istore 5, 2) := by decide +kernel
theorem dX3_tuneBand_38 : decode cX3_tuneBand 38 = .ok (.iload 5, 2) := by decide +kernel
theorem dX3_tuneBand_40 : decode cX3_tuneBand 40 = .ok (.iload 4, 2) := by decide +kernel
theorem dX3_tuneBand_42 : decode cX3_tuneBand 42 = .ok (.if_icmp .gt 22, 3) := by decide +kernel
theorem dX3_tuneBand_45 : decode cX3_tuneBand 45 = .ok (.aload_n 0, 1) := by decide +kernel
theorem dX3_tuneBand_46 : decode cX3_tuneBand 46 = .ok (.iload_n 1, 1) := by decide +kernel
theorem dX3_tuneBand_47 : decode cX3_tuneBand 47 = .ok (.iload_n 2, 1) := by decide +kernel
theorem dX3_tuneBand_48 : decode cX3_tuneBand 48 = .ok (.aload_n 0, 1) := by decide +kernel
theorem dX3_tuneBand_49 : decode cX3_tuneBand 49 = .ok (.iload_n 3, 1) := by decide +kernel
theorem dX3_tuneBand_50 : decode cX3_tuneBand 50 = .ok (.iload 5, 2) := by decide +kernel
theorem dX3_tuneBand_52 : decode cX3_tuneBand 52 = .ok (.invokevirtual 55, 3) := by decide +kernel
theorem dX3_tuneBand_55 : decode cX3_tuneBand 55 = .ok (.invokevirtual 58, 3) := by decide +kernel
theorem dX3_tuneBand_58 : decode cX3_tuneBand 58 = .ok (.iinc 5 1, 3) := by decide +kernel
theorem dX3_tuneBand_61 : decode cX3_tuneBand 61 = .ok (.goto (-23), 3) := by decide +kernel
theorem dX3_tuneBand_64 : decode cX3_tuneBand 64 = .ok (.iinc 3 1, 3) := by decide +kernel
theorem dX3_tuneBand_67 : decode cX3_tuneBand 67 = .ok (.goto (-54), 3) := by decide +kernel
theorem dX3_tuneBand_70 : decode cX3_tuneBand 70 = .ok (.return_, 1) := by decide +kernel
theorem dX3_minutesToReach_0 : decode cX3_minutesToReach 0 = .ok (.iload_n 2, 1) := by decide +kernel
theorem dX3_minutesToReach_1 : decode cX3_minutesToReach 1 = .ok (.aload_n 0, 1) := by decide +kernel
theorem dX3_minutesToReach_2 : decode cX3_minutesToReach 2 = .ok (.getfield 9, 3) := by decide +kernel
theorem dX3_minutesToReach_5 : decode cX3_minutesToReach 5 = .ok (.iload_n 1, 1) := by decide +kernel
theorem dX3_minutesToReach_6 : decode cX3_minutesToReach 6 = .ok (.iaload, 1) := by decide +kernel
theorem dX3_minutesToReach_7 : decode cX3_minutesToReach 7 = .ok (.if_icmp .gt 5, 3) := by decide +kernel
theorem dX3_minutesToReach_10 : decode cX3_minutesToReach 10 = .ok (.iconst 0, 1) := by decide +kernel
theorem dX3_minutesToReach_11 : decode cX3_minutesToReach 11 = .ok (.ireturn, 1) := by decide +kernel
theorem dX3_minutesToReach_12 : decode cX3_minutesToReach 12 = .ok (.aload_n 0, 1) := by decide +kernel
theorem dX3_minutesToReach_13 : decode cX3_minutesToReach 13 = .ok (.iload_n 1, 1) := by decide +kernel
theorem dX3_minutesToReach_14 : decode cX3_minutesToReach 14 = .ok (.invokevirtual 30, 3) := by decide +kernel
theorem dX3_minutesToReach_17 : decode cX3_minutesToReach 17 = .ok (.istore 4, 2) := by decide +kernel
theorem dX3_minutesToReach_19 : decode cX3_minutesToReach 19 = .ok (.iload 4, 2) := by decide +kernel
theorem dX3_minutesToReach_21 : decode cX3_minutesToReach 21 = .ok (.ifCond .ne 5, 3) := by decide +kernel
theorem dX3_minutesToReach_24 : decode cX3_minutesToReach 24 = .ok (.iconst (-1), 1) := by decide +kernel
theorem dX3_minutesToReach_25 : decode cX3_minutesToReach 25 = .ok (.ireturn, 1) := by decide +kernel
theorem dX3_minutesToReach_26 : decode cX3_minutesToReach 26 = .ok (.iload_n 2, 1) := by decide +kernel
theorem dX3_minutesToReach_27 : decode cX3_minutesToReach 27 = .ok (.aload_n 0, 1) := by decide +kernel
theorem dX3_minutesToReach_28 : decode cX3_minutesToReach 28 = .ok (.getfield 9, 3) := by decide +kernel
theorem dX3_minutesToReach_31 : decode cX3_minutesToReach 31 = .ok (.iload_n 1, 1) := by decide +kernel
theorem dX3_minutesToReach_32 : decode cX3_minutesToReach 32 = .ok (.iaload, 1) := by decide +kernel
theorem dX3_minutesToReach_33 : decode cX3_minutesToReach 33 = .ok (.isub, 1) := by decide +kernel
theorem dX3_minutesToReach_34 : decode cX3_minutesToReach 34 = .ok (.iload 4, 2) := by decide +kernel
theorem dX3_minutesToReach_36 : decode cX3_minutesToReach 36 = .ok (.iadd, 1) := by decide +kernel
theorem dX3_minutesToReach_37 : decode cX3_minutesToReach 37 = .ok (.iconst 1, 1) := by decide +kernel
theorem dX3_minutesToReach_38 : decode cX3_minutesToReach 38 = .ok (.isub, 1) := by decide +kernel
theorem dX3_minutesToReach_39 : decode cX3_minutesToReach 39 = .ok (.iload 4, 2) := by decide +kernel
theorem dX3_minutesToReach_41 : decode cX3_minutesToReach 41 = .ok (.idiv, 1) := by decide +kernel
theorem dX3_minutesToReach_42 : decode cX3_minutesToReach 42 = .ok (.istore 5, 2) := by decide +kernel
theorem dX3_minutesToReach_44 : decode cX3_minutesToReach 44 = .ok (.iload 5, 2) := by decide +kernel
theorem dX3_minutesToReach_46 : decode cX3_minutesToReach 46 = .ok (.aload_n 0, 1) := by decide +kernel
theorem dX3_minutesToReach_47 : decode cX3_minutesToReach 47 = .ok (.iload_n 1, 1) := by decide +kernel
theorem dX3_minutesToReach_48 : decode cX3_minutesToReach 48 = .ok (.iload_n 3, 1) := by decide +kernel
theorem dX3_minutesToReach_49 : decode cX3_minutesToReach 49 = .ok (.invokevirtual 52, 3) := by decide +kernel
theorem dX3_minutesToReach_52 : decode cX3_minutesToReach 52 = .ok (.if_icmp .gt 8, 3) := by decide +kernel
theorem dX3_minutesToReach_55 : decode cX3_minutesToReach 55 = .ok (.iload 5, 2) := by decide +kernel
theorem dX3_minutesToReach_57 : decode cX3_minutesToReach 57 = .ok (.goto 4, 3) := by decide +kernel
theorem dX3_minutesToReach_60 : decode cX3_minutesToReach 60 = .ok (.iconst (-1), 1) := by decide +kernel
theorem dX3_minutesToReach_61 : decode cX3_minutesToReach 61 = .ok (.ireturn, 1) := by decide +kernel
theorem dX3_tryLow_0 : decode cX3_tryLow 0 = .ok (.iload_n 3, 1) := by decide +kernel
theorem dX3_tryLow_1 : decode cX3_tryLow 1 = .ok (.istore 4, 2) := by decide +kernel
theorem dX3_tryLow_3 : decode cX3_tryLow 3 = .ok (.iconst 0, 1) := by decide +kernel
theorem dX3_tryLow_4 : decode cX3_tryLow 4 = .ok (.istore 5, 2) := by decide +kernel
theorem dX3_tryLow_6 : decode cX3_tryLow 6 = .ok (.iload 5, 2) := by decide +kernel
theorem dX3_tryLow_8 : decode cX3_tryLow 8 = .ok (.bipush 6, 2) := by decide +kernel
theorem dX3_tryLow_10 : decode cX3_tryLow 10 = .ok (.if_icmp .ge 50, 3) := by decide +kernel
theorem dX3_tryLow_13 : decode cX3_tryLow 13 = .ok (.iload_n 1, 1) := by decide +kernel
theorem dX3_tryLow_14 : decode cX3_tryLow 14 = .ok (.iload 5, 2) := by decide +kernel
theorem dX3_tryLow_16 : decode cX3_tryLow 16 = .ok (.invokestatic 40, 3) := by decide +kernel
theorem dX3_tryLow_19 : decode cX3_tryLow 19 = .ok (.ifCond .eq 35, 3) := by decide +kernel
theorem dX3_tryLow_22 : decode cX3_tryLow 22 = .ok (.aload_n 0, 1) := by decide +kernel
theorem dX3_tryLow_23 : decode cX3_tryLow 23 = .ok (.iload 5, 2) := by decide +kernel
theorem dX3_tryLow_25 : decode cX3_tryLow 25 = .ok (.iload_n 3, 1) := by decide +kernel
theorem dX3_tryLow_26 : decode cX3_tryLow 26 = .ok (.iload_n 2, 1) := by decide +kernel
theorem dX3_tryLow_27 : decode cX3_tryLow 27 = .ok (.invokevirtual 62, 3) := by decide +kernel
theorem dX3_tryLow_30 : decode cX3_tryLow 30 = .ok (.istore 6, 2) := by decide +kernel
theorem dX3_tryLow_32 : decode cX3_tryLow 32 = .ok (.iload 6, 2) := by decide +kernel
theorem dX3_tryLow_34 : decode cX3_tryLow 34 = .ok (.iconst (-1), 1) := by decide +kernel
theorem dX3_tryLow_35 : decode cX3_tryLow 35 = .ok (.if_icmp .ne 4, 3) := by decide +kernel
theorem dX3_tryLow_38 : decode cX3_tryLow 38 = .ok (.return_, 1) := by decide +kernel
theorem dX3_tryLow_39 : decode cX3_tryLow 39 = .ok (.iload 4, 2) := by decide +kernel
theorem dX3_tryLow_41 : decode cX3_tryLow 41 = .ok (.aload_n 0, 1) := by decide +kernel
theorem dX3_tryLow_42 : decode cX3_tryLow 42 = .ok (.iload 5, 2) := by decide +kernel
theorem dX3_tryLow_44 : decode cX3_tryLow 44 = .ok (.iload 6, 2) := by decide +kernel
theorem dX3_tryLow_46 : decode cX3_tryLow 46 = .ok (.invokevirtual 55, 3) := by decide +kernel
theorem dX3_tryLow_49 : decode cX3_tryLow 49 = .ok (.invokestatic 66, 3) := by decide +kernel
theorem dX3_tryLow_52 : decode cX3_tryLow 52 = .ok (.istore 4, 2) := by decide +kernel
theorem dX3_tryLow_54 : decode cX3_tryLow 54 = .ok (.iinc 5 1, 3) := by decide +kernel
theorem dX3_tryLow_57 : decode cX3_tryLow 57 = .ok (.goto (-51), 3) := by decide +kernel
theorem dX3_tryLow_60 : decode cX3_tryLow 60 = .ok (.iload 4, 2) := by decide +kernel
theorem dX3_tryLow_62 : decode cX3_tryLow 62 = .ok (.iload_n 3, 1) := by decide +kernel
theorem dX3_tryLow_63 : decode cX3_tryLow 63 = .ok (.isub, 1) := by decide +kernel
theorem dX3_tryLow_64 : decode cX3_tryLow 64 = .ok (.istore 5, 2) := by decide +kernel
theorem dX3_tryLow_66 : decode cX3_tryLow 66 = .ok (.iload 5, 2) := by decide +kernel
theorem dX3_tryLow_68 : decode cX3_tryLow 68 = .ok (.aload_n 0, 1) := by decide +kernel
theorem dX3_tryLow_69 : decode cX3_tryLow 69 = .ok (.getfield 45, 3) := by decide +kernel
theorem dX3_tryLow_72 : decode cX3_tryLow 72 = .ok (.if_icmp .lt 20, 3) := by decide +kernel
theorem dX3_tryLow_75 : decode cX3_tryLow 75 = .ok (.iload 5, 2) := by decide +kernel
theorem dX3_tryLow_77 : decode cX3_tryLow 77 = .ok (.aload_n 0, 1) := by decide +kernel
theorem dX3_tryLow_78 : decode cX3_tryLow 78 = .ok (.getfield 45, 3) := by decide +kernel
theorem dX3_tryLow_81 : decode cX3_tryLow 81 = .ok (.if_icmp .ne 22, 3) := by decide +kernel
theorem dX3_tryLow_84 : decode cX3_tryLow 84 = .ok (.iload_n 3, 1) := by decide +kernel
theorem dX3_tryLow_85 : decode cX3_tryLow 85 = .ok (.aload_n 0, 1) := by decide +kernel
theorem dX3_tryLow_86 : decode cX3_tryLow 86 = .ok (.getfield 49, 3) := by decide +kernel
theorem dX3_tryLow_89 : decode cX3_tryLow 89 = .ok (.if_icmp .ge 14, 3) := by decide +kernel
theorem dX3_tryLow_92 : decode cX3_tryLow 92 = .ok (.aload_n 0, 1) := by decide +kernel
theorem dX3_tryLow_93 : decode cX3_tryLow 93 = .ok (.iload 5, 2) := by decide +kernel
theorem dX3_tryLow_95 : decode cX3_tryLow 95 = .ok (.putfield 45, 3) := by decide +kernel
theorem dX3_tryLow_98 : decode cX3_tryLow 98 = .ok (.aload_n 0, 1) := by decide +kernel
theorem dX3_tryLow_99 : decode cX3_tryLow 99 = .ok (.iload_n 3, 1) := by decide +kernel
theorem dX3_tryLow_100 : decode cX3_tryLow 100 = .ok (.putfield 49, 3) := by decide +kernel
theorem dX3_tryLow_103 : decode cX3_tryLow 103 = .ok (.return_, 1) := by decide +kernel
theorem dX3_dampRise_0 : decode cX3_dampRise 0 = .ok (.iconst 0, 1) := by decide +kernel
theorem dX3_dampRise_1 : decode cX3_dampRise 1 = .ok (.aload_n 0, 1) := by decide +kernel
theorem dX3_dampRise_2 : decode cX3_dampRise 2 = .ok (.getfield 15, 3) := by decide +kernel
theorem dX3_dampRise_5 : decode cX3_dampRise 5 = .ok (.iload_n 1, 1) := by decide +kernel
theorem dX3_dampRise_6 : decode cX3_dampRise 6 = .ok (.iaload, 1) := by decide +kernel
theorem dX3_dampRise_7 : decode cX3_dampRise 7 = .ok (.aload_n 0, 1) := by decide +kernel
theorem dX3_dampRise_8 : decode cX3_dampRise 8 = .ok (.getfield 69, 3) := by decide +kernel
theorem dX3_dampRise_11 : decode cX3_dampRise 11 = .ok (.isub, 1) := by decide +kernel
theorem dX3_dampRise_12 : decode cX3_dampRise 12 = .ok (.invokestatic 66, 3) := by decide +kernel
theorem dX3_dampRise_15 : decode cX3_dampRise 15 = .ok (.ireturn, 1) := by decide +kernel
theorem dX3_longestBlown_0 : decode cX3_longestBlown 0 = .ok (.iload_n 2, 1) := by decide +kernel
theorem dX3_longestBlown_1 : decode cX3_longestBlown 1 = .ok (.aload_n 0, 1) := by decide +kernel
theorem dX3_longestBlown_2 : decode cX3_longestBlown 2 = .ok (.getfield 21, 3) := by decide +kernel
theorem dX3_longestBlown_5 : decode cX3_longestBlown 5 = .ok (.iload_n 1, 1) := by decide +kernel
theorem dX3_longestBlown_6 : decode cX3_longestBlown 6 = .ok (.iaload, 1) := by decide +kernel
theorem dX3_longestBlown_7 : decode cX3_longestBlown 7 = .ok (.isub, 1) := by decide +kernel
theorem dX3_longestBlown_8 : decode cX3_longestBlown 8 = .ok (.aload_n 0, 1) := by decide +kernel
theorem dX3_longestBlown_9 : decode cX3_longestBlown 9 = .ok (.getfield 18, 3) := by decide +kernel
theorem dX3_longestBlown_12 : decode cX3_longestBlown 12 = .ok (.iload_n 1, 1) := by decide +kernel
theorem dX3_longestBlown_13 : decode cX3_longestBlown 13 = .ok (.iaload, 1) := by decide +kernel
theorem dX3_longestBlown_14 : decode cX3_longestBlown 14 = .ok (.invokestatic 34, 3) := by decide +kernel
theorem dX3_longestBlown_17 : decode cX3_longestBlown 17 = .ok (.ireturn, 1) := by decide +kernel
theorem dX4_init_0 : decode cX4_init 0 = .ok (.aload_n 0, 1) := by decide +kernel
theorem dX4_init_1 : decode cX4_init 1 = .ok (.invokespecial 3, 3) := by decide +kernel
theorem dX4_init_4 : decode cX4_init 4 = .ok (.aload_n 0, 1) := by decide +kernel
theorem dX4_init_5 : decode cX4_init 5 = .ok (.iconst 5, 1) := by decide +kernel
theorem dX4_init_6 : decode cX4_init 6 = .ok (.newarray .int, 2) := by decide +kernel
theorem dX4_init_8 : decode cX4_init 8 = .ok (.putfield 9, 3) := by decide +kernel
theorem dX4_init_11 : decode cX4_init 11 = .ok (.aload_n 0, 1) := by decide +kernel
theorem dX4_init_12 : decode cX4_init 12 = .ok (.iconst 5, 1) := by decide +kernel
theorem dX4_init_13 : decode cX4_init 13 = .ok (.iconst 4, 1) := by decide +kernel
theorem dX4_init_14 : decode cX4_init 14 = .ok (.multianewarray 15 2, 4) := by decide +kernel
theorem dX4_init_18 : decode cX4_init 18 = .ok (.putfield 17, 3) := by decide +kernel
theorem dX4_init_21 : decode cX4_init 21 = .ok (.iconst 0, 1) := by decide +kernel
theorem dX4_init_22 : decode cX4_init 22 = .ok (.istore_n 1, 1) := by decide +kernel
theorem dX4_init_23 : decode cX4_init 23 = .ok (.iload_n 1, 1) := by decide +kernel
theorem dX4_init_24 : decode cX4_init 24 = .ok (.iconst 5, 1) := by decide +kernel
theorem dX4_init_25 : decode cX4_init 25 = .ok (.if_icmp .ge 26, 3) := by decide +kernel
theorem dX4_init_28 : decode cX4_init 28 = .ok (.aload_n 0, 1) := by decide +kernel
theorem dX4_init_29 : decode cX4_init 29 = .ok (.getfield 9, 3) := by decide +kernel
theorem dX4_init_32 : decode cX4_init 32 = .ok (.iload_n 1, 1) := by decide +kernel
theorem dX4_init_33 : decode cX4_init 33 = .ok (.iconst 1, 1) := by decide +kernel
theorem dX4_init_34 : decode cX4_init 34 = .ok (.iastore, 1) := by decide +kernel
theorem dX4_init_35 : decode cX4_init 35 = .ok (.aload_n 0, 1) := by decide +kernel
theorem dX4_init_36 : decode cX4_init 36 = .ok (.getfield 17, 3) := by decide +kernel
theorem dX4_init_39 : decode cX4_init 39 = .ok (.iload_n 1, 1) := by decide +kernel
theorem dX4_init_40 : decode cX4_init 40 = .ok (.aaload, 1) := by decide +kernel
theorem dX4_init_41 : decode cX4_init 41 = .ok (.iconst 0, 1) := by decide +kernel
theorem dX4_init_42 : decode cX4_init 42 = .ok (.bipush 9, 2) := by decide +kernel
theorem dX4_init_44 : decode cX4_init 44 = .ok (.iastore, 1) := by decide +kernel
theorem dX4_init_45 : decode cX4_init 45 = .ok (.iinc 1 1, 3) := by decide +kernel
theorem dX4_init_48 : decode cX4_init 48 = .ok (.goto (-25), 3) := by decide +kernel
theorem dX4_init_51 : decode cX4_init 51 = .ok (.return_, 1) := by decide +kernel
theorem dX4_become_0 : decode cX4_become 0 = .ok (.aload_n 0, 1) := by decide +kernel
theorem dX4_become_1 : decode cX4_become 1 = .ok (.getfield 9, 3) := by decide +kernel
theorem dX4_become_4 : decode cX4_become 4 = .ok (.iload_n 1, 1) := by decide +kernel
theorem dX4_become_5 : decode cX4_become 5 = .ok (.iload_n 2, 1) := by decide +kernel
theorem dX4_become_6 : decode cX4_become 6 = .ok (.iastore, 1) := by decide +kernel
theorem dX4_become_7 : decode cX4_become 7 = .ok (.iconst 0, 1) := by decide +kernel
theorem dX4_become_8 : decode cX4_become 8 = .ok (.istore 4, 2) := by decide +kernel
theorem dX4_become_10 : decode cX4_become 10 = .ok (.iload 4, 2) := by decide +kernel
theorem dX4_become_12 : decode cX4_become 12 = .ok (.iload_n 2, 1) := by decide +kernel
theorem dX4_become_13 : decode cX4_become 13 = .ok (.if_icmp .ge 24, 3) := by decide +kernel
theorem dX4_become_16 : decode cX4_become 16 = .ok (.aload_n 0, 1) := by decide +kernel
theorem dX4_become_17 : decode cX4_become 17 = .ok (.getfield 17, 3) := by decide +kernel
theorem dX4_become_20 : decode cX4_become 20 = .ok (.iload_n 1, 1) := by decide +kernel
theorem dX4_become_21 : decode cX4_become 21 = .ok (.aaload, 1) := by decide +kernel
theorem dX4_become_22 : decode cX4_become 22 = .ok (.iload 4, 2) := by decide +kernel
theorem dX4_become_24 : decode cX4_become 24 = .ok (.iload_n 3, 1) := by decide +kernel
theorem dX4_become_25 : decode cX4_become 25 = .ok (.iload 4, 2) := by decide +kernel
theorem dX4_become_27 : decode cX4_become 27 = .ok (.invokestatic 20, 3) := by decide +kernel
theorem dX4_become_30 : decode cX4_become 30 = .ok (.iastore, 1) := by decide +kernel
theorem dX4_become_31 : decode cX4_become 31 = .ok (.iinc 4 1, 3) := by decide +kernel
theorem dX4_become_34 : decode cX4_become 34 = .ok (.goto (-24), 3) := by decide +kernel
theorem dX4_become_37 : decode cX4_become 37 = .ok (.return_, 1) := by decide +kernel
theorem dX4_variationSize_0 : decode cX4_variationSize 0 = .ok (.iload_n 3, 1) := by decide +kernel
theorem dX4_variationSize_1 : decode cX4_variationSize 1 = .ok (.invokestatic 24, 3) := by decide +kernel
theorem dX4_variationSize_4 : decode cX4_variationSize 4 = .ok (.istore 4, 2) := by decide +kernel
theorem dX4_variationSize_6 : decode cX4_variationSize 6 = .ok (.iload 4, 2) := by decide +kernel
theorem dX4_variationSize_8 : decode cX4_variationSize 8 = .ok (.iload_n 2, 1) := by decide +kernel
theorem dX4_variationSize_9 : decode cX4_variationSize 9 = .ok (.iload 4, 2) := by decide +kernel
theorem dX4_variationSize_11 : decode cX4_variationSize 11 = .ok (.isub, 1) := by decide +kernel
theorem dX4_variationSize_12 : decode cX4_variationSize 12 = .ok (.aload_n 0, 1) := by decide +kernel
theorem dX4_variationSize_13 : decode cX4_variationSize 13 = .ok (.getfield 9, 3) := by decide +kernel
theorem dX4_variationSize_16 : decode cX4_variationSize 16 = .ok (.iload_n 1, 1) := by decide +kernel
theorem dX4_variationSize_17 : decode cX4_variationSize 17 = .ok (.iaload, 1) := by decide +kernel
theorem dX4_variationSize_18 : decode cX4_variationSize 18 = .ok (.imul, 1) := by decide +kernel
theorem dX4_variationSize_19 : decode cX4_variationSize 19 = .ok (.iadd, 1) := by decide +kernel
theorem dX4_variationSize_20 : decode cX4_variationSize 20 = .ok (.ireturn, 1) := by decide +kernel
theorem dX4_source_0 : decode cX4_source 0 = .ok (.iload 4, 2) := by decide +kernel
theorem dX4_source_2 : decode cX4_source 2 = .ok (.istore 5, 2) := by decide +kernel
theorem dX4_source_4 : decode cX4_source 4 = .ok (.iconst 0, 1) := by decide +kernel
theorem dX4_source_5 : decode cX4_source 5 = .ok (.istore 6, 2) := by decide +kernel
theorem dX4_source_7 : decode cX4_source 7 = .ok (.iload 6, 2) := by decide +kernel
theorem dX4_source_9 : decode cX4_source 9 = .ok (.iload_n 2, 1) := by decide +kernel
theorem dX4_source_10 : decode cX4_source 10 = .ok (.if_icmp .ge 74, 3) := by decide +kernel
theorem dX4_source_13 : decode cX4_source 13 = .ok (.iload_n 3, 1) := by decide +kernel
theorem dX4_source_14 : decode cX4_source 14 = .ok (.iload 6, 2) := by decide +kernel
theorem dX4_source_16 : decode cX4_source 16 = .ok (.invokestatic 30, 3) := by decide +kernel
theorem dX4_source_19 : decode cX4_source 19 = .ok (.istore 7, 2) := by decide +kernel
theorem dX4_source_21 : decode cX4_source 21 = .ok (.iload 7, 2) := by decide +kernel
theorem dX4_source_23 : decode cX4_source 23 = .ok (.ifCond .eq 7, 3) := by decide +kernel
theorem dX4_source_26 : decode cX4_source 26 = .ok (.iconst 1, 1) := by decide +kernel
theorem dX4_source_27 : decode cX4_source 27 = .ok (.goto 9, 3) := by decide +kernel
theorem dX4_source_30 : decode cX4_source 30 = .ok (.aload_n 0, 1) := by decide +kernel
theorem dX4_source_31 : decode cX4_source 31 = .ok (.getfield 9, 3) := by decide +kernel
theorem dX4_source_34 : decode cX4_source 34 = .ok (.iload_n 1, 1) := by decide +kernel
theorem dX4_source_35 : decode cX4_source 35 = .ok (.iaload, 1) := by decide +kernel
theorem dX4_source_36 : decode cX4_source 36 = .ok (.istore 8, 2) := by decide +kernel
theorem dX4_source_38 : decode cX4_source 38 = .ok (.iload 5, 2) := by decide +kernel
theorem dX4_source_40 : decode cX4_source 40 = .ok (.iload 8, 2) := by decide +kernel
theorem dX4_source_42 : decode cX4_source 42 = .ok (.if_icmp .ge 29, 3) := by decide +kernel
theorem dX4_source_45 : decode cX4_source 45 = .ok (.iload 7, 2) := by decide +kernel
theorem dX4_source_47 : decode cX4_source 47 = .ok (.ifCond .eq 8, 3) := by decide +kernel
theorem dX4_source_50 : decode cX4_source 50 = .ok (.bipush 9, 2) := by decide +kernel
theorem dX4_source_52 : decode cX4_source 52 = .ok (.goto 12, 3) := by decide +kernel
theorem dX4_source_55 : decode cX4_source 55 = .ok (.aload_n 0, 1) := by decide +kernel
theorem dX4_source_56 : decode cX4_source 56 = .ok (.getfield 17, 3) := by decide +kernel
theorem dX4_source_59 : decode cX4_source 59 = .ok (.iload_n 1, 1) := by decide +kernel
theorem dX4_source_60 : decode cX4_source 60 = .ok (.aaload, 1) := by decide +kernel
theorem dX4_source_61 : decode cX4_source 61 = .ok (.iload 5, 2) := by decide +kernel
theorem dX4_source_63 : decode cX4_source 63 = .ok (.iaload, 1) := by decide +kernel
theorem dX4_source_64 : decode cX4_source 64 = .ok (.iload 6, 2) := by decide +kernel
theorem dX4_source_66 : decode cX4_source 66 = .ok (.iload_n 2, 1) := by decide +kernel
theorem dX4_source_67 : decode cX4_source 67 = .ok (.invokestatic 34, 3) := by decide +kernel
theorem dX4_source_70 : decode cX4_source 70 = .ok (.ireturn, 1) := by decide +kernel
theorem dX4_source_71 : decode cX4_source 71 = .ok (.iload 5, 2) := by decide +kernel
theorem dX4_source_73 : decode cX4_source 73 = .ok (.iload 8, 2) := by decide +kernel
theorem dX4_source_75 : decode cX4_source 75 = .ok (.isub, 1) := by decide +kernel
theorem dX4_source_76 : decode cX4_source 76 = .ok (.istore 5, 2) := by decide +kernel
theorem dX4_source_78 : decode cX4_source 78 = .ok (.iinc 6 1, 3) := by decide +kernel
theorem dX4_source_81 : decode cX4_source 81 = .ok (.goto (-74), 3) := by decide +kernel
theorem dX4_source_84 : decode cX4_source 84 = .ok (.iconst (-1), 1) := by decide +kernel
theorem dX4_source_85 : decode cX4_source 85 = .ok (.ireturn, 1) := by decide +kernel
theorem dX4_sourceOf_0 : decode cX4_sourceOf 0 = .ok (.iload_n 0, 1) := by decide +kernel
theorem dX4_sourceOf_1 : decode cX4_sourceOf 1 = .ok (.bipush 9, 2) := by decide +kernel
theorem dX4_sourceOf_3 : decode cX4_sourceOf 3 = .ok (.if_icmp .ne 8, 3) := by decide +kernel
theorem dX4_sourceOf_6 : decode cX4_sourceOf 6 = .ok (.bipush 16, 2) := by decide +kernel
theorem dX4_sourceOf_8 : decode cX4_sourceOf 8 = .ok (.iload_n 1, 1) := by decide +kernel
theorem dX4_sourceOf_9 : decode cX4_sourceOf 9 = .ok (.iadd, 1) := by decide +kernel
theorem dX4_sourceOf_10 : decode cX4_sourceOf 10 = .ok (.ireturn, 1) := by decide +kernel
theorem dX4_sourceOf_11 : decode cX4_sourceOf 11 = .ok (.iload_n 0, 1) := by decide +kernel
theorem dX4_sourceOf_12 : decode cX4_sourceOf 12 = .ok (.bipush 10, 2) := by decide +kernel
theorem dX4_sourceOf_14 : decode cX4_sourceOf 14 = .ok (.if_icmp .ne 21, 3) := by decide +kernel
theorem dX4_sourceOf_17 : decode cX4_sourceOf 17 = .ok (.bipush 16, 2) := by decide +kernel
theorem dX4_sourceOf_19 : decode cX4_sourceOf 19 = .ok (.iload_n 1, 1) := by decide +kernel
theorem dX4_sourceOf_20 : decode cX4_sourceOf 20 = .ok (.iconst 1, 1) := by decide +kernel
theorem dX4_sourceOf_21 : decode cX4_sourceOf 21 = .ok (.iadd, 1) := by decide +kernel
theorem dX4_sourceOf_22 : decode cX4_sourceOf 22 = .ok (.iload_n 2, 1) := by decide +kernel
theorem dX4_sourceOf_23 : decode cX4_sourceOf 23 = .ok (.if_icmp .ge 9, 3) := by decide +kernel
theorem dX4_sourceOf_26 : decode cX4_sourceOf 26 = .ok (.iload_n 1, 1) := by decide +kernel
theorem dX4_sourceOf_27 : decode cX4_sourceOf 27 = .ok (.iconst 1, 1) := by decide +kernel
theorem dX4_sourceOf_28 : decode cX4_sourceOf 28 = .ok (.iadd, 1) := by decide +kernel
theorem dX4_sourceOf_29 : decode cX4_sourceOf 29 = .ok (.goto 4, 3) := by decide +kernel
theorem dX4_sourceOf_32 : decode cX4_sourceOf 32 = .ok (.iconst 0, 1) := by decide +kernel
theorem dX4_sourceOf_33 : decode cX4_sourceOf 33 = .ok (.iadd, 1) := by decide +kernel
theorem dX4_sourceOf_34 : decode cX4_sourceOf 34 = .ok (.ireturn, 1) := by decide +kernel
theorem dX4_sourceOf_35 : decode cX4_sourceOf 35 = .ok (.iload_n 0, 1) := by decide +kernel
theorem dX4_sourceOf_36 : decode cX4_sourceOf 36 = .ok (.ireturn, 1) := by decide +kernel
theorem dX5_init_0 : decode cX5_init 0 = .ok (.aload_n 0, 1) := by decide +kernel
theorem dX5_init_1 : decode cX5_init 1 = .ok (.invokespecial 3, 3) := by decide +kernel
theorem dX5_init_4 : decode cX5_init 4 = .ok (.aload_n 0, 1) := by decide +kernel
theorem dX5_init_5 : decode cX5_init 5 = .ok (.iconst 3, 1) := by decide +kernel
theorem dX5_init_6 : decode cX5_init 6 = .ok (.newarray .int, 2) := by decide +kernel
theorem dX5_init_8 : decode cX5_init 8 = .ok (.putfield 9, 3) := by decide +kernel
theorem dX5_init_11 : decode cX5_init 11 = .ok (.aload_n 0, 1) := by decide +kernel
theorem dX5_init_12 : decode cX5_init 12 = .ok (.iconst 3, 1) := by decide +kernel
theorem dX5_init_13 : decode cX5_init 13 = .ok (.newarray .int, 2) := by decide +kernel
theorem dX5_init_15 : decode cX5_init 15 = .ok (.putfield 15, 3) := by decide +kernel
theorem dX5_init_18 : decode cX5_init 18 = .ok (.aload_n 0, 1) := by decide +kernel
theorem dX5_init_19 : decode cX5_init 19 = .ok (.iconst 3, 1) := by decide +kernel
theorem dX5_init_20 : decode cX5_init 20 = .ok (.bipush 64, 2) := by decide +kernel
theorem dX5_init_22 : decode cX5_init 22 = .ok (.multianewarray 18 2, 4) := by decide +kernel
theorem dX5_init_26 : decode cX5_init 26 = .ok (.putfield 20, 3) := by decide +kernel
theorem dX5_init_29 : decode cX5_init 29 = .ok (.aload_n 0, 1) := by decide +kernel
theorem dX5_init_30 : decode cX5_init 30 = .ok (.bipush 16, 2) := by decide +kernel
theorem dX5_init_32 : decode cX5_init 32 = .ok (.bipush 9, 2) := by decide +kernel
theorem dX5_init_34 : decode cX5_init 34 = .ok (.multianewarray 18 2, 4) := by decide +kernel
theorem dX5_init_38 : decode cX5_init 38 = .ok (.putfield 23, 3) := by decide +kernel
theorem dX5_init_41 : decode cX5_init 41 = .ok (.aload_n 0, 1) := by decide +kernel
theorem dX5_init_42 : decode cX5_init 42 = .ok (.bipush 16, 2) := by decide +kernel
theorem dX5_init_44 : decode cX5_init 44 = .ok (.newarray .int, 2) := by decide +kernel
theorem dX5_init_46 : decode cX5_init 46 = .ok (.putfield 26, 3) := by decide +kernel
theorem dX5_init_49 : decode cX5_init 49 = .ok (.aload_n 0, 1) := by decide +kernel
theorem dX5_init_50 : decode cX5_init 50 = .ok (.bipush 16, 2) := by decide +kernel
theorem dX5_init_52 : decode cX5_init 52 = .ok (.newarray .int, 2) := by decide +kernel
theorem dX5_init_54 : decode cX5_init 54 = .ok (.putfield 29, 3) := by decide +kernel
theorem dX5_init_57 : decode cX5_init 57 = .ok (.aload_n 0, 1) := by decide +kernel
theorem dX5_init_58 : decode cX5_init 58 = .ok (.aload_n 1, 1) := by decide +kernel
theorem dX5_init_59 : decode cX5_init 59 = .ok (.putfield 32, 3) := by decide +kernel
theorem dX5_init_62 : decode cX5_init 62 = .ok (.return_, 1) := by decide +kernel
theorem dX5_accept_0 : decode cX5_accept 0 = .ok (.aload_n 0, 1) := by decide +kernel
theorem dX5_accept_1 : decode cX5_accept 1 = .ok (.getfield 36, 3) := by decide +kernel
theorem dX5_accept_4 : decode cX5_accept 4 = .ok (.ifCond .eq 19, 3) := by decide +kernel
theorem dX5_accept_7 : decode cX5_accept 7 = .ok (.iload_n 1, 1) := by decide +kernel
theorem dX5_accept_8 : decode cX5_accept 8 = .ok (.aload_n 0, 1) := by decide +kernel
theorem dX5_accept_9 : decode cX5_accept 9 = .ok (.getfield 40, 3) := by decide +kernel
theorem dX5_accept_12 : decode cX5_accept 12 = .ok (.if_icmp .ne 15, 3) := by decide +kernel
theorem dX5_accept_15 : decode cX5_accept 15 = .ok (.iload_n 2, 1) := by decide +kernel
theorem dX5_accept_16 : decode cX5_accept 16 = .ok (.aload_n 0, 1) := by decide +kernel
theorem dX5_accept_17 : decode cX5_accept 17 = .ok (.getfield 43, 3) := by decide +kernel
theorem dX5_accept_20 : decode cX5_accept 20 = .ok (.if_icmp .ne 7, 3) := by decide +kernel
theorem dX5_accept_23 : decode cX5_accept 23 = .ok (.iconst 1, 1) := by decide +kernel
theorem dX5_accept_24 : decode cX5_accept 24 = .ok (.goto 4, 3) := by decide +kernel
theorem dX5_accept_27 : decode cX5_accept 27 = .ok (.iconst 0, 1) := by decide +kernel
theorem dX5_accept_28 : decode cX5_accept 28 = .ok (.ireturn, 1) := by decide +kernel
theorem dX5_useRule_0 : decode cX5_useRule 0 = .ok (.iconst 0, 1) := by decide +kernel
theorem dX5_useRule_1 : decode cX5_useRule 1 = .ok (.istore_n 2, 1) := by decide +kernel
theorem dX5_useRule_2 : decode cX5_useRule 2 = .ok (.iload_n 2, 1) := by decide +kernel
theorem dX5_useRule_3 : decode cX5_useRule 3 = .ok (.aload_n 0, 1) := by decide +kernel
theorem dX5_useRule_4 : decode cX5_useRule 4 = .ok (.getfield 36, 3) := by decide +kernel
theorem dX5_useRule_7 : decode cX5_useRule 7 = .ok (.if_icmp .ge 21, 3) := by decide +kernel
theorem dX5_useRule_10 : decode cX5_useRule 10 = .ok (.aload_n 0, 1) := by decide +kernel
theorem dX5_useRule_11 : decode cX5_useRule 11 = .ok (.getfield 9, 3) := by decide +kernel
theorem dX5_useRule_14 : decode cX5_useRule 14 = .ok (.iload_n 2, 1) := by decide +kernel
theorem dX5_useRule_15 : decode cX5_useRule 15 = .ok (.iaload, 1) := by decide +kernel
theorem dX5_useRule_16 : decode cX5_useRule 16 = .ok (.iload_n 1, 1) := by decide +kernel
theorem dX5_useRule_17 : decode cX5_useRule 17 = .ok (.if_icmp .ne 5, 3) := by decide +kernel
theorem dX5_useRule_20 : decode cX5_useRule 20 = .ok (.iconst 1, 1) := by decide +kernel
theorem dX5_useRule_21 : decode cX5_useRule 21 = .ok (.ireturn, 1) := by decide +kernel
theorem dX5_useRule_22 : decode cX5_useRule 22 = .ok (.iinc 2 1, 3) := by decide +kernel
theorem dX5_useRule_25 : decode cX5_useRule 25 = .ok (.goto (-23), 3) := by decide +kernel
theorem dX5_useRule_28 : decode cX5_useRule 28 = .ok (.iconst 0, 1) := by decide +kernel
theorem dX5_useRule_29 : decode cX5_useRule 29 = .ok (.ireturn, 1) := by decide +kernel
theorem dX5_append_0 : decode cX5_append 0 = .ok (.aload_n 0, 1) := by decide +kernel
theorem dX5_append_1 : decode cX5_append 1 = .ok (.iload_n 2, 1) := by decide +kernel
theorem dX5_append_2 : decode cX5_append 2 = .ok (.putfield 40, 3) := by decide +kernel
theorem dX5_append_5 : decode cX5_append 5 = .ok (.aload_n 0, 1) := by decide +kernel
theorem dX5_append_6 : decode cX5_append 6 = .ok (.iload_n 3, 1) := by decide +kernel
theorem dX5_append_7 : decode cX5_append 7 = .ok (.putfield 43, 3) := by decide +kernel
theorem dX5_append_10 : decode cX5_append 10 = .ok (.aload_n 0, 1) := by decide +kernel
theorem dX5_append_11 : decode cX5_append 11 = .ok (.getfield 9, 3) := by decide +kernel
theorem dX5_append_14 : decode cX5_append 14 = .ok (.aload_n 0, 1) := by decide +kernel
theorem dX5_append_15 : decode cX5_append 15 = .ok (.getfield 36, 3) := by decide +kernel
theorem dX5_append_18 : decode cX5_append 18 = .ok (.iload_n 1, 1) := by decide +kernel
theorem dX5_append_19 : decode cX5_append 19 = .ok (.iastore, 1) := by decide +kernel
theorem dX5_append_20 : decode cX5_append 20 = .ok (.aload_n 0, 1) := by decide +kernel
theorem dX5_append_21 : decode cX5_append 21 = .ok (.getfield 15, 3) := by decide +kernel
theorem dX5_append_24 : decode cX5_append 24 = .ok (.aload_n 0, 1) := by decide +kernel
theorem dX5_append_25 : decode cX5_append 25 = .ok (.getfield 36, 3) := by decide +kernel
theorem dX5_append_28 : decode cX5_append 28 = .ok (.aload_n 0, 1) := by decide +kernel
theorem dX5_append_29 : decode cX5_append 29 = .ok (.getfield 32, 3) := by decide +kernel
theorem dX5_append_32 : decode cX5_append 32 = .ok (.iload_n 1, 1) := by decide +kernel
theorem dX5_append_33 : decode cX5_append 33 = .ok (.iload_n 2, 1) := by decide +kernel
theorem dX5_append_34 : decode cX5_append 34 = .ok (.iload_n 3, 1) := by decide +kernel
theorem dX5_append_35 : decode cX5_append 35 = .ok (.invokevirtual 46, 3) := by decide +kernel
theorem dX5_append_38 : decode cX5_append 38 = .ok (.iastore, 1) := by decide +kernel
theorem dX5_append_39 : decode cX5_append 39 = .ok (.aload_n 0, 1) := by decide +kernel
theorem dX5_append_40 : decode cX5_append 40 = .ok (.getfield 20, 3) := by decide +kernel
theorem dX5_append_43 : decode cX5_append 43 = .ok (.aload_n 0, 1) := by decide +kernel
theorem dX5_append_44 : decode cX5_append 44 = .ok (.getfield 36, 3) := by decide +kernel
theorem dX5_append_47 : decode cX5_append 47 = .ok (.aaload, 1) := by decide +kernel
theorem dX5_append_48 : decode cX5_append 48 = .ok (.iconst (-1), 1) := by decide +kernel
theorem dX5_append_49 : decode cX5_append 49 = .ok (.invokestatic 52, 3) := by decide +kernel
theorem dX5_append_52 : decode cX5_append 52 = .ok (.aload_n 0, 1) := by decide +kernel
theorem dX5_append_53 : decode cX5_append 53 = .ok (.dup, 1) := by decide +kernel
theorem dX5_append_54 : decode cX5_append 54 = .ok (.getfield 36, 3) := by decide +kernel
theorem dX5_append_57 : decode cX5_append 57 = .ok (.iconst 1, 1) := by decide +kernel
theorem dX5_append_58 : decode cX5_append 58 = .ok (.iadd, 1) := by decide +kernel
theorem dX5_append_59 : decode cX5_append 59 = .ok (.putfield 36, 3) := by decide +kernel
theorem dX5_append_62 : decode cX5_append 62 = .ok (.aload_n 0, 1) := by decide +kernel
theorem dX5_append_63 : decode cX5_append 63 = .ok (.getfield 36, 3) := by decide +kernel
theorem dX5_append_66 : decode cX5_append 66 = .ok (.iconst 1, 1) := by decide +kernel
theorem dX5_append_67 : decode cX5_append 67 = .ok (.isub, 1) := by decide +kernel
theorem dX5_append_68 : decode cX5_append 68 = .ok (.ireturn, 1) := by decide +kernel
theorem dX5_agreeingGrounds_0 : decode cX5_agreeingGrounds 0 = .ok (.aload_n 0, 1) := by decide +kernel
theorem dX5_agreeingGrounds_1 : decode cX5_agreeingGrounds 1 = .ok (.invokevirtual 58, 3) := by decide +kernel
theorem dX5_agreeingGrounds_4 : decode cX5_agreeingGrounds 4 = .ok (.aload_n 0, 1) := by decide +kernel
theorem dX5_agreeingGrounds_5 : decode cX5_agreeingGrounds 5 = .ok (.getfield 61, 3) := by decide +kernel
theorem dX5_agreeingGrounds_8 : decode cX5_agreeingGrounds 8 = .ok (.ifCond .le 5, 3) := by decide +kernel
theorem dX5_agreeingGrounds_11 : decode cX5_agreeingGrounds 11 = .ok (.iconst 0, 1) := by decide +kernel
theorem dX5_agreeingGrounds_12 : decode cX5_agreeingGrounds 12 = .ok (.ireturn, 1) := by decide +kernel
theorem dX5_agreeingGrounds_13 : decode cX5_agreeingGrounds 13 = .ok (.iconst 1, 1) := by decide +kernel
theorem dX5_agreeingGrounds_14 : decode cX5_agreeingGrounds 14 = .ok (.istore_n 1, 1) := by decide +kernel
theorem dX5_agreeingGrounds_15 : decode cX5_agreeingGrounds 15 = .ok (.iconst 0, 1) := by decide +kernel
theorem dX5_agreeingGrounds_16 : decode cX5_agreeingGrounds 16 = .ok (.istore_n 2, 1) := by decide +kernel
theorem dX5_agreeingGrounds_17 : decode cX5_agreeingGrounds 17 = .ok (.iload_n 2, 1) := by decide +kernel
theorem dX5_agreeingGrounds_18 : decode cX5_agreeingGrounds 18 = .ok (.aload_n 0, 1) := by decide +kernel
theorem dX5_agreeingGrounds_19 : decode cX5_agreeingGrounds 19 = .ok (.getfield 40, 3) := by decide +kernel
theorem dX5_agreeingGrounds_22 : decode cX5_agreeingGrounds 22 = .ok (.if_icmp .ge 22, 3) := by decide +kernel
theorem dX5_agreeingGrounds_25 : decode cX5_agreeingGrounds 25 = .ok (.ldc 64, 2) := by decide +kernel
theorem dX5_agreeingGrounds_27 : decode cX5_agreeingGrounds 27 = .ok (.iload_n 1, 1) := by decide +kernel
theorem dX5_agreeingGrounds_28 : decode cX5_agreeingGrounds 28 = .ok (.aload_n 0, 1) := by decide +kernel
theorem dX5_agreeingGrounds_29 : decode cX5_agreeingGrounds 29 = .ok (.iload_n 2, 1) := by decide +kernel
theorem dX5_agreeingGrounds_30 : decode cX5_agreeingGrounds 30 = .ok (.invokevirtual 65, 3) := by decide +kernel
theorem dX5_agreeingGrounds_33 : decode cX5_agreeingGrounds 33 = .ok (.imul, 1) := by decide +kernel
theorem dX5_agreeingGrounds_34 : decode cX5_agreeingGrounds 34 = .ok (.invokestatic 69, 3) := by decide +kernel
theorem dX5_agreeingGrounds_37 : decode cX5_agreeingGrounds 37 = .ok (.istore_n 1, 1) := by decide +kernel
theorem dX5_agreeingGrounds_38 : decode cX5_agreeingGrounds 38 = .ok (.iinc 2 1, 3) := by decide +kernel
theorem dX5_agreeingGrounds_41 : decode cX5_agreeingGrounds 41 = .ok (.goto (-24), 3) := by decide +kernel
theorem dX5_agreeingGrounds_44 : decode cX5_agreeingGrounds 44 = .ok (.iload_n 1, 1) := by decide +kernel
theorem dX5_agreeingGrounds_45 : decode cX5_agreeingGrounds 45 = .ok (.ireturn, 1) := by decide +kernel
theorem dX5_chooseGround_0 : decode cX5_chooseGround 0 = .ok (.aload_n 0, 1) := by decide +kernel
theorem dX5_chooseGround_1 : decode cX5_chooseGround 1 = .ok (.invokevirtual 58, 3) := by decide +kernel
theorem dX5_chooseGround_4 : decode cX5_chooseGround 4 = .ok (.iconst 0, 1) := by decide +kernel
theorem dX5_chooseGround_5 : decode cX5_chooseGround 5 = .ok (.istore_n 1, 1) := by decide +kernel
theorem dX5_chooseGround_6 : decode cX5_chooseGround 6 = .ok (.iload_n 1, 1) := by decide +kernel
theorem dX5_chooseGround_7 : decode cX5_chooseGround 7 = .ok (.aload_n 0, 1) := by decide +kernel
theorem dX5_chooseGround_8 : decode cX5_chooseGround 8 = .ok (.getfield 40, 3) := by decide +kernel
theorem dX5_chooseGround_11 : decode cX5_chooseGround 11 = .ok (.if_icmp .ge 24, 3) := by decide +kernel
theorem dX5_chooseGround_14 : decode cX5_chooseGround 14 = .ok (.aload_n 0, 1) := by decide +kernel
theorem dX5_chooseGround_15 : decode cX5_chooseGround 15 = .ok (.getfield 29, 3) := by decide +kernel
theorem dX5_chooseGround_18 : decode cX5_chooseGround 18 = .ok (.iload_n 1, 1) := by decide +kernel
theorem dX5_chooseGround_19 : decode cX5_chooseGround 19 = .ok (.aload_n 0, 1) := by decide +kernel
theorem dX5_chooseGround_20 : decode cX5_chooseGround 20 = .ok (.getfield 23, 3) := by decide +kernel
theorem dX5_chooseGround_23 : decode cX5_chooseGround 23 = .ok (.iload_n 1, 1) := by decide +kernel
theorem dX5_chooseGround_24 : decode cX5_chooseGround 24 = .ok (.aaload, 1) := by decide +kernel
theorem dX5_chooseGround_25 : decode cX5_chooseGround 25 = .ok (.invokestatic 75, 3) := by decide +kernel
theorem dX5_chooseGround_28 : decode cX5_chooseGround 28 = .ok (.iastore, 1) := by decide +kernel
theorem dX5_chooseGround_29 : decode cX5_chooseGround 29 = .ok (.iinc 1 1, 3) := by decide +kernel
theorem dX5_chooseGround_32 : decode cX5_chooseGround 32 = .ok (.goto (-26), 3) := by decide +kernel
theorem dX5_chooseGround_35 : decode cX5_chooseGround 35 = .ok (.return_, 1) := by decide +kernel
theorem dX5_wrongCells_0 : decode cX5_wrongCells 0 = .ok (.iconst 0, 1) := by decide +kernel
theorem dX5_wrongCells_1 : decode cX5_wrongCells 1 = .ok (.istore_n 2, 1) := by decide +kernel
theorem dX5_wrongCells_2 : decode cX5_wrongCells 2 = .ok (.iconst 0, 1) := by decide +kernel
theorem dX5_wrongCells_3 : decode cX5_wrongCells 3 = .ok (.istore_n 3, 1) := by decide +kernel
theorem dX5_wrongCells_4 : decode cX5_wrongCells 4 = .ok (.iload_n 3, 1) := by decide +kernel
theorem dX5_wrongCells_5 : decode cX5_wrongCells 5 = .ok (.aload_n 0, 1) := by decide +kernel
theorem dX5_wrongCells_6 : decode cX5_wrongCells 6 = .ok (.getfield 15, 3) := by decide +kernel
theorem dX5_wrongCells_9 : decode cX5_wrongCells 9 = .ok (.iload_n 1, 1) := by decide +kernel
theorem dX5_wrongCells_10 : decode cX5_wrongCells 10 = .ok (.iaload, 1) := by decide +kernel
theorem dX5_wrongCells_11 : decode cX5_wrongCells 11 = .ok (.if_icmp .ge 21, 3) := by decide +kernel
theorem dX5_wrongCells_14 : decode cX5_wrongCells 14 = .ok (.aload_n 0, 1) := by decide +kernel
theorem dX5_wrongCells_15 : decode cX5_wrongCells 15 = .ok (.iload_n 1, 1) := by decide +kernel
theorem dX5_wrongCells_16 : decode cX5_wrongCells 16 = .ok (.iload_n 3, 1) := by decide +kernel
theorem dX5_wrongCells_17 : decode cX5_wrongCells 17 = .ok (.invokevirtual 79, 3) := by decide +kernel
theorem dX5_wrongCells_20 : decode cX5_wrongCells 20 = .ok (.ifCond .eq 6, 3) := by decide +kernel
theorem dX5_wrongCells_23 : decode cX5_wrongCells 23 = .ok (.iinc 2 1, 3) := by decide +kernel
theorem dX5_wrongCells_26 : decode cX5_wrongCells 26 = .ok (.iinc 3 1, 3) := by decide +kernel
theorem dX5_wrongCells_29 : decode cX5_wrongCells 29 = .ok (.goto (-25), 3) := by decide +kernel
theorem dX5_wrongCells_32 : decode cX5_wrongCells 32 = .ok (.iload_n 2, 1) := by decide +kernel
theorem dX5_wrongCells_33 : decode cX5_wrongCells 33 = .ok (.ireturn, 1) := by decide +kernel
theorem dX5_isWrong_0 : decode cX5_isWrong 0 = .ok (.aload_n 0, 1) := by decide +kernel
theorem dX5_isWrong_1 : decode cX5_isWrong 1 = .ok (.getfield 32, 3) := by decide +kernel
theorem dX5_isWrong_4 : decode cX5_isWrong 4 = .ok (.aload_n 0, 1) := by decide +kernel
theorem dX5_isWrong_5 : decode cX5_isWrong 5 = .ok (.getfield 9, 3) := by decide +kernel
theorem dX5_isWrong_8 : decode cX5_isWrong 8 = .ok (.iload_n 1, 1) := by decide +kernel
theorem dX5_isWrong_9 : decode cX5_isWrong 9 = .ok (.iaload, 1) := by decide +kernel
theorem dX5_isWrong_10 : decode cX5_isWrong 10 = .ok (.aload_n 0, 1) := by decide +kernel
theorem dX5_isWrong_11 : decode cX5_isWrong 11 = .ok (.getfield 40, 3) := by decide +kernel
theorem dX5_isWrong_14 : decode cX5_isWrong 14 = .ok (.aload_n 0, 1) := by decide +kernel
theorem dX5_isWrong_15 : decode cX5_isWrong 15 = .ok (.getfield 43, 3) := by decide +kernel
theorem dX5_isWrong_18 : decode cX5_isWrong 18 = .ok (.iload_n 2, 1) := by decide +kernel
theorem dX5_isWrong_19 : decode cX5_isWrong 19 = .ok (.invokevirtual 83, 3) := by decide +kernel
theorem dX5_isWrong_22 : decode cX5_isWrong 22 = .ok (.istore_n 3, 1) := by decide +kernel
theorem dX5_isWrong_23 : decode cX5_isWrong 23 = .ok (.iload_n 3, 1) := by decide +kernel
theorem dX5_isWrong_24 : decode cX5_isWrong 24 = .ok (.bipush 16, 2) := by decide +kernel
theorem dX5_isWrong_26 : decode cX5_isWrong 26 = .ok (.if_icmp .ge 7, 3) := by decide +kernel
theorem dX5_isWrong_29 : decode cX5_isWrong 29 = .ok (.iload_n 3, 1) := by decide +kernel
theorem dX5_isWrong_30 : decode cX5_isWrong 30 = .ok (.goto 12, 3) := by decide +kernel
theorem dX5_isWrong_33 : decode cX5_isWrong 33 = .ok (.aload_n 0, 1) := by decide +kernel
theorem dX5_isWrong_34 : decode cX5_isWrong 34 = .ok (.getfield 29, 3) := by decide +kernel
theorem dX5_isWrong_37 : decode cX5_isWrong 37 = .ok (.iload_n 3, 1) := by decide +kernel
theorem dX5_isWrong_38 : decode cX5_isWrong 38 = .ok (.bipush 16, 2) := by decide +kernel
theorem dX5_isWrong_40 : decode cX5_isWrong 40 = .ok (.isub, 1) := by decide +kernel
theorem dX5_isWrong_41 : decode cX5_isWrong 41 = .ok (.iaload, 1) := by decide +kernel
theorem dX5_isWrong_42 : decode cX5_isWrong 42 = .ok (.istore 4, 2) := by decide +kernel
theorem dX5_isWrong_44 : decode cX5_isWrong 44 = .ok (.aload_n 0, 1) := by decide +kernel
theorem dX5_isWrong_45 : decode cX5_isWrong 45 = .ok (.getfield 20, 3) := by decide +kernel
theorem dX5_isWrong_48 : decode cX5_isWrong 48 = .ok (.iload_n 1, 1) := by decide +kernel
theorem dX5_isWrong_49 : decode cX5_isWrong 49 = .ok (.aaload, 1) := by decide +kernel
theorem dX5_isWrong_50 : decode cX5_isWrong 50 = .ok (.iload_n 2, 1) := by decide +kernel
theorem dX5_isWrong_51 : decode cX5_isWrong 51 = .ok (.iaload, 1) := by decide +kernel
theorem dX5_isWrong_52 : decode cX5_isWrong 52 = .ok (.iconst (-1), 1) := by decide +kernel
theorem dX5_isWrong_53 : decode cX5_isWrong 53 = .ok (.if_icmp .eq 20, 3) := by decide +kernel
theorem dX5_isWrong_56 : decode cX5_isWrong 56 = .ok (.aload_n 0, 1) := by decide +kernel
theorem dX5_isWrong_57 : decode cX5_isWrong 57 = .ok (.getfield 20, 3) := by decide +kernel
theorem dX5_isWrong_60 : decode cX5_isWrong 60 = .ok (.iload_n 1, 1) := by decide +kernel
theorem dX5_isWrong_61 : decode cX5_isWrong 61 = .ok (.aaload, 1) := by decide +kernel
theorem dX5_isWrong_62 : decode cX5_isWrong 62 = .ok (.iload_n 2, 1) := by decide +kernel
theorem dX5_isWrong_63 : decode cX5_isWrong 63 = .ok (.iaload, 1) := by decide +kernel
theorem dX5_isWrong_64 : decode cX5_isWrong 64 = .ok (.iload 4, 2) := by decide +kernel
theorem dX5_isWrong_66 : decode cX5_isWrong 66 = .ok (.if_icmp .eq 7, 3) := by decide +kernel
theorem dX5_isWrong_69 : decode cX5_isWrong 69 = .ok (.iconst 1, 1) := by decide +kernel
theorem dX5_isWrong_70 : decode cX5_isWrong 70 = .ok (.goto 4, 3) := by decide +kernel
theorem dX5_isWrong_73 : decode cX5_isWrong 73 = .ok (.iconst 0, 1) := by decide +kernel
theorem dX5_isWrong_74 : decode cX5_isWrong 74 = .ok (.ireturn, 1) := by decide +kernel
theorem dX5_poll_0 : decode cX5_poll 0 = .ok (.aload_n 0, 1) := by decide +kernel
theorem dX5_poll_1 : decode cX5_poll 1 = .ok (.iconst 0, 1) := by decide +kernel
theorem dX5_poll_2 : decode cX5_poll 2 = .ok (.putfield 61, 3) := by decide +kernel
theorem dX5_poll_5 : decode cX5_poll 5 = .ok (.aload_n 0, 1) := by decide +kernel
theorem dX5_poll_6 : decode cX5_poll 6 = .ok (.getfield 26, 3) := by decide +kernel
theorem dX5_poll_9 : decode cX5_poll 9 = .ok (.iconst 0, 1) := by decide +kernel
theorem dX5_poll_10 : decode cX5_poll 10 = .ok (.invokestatic 52, 3) := by decide +kernel
theorem dX5_poll_13 : decode cX5_poll 13 = .ok (.iconst 0, 1) := by decide +kernel
theorem dX5_poll_14 : decode cX5_poll 14 = .ok (.istore_n 1, 1) := by decide +kernel
theorem dX5_poll_15 : decode cX5_poll 15 = .ok (.iload_n 1, 1) := by decide +kernel
theorem dX5_poll_16 : decode cX5_poll 16 = .ok (.bipush 16, 2) := by decide +kernel
theorem dX5_poll_18 : decode cX5_poll 18 = .ok (.if_icmp .ge 19, 3) := by decide +kernel
theorem dX5_poll_21 : decode cX5_poll 21 = .ok (.aload_n 0, 1) := by decide +kernel
theorem dX5_poll_22 : decode cX5_poll 22 = .ok (.getfield 23, 3) := by decide +kernel
theorem dX5_poll_25 : decode cX5_poll 25 = .ok (.iload_n 1, 1) := by decide +kernel
theorem dX5_poll_26 : decode cX5_poll 26 = .ok (.aaload, 1) := by decide +kernel
theorem dX5_poll_27 : decode cX5_poll 27 = .ok (.iconst 0, 1) := by decide +kernel
theorem dX5_poll_28 : decode cX5_poll 28 = .ok (.invokestatic 52, 3) := by decide +kernel
theorem dX5_poll_31 : decode cX5_poll 31 = .ok (.iinc 1 1, 3) := by decide +kernel
theorem dX5_poll_34 : decode cX5_poll 34 = .ok (.goto (-19), 3) := by decide +kernel
theorem dX5_poll_37 : decode cX5_poll 37 = .ok (.iconst 0, 1) := by decide +kernel
theorem dX5_poll_38 : decode cX5_poll 38 = .ok (.istore_n 1, 1) := by decide +kernel
theorem dX5_poll_39 : decode cX5_poll 39 = .ok (.iload_n 1, 1) := by decide +kernel
theorem dX5_poll_40 : decode cX5_poll 40 = .ok (.aload_n 0, 1) := by decide +kernel
theorem dX5_poll_41 : decode cX5_poll 41 = .ok (.getfield 36, 3) := by decide +kernel
theorem dX5_poll_44 : decode cX5_poll 44 = .ok (.if_icmp .ge 73, 3) := by decide +kernel
theorem dX5_poll_47 : decode cX5_poll 47 = .ok (.iconst 0, 1) := by decide +kernel
theorem dX5_poll_48 : decode cX5_poll 48 = .ok (.istore_n 2, 1) := by decide +kernel
theorem dX5_poll_49 : decode cX5_poll 49 = .ok (.iload_n 2, 1) := by decide +kernel
theorem dX5_poll_50 : decode cX5_poll 50 = .ok (.aload_n 0, 1) := by decide +kernel
theorem dX5_poll_51 : decode cX5_poll 51 = .ok (.getfield 15, 3) := by decide +kernel
theorem dX5_poll_54 : decode cX5_poll 54 = .ok (.iload_n 1, 1) := by decide +kernel
theorem dX5_poll_55 : decode cX5_poll 55 = .ok (.iaload, 1) := by decide +kernel
theorem dX5_poll_56 : decode cX5_poll 56 = .ok (.if_icmp .ge 55, 3) := by decide +kernel
theorem dX5_poll_59 : decode cX5_poll 59 = .ok (.aload_n 0, 1) := by decide +kernel
theorem dX5_poll_60 : decode cX5_poll 60 = .ok (.getfield 20, 3) := by decide +kernel
theorem dX5_poll_63 : decode cX5_poll 63 = .ok (.iload_n 1, 1) := by decide +kernel
theorem dX5_poll_64 : decode cX5_poll 64 = .ok (.aaload, 1) := by decide +kernel
theorem dX5_poll_65 : decode cX5_poll 65 = .ok (.iload_n 2, 1) := by decide +kernel
theorem dX5_poll_66 : decode cX5_poll 66 = .ok (.iaload, 1) := by decide +kernel
theorem dX5_poll_67 : decode cX5_poll 67 = .ok (.iconst (-1), 1) := by decide +kernel
theorem dX5_poll_68 : decode cX5_poll 68 = .ok (.if_icmp .eq 37, 3) := by decide +kernel
theorem dX5_poll_71 : decode cX5_poll 71 = .ok (.aload_n 0, 1) := by decide +kernel
theorem dX5_poll_72 : decode cX5_poll 72 = .ok (.aload_n 0, 1) := by decide +kernel
theorem dX5_poll_73 : decode cX5_poll 73 = .ok (.getfield 32, 3) := by decide +kernel
theorem dX5_poll_76 : decode cX5_poll 76 = .ok (.aload_n 0, 1) := by decide +kernel
theorem dX5_poll_77 : decode cX5_poll 77 = .ok (.getfield 9, 3) := by decide +kernel
theorem dX5_poll_80 : decode cX5_poll 80 = .ok (.iload_n 1, 1) := by decide +kernel
theorem dX5_poll_81 : decode cX5_poll 81 = .ok (.iaload, 1) := by decide +kernel
theorem dX5_poll_82 : decode cX5_poll 82 = .ok (.aload_n 0, 1) := by decide +kernel
theorem dX5_poll_83 : decode cX5_poll 83 = .ok (.getfield 40, 3) := by decide +kernel
theorem dX5_poll_86 : decode cX5_poll 86 = .ok (.aload_n 0, 1) := by decide +kernel
theorem dX5_poll_87 : decode cX5_poll 87 = .ok (.getfield 43, 3) := by decide +kernel
theorem dX5_poll_90 : decode cX5_poll 90 = .ok (.iload_n 2, 1) := by decide +kernel
theorem dX5_poll_91 : decode cX5_poll 91 = .ok (.invokevirtual 83, 3) := by decide +kernel
theorem dX5_poll_94 : decode cX5_poll 94 = .ok (.aload_n 0, 1) := by decide +kernel
theorem dX5_poll_95 : decode cX5_poll 95 = .ok (.getfield 20, 3) := by decide +kernel
theorem dX5_poll_98 : decode cX5_poll 98 = .ok (.iload_n 1, 1) := by decide +kernel
theorem dX5_poll_99 : decode cX5_poll 99 = .ok (.aaload, 1) := by decide +kernel
theorem dX5_poll_100 : decode cX5_poll 100 = .ok (.iload_n 2, 1) := by decide +kernel
theorem dX5_poll_101 : decode cX5_poll 101 = .ok (.iaload, 1) := by decide +kernel
theorem dX5_poll_102 : decode cX5_poll 102 = .ok (.invokevirtual 87, 3) := by decide +kernel
theorem dX5_poll_105 : decode cX5_poll 105 = .ok (.iinc 2 1, 3) := by decide +kernel
theorem dX5_poll_108 : decode cX5_poll 108 = .ok (.goto (-59), 3) := by decide +kernel
theorem dX5_poll_111 : decode cX5_poll 111 = .ok (.iinc 1 1, 3) := by decide +kernel
theorem dX5_poll_114 : decode cX5_poll 114 = .ok (.goto (-75), 3) := by decide +kernel
theorem dX5_poll_117 : decode cX5_poll 117 = .ok (.return_, 1) := by decide +kernel
theorem dX5_vote_0 : decode cX5_vote 0 = .ok (.iload_n 1, 1) := by decide +kernel
theorem dX5_vote_1 : decode cX5_vote 1 = .ok (.bipush 16, 2) := by decide +kernel
theorem dX5_vote_3 : decode cX5_vote 3 = .ok (.if_icmp .lt 34, 3) := by decide +kernel
theorem dX5_vote_6 : decode cX5_vote 6 = .ok (.aload_n 0, 1) := by decide +kernel
theorem dX5_vote_7 : decode cX5_vote 7 = .ok (.getfield 26, 3) := by decide +kernel
theorem dX5_vote_10 : decode cX5_vote 10 = .ok (.iload_n 1, 1) := by decide +kernel
theorem dX5_vote_11 : decode cX5_vote 11 = .ok (.bipush 16, 2) := by decide +kernel
theorem dX5_vote_13 : decode cX5_vote 13 = .ok (.isub, 1) := by decide +kernel
theorem dX5_vote_14 : decode cX5_vote 14 = .ok (.dup2, 1) := by decide +kernel
theorem dX5_vote_15 : decode cX5_vote 15 = .ok (.iaload, 1) := by decide +kernel
theorem dX5_vote_16 : decode cX5_vote 16 = .ok (.iconst 1, 1) := by decide +kernel
theorem dX5_vote_17 : decode cX5_vote 17 = .ok (.iadd, 1) := by decide +kernel
theorem dX5_vote_18 : decode cX5_vote 18 = .ok (.iastore, 1) := by decide +kernel
theorem dX5_vote_19 : decode cX5_vote 19 = .ok (.aload_n 0, 1) := by decide +kernel
theorem dX5_vote_20 : decode cX5_vote 20 = .ok (.getfield 23, 3) := by decide +kernel
theorem dX5_vote_23 : decode cX5_vote 23 = .ok (.iload_n 1, 1) := by decide +kernel
theorem dX5_vote_24 : decode cX5_vote 24 = .ok (.bipush 16, 2) := by decide +kernel
theorem dX5_vote_26 : decode cX5_vote 26 = .ok (.isub, 1) := by decide +kernel
theorem dX5_vote_27 : decode cX5_vote 27 = .ok (.aaload, 1) := by decide +kernel
theorem dX5_vote_28 : decode cX5_vote 28 = .ok (.iload_n 2, 1) := by decide +kernel
theorem dX5_vote_29 : decode cX5_vote 29 = .ok (.dup2, 1) := by decide +kernel
theorem dX5_vote_30 : decode cX5_vote 30 = .ok (.iaload, 1) := by decide +kernel
theorem dX5_vote_31 : decode cX5_vote 31 = .ok (.iconst 1, 1) := by decide +kernel
theorem dX5_vote_32 : decode cX5_vote 32 = .ok (.iadd, 1) := by decide +kernel
theorem dX5_vote_33 : decode cX5_vote 33 = .ok (.iastore, 1) := by decide +kernel
