theorem dX0_init_0 : decode cX0_init 0 = .ok (.aload_n 0, 1) := by decide +kernel
theorem dX0_init_1 : decode cX0_init 1 = .ok (.invokespecial 3, 3) := by decide +kernel
theorem dX0_init_4 : decode cX0_init 4 = .ok (.aload_n 0, 1) := by decide +kernel
theorem dX0_init_5 : decode cX0_init 5 = .ok (.new 9, 3) := by decide +kernel
theorem dX0_init_8 : decode cX0_init 8 = .ok (.dup, 1) := by decide +kernel
theorem dX0_init_9 : decode cX0_init 9 = .ok (.invokespecial 11, 3) := by decide +kernel
theorem dX0_init_12 : decode cX0_init 12 = .ok (.putfield 12, 3) := by decide +kernel
theorem dX0_init_15 : decode cX0_init 15 = .ok (.aload_n 0, 1) := by decide +kernel
theorem dX0_init_16 : decode cX0_init 16 = .ok (.new 18, 3) := by decide +kernel
theorem dX0_init_19 : decode cX0_init 19 = .ok (.dup, 1) := by decide +kernel
theorem dX0_init_20 : decode cX0_init 20 = .ok (.bipush 40, 2) := by decide +kernel
theorem dX0_init_22 : decode cX0_init 22 = .ok (.invokespecial 20, 3) := by decide +kernel
theorem dX0_init_25 : decode cX0_init 25 = .ok (.putfield 23, 3) := by decide +kernel
theorem dX0_init_28 : decode cX0_init 28 = .ok (.aload_n 0, 1) := by decide +kernel
theorem dX0_init_29 : decode cX0_init 29 = .ok (.new 18, 3) := by decide +kernel
theorem dX0_init_32 : decode cX0_init 32 = .ok (.dup, 1) := by decide +kernel
theorem dX0_init_33 : decode cX0_init 33 = .ok (.bipush 24, 2) := by decide +kernel
theorem dX0_init_35 : decode cX0_init 35 = .ok (.invokespecial 20, 3) := by decide +kernel
theorem dX0_init_38 : decode cX0_init 38 = .ok (.putfield 27, 3) := by decide +kernel
theorem dX0_init_41 : decode cX0_init 41 = .ok (.aload_n 0, 1) := by decide +kernel
theorem dX0_init_42 : decode cX0_init 42 = .ok (.bipush 13, 2) := by decide +kernel
theorem dX0_init_44 : decode cX0_init 44 = .ok (.newarray .int, 2) := by decide +kernel
theorem dX0_init_46 : decode cX0_init 46 = .ok (.putfield 30, 3) := by decide +kernel
theorem dX0_init_49 : decode cX0_init 49 = .ok (.aload_n 0, 1) := by decide +kernel
theorem dX0_init_50 : decode cX0_init 50 = .ok (.bipush 13, 2) := by decide +kernel
theorem dX0_init_52 : decode cX0_init 52 = .ok (.newarray .int, 2) := by decide +kernel
theorem dX0_init_54 : decode cX0_init 54 = .ok (.putfield 34, 3) := by decide +kernel
theorem dX0_init_57 : decode cX0_init 57 = .ok (.aload_n 0, 1) := by decide +kernel
theorem dX0_init_58 : decode cX0_init 58 = .ok (.sipush 1000, 3) := by decide +kernel
theorem dX0_init_61 : decode cX0_init 61 = .ok (.newarray .int, 2) := by decide +kernel
theorem dX0_init_63 : decode cX0_init 63 = .ok (.putfield 37, 3) := by decide +kernel
theorem dX0_init_66 : decode cX0_init 66 = .ok (.aload_n 0, 1) := by decide +kernel
theorem dX0_init_67 : decode cX0_init 67 = .ok (.sipush 1000, 3) := by decide +kernel
theorem dX0_init_70 : decode cX0_init 70 = .ok (.newarray .int, 2) := by decide +kernel
theorem dX0_init_72 : decode cX0_init 72 = .ok (.putfield 40, 3) := by decide +kernel
theorem dX0_init_75 : decode cX0_init 75 = .ok (.aload_n 0, 1) := by decide +kernel
theorem dX0_init_76 : decode cX0_init 76 = .ok (.sipush 1000, 3) := by decide +kernel
theorem dX0_init_79 : decode cX0_init 79 = .ok (.newarray .int, 2) := by decide +kernel
theorem dX0_init_81 : decode cX0_init 81 = .ok (.putfield 43, 3) := by decide +kernel
theorem dX0_init_84 : decode cX0_init 84 = .ok (.aload_n 0, 1) := by decide +kernel
theorem dX0_init_85 : decode cX0_init 85 = .ok (.sipush 1000, 3) := by decide +kernel
theorem dX0_init_88 : decode cX0_init 88 = .ok (.newarray .int, 2) := by decide +kernel
theorem dX0_init_90 : decode cX0_init 90 = .ok (.putfield 46, 3) := by decide +kernel
theorem dX0_init_93 : decode cX0_init 93 = .ok (.aload_n 0, 1) := by decide +kernel
theorem dX0_init_94 : decode cX0_init 94 = .ok (.aload_n 0, 1) := by decide +kernel
theorem dX0_init_95 : decode cX0_init 95 = .ok (.getfield 12, 3) := by decide +kernel
theorem dX0_init_98 : decode cX0_init 98 = .ok (.putfield 49, 3) := by decide +kernel
theorem dX0_init_101 : decode cX0_init 101 = .ok (.aload_n 0, 1) := by decide +kernel
theorem dX0_init_102 : decode cX0_init 102 = .ok (.aload_n 0, 1) := by decide +kernel
theorem dX0_init_103 : decode cX0_init 103 = .ok (.getfield 12, 3) := by decide +kernel
theorem dX0_init_106 : decode cX0_init 106 = .ok (.putfield 52, 3) := by decide +kernel
theorem dX0_init_109 : decode cX0_init 109 = .ok (.return_, 1) := by decide +kernel
theorem dX0_count_0 : decode cX0_count 0 = .ok (.aload_n 0, 1) := by decide +kernel
theorem dX0_count_1 : decode cX0_count 1 = .ok (.getfield 55, 3) := by decide +kernel
theorem dX0_count_4 : decode cX0_count 4 = .ok (.ireturn, 1) := by decide +kernel
theorem dX0_nodeAt_0 : decode cX0_nodeAt 0 = .ok (.iload_n 1, 1) := by decide +kernel
theorem dX0_nodeAt_1 : decode cX0_nodeAt 1 = .ok (.ifCond .lt 19, 3) := by decide +kernel
theorem dX0_nodeAt_4 : decode cX0_nodeAt 4 = .ok (.iload_n 1, 1) := by decide +kernel
theorem dX0_nodeAt_5 : decode cX0_nodeAt 5 = .ok (.sipush 1000, 3) := by decide +kernel
theorem dX0_nodeAt_8 : decode cX0_nodeAt 8 = .ok (.if_icmp .ge 12, 3) := by decide +kernel
theorem dX0_nodeAt_11 : decode cX0_nodeAt 11 = .ok (.aload_n 0, 1) := by decide +kernel
theorem dX0_nodeAt_12 : decode cX0_nodeAt 12 = .ok (.getfield 43, 3) := by decide +kernel
theorem dX0_nodeAt_15 : decode cX0_nodeAt 15 = .ok (.iload_n 1, 1) := by decide +kernel
theorem dX0_nodeAt_16 : decode cX0_nodeAt 16 = .ok (.iaload, 1) := by decide +kernel
theorem dX0_nodeAt_17 : decode cX0_nodeAt 17 = .ok (.goto 4, 3) := by decide +kernel
theorem dX0_nodeAt_20 : decode cX0_nodeAt 20 = .ok (.iconst (-1), 1) := by decide +kernel
theorem dX0_nodeAt_21 : decode cX0_nodeAt 21 = .ok (.ireturn, 1) := by decide +kernel
theorem dX0_wordAt_0 : decode cX0_wordAt 0 = .ok (.iload_n 1, 1) := by decide +kernel
theorem dX0_wordAt_1 : decode cX0_wordAt 1 = .ok (.ifCond .lt 19, 3) := by decide +kernel
theorem dX0_wordAt_4 : decode cX0_wordAt 4 = .ok (.iload_n 1, 1) := by decide +kernel
theorem dX0_wordAt_5 : decode cX0_wordAt 5 = .ok (.sipush 1000, 3) := by decide +kernel
theorem dX0_wordAt_8 : decode cX0_wordAt 8 = .ok (.if_icmp .ge 12, 3) := by decide +kernel
theorem dX0_wordAt_11 : decode cX0_wordAt 11 = .ok (.aload_n 0, 1) := by decide +kernel
theorem dX0_wordAt_12 : decode cX0_wordAt 12 = .ok (.getfield 46, 3) := by decide +kernel
theorem dX0_wordAt_15 : decode cX0_wordAt 15 = .ok (.iload_n 1, 1) := by decide +kernel
theorem dX0_wordAt_16 : decode cX0_wordAt 16 = .ok (.iaload, 1) := by decide +kernel
theorem dX0_wordAt_17 : decode cX0_wordAt 17 = .ok (.goto 4, 3) := by decide +kernel
theorem dX0_wordAt_20 : decode cX0_wordAt 20 = .ok (.iconst (-1), 1) := by decide +kernel
theorem dX0_wordAt_21 : decode cX0_wordAt 21 = .ok (.ireturn, 1) := by decide +kernel
theorem dX0_agrees_0 : decode cX0_agrees 0 = .ok (.aload_n 0, 1) := by decide +kernel
theorem dX0_agrees_1 : decode cX0_agrees 1 = .ok (.aload_n 1, 1) := by decide +kernel
theorem dX0_agrees_2 : decode cX0_agrees 2 = .ok (.aload_n 2, 1) := by decide +kernel
theorem dX0_agrees_3 : decode cX0_agrees 3 = .ok (.ldc 59, 2) := by decide +kernel
theorem dX0_agrees_5 : decode cX0_agrees 5 = .ok (.invokevirtual 60, 3) := by decide +kernel
theorem dX0_agrees_8 : decode cX0_agrees 8 = .ok (.aload_n 0, 1) := by decide +kernel
theorem dX0_agrees_9 : decode cX0_agrees 9 = .ok (.iconst 0, 1) := by decide +kernel
theorem dX0_agrees_10 : decode cX0_agrees 10 = .ok (.iconst 0, 1) := by decide +kernel
theorem dX0_agrees_11 : decode cX0_agrees 11 = .ok (.iconst 1, 1) := by decide +kernel
theorem dX0_agrees_12 : decode cX0_agrees 12 = .ok (.iconst 0, 1) := by decide +kernel
theorem dX0_agrees_13 : decode cX0_agrees 13 = .ok (.invokevirtual 64, 3) := by decide +kernel
theorem dX0_agrees_16 : decode cX0_agrees 16 = .ok (.ifCond .eq 14, 3) := by decide +kernel
theorem dX0_agrees_19 : decode cX0_agrees 19 = .ok (.aload_n 0, 1) := by decide +kernel
theorem dX0_agrees_20 : decode cX0_agrees 20 = .ok (.getfield 68, 3) := by decide +kernel
theorem dX0_agrees_23 : decode cX0_agrees 23 = .ok (.ifCond .ne 7, 3) := by decide +kernel
theorem dX0_agrees_26 : decode cX0_agrees 26 = .ok (.iconst 1, 1) := by decide +kernel
theorem dX0_agrees_27 : decode cX0_agrees 27 = .ok (.goto 4, 3) := by decide +kernel
theorem dX0_agrees_30 : decode cX0_agrees 30 = .ok (.iconst 0, 1) := by decide +kernel
theorem dX0_agrees_31 : decode cX0_agrees 31 = .ok (.ireturn, 1) := by decide +kernel
theorem dX0_examine_0 : decode cX0_examine 0 = .ok (.aload_n 0, 1) := by decide +kernel
theorem dX0_examine_1 : decode cX0_examine 1 = .ok (.aload_n 1, 1) := by decide +kernel
theorem dX0_examine_2 : decode cX0_examine 2 = .ok (.aload_n 2, 1) := by decide +kernel
theorem dX0_examine_3 : decode cX0_examine 3 = .ok (.sipush 2000, 3) := by decide +kernel
theorem dX0_examine_6 : decode cX0_examine 6 = .ok (.invokevirtual 60, 3) := by decide +kernel
theorem dX0_examine_9 : decode cX0_examine 9 = .ok (.aload_n 0, 1) := by decide +kernel
theorem dX0_examine_10 : decode cX0_examine 10 = .ok (.iconst 0, 1) := by decide +kernel
theorem dX0_examine_11 : decode cX0_examine 11 = .ok (.iconst 0, 1) := by decide +kernel
theorem dX0_examine_12 : decode cX0_examine 12 = .ok (.iconst 0, 1) := by decide +kernel
theorem dX0_examine_13 : decode cX0_examine 13 = .ok (.iconst 0, 1) := by decide +kernel
theorem dX0_examine_14 : decode cX0_examine 14 = .ok (.invokevirtual 64, 3) := by decide +kernel
theorem dX0_examine_17 : decode cX0_examine 17 = .ok (.pop, 1) := by decide +kernel
theorem dX0_examine_18 : decode cX0_examine 18 = .ok (.iconst 0, 1) := by decide +kernel
theorem dX0_examine_19 : decode cX0_examine 19 = .ok (.istore_n 3, 1) := by decide +kernel
theorem dX0_examine_20 : decode cX0_examine 20 = .ok (.iload_n 3, 1) := by decide +kernel
theorem dX0_examine_21 : decode cX0_examine 21 = .ok (.aload_n 0, 1) := by decide +kernel
theorem dX0_examine_22 : decode cX0_examine 22 = .ok (.getfield 72, 3) := by decide +kernel
theorem dX0_examine_25 : decode cX0_examine 25 = .ok (.if_icmp .ge 54, 3) := by decide +kernel
theorem dX0_examine_28 : decode cX0_examine 28 = .ok (.iload_n 3, 1) := by decide +kernel
theorem dX0_examine_29 : decode cX0_examine 29 = .ok (.sipush 1000, 3) := by decide +kernel
theorem dX0_examine_32 : decode cX0_examine 32 = .ok (.if_icmp .ge 47, 3) := by decide +kernel
theorem dX0_examine_35 : decode cX0_examine 35 = .ok (.aload_n 0, 1) := by decide +kernel
theorem dX0_examine_36 : decode cX0_examine 36 = .ok (.getfield 68, 3) := by decide +kernel
theorem dX0_examine_39 : decode cX0_examine 39 = .ok (.ifCond .ne 40, 3) := by decide +kernel
theorem dX0_examine_42 : decode cX0_examine 42 = .ok (.aload_n 0, 1) := by decide +kernel
theorem dX0_examine_43 : decode cX0_examine 43 = .ok (.getfield 43, 3) := by decide +kernel
theorem dX0_examine_46 : decode cX0_examine 46 = .ok (.iload_n 3, 1) := by decide +kernel
theorem dX0_examine_47 : decode cX0_examine 47 = .ok (.aload_n 0, 1) := by decide +kernel
theorem dX0_examine_48 : decode cX0_examine 48 = .ok (.getfield 37, 3) := by decide +kernel
theorem dX0_examine_51 : decode cX0_examine 51 = .ok (.iload_n 3, 1) := by decide +kernel
theorem dX0_examine_52 : decode cX0_examine 52 = .ok (.iaload, 1) := by decide +kernel
theorem dX0_examine_53 : decode cX0_examine 53 = .ok (.iastore, 1) := by decide +kernel
theorem dX0_examine_54 : decode cX0_examine 54 = .ok (.aload_n 0, 1) := by decide +kernel
theorem dX0_examine_55 : decode cX0_examine 55 = .ok (.getfield 46, 3) := by decide +kernel
theorem dX0_examine_58 : decode cX0_examine 58 = .ok (.iload_n 3, 1) := by decide +kernel
theorem dX0_examine_59 : decode cX0_examine 59 = .ok (.aload_n 0, 1) := by decide +kernel
theorem dX0_examine_60 : decode cX0_examine 60 = .ok (.getfield 40, 3) := by decide +kernel
theorem dX0_examine_63 : decode cX0_examine 63 = .ok (.iload_n 3, 1) := by decide +kernel
theorem dX0_examine_64 : decode cX0_examine 64 = .ok (.iaload, 1) := by decide +kernel
theorem dX0_examine_65 : decode cX0_examine 65 = .ok (.iastore, 1) := by decide +kernel
theorem dX0_examine_66 : decode cX0_examine 66 = .ok (.aload_n 0, 1) := by decide +kernel
theorem dX0_examine_67 : decode cX0_examine 67 = .ok (.iload_n 3, 1) := by decide +kernel
theorem dX0_examine_68 : decode cX0_examine 68 = .ok (.iconst 1, 1) := by decide +kernel
theorem dX0_examine_69 : decode cX0_examine 69 = .ok (.iadd, 1) := by decide +kernel
theorem dX0_examine_70 : decode cX0_examine 70 = .ok (.putfield 55, 3) := by decide +kernel
theorem dX0_examine_73 : decode cX0_examine 73 = .ok (.iinc 3 1, 3) := by decide +kernel
theorem dX0_examine_76 : decode cX0_examine 76 = .ok (.goto (-56), 3) := by decide +kernel
theorem dX0_examine_79 : decode cX0_examine 79 = .ok (.aload_n 0, 1) := by decide +kernel
theorem dX0_examine_80 : decode cX0_examine 80 = .ok (.getfield 72, 3) := by decide +kernel
theorem dX0_examine_83 : decode cX0_examine 83 = .ok (.ifCond .ne 15, 3) := by decide +kernel
theorem dX0_examine_86 : decode cX0_examine 86 = .ok (.aload_n 0, 1) := by decide +kernel
theorem dX0_examine_87 : decode cX0_examine 87 = .ok (.getfield 68, 3) := by decide +kernel
theorem dX0_examine_90 : decode cX0_examine 90 = .ok (.ifCond .ne 8, 3) := by decide +kernel
theorem dX0_examine_93 : decode cX0_examine 93 = .ok (.aload_n 0, 1) := by decide +kernel
theorem dX0_examine_94 : decode cX0_examine 94 = .ok (.iconst 0, 1) := by decide +kernel
theorem dX0_examine_95 : decode cX0_examine 95 = .ok (.putfield 55, 3) := by decide +kernel
theorem dX0_examine_98 : decode cX0_examine 98 = .ok (.aload_n 0, 1) := by decide +kernel
theorem dX0_examine_99 : decode cX0_examine 99 = .ok (.getfield 68, 3) := by decide +kernel
theorem dX0_examine_102 : decode cX0_examine 102 = .ok (.ifCond .ne 7, 3) := by decide +kernel
theorem dX0_examine_105 : decode cX0_examine 105 = .ok (.iconst 1, 1) := by decide +kernel
theorem dX0_examine_106 : decode cX0_examine 106 = .ok (.goto 4, 3) := by decide +kernel
theorem dX0_examine_109 : decode cX0_examine 109 = .ok (.iconst 0, 1) := by decide +kernel
theorem dX0_examine_110 : decode cX0_examine 110 = .ok (.ireturn, 1) := by decide +kernel
theorem dX0_begin_0 : decode cX0_begin 0 = .ok (.aload_n 0, 1) := by decide +kernel
theorem dX0_begin_1 : decode cX0_begin 1 = .ok (.aload_n 1, 1) := by decide +kernel
theorem dX0_begin_2 : decode cX0_begin 2 = .ok (.putfield 49, 3) := by decide +kernel
theorem dX0_begin_5 : decode cX0_begin 5 = .ok (.aload_n 0, 1) := by decide +kernel
theorem dX0_begin_6 : decode cX0_begin 6 = .ok (.aload_n 2, 1) := by decide +kernel
theorem dX0_begin_7 : decode cX0_begin 7 = .ok (.putfield 52, 3) := by decide +kernel
theorem dX0_begin_10 : decode cX0_begin 10 = .ok (.aload_n 0, 1) := by decide +kernel
theorem dX0_begin_11 : decode cX0_begin 11 = .ok (.iload_n 3, 1) := by decide +kernel
theorem dX0_begin_12 : decode cX0_begin 12 = .ok (.putfield 75, 3) := by decide +kernel
theorem dX0_begin_15 : decode cX0_begin 15 = .ok (.aload_n 0, 1) := by decide +kernel
theorem dX0_begin_16 : decode cX0_begin 16 = .ok (.iconst 0, 1) := by decide +kernel
theorem dX0_begin_17 : decode cX0_begin 17 = .ok (.putfield 78, 3) := by decide +kernel
theorem dX0_begin_20 : decode cX0_begin 20 = .ok (.aload_n 0, 1) := by decide +kernel
theorem dX0_begin_21 : decode cX0_begin 21 = .ok (.iconst 0, 1) := by decide +kernel
theorem dX0_begin_22 : decode cX0_begin 22 = .ok (.putfield 81, 3) := by decide +kernel
theorem dX0_begin_25 : decode cX0_begin 25 = .ok (.aload_n 0, 1) := by decide +kernel
theorem dX0_begin_26 : decode cX0_begin 26 = .ok (.iconst 0, 1) := by decide +kernel
theorem dX0_begin_27 : decode cX0_begin 27 = .ok (.putfield 72, 3) := by decide +kernel
theorem dX0_begin_30 : decode cX0_begin 30 = .ok (.aload_n 0, 1) := by decide +kernel
theorem dX0_begin_31 : decode cX0_begin 31 = .ok (.iconst 0, 1) := by decide +kernel
theorem dX0_begin_32 : decode cX0_begin 32 = .ok (.putfield 68, 3) := by decide +kernel
theorem dX0_begin_35 : decode cX0_begin 35 = .ok (.return_, 1) := by decide +kernel
theorem dX0_complain_0 : decode cX0_complain 0 = .ok (.iload_n 3, 1) := by decide +kernel
theorem dX0_complain_1 : decode cX0_complain 1 = .ok (.ifCond .eq 4, 3) := by decide +kernel
theorem dX0_complain_4 : decode cX0_complain 4 = .ok (.return_, 1) := by decide +kernel
theorem dX0_complain_5 : decode cX0_complain 5 = .ok (.aload_n 0, 1) := by decide +kernel
theorem dX0_complain_6 : decode cX0_complain 6 = .ok (.getfield 72, 3) := by decide +kernel
theorem dX0_complain_9 : decode cX0_complain 9 = .ok (.ifCond .lt 13, 3) := by decide +kernel
theorem dX0_complain_12 : decode cX0_complain 12 = .ok (.aload_n 0, 1) := by decide +kernel
theorem dX0_complain_13 : decode cX0_complain 13 = .ok (.getfield 72, 3) := by decide +kernel
theorem dX0_complain_16 : decode cX0_complain 16 = .ok (.sipush 1000, 3) := by decide +kernel
theorem dX0_complain_19 : decode cX0_complain 19 = .ok (.if_icmp .lt 9, 3) := by decide +kernel
theorem dX0_complain_22 : decode cX0_complain 22 = .ok (.aload_n 0, 1) := by decide +kernel
theorem dX0_complain_23 : decode cX0_complain 23 = .ok (.iconst 1, 1) := by decide +kernel
theorem dX0_complain_24 : decode cX0_complain 24 = .ok (.putfield 68, 3) := by decide +kernel
theorem dX0_complain_27 : decode cX0_complain 27 = .ok (.return_, 1) := by decide +kernel
theorem dX0_complain_28 : decode cX0_complain 28 = .ok (.aload_n 0, 1) := by decide +kernel
theorem dX0_complain_29 : decode cX0_complain 29 = .ok (.getfield 37, 3) := by decide +kernel
theorem dX0_complain_32 : decode cX0_complain 32 = .ok (.aload_n 0, 1) := by decide +kernel
theorem dX0_complain_33 : decode cX0_complain 33 = .ok (.getfield 72, 3) := by decide +kernel
theorem dX0_complain_36 : decode cX0_complain 36 = .ok (.iload_n 1, 1) := by decide +kernel
theorem dX0_complain_37 : decode cX0_complain 37 = .ok (.iastore, 1) := by decide +kernel
theorem dX0_complain_38 : decode cX0_complain 38 = .ok (.aload_n 0, 1) := by decide +kernel
theorem dX0_complain_39 : decode cX0_complain 39 = .ok (.getfield 40, 3) := by decide +kernel
theorem dX0_complain_42 : decode cX0_complain 42 = .ok (.aload_n 0, 1) := by decide +kernel
theorem dX0_complain_43 : decode cX0_complain 43 = .ok (.getfield 72, 3) := by decide +kernel
theorem dX0_complain_46 : decode cX0_complain 46 = .ok (.iload_n 2, 1) := by decide +kernel
theorem dX0_complain_47 : decode cX0_complain 47 = .ok (.iastore, 1) := by decide +kernel
theorem dX0_complain_48 : decode cX0_complain 48 = .ok (.aload_n 0, 1) := by decide +kernel
theorem dX0_complain_49 : decode cX0_complain 49 = .ok (.dup, 1) := by decide +kernel
theorem dX0_complain_50 : decode cX0_complain 50 = .ok (.getfield 72, 3) := by decide +kernel
theorem dX0_complain_53 : decode cX0_complain 53 = .ok (.iconst 1, 1) := by decide +kernel
theorem dX0_complain_54 : decode cX0_complain 54 = .ok (.iadd, 1) := by decide +kernel
theorem dX0_complain_55 : decode cX0_complain 55 = .ok (.putfield 72, 3) := by decide +kernel
theorem dX0_complain_58 : decode cX0_complain 58 = .ok (.return_, 1) := by decide +kernel
theorem dX0_wordOf_0 : decode cX0_wordOf 0 = .ok (.iload_n 0, 1) := by decide +kernel
theorem dX0_wordOf_1 : decode cX0_wordOf 1 = .ok (.tableswitch 113 1 14 #[71, 74, 77, 80, 83, 86, 89, 92, 95, 98, 101, 104, 107, 110], 71) := by decide +kernel
theorem dX0_wordOf_72 : decode cX0_wordOf 72 = .ok (.ldc 84, 2) := by decide +kernel
theorem dX0_wordOf_74 : decode cX0_wordOf 74 = .ok (.areturn, 1) := by decide +kernel
theorem dX0_wordOf_75 : decode cX0_wordOf 75 = .ok (.ldc 86, 2) := by decide +kernel
theorem dX0_wordOf_77 : decode cX0_wordOf 77 = .ok (.areturn, 1) := by decide +kernel
theorem dX0_wordOf_78 : decode cX0_wordOf 78 = .ok (.ldc 88, 2) := by decide +kernel
theorem dX0_wordOf_80 : decode cX0_wordOf 80 = .ok (.areturn, 1) := by decide +kernel
theorem dX0_wordOf_81 : decode cX0_wordOf 81 = .ok (.ldc 90, 2) := by decide +kernel
theorem dX0_wordOf_83 : decode cX0_wordOf 83 = .ok (.areturn, 1) := by decide +kernel
theorem dX0_wordOf_84 : decode cX0_wordOf 84 = .ok (.ldc 92, 2) := by decide +kernel
theorem dX0_wordOf_86 : decode cX0_wordOf 86 = .ok (.areturn, 1) := by decide +kernel
theorem dX0_wordOf_87 : decode cX0_wordOf 87 = .ok (.ldc 94, 2) := by decide +kernel
theorem dX0_wordOf_89 : decode cX0_wordOf 89 = .ok (.areturn, 1) := by decide +kernel
theorem dX0_wordOf_90 : decode cX0_wordOf 90 = .ok (.ldc 96, 2) := by decide +kernel
theorem dX0_wordOf_92 : decode cX0_wordOf 92 = .ok (.areturn, 1) := by decide +kernel
theorem dX0_wordOf_93 : decode cX0_wordOf 93 = .ok (.ldc 98, 2) := by decide +kernel
theorem dX0_wordOf_95 : decode cX0_wordOf 95 = .ok (.areturn, 1) := by decide +kernel
theorem dX0_wordOf_96 : decode cX0_wordOf 96 = .ok (.ldc 100, 2) := by decide +kernel
theorem dX0_wordOf_98 : decode cX0_wordOf 98 = .ok (.areturn, 1) := by decide +kernel
theorem dX0_wordOf_99 : decode cX0_wordOf 99 = .ok (.ldc 102, 2) := by decide +kernel
theorem dX0_wordOf_101 : decode cX0_wordOf 101 = .ok (.areturn, 1) := by decide +kernel
theorem dX0_wordOf_102 : decode cX0_wordOf 102 = .ok (.ldc 104, 2) := by decide +kernel
theorem dX0_wordOf_104 : decode cX0_wordOf 104 = .ok (.areturn, 1) := by decide +kernel
theorem dX0_wordOf_105 : decode cX0_wordOf 105 = .ok (.ldc 106, 2) := by decide +kernel
theorem dX0_wordOf_107 : decode cX0_wordOf 107 = .ok (.areturn, 1) := by decide +kernel
theorem dX0_wordOf_108 : decode cX0_wordOf 108 = .ok (.ldc 108, 2) := by decide +kernel
theorem dX0_wordOf_110 : decode cX0_wordOf 110 = .ok (.areturn, 1) := by decide +kernel
theorem dX0_wordOf_111 : decode cX0_wordOf 111 = .ok (.ldc 110, 2) := by decide +kernel
theorem dX0_wordOf_113 : decode cX0_wordOf 113 = .ok (.areturn, 1) := by decide +kernel
theorem dX0_wordOf_114 : decode cX0_wordOf 114 = .ok (.ldc 112, 2) := by decide +kernel
theorem dX0_wordOf_116 : decode cX0_wordOf 116 = .ok (.areturn, 1) := by decide +kernel
theorem dX0_kindOf_0 : decode cX0_kindOf 0 = .ok (.iload_n 0, 1) := by decide +kernel
theorem dX0_kindOf_1 : decode cX0_kindOf 1 = .ok (.tableswitch 50 0 4 #[35, 38, 41, 44, 47], 35) := by decide +kernel
theorem dX0_kindOf_36 : decode cX0_kindOf 36 = .ok (.ldc 114, 2) := by decide +kernel
theorem dX0_kindOf_38 : decode cX0_kindOf 38 = .ok (.areturn, 1) := by decide +kernel
theorem dX0_kindOf_39 : decode cX0_kindOf 39 = .ok (.ldc 116, 2) := by decide +kernel
theorem dX0_kindOf_41 : decode cX0_kindOf 41 = .ok (.areturn, 1) := by decide +kernel
theorem dX0_kindOf_42 : decode cX0_kindOf 42 = .ok (.ldc 118, 2) := by decide +kernel
theorem dX0_kindOf_44 : decode cX0_kindOf 44 = .ok (.areturn, 1) := by decide +kernel
theorem dX0_kindOf_45 : decode cX0_kindOf 45 = .ok (.ldc 120, 2) := by decide +kernel
theorem dX0_kindOf_47 : decode cX0_kindOf 47 = .ok (.areturn, 1) := by decide +kernel
theorem dX0_kindOf_48 : decode cX0_kindOf 48 = .ok (.ldc 122, 2) := by decide +kernel
theorem dX0_kindOf_50 : decode cX0_kindOf 50 = .ok (.areturn, 1) := by decide +kernel
theorem dX0_kindOf_51 : decode cX0_kindOf 51 = .ok (.ldc 124, 2) := by decide +kernel
theorem dX0_kindOf_53 : decode cX0_kindOf 53 = .ok (.areturn, 1) := by decide +kernel
theorem dX0_ask_0 : decode cX0_ask 0 = .ok (.aload_n 0, 1) := by decide +kernel
theorem dX0_ask_1 : decode cX0_ask 1 = .ok (.dup, 1) := by decide +kernel
theorem dX0_ask_2 : decode cX0_ask 2 = .ok (.getfield 78, 3) := by decide +kernel
theorem dX0_ask_5 : decode cX0_ask 5 = .ok (.iconst 1, 1) := by decide +kernel
theorem dX0_ask_6 : decode cX0_ask 6 = .ok (.iadd, 1) := by decide +kernel
theorem dX0_ask_7 : decode cX0_ask 7 = .ok (.putfield 78, 3) := by decide +kernel
theorem dX0_ask_10 : decode cX0_ask 10 = .ok (.aload_n 0, 1) := by decide +kernel
theorem dX0_ask_11 : decode cX0_ask 11 = .ok (.aload_n 0, 1) := by decide +kernel
theorem dX0_ask_12 : decode cX0_ask 12 = .ok (.getfield 68, 3) := by decide +kernel
theorem dX0_ask_15 : decode cX0_ask 15 = .ok (.ifCond .ne 22, 3) := by decide +kernel
theorem dX0_ask_18 : decode cX0_ask 18 = .ok (.aload_n 0, 1) := by decide +kernel
theorem dX0_ask_19 : decode cX0_ask 19 = .ok (.getfield 78, 3) := by decide +kernel
theorem dX0_ask_22 : decode cX0_ask 22 = .ok (.aload_n 0, 1) := by decide +kernel
theorem dX0_ask_23 : decode cX0_ask 23 = .ok (.getfield 75, 3) := by decide +kernel
theorem dX0_ask_26 : decode cX0_ask 26 = .ok (.if_icmp .gt 11, 3) := by decide +kernel
theorem dX0_ask_29 : decode cX0_ask 29 = .ok (.iload 4, 2) := by decide +kernel
theorem dX0_ask_31 : decode cX0_ask 31 = .ok (.sipush 150, 3) := by decide +kernel
theorem dX0_ask_34 : decode cX0_ask 34 = .ok (.if_icmp .le 7, 3) := by decide +kernel
theorem dX0_ask_37 : decode cX0_ask 37 = .ok (.iconst 1, 1) := by decide +kernel
theorem dX0_ask_38 : decode cX0_ask 38 = .ok (.goto 4, 3) := by decide +kernel
theorem dX0_ask_41 : decode cX0_ask 41 = .ok (.iconst 0, 1) := by decide +kernel
theorem dX0_ask_42 : decode cX0_ask 42 = .ok (.putfield 68, 3) := by decide +kernel
theorem dX0_ask_45 : decode cX0_ask 45 = .ok (.aload_n 0, 1) := by decide +kernel
theorem dX0_ask_46 : decode cX0_ask 46 = .ok (.getfield 68, 3) := by decide +kernel
theorem dX0_ask_49 : decode cX0_ask 49 = .ok (.ifCond .eq 5, 3) := by decide +kernel
theorem dX0_ask_52 : decode cX0_ask 52 = .ok (.iconst 0, 1) := by decide +kernel
theorem dX0_ask_53 : decode cX0_ask 53 = .ok (.ireturn, 1) := by decide +kernel
theorem dX0_ask_54 : decode cX0_ask 54 = .ok (.aload_n 0, 1) := by decide +kernel
theorem dX0_ask_55 : decode cX0_ask 55 = .ok (.getfield 49, 3) := by decide +kernel
theorem dX0_ask_58 : decode cX0_ask 58 = .ok (.iload_n 1, 1) := by decide +kernel
theorem dX0_ask_59 : decode cX0_ask 59 = .ok (.iconst 5, 1) := by decide +kernel
theorem dX0_ask_60 : decode cX0_ask 60 = .ok (.invokevirtual 126, 3) := by decide +kernel
theorem dX0_ask_63 : decode cX0_ask 63 = .ok (.ifCond .ne 28, 3) := by decide +kernel
theorem dX0_ask_66 : decode cX0_ask 66 = .ok (.aload_n 0, 1) := by decide +kernel
theorem dX0_ask_67 : decode cX0_ask 67 = .ok (.getfield 49, 3) := by decide +kernel
theorem dX0_ask_70 : decode cX0_ask 70 = .ok (.iload_n 1, 1) := by decide +kernel
theorem dX0_ask_71 : decode cX0_ask 71 = .ok (.invokevirtual 130, 3) := by decide +kernel
theorem dX0_ask_74 : decode cX0_ask 74 = .ok (.istore 5, 2) := by decide +kernel
theorem dX0_ask_76 : decode cX0_ask 76 = .ok (.iload 5, 2) := by decide +kernel
theorem dX0_ask_78 : decode cX0_ask 78 = .ok (.ifCond .ne 10, 3) := by decide +kernel
theorem dX0_ask_81 : decode cX0_ask 81 = .ok (.aload_n 0, 1) := by decide +kernel
theorem dX0_ask_82 : decode cX0_ask 82 = .ok (.iload_n 2, 1) := by decide +kernel
theorem dX0_ask_83 : decode cX0_ask 83 = .ok (.iconst 0, 1) := by decide +kernel
theorem dX0_ask_84 : decode cX0_ask 84 = .ok (.iload_n 3, 1) := by decide +kernel
theorem dX0_ask_85 : decode cX0_ask 85 = .ok (.invokevirtual 134, 3) := by decide +kernel
theorem dX0_ask_88 : decode cX0_ask 88 = .ok (.iload 5, 2) := by decide +kernel
theorem dX0_ask_90 : decode cX0_ask 90 = .ok (.ireturn, 1) := by decide +kernel
theorem dX0_ask_91 : decode cX0_ask 91 = .ok (.iconst 1, 1) := by decide +kernel
theorem dX0_ask_92 : decode cX0_ask 92 = .ok (.istore 5, 2) := by decide +kernel
theorem dX0_ask_94 : decode cX0_ask 94 = .ok (.iconst 1, 1) := by decide +kernel
theorem dX0_ask_95 : decode cX0_ask 95 = .ok (.istore 6, 2) := by decide +kernel
theorem dX0_ask_97 : decode cX0_ask 97 = .ok (.iload 6, 2) := by decide +kernel
theorem dX0_ask_99 : decode cX0_ask 99 = .ok (.bipush 15, 2) := by decide +kernel
theorem dX0_ask_101 : decode cX0_ask 101 = .ok (.if_icmp .gt 284, 3) := by decide +kernel
theorem dX0_ask_104 : decode cX0_ask 104 = .ok (.aload_n 0, 1) := by decide +kernel
theorem dX0_ask_105 : decode cX0_ask 105 = .ok (.getfield 49, 3) := by decide +kernel
theorem dX0_ask_108 : decode cX0_ask 108 = .ok (.iload_n 1, 1) := by decide +kernel
theorem dX0_ask_109 : decode cX0_ask 109 = .ok (.iload 6, 2) := by decide +kernel
theorem dX0_ask_111 : decode cX0_ask 111 = .ok (.invokestatic 138, 3) := by decide +kernel
theorem dX0_ask_114 : decode cX0_ask 114 = .ok (.invokevirtual 142, 3) := by decide +kernel
theorem dX0_ask_117 : decode cX0_ask 117 = .ok (.istore 7, 2) := by decide +kernel
theorem dX0_ask_119 : decode cX0_ask 119 = .ok (.iload 7, 2) := by decide +kernel
theorem dX0_ask_121 : decode cX0_ask 121 = .ok (.iconst (-1), 1) := by decide +kernel
theorem dX0_ask_122 : decode cX0_ask 122 = .ok (.if_icmp .eq 45, 3) := by decide +kernel
theorem dX0_ask_125 : decode cX0_ask 125 = .ok (.iload 6, 2) := by decide +kernel
theorem dX0_ask_127 : decode cX0_ask 127 = .ok (.bipush 6, 2) := by decide +kernel
theorem dX0_ask_129 : decode cX0_ask 129 = .ok (.if_icmp .le 10, 3) := by decide +kernel
theorem dX0_ask_132 : decode cX0_ask 132 = .ok (.iload 6, 2) := by decide +kernel
theorem dX0_ask_134 : decode cX0_ask 134 = .ok (.bipush 10, 2) := by decide +kernel
theorem dX0_ask_136 : decode cX0_ask 136 = .ok (.if_icmp .ne 31, 3) := by decide +kernel
theorem dX0_ask_139 : decode cX0_ask 139 = .ok (.aload_n 0, 1) := by decide +kernel
theorem dX0_ask_140 : decode cX0_ask 140 = .ok (.iload 6, 2) := by decide +kernel
theorem dX0_ask_142 : decode cX0_ask 142 = .ok (.iload 7, 2) := by decide +kernel
theorem dX0_ask_144 : decode cX0_ask 144 = .ok (.iload_n 2, 1) := by decide +kernel
theorem dX0_ask_145 : decode cX0_ask 145 = .ok (.iload_n 3, 1) := by decide +kernel
theorem dX0_ask_146 : decode cX0_ask 146 = .ok (.invokevirtual 146, 3) := by decide +kernel
theorem dX0_ask_149 : decode cX0_ask 149 = .ok (.ifCond .eq 12, 3) := by decide +kernel
theorem dX0_ask_152 : decode cX0_ask 152 = .ok (.iload 5, 2) := by decide +kernel
theorem dX0_ask_154 : decode cX0_ask 154 = .ok (.ifCond .eq 7, 3) := by decide +kernel
theorem dX0_ask_157 : decode cX0_ask 157 = .ok (.iconst 1, 1) := by decide +kernel
theorem dX0_ask_158 : decode cX0_ask 158 = .ok (.goto 4, 3) := by decide +kernel
theorem dX0_ask_161 : decode cX0_ask 161 = .ok (.iconst 0, 1) := by decide +kernel
theorem dX0_ask_162 : decode cX0_ask 162 = .ok (.istore 5, 2) := by decide +kernel
theorem dX0_ask_164 : decode cX0_ask 164 = .ok (.goto 215, 3) := by decide +kernel
theorem dX0_ask_167 : decode cX0_ask 167 = .ok (.iload 7, 2) := by decide +kernel
theorem dX0_ask_169 : decode cX0_ask 169 = .ok (.iconst (-1), 1) := by decide +kernel
theorem dX0_ask_170 : decode cX0_ask 170 = .ok (.if_icmp .eq 209, 3) := by decide +kernel
theorem dX0_ask_173 : decode cX0_ask 173 = .ok (.iconst 0, 1) := by decide +kernel
theorem dX0_ask_174 : decode cX0_ask 174 = .ok (.istore 8, 2) := by decide +kernel
theorem dX0_ask_176 : decode cX0_ask 176 = .ok (.iconst 0, 1) := by decide +kernel
theorem dX0_ask_177 : decode cX0_ask 177 = .ok (.istore 9, 2) := by decide +kernel
theorem dX0_ask_179 : decode cX0_ask 179 = .ok (.aload_n 0, 1) := by decide +kernel
theorem dX0_ask_180 : decode cX0_ask 180 = .ok (.iload 6, 2) := by decide +kernel
theorem dX0_ask_182 : decode cX0_ask 182 = .ok (.iload 7, 2) := by decide +kernel
theorem dX0_ask_184 : decode cX0_ask 184 = .ok (.iload_n 2, 1) := by decide +kernel
theorem dX0_ask_185 : decode cX0_ask 185 = .ok (.invokevirtual 150, 3) := by decide +kernel
theorem dX0_ask_188 : decode cX0_ask 188 = .ok (.istore 10, 2) := by decide +kernel
theorem dX0_ask_190 : decode cX0_ask 190 = .ok (.iconst 0, 1) := by decide +kernel
theorem dX0_ask_191 : decode cX0_ask 191 = .ok (.istore 11, 2) := by decide +kernel
theorem dX0_ask_193 : decode cX0_ask 193 = .ok (.iload 11, 2) := by decide +kernel
theorem dX0_ask_195 : decode cX0_ask 195 = .ok (.bipush 100, 2) := by decide +kernel
theorem dX0_ask_197 : decode cX0_ask 197 = .ok (.if_icmp .ge 134, 3) := by decide +kernel
theorem dX0_ask_200 : decode cX0_ask 200 = .ok (.iload 10, 2) := by decide +kernel
theorem dX0_ask_202 : decode cX0_ask 202 = .ok (.ifCond .lt 129, 3) := by decide +kernel
theorem dX0_ask_205 : decode cX0_ask 205 = .ok (.aload_n 0, 1) := by decide +kernel
theorem dX0_ask_206 : decode cX0_ask 206 = .ok (.getfield 68, 3) := by decide +kernel
theorem dX0_ask_209 : decode cX0_ask 209 = .ok (.ifCond .ne 122, 3) := by decide +kernel
theorem dX0_ask_212 : decode cX0_ask 212 = .ok (.aload_n 0, 1) := by decide +kernel
theorem dX0_ask_213 : decode cX0_ask 213 = .ok (.iload 6, 2) := by decide +kernel
theorem dX0_ask_215 : decode cX0_ask 215 = .ok (.iload_n 1, 1) := by decide +kernel
theorem dX0_ask_216 : decode cX0_ask 216 = .ok (.iload 7, 2) := by decide +kernel
theorem dX0_ask_218 : decode cX0_ask 218 = .ok (.iload 10, 2) := by decide +kernel
theorem dX0_ask_220 : decode cX0_ask 220 = .ok (.invokevirtual 154, 3) := by decide +kernel
theorem dX0_ask_223 : decode cX0_ask 223 = .ok (.istore 12, 2) := by decide +kernel
theorem dX0_ask_225 : decode cX0_ask 225 = .ok (.iload_n 3, 1) := by decide +kernel
theorem dX0_ask_226 : decode cX0_ask 226 = .ok (.ifCond .ne 17, 3) := by decide +kernel
theorem dX0_ask_229 : decode cX0_ask 229 = .ok (.iload 6, 2) := by decide +kernel
theorem dX0_ask_231 : decode cX0_ask 231 = .ok (.bipush 12, 2) := by decide +kernel
theorem dX0_ask_233 : decode cX0_ask 233 = .ok (.if_icmp .lt 14, 3) := by decide +kernel
theorem dX0_ask_236 : decode cX0_ask 236 = .ok (.iload 6, 2) := by decide +kernel
theorem dX0_ask_238 : decode cX0_ask 238 = .ok (.bipush 14, 2) := by decide +kernel
theorem dX0_ask_240 : decode cX0_ask 240 = .ok (.if_icmp .gt 7, 3) := by decide +kernel
theorem dX0_ask_243 : decode cX0_ask 243 = .ok (.iconst 1, 1) := by decide +kernel
theorem dX0_ask_244 : decode cX0_ask 244 = .ok (.goto 4, 3) := by decide +kernel
theorem dX0_ask_247 : decode cX0_ask 247 = .ok (.iconst 0, 1) := by decide +kernel
theorem dX0_ask_248 : decode cX0_ask 248 = .ok (.istore 13, 2) := by decide +kernel
theorem dX0_ask_250 : decode cX0_ask 250 = .ok (.iload 12, 2) := by decide +kernel
theorem dX0_ask_252 : decode cX0_ask 252 = .ok (.iconst (-1), 1) := by decide +kernel
theorem dX0_ask_253 : decode cX0_ask 253 = .ok (.if_icmp .eq 59, 3) := by decide +kernel
theorem dX0_ask_256 : decode cX0_ask 256 = .ok (.iinc 8 1, 3) := by decide +kernel
theorem dX0_ask_259 : decode cX0_ask 259 = .ok (.aload_n 0, 1) := by decide +kernel
theorem dX0_ask_260 : decode cX0_ask 260 = .ok (.iload 6, 2) := by decide +kernel
theorem dX0_ask_262 : decode cX0_ask 262 = .ok (.iload 12, 2) := by decide +kernel
theorem dX0_ask_264 : decode cX0_ask 264 = .ok (.iload_n 2, 1) := by decide +kernel
theorem dX0_ask_265 : decode cX0_ask 265 = .ok (.invokevirtual 158, 3) := by decide +kernel
theorem dX0_ask_268 : decode cX0_ask 268 = .ok (.iload 9, 2) := by decide +kernel
theorem dX0_ask_270 : decode cX0_ask 270 = .ok (.aload_n 0, 1) := by decide +kernel
theorem dX0_ask_271 : decode cX0_ask 271 = .ok (.iload 12, 2) := by decide +kernel
theorem dX0_ask_273 : decode cX0_ask 273 = .ok (.iload 6, 2) := by decide +kernel
theorem dX0_ask_275 : decode cX0_ask 275 = .ok (.bipush 10, 2) := by decide +kernel
theorem dX0_ask_277 : decode cX0_ask 277 = .ok (.if_icmp .ge 8, 3) := by decide +kernel
theorem dX0_ask_280 : decode cX0_ask 280 = .ok (.iload 10, 2) := by decide +kernel
theorem dX0_ask_282 : decode cX0_ask 282 = .ok (.goto 4, 3) := by decide +kernel
theorem dX0_ask_285 : decode cX0_ask 285 = .ok (.iload_n 2, 1) := by decide +kernel
theorem dX0_ask_286 : decode cX0_ask 286 = .ok (.iload 13, 2) := by decide +kernel
theorem dX0_ask_288 : decode cX0_ask 288 = .ok (.iload 4, 2) := by decide +kernel
theorem dX0_ask_290 : decode cX0_ask 290 = .ok (.iconst 1, 1) := by decide +kernel
theorem dX0_ask_291 : decode cX0_ask 291 = .ok (.iadd, 1) := by decide +kernel
theorem dX0_ask_292 : decode cX0_ask 292 = .ok (.invokevirtual 64, 3) := by decide +kernel
theorem dX0_ask_295 : decode cX0_ask 295 = .ok (.ifCond .eq 7, 3) := by decide +kernel
theorem dX0_ask_298 : decode cX0_ask 298 = .ok (.iconst 1, 1) := by decide +kernel
theorem dX0_ask_299 : decode cX0_ask 299 = .ok (.goto 4, 3) := by decide +kernel
theorem dX0_ask_302 : decode cX0_ask 302 = .ok (.iconst 0, 1) := by decide +kernel
theorem dX0_ask_303 : decode cX0_ask 303 = .ok (.iadd, 1) := by decide +kernel
theorem dX0_ask_304 : decode cX0_ask 304 = .ok (.istore 9, 2) := by decide +kernel
theorem dX0_ask_306 : decode cX0_ask 306 = .ok (.aload_n 0, 1) := by decide +kernel
theorem dX0_ask_307 : decode cX0_ask 307 = .ok (.iload 6, 2) := by decide +kernel
theorem dX0_ask_309 : decode cX0_ask 309 = .ok (.invokevirtual 162, 3) := by decide +kernel
theorem dX0_ask_312 : decode cX0_ask 312 = .ok (.aload_n 0, 1) := by decide +kernel
theorem dX0_ask_313 : decode cX0_ask 313 = .ok (.iload 6, 2) := by decide +kernel
theorem dX0_ask_315 : decode cX0_ask 315 = .ok (.iload 7, 2) := by decide +kernel
theorem dX0_ask_317 : decode cX0_ask 317 = .ok (.iload_n 2, 1) := by decide +kernel
theorem dX0_ask_318 : decode cX0_ask 318 = .ok (.iload 10, 2) := by decide +kernel
theorem dX0_ask_320 : decode cX0_ask 320 = .ok (.invokevirtual 165, 3) := by decide +kernel
theorem dX0_ask_323 : decode cX0_ask 323 = .ok (.istore 10, 2) := by decide +kernel
theorem dX0_ask_325 : decode cX0_ask 325 = .ok (.iinc 11 1, 3) := by decide +kernel
theorem dX0_ask_328 : decode cX0_ask 328 = .ok (.goto (-135), 3) := by decide +kernel
theorem dX0_ask_331 : decode cX0_ask 331 = .ok (.iload 6, 2) := by decide +kernel
theorem dX0_ask_333 : decode cX0_ask 333 = .ok (.iload 8, 2) := by decide +kernel
theorem dX0_ask_335 : decode cX0_ask 335 = .ok (.iload 9, 2) := by decide +kernel
theorem dX0_ask_337 : decode cX0_ask 337 = .ok (.iload 10, 2) := by decide +kernel
theorem dX0_ask_339 : decode cX0_ask 339 = .ok (.invokestatic 168, 3) := by decide +kernel
theorem dX0_ask_342 : decode cX0_ask 342 = .ok (.ifCond .eq 12, 3) := by decide +kernel
theorem dX0_ask_345 : decode cX0_ask 345 = .ok (.iload 5, 2) := by decide +kernel
theorem dX0_ask_347 : decode cX0_ask 347 = .ok (.ifCond .eq 7, 3) := by decide +kernel
theorem dX0_ask_350 : decode cX0_ask 350 = .ok (.iconst 1, 1) := by decide +kernel
theorem dX0_ask_351 : decode cX0_ask 351 = .ok (.goto 4, 3) := by decide +kernel
theorem dX0_ask_354 : decode cX0_ask 354 = .ok (.iconst 0, 1) := by decide +kernel
theorem dX0_ask_355 : decode cX0_ask 355 = .ok (.istore 5, 2) := by decide +kernel
theorem dX0_ask_357 : decode cX0_ask 357 = .ok (.iload 6, 2) := by decide +kernel
theorem dX0_ask_359 : decode cX0_ask 359 = .ok (.iload 8, 2) := by decide +kernel
theorem dX0_ask_361 : decode cX0_ask 361 = .ok (.iload 9, 2) := by decide +kernel
theorem dX0_ask_363 : decode cX0_ask 363 = .ok (.iload 10, 2) := by decide +kernel
theorem dX0_ask_365 : decode cX0_ask 365 = .ok (.invokestatic 172, 3) := by decide +kernel
theorem dX0_ask_368 : decode cX0_ask 368 = .ok (.ifCond .ne 11, 3) := by decide +kernel
theorem dX0_ask_371 : decode cX0_ask 371 = .ok (.aload_n 0, 1) := by decide +kernel
theorem dX0_ask_372 : decode cX0_ask 372 = .ok (.iload_n 2, 1) := by decide +kernel
theorem dX0_ask_373 : decode cX0_ask 373 = .ok (.iload 6, 2) := by decide +kernel
theorem dX0_ask_375 : decode cX0_ask 375 = .ok (.iload_n 3, 1) := by decide +kernel
theorem dX0_ask_376 : decode cX0_ask 376 = .ok (.invokevirtual 134, 3) := by decide +kernel
theorem dX0_ask_379 : decode cX0_ask 379 = .ok (.iinc 6 1, 3) := by decide +kernel
theorem dX0_ask_382 : decode cX0_ask 382 = .ok (.goto (-285), 3) := by decide +kernel
theorem dX0_ask_385 : decode cX0_ask 385 = .ok (.iload 5, 2) := by decide +kernel
theorem dX0_ask_387 : decode cX0_ask 387 = .ok (.ireturn, 1) := by decide +kernel
theorem dX0_firstQuestion_0 : decode cX0_firstQuestion 0 = .ok (.iload_n 1, 1) := by decide +kernel
theorem dX0_firstQuestion_1 : decode cX0_firstQuestion 1 = .ok (.tableswitch 94 7 15 #[51, 51, 60, 94, 94, 94, 94, 85, 87], 51) := by decide +kernel
theorem dX0_firstQuestion_52 : decode cX0_firstQuestion 52 = .ok (.aload_n 0, 1) := by decide +kernel
theorem dX0_firstQuestion_53 : decode cX0_firstQuestion 53 = .ok (.getfield 52, 3) := by decide +kernel
theorem dX0_firstQuestion_56 : decode cX0_firstQuestion 56 = .ok (.iload_n 3, 1) := by decide +kernel
theorem dX0_firstQuestion_57 : decode cX0_firstQuestion 57 = .ok (.invokevirtual 175, 3) := by decide +kernel
theorem dX0_firstQuestion_60 : decode cX0_firstQuestion 60 = .ok (.ireturn, 1) := by decide +kernel
theorem dX0_firstQuestion_61 : decode cX0_firstQuestion 61 = .ok (.aload_n 0, 1) := by decide +kernel
theorem dX0_firstQuestion_62 : decode cX0_firstQuestion 62 = .ok (.getfield 52, 3) := by decide +kernel
theorem dX0_firstQuestion_65 : decode cX0_firstQuestion 65 = .ok (.iload_n 3, 1) := by decide +kernel
theorem dX0_firstQuestion_66 : decode cX0_firstQuestion 66 = .ok (.iconst 4, 1) := by decide +kernel
theorem dX0_firstQuestion_67 : decode cX0_firstQuestion 67 = .ok (.invokevirtual 126, 3) := by decide +kernel
theorem dX0_firstQuestion_70 : decode cX0_firstQuestion 70 = .ok (.ifCond .eq 14, 3) := by decide +kernel
theorem dX0_firstQuestion_73 : decode cX0_firstQuestion 73 = .ok (.aload_n 0, 1) := by decide +kernel
theorem dX0_firstQuestion_74 : decode cX0_firstQuestion 74 = .ok (.getfield 52, 3) := by decide +kernel
theorem dX0_firstQuestion_77 : decode cX0_firstQuestion 77 = .ok (.iload_n 3, 1) := by decide +kernel
theorem dX0_firstQuestion_78 : decode cX0_firstQuestion 78 = .ok (.invokevirtual 179, 3) := by decide +kernel
theorem dX0_firstQuestion_81 : decode cX0_firstQuestion 81 = .ok (.goto 4, 3) := by decide +kernel
theorem dX0_firstQuestion_84 : decode cX0_firstQuestion 84 = .ok (.iconst (-1), 1) := by decide +kernel
theorem dX0_firstQuestion_85 : decode cX0_firstQuestion 85 = .ok (.ireturn, 1) := by decide +kernel
theorem dX0_firstQuestion_86 : decode cX0_firstQuestion 86 = .ok (.iload_n 2, 1) := by decide +kernel
theorem dX0_firstQuestion_87 : decode cX0_firstQuestion 87 = .ok (.ireturn, 1) := by decide +kernel
theorem dX0_firstQuestion_88 : decode cX0_firstQuestion 88 = .ok (.aload_n 0, 1) := by decide +kernel
theorem dX0_firstQuestion_89 : decode cX0_firstQuestion 89 = .ok (.iload_n 2, 1) := by decide +kernel
theorem dX0_firstQuestion_90 : decode cX0_firstQuestion 90 = .ok (.iload_n 3, 1) := by decide +kernel
theorem dX0_firstQuestion_91 : decode cX0_firstQuestion 91 = .ok (.invokevirtual 182, 3) := by decide +kernel
theorem dX0_firstQuestion_94 : decode cX0_firstQuestion 94 = .ok (.ireturn, 1) := by decide +kernel
theorem dX0_firstQuestion_95 : decode cX0_firstQuestion 95 = .ok (.aload_n 0, 1) := by decide +kernel
theorem dX0_firstQuestion_96 : decode cX0_firstQuestion 96 = .ok (.getfield 49, 3) := by decide +kernel
theorem dX0_firstQuestion_99 : decode cX0_firstQuestion 99 = .ok (.iload_n 2, 1) := by decide +kernel
theorem dX0_firstQuestion_100 : decode cX0_firstQuestion 100 = .ok (.invokevirtual 179, 3) := by decide +kernel
theorem dX0_firstQuestion_103 : decode cX0_firstQuestion 103 = .ok (.ireturn, 1) := by decide +kernel
theorem dX0_nextQuestion_0 : decode cX0_nextQuestion 0 = .ok (.iload_n 1, 1) := by decide +kernel
theorem dX0_nextQuestion_1 : decode cX0_nextQuestion 1 = .ok (.bipush 10, 2) := by decide +kernel
theorem dX0_nextQuestion_3 : decode cX0_nextQuestion 3 = .ok (.if_icmp .ge 14, 3) := by decide +kernel
theorem dX0_nextQuestion_6 : decode cX0_nextQuestion 6 = .ok (.aload_n 0, 1) := by decide +kernel
theorem dX0_nextQuestion_7 : decode cX0_nextQuestion 7 = .ok (.getfield 52, 3) := by decide +kernel
theorem dX0_nextQuestion_10 : decode cX0_nextQuestion 10 = .ok (.iload_n 3, 1) := by decide +kernel
theorem dX0_nextQuestion_11 : decode cX0_nextQuestion 11 = .ok (.iload 4, 2) := by decide +kernel
theorem dX0_nextQuestion_13 : decode cX0_nextQuestion 13 = .ok (.invokevirtual 186, 3) := by decide +kernel
theorem dX0_nextQuestion_16 : decode cX0_nextQuestion 16 = .ok (.ireturn, 1) := by decide +kernel
theorem dX0_nextQuestion_17 : decode cX0_nextQuestion 17 = .ok (.iload_n 1, 1) := by decide +kernel
theorem dX0_nextQuestion_18 : decode cX0_nextQuestion 18 = .ok (.bipush 14, 2) := by decide +kernel
theorem dX0_nextQuestion_20 : decode cX0_nextQuestion 20 = .ok (.if_icmp .ge 16, 3) := by decide +kernel
theorem dX0_nextQuestion_23 : decode cX0_nextQuestion 23 = .ok (.aload_n 0, 1) := by decide +kernel
theorem dX0_nextQuestion_24 : decode cX0_nextQuestion 24 = .ok (.getfield 49, 3) := by decide +kernel
theorem dX0_nextQuestion_27 : decode cX0_nextQuestion 27 = .ok (.iload_n 2, 1) := by decide +kernel
theorem dX0_nextQuestion_28 : decode cX0_nextQuestion 28 = .ok (.iload 4, 2) := by decide +kernel
theorem dX0_nextQuestion_30 : decode cX0_nextQuestion 30 = .ok (.invokevirtual 186, 3) := by decide +kernel
theorem dX0_nextQuestion_33 : decode cX0_nextQuestion 33 = .ok (.goto 4, 3) := by decide +kernel
theorem dX0_nextQuestion_36 : decode cX0_nextQuestion 36 = .ok (.iconst (-1), 1) := by decide +kernel
theorem dX0_nextQuestion_37 : decode cX0_nextQuestion 37 = .ok (.ireturn, 1) := by decide +kernel
theorem dX0_schemaOf_0 : decode cX0_schemaOf 0 = .ok (.iload_n 1, 1) := by decide +kernel
theorem dX0_schemaOf_1 : decode cX0_schemaOf 1 = .ok (.tableswitch 77 7 9 #[27, 42, 75], 27) := by decide +kernel
theorem dX0_schemaOf_28 : decode cX0_schemaOf 28 = .ok (.aload_n 0, 1) := by decide +kernel
theorem dX0_schemaOf_29 : decode cX0_schemaOf 29 = .ok (.getfield 49, 3) := by decide +kernel
theorem dX0_schemaOf_32 : decode cX0_schemaOf 32 = .ok (.iload_n 3, 1) := by decide +kernel
theorem dX0_schemaOf_33 : decode cX0_schemaOf 33 = .ok (.aload_n 0, 1) := by decide +kernel
theorem dX0_schemaOf_34 : decode cX0_schemaOf 34 = .ok (.getfield 52, 3) := by decide +kernel
theorem dX0_schemaOf_37 : decode cX0_schemaOf 37 = .ok (.iload 4, 2) := by decide +kernel
theorem dX0_schemaOf_39 : decode cX0_schemaOf 39 = .ok (.invokevirtual 189, 3) := by decide +kernel
theorem dX0_schemaOf_42 : decode cX0_schemaOf 42 = .ok (.ireturn, 1) := by decide +kernel
theorem dX0_schemaOf_43 : decode cX0_schemaOf 43 = .ok (.aload_n 0, 1) := by decide +kernel
theorem dX0_schemaOf_44 : decode cX0_schemaOf 44 = .ok (.getfield 49, 3) := by decide +kernel
theorem dX0_schemaOf_47 : decode cX0_schemaOf 47 = .ok (.aload_n 0, 1) := by decide +kernel
theorem dX0_schemaOf_48 : decode cX0_schemaOf 48 = .ok (.getfield 49, 3) := by decide +kernel
theorem dX0_schemaOf_51 : decode cX0_schemaOf 51 = .ok (.iload_n 2, 1) := by decide +kernel
theorem dX0_schemaOf_52 : decode cX0_schemaOf 52 = .ok (.ldc 96, 2) := by decide +kernel
theorem dX0_schemaOf_54 : decode cX0_schemaOf 54 = .ok (.invokevirtual 142, 3) := by decide +kernel
theorem dX0_schemaOf_57 : decode cX0_schemaOf 57 = .ok (.aload_n 0, 1) := by decide +kernel
theorem dX0_schemaOf_58 : decode cX0_schemaOf 58 = .ok (.getfield 52, 3) := by decide +kernel
theorem dX0_schemaOf_61 : decode cX0_schemaOf 61 = .ok (.iload 4, 2) := by decide +kernel
theorem dX0_schemaOf_63 : decode cX0_schemaOf 63 = .ok (.invokevirtual 189, 3) := by decide +kernel
theorem dX0_schemaOf_66 : decode cX0_schemaOf 66 = .ok (.iconst (-1), 1) := by decide +kernel
theorem dX0_schemaOf_67 : decode cX0_schemaOf 67 = .ok (.if_icmp .ne 7, 3) := by decide +kernel
theorem dX0_schemaOf_70 : decode cX0_schemaOf 70 = .ok (.iload_n 3, 1) := by decide +kernel
theorem dX0_schemaOf_71 : decode cX0_schemaOf 71 = .ok (.goto 4, 3) := by decide +kernel
theorem dX0_schemaOf_74 : decode cX0_schemaOf 74 = .ok (.iconst (-1), 1) := by decide +kernel
theorem dX0_schemaOf_75 : decode cX0_schemaOf 75 = .ok (.ireturn, 1) := by decide +kernel
theorem dX0_schemaOf_76 : decode cX0_schemaOf 76 = .ok (.iload_n 3, 1) := by decide +kernel
theorem dX0_schemaOf_77 : decode cX0_schemaOf 77 = .ok (.ireturn, 1) := by decide +kernel
theorem dX0_schemaOf_78 : decode cX0_schemaOf 78 = .ok (.iload 4, 2) := by decide +kernel
theorem dX0_schemaOf_80 : decode cX0_schemaOf 80 = .ok (.ireturn, 1) := by decide +kernel
theorem dX0_holds_0 : decode cX0_holds 0 = .ok (.iload_n 0, 1) := by decide +kernel
theorem dX0_holds_1 : decode cX0_holds 1 = .ok (.tableswitch 58 12 14 #[27, 37, 48], 27) := by decide +kernel
theorem dX0_holds_28 : decode cX0_holds 28 = .ok (.iload_n 2, 1) := by decide +kernel
theorem dX0_holds_29 : decode cX0_holds 29 = .ok (.ifCond .le 7, 3) := by decide +kernel
theorem dX0_holds_32 : decode cX0_holds 32 = .ok (.iconst 1, 1) := by decide +kernel
theorem dX0_holds_33 : decode cX0_holds 33 = .ok (.goto 4, 3) := by decide +kernel
theorem dX0_holds_36 : decode cX0_holds 36 = .ok (.iconst 0, 1) := by decide +kernel
theorem dX0_holds_37 : decode cX0_holds 37 = .ok (.ireturn, 1) := by decide +kernel
theorem dX0_holds_38 : decode cX0_holds 38 = .ok (.iload_n 2, 1) := by decide +kernel
theorem dX0_holds_39 : decode cX0_holds 39 = .ok (.iconst 1, 1) := by decide +kernel
theorem dX0_holds_40 : decode cX0_holds 40 = .ok (.if_icmp .ne 7, 3) := by decide +kernel
theorem dX0_holds_43 : decode cX0_holds 43 = .ok (.iconst 1, 1) := by decide +kernel
theorem dX0_holds_44 : decode cX0_holds 44 = .ok (.goto 4, 3) := by decide +kernel
theorem dX0_holds_47 : decode cX0_holds 47 = .ok (.iconst 0, 1) := by decide +kernel
theorem dX0_holds_48 : decode cX0_holds 48 = .ok (.ireturn, 1) := by decide +kernel
theorem dX0_holds_49 : decode cX0_holds 49 = .ok (.iload_n 2, 1) := by decide +kernel
theorem dX0_holds_50 : decode cX0_holds 50 = .ok (.ifCond .ne 7, 3) := by decide +kernel
theorem dX0_holds_53 : decode cX0_holds 53 = .ok (.iconst 1, 1) := by decide +kernel
theorem dX0_holds_54 : decode cX0_holds 54 = .ok (.goto 4, 3) := by decide +kernel
theorem dX0_holds_57 : decode cX0_holds 57 = .ok (.iconst 0, 1) := by decide +kernel
theorem dX0_holds_58 : decode cX0_holds 58 = .ok (.ireturn, 1) := by decide +kernel
theorem dX0_holds_59 : decode cX0_holds 59 = .ok (.iload_n 2, 1) := by decide +kernel
theorem dX0_holds_60 : decode cX0_holds 60 = .ok (.iload_n 1, 1) := by decide +kernel
theorem dX0_holds_61 : decode cX0_holds 61 = .ok (.if_icmp .ne 13, 3) := by decide +kernel
theorem dX0_holds_64 : decode cX0_holds 64 = .ok (.iload_n 3, 1) := by decide +kernel
theorem dX0_holds_65 : decode cX0_holds 65 = .ok (.bipush (-2), 2) := by decide +kernel
theorem dX0_holds_67 : decode cX0_holds 67 = .ok (.if_icmp .eq 7, 3) := by decide +kernel
theorem dX0_holds_70 : decode cX0_holds 70 = .ok (.iconst 1, 1) := by decide +kernel
theorem dX0_holds_71 : decode cX0_holds 71 = .ok (.goto 4, 3) := by decide +kernel
theorem dX0_holds_74 : decode cX0_holds 74 = .ok (.iconst 0, 1) := by decide +kernel
theorem dX0_holds_75 : decode cX0_holds 75 = .ok (.ireturn, 1) := by decide +kernel
theorem dX0_holdsItself_0 : decode cX0_holdsItself 0 = .ok (.iload_n 0, 1) := by decide +kernel
theorem dX0_holdsItself_1 : decode cX0_holdsItself 1 = .ok (.bipush 12, 2) := by decide +kernel
theorem dX0_holdsItself_3 : decode cX0_holdsItself 3 = .ok (.if_icmp .ge 5, 3) := by decide +kernel
theorem dX0_holdsItself_6 : decode cX0_holdsItself 6 = .ok (.iconst 1, 1) := by decide +kernel
theorem dX0_holdsItself_7 : decode cX0_holdsItself 7 = .ok (.ireturn, 1) := by decide +kernel
theorem dX0_holdsItself_8 : decode cX0_holdsItself 8 = .ok (.iload_n 0, 1) := by decide +kernel
theorem dX0_holdsItself_9 : decode cX0_holdsItself 9 = .ok (.bipush 15, 2) := by decide +kernel
theorem dX0_holdsItself_11 : decode cX0_holdsItself 11 = .ok (.if_icmp .ne 17, 3) := by decide +kernel
theorem dX0_holdsItself_14 : decode cX0_holdsItself 14 = .ok (.iload_n 3, 1) := by decide +kernel
theorem dX0_holdsItself_15 : decode cX0_holdsItself 15 = .ok (.bipush (-2), 2) := by decide +kernel
theorem dX0_holdsItself_17 : decode cX0_holdsItself 17 = .ok (.if_icmp .eq 7, 3) := by decide +kernel
theorem dX0_holdsItself_20 : decode cX0_holdsItself 20 = .ok (.iconst 1, 1) := by decide +kernel
theorem dX0_holdsItself_21 : decode cX0_holdsItself 21 = .ok (.goto 14, 3) := by decide +kernel
theorem dX0_holdsItself_24 : decode cX0_holdsItself 24 = .ok (.iconst 0, 1) := by decide +kernel
theorem dX0_holdsItself_25 : decode cX0_holdsItself 25 = .ok (.goto 10, 3) := by decide +kernel
theorem dX0_holdsItself_28 : decode cX0_holdsItself 28 = .ok (.iload_n 0, 1) := by decide +kernel
theorem dX0_holdsItself_29 : decode cX0_holdsItself 29 = .ok (.iload_n 1, 1) := by decide +kernel
theorem dX0_holdsItself_30 : decode cX0_holdsItself 30 = .ok (.iload_n 2, 1) := by decide +kernel
theorem dX0_holdsItself_31 : decode cX0_holdsItself 31 = .ok (.iload_n 3, 1) := by decide +kernel
theorem dX0_holdsItself_32 : decode cX0_holdsItself 32 = .ok (.invokestatic 168, 3) := by decide +kernel
theorem dX0_holdsItself_35 : decode cX0_holdsItself 35 = .ok (.ireturn, 1) := by decide +kernel
theorem dX0_target_0 : decode cX0_target 0 = .ok (.aload_n 0, 1) := by decide +kernel
theorem dX0_target_1 : decode cX0_target 1 = .ok (.getfield 23, 3) := by decide +kernel
theorem dX0_target_4 : decode cX0_target 4 = .ok (.invokevirtual 193, 3) := by decide +kernel
theorem dX0_target_7 : decode cX0_target 7 = .ok (.aload_n 0, 1) := by decide +kernel
theorem dX0_target_8 : decode cX0_target 8 = .ok (.getfield 49, 3) := by decide +kernel
theorem dX0_target_11 : decode cX0_target 11 = .ok (.iload_n 1, 1) := by decide +kernel
theorem dX0_target_12 : decode cX0_target 12 = .ok (.aload_n 0, 1) := by decide +kernel
theorem dX0_target_13 : decode cX0_target 13 = .ok (.getfield 23, 3) := by decide +kernel
theorem dX0_target_16 : decode cX0_target 16 = .ok (.invokevirtual 196, 3) := by decide +kernel
theorem dX0_target_19 : decode cX0_target 19 = .ok (.aload_n 0, 1) := by decide +kernel
theorem dX0_target_20 : decode cX0_target 20 = .ok (.getfield 49, 3) := by decide +kernel
theorem dX0_target_23 : decode cX0_target 23 = .ok (.aload_n 0, 1) := by decide +kernel
theorem dX0_target_24 : decode cX0_target 24 = .ok (.getfield 49, 3) := by decide +kernel
theorem dX0_target_27 : decode cX0_target 27 = .ok (.iconst 0, 1) := by decide +kernel
theorem dX0_target_28 : decode cX0_target 28 = .ok (.ldc 200, 2) := by decide +kernel
theorem dX0_target_30 : decode cX0_target 30 = .ok (.invokevirtual 142, 3) := by decide +kernel
theorem dX0_target_33 : decode cX0_target 33 = .ok (.aload_n 0, 1) := by decide +kernel
theorem dX0_target_34 : decode cX0_target 34 = .ok (.getfield 23, 3) := by decide +kernel
theorem dX0_target_37 : decode cX0_target 37 = .ok (.invokevirtual 202, 3) := by decide +kernel
theorem dX0_target_40 : decode cX0_target 40 = .ok (.istore_n 3, 1) := by decide +kernel
theorem dX0_target_41 : decode cX0_target 41 = .ok (.iload_n 3, 1) := by decide +kernel
theorem dX0_target_42 : decode cX0_target 42 = .ok (.iconst (-1), 1) := by decide +kernel
theorem dX0_target_43 : decode cX0_target 43 = .ok (.if_icmp .ne 6, 3) := by decide +kernel
theorem dX0_target_46 : decode cX0_target 46 = .ok (.bipush (-2), 2) := by decide +kernel
theorem dX0_target_48 : decode cX0_target 48 = .ok (.ireturn, 1) := by decide +kernel
theorem dX0_target_49 : decode cX0_target 49 = .ok (.iconst 0, 1) := by decide +kernel
theorem dX0_target_50 : decode cX0_target 50 = .ok (.istore 4, 2) := by decide +kernel
theorem dX0_target_52 : decode cX0_target 52 = .ok (.iload 4, 2) := by decide +kernel
theorem dX0_target_54 : decode cX0_target 54 = .ok (.aload_n 0, 1) := by decide +kernel
theorem dX0_target_55 : decode cX0_target 55 = .ok (.getfield 81, 3) := by decide +kernel
theorem dX0_target_58 : decode cX0_target 58 = .ok (.if_icmp .ge 40, 3) := by decide +kernel
theorem dX0_target_61 : decode cX0_target 61 = .ok (.iload 4, 2) := by decide +kernel
theorem dX0_target_63 : decode cX0_target 63 = .ok (.bipush 13, 2) := by decide +kernel
theorem dX0_target_65 : decode cX0_target 65 = .ok (.if_icmp .ge 33, 3) := by decide +kernel
theorem dX0_target_68 : decode cX0_target 68 = .ok (.aload_n 0, 1) := by decide +kernel
theorem dX0_target_69 : decode cX0_target 69 = .ok (.getfield 30, 3) := by decide +kernel
theorem dX0_target_72 : decode cX0_target 72 = .ok (.iload 4, 2) := by decide +kernel
theorem dX0_target_74 : decode cX0_target 74 = .ok (.iaload, 1) := by decide +kernel
theorem dX0_target_75 : decode cX0_target 75 = .ok (.iload_n 3, 1) := by decide +kernel
theorem dX0_target_76 : decode cX0_target 76 = .ok (.if_icmp .ne 16, 3) := by decide +kernel
theorem dX0_target_79 : decode cX0_target 79 = .ok (.aload_n 0, 1) := by decide +kernel
theorem dX0_target_80 : decode cX0_target 80 = .ok (.getfield 34, 3) := by decide +kernel
theorem dX0_target_83 : decode cX0_target 83 = .ok (.iload 4, 2) := by decide +kernel
theorem dX0_target_85 : decode cX0_target 85 = .ok (.iaload, 1) := by decide +kernel
theorem dX0_target_86 : decode cX0_target 86 = .ok (.iload_n 2, 1) := by decide +kernel
theorem dX0_target_87 : decode cX0_target 87 = .ok (.if_icmp .ne 5, 3) := by decide +kernel
theorem dX0_target_90 : decode cX0_target 90 = .ok (.iconst (-1), 1) := by decide +kernel
theorem dX0_target_91 : decode cX0_target 91 = .ok (.ireturn, 1) := by decide +kernel
theorem dX0_target_92 : decode cX0_target 92 = .ok (.iinc 4 1, 3) := by decide +kernel
theorem dX0_target_95 : decode cX0_target 95 = .ok (.goto (-43), 3) := by decide +kernel
theorem dX0_target_98 : decode cX0_target 98 = .ok (.aload_n 0, 1) := by decide +kernel
theorem dX0_target_99 : decode cX0_target 99 = .ok (.getfield 81, 3) := by decide +kernel
theorem dX0_target_102 : decode cX0_target 102 = .ok (.bipush 13, 2) := by decide +kernel
theorem dX0_target_104 : decode cX0_target 104 = .ok (.if_icmp .lt 8, 3) := by decide +kernel
theorem dX0_target_107 : decode cX0_target 107 = .ok (.bipush (-2), 2) := by decide +kernel
theorem dX0_target_109 : decode cX0_target 109 = .ok (.goto 4, 3) := by decide +kernel
theorem dX0_target_112 : decode cX0_target 112 = .ok (.iload_n 3, 1) := by decide +kernel
theorem dX0_target_113 : decode cX0_target 113 = .ok (.ireturn, 1) := by decide +kernel
theorem dX0_openRef_0 : decode cX0_openRef 0 = .ok (.iload_n 1, 1) := by decide +kernel
theorem dX0_openRef_1 : decode cX0_openRef 1 = .ok (.bipush 15, 2) := by decide +kernel
theorem dX0_openRef_3 : decode cX0_openRef 3 = .ok (.if_icmp .ne 49, 3) := by decide +kernel
theorem dX0_openRef_6 : decode cX0_openRef 6 = .ok (.aload_n 0, 1) := by decide +kernel
theorem dX0_openRef_7 : decode cX0_openRef 7 = .ok (.getfield 81, 3) := by decide +kernel
theorem dX0_openRef_10 : decode cX0_openRef 10 = .ok (.ifCond .lt 42, 3) := by decide +kernel
theorem dX0_openRef_13 : decode cX0_openRef 13 = .ok (.aload_n 0, 1) := by decide +kernel
theorem dX0_openRef_14 : decode cX0_openRef 14 = .ok (.getfield 81, 3) := by decide +kernel
theorem dX0_openRef_17 : decode cX0_openRef 17 = .ok (.bipush 13, 2) := by decide +kernel
theorem dX0_openRef_19 : decode cX0_openRef 19 = .ok (.if_icmp .ge 33, 3) := by decide +kernel
theorem dX0_openRef_22 : decode cX0_openRef 22 = .ok (.aload_n 0, 1) := by decide +kernel
theorem dX0_openRef_23 : decode cX0_openRef 23 = .ok (.getfield 30, 3) := by decide +kernel
theorem dX0_openRef_26 : decode cX0_openRef 26 = .ok (.aload_n 0, 1) := by decide +kernel
theorem dX0_openRef_27 : decode cX0_openRef 27 = .ok (.getfield 81, 3) := by decide +kernel
theorem dX0_openRef_30 : decode cX0_openRef 30 = .ok (.iload_n 2, 1) := by decide +kernel
theorem dX0_openRef_31 : decode cX0_openRef 31 = .ok (.iastore, 1) := by decide +kernel
theorem dX0_openRef_32 : decode cX0_openRef 32 = .ok (.aload_n 0, 1) := by decide +kernel
theorem dX0_openRef_33 : decode cX0_openRef 33 = .ok (.getfield 34, 3) := by decide +kernel
theorem dX0_openRef_36 : decode cX0_openRef 36 = .ok (.aload_n 0, 1) := by decide +kernel
theorem dX0_openRef_37 : decode cX0_openRef 37 = .ok (.getfield 81, 3) := by decide +kernel
theorem dX0_openRef_40 : decode cX0_openRef 40 = .ok (.iload_n 3, 1) := by decide +kernel
theorem dX0_openRef_41 : decode cX0_openRef 41 = .ok (.iastore, 1) := by decide +kernel
theorem dX0_openRef_42 : decode cX0_openRef 42 = .ok (.aload_n 0, 1) := by decide +kernel
theorem dX0_openRef_43 : decode cX0_openRef 43 = .ok (.dup, 1) := by decide +kernel
theorem dX0_openRef_44 : decode cX0_openRef 44 = .ok (.getfield 81, 3) := by decide +kernel
theorem dX0_openRef_47 : decode cX0_openRef 47 = .ok (.iconst 1, 1) := by decide +kernel
theorem dX0_openRef_48 : decode cX0_openRef 48 = .ok (.iadd, 1) := by decide +kernel
theorem dX0_openRef_49 : decode cX0_openRef 49 = .ok (.putfield 81, 3) := by decide +kernel
theorem dX0_openRef_52 : decode cX0_openRef 52 = .ok (.return_, 1) := by decide +kernel
theorem dX0_closeRef_0 : decode cX0_closeRef 0 = .ok (.iload_n 1, 1) := by decide +kernel
theorem dX0_closeRef_1 : decode cX0_closeRef 1 = .ok (.bipush 15, 2) := by decide +kernel
theorem dX0_closeRef_3 : decode cX0_closeRef 3 = .ok (.if_icmp .ne 20, 3) := by decide +kernel
theorem dX0_closeRef_6 : decode cX0_closeRef 6 = .ok (.aload_n 0, 1) := by decide +kernel
theorem dX0_closeRef_7 : decode cX0_closeRef 7 = .ok (.getfield 81, 3) := by decide +kernel
theorem dX0_closeRef_10 : decode cX0_closeRef 10 = .ok (.ifCond .le 13, 3) := by decide +kernel
theorem dX0_closeRef_13 : decode cX0_closeRef 13 = .ok (.aload_n 0, 1) := by decide +kernel
theorem dX0_closeRef_14 : decode cX0_closeRef 14 = .ok (.dup, 1) := by decide +kernel
theorem dX0_closeRef_15 : decode cX0_closeRef 15 = .ok (.getfield 81, 3) := by decide +kernel
theorem dX0_closeRef_18 : decode cX0_closeRef 18 = .ok (.iconst 1, 1) := by decide +kernel
theorem dX0_closeRef_19 : decode cX0_closeRef 19 = .ok (.isub, 1) := by decide +kernel
theorem dX0_closeRef_20 : decode cX0_closeRef 20 = .ok (.putfield 81, 3) := by decide +kernel
theorem dX0_closeRef_23 : decode cX0_closeRef 23 = .ok (.return_, 1) := by decide +kernel
theorem dX0_plainly_0 : decode cX0_plainly 0 = .ok (.iload_n 1, 1) := by decide +kernel
theorem dX0_plainly_1 : decode cX0_plainly 1 = .ok (.bipush 6, 2) := by decide +kernel
theorem dX0_plainly_3 : decode cX0_plainly 3 = .ok (.if_icmp .ne 12, 3) := by decide +kernel
theorem dX0_plainly_6 : decode cX0_plainly 6 = .ok (.aload_n 0, 1) := by decide +kernel
theorem dX0_plainly_7 : decode cX0_plainly 7 = .ok (.iload_n 2, 1) := by decide +kernel
theorem dX0_plainly_8 : decode cX0_plainly 8 = .ok (.iload_n 3, 1) := by decide +kernel
theorem dX0_plainly_9 : decode cX0_plainly 9 = .ok (.iload 4, 2) := by decide +kernel
theorem dX0_plainly_11 : decode cX0_plainly 11 = .ok (.invokevirtual 206, 3) := by decide +kernel
theorem dX0_plainly_14 : decode cX0_plainly 14 = .ok (.ireturn, 1) := by decide +kernel
theorem dX0_plainly_15 : decode cX0_plainly 15 = .ok (.iconst 1, 1) := by decide +kernel
theorem dX0_plainly_16 : decode cX0_plainly 16 = .ok (.istore 5, 2) := by decide +kernel
theorem dX0_plainly_18 : decode cX0_plainly 18 = .ok (.iload_n 1, 1) := by decide +kernel
theorem dX0_plainly_19 : decode cX0_plainly 19 = .ok (.tableswitch 182 1 5 #[33, 44, 82, 120, 151], 33) := by decide +kernel
theorem dX0_plainly_52 : decode cX0_plainly 52 = .ok (.aload_n 0, 1) := by decide +kernel
theorem dX0_plainly_53 : decode cX0_plainly 53 = .ok (.iload_n 2, 1) := by decide +kernel
theorem dX0_plainly_54 : decode cX0_plainly 54 = .ok (.iload_n 3, 1) := by decide +kernel
theorem dX0_plainly_55 : decode cX0_plainly 55 = .ok (.invokevirtual 210, 3) := by decide +kernel
theorem dX0_plainly_58 : decode cX0_plainly 58 = .ok (.istore 5, 2) := by decide +kernel
theorem dX0_plainly_60 : decode cX0_plainly 60 = .ok (.goto 149, 3) := by decide +kernel
theorem dX0_plainly_63 : decode cX0_plainly 63 = .ok (.aload_n 0, 1) := by decide +kernel
theorem dX0_plainly_64 : decode cX0_plainly 64 = .ok (.getfield 52, 3) := by decide +kernel
theorem dX0_plainly_67 : decode cX0_plainly 67 = .ok (.iload_n 3, 1) := by decide +kernel
theorem dX0_plainly_68 : decode cX0_plainly 68 = .ok (.iconst 2, 1) := by decide +kernel
theorem dX0_plainly_69 : decode cX0_plainly 69 = .ok (.invokevirtual 126, 3) := by decide +kernel
theorem dX0_plainly_72 : decode cX0_plainly 72 = .ok (.ifCond .eq 19, 3) := by decide +kernel
theorem dX0_plainly_75 : decode cX0_plainly 75 = .ok (.aload_n 0, 1) := by decide +kernel
theorem dX0_plainly_76 : decode cX0_plainly 76 = .ok (.getfield 52, 3) := by decide +kernel
theorem dX0_plainly_79 : decode cX0_plainly 79 = .ok (.iload_n 3, 1) := by decide +kernel
theorem dX0_plainly_80 : decode cX0_plainly 80 = .ok (.aload_n 0, 1) := by decide +kernel
theorem dX0_plainly_81 : decode cX0_plainly 81 = .ok (.getfield 49, 3) := by decide +kernel
theorem dX0_plainly_84 : decode cX0_plainly 84 = .ok (.iload_n 2, 1) := by decide +kernel
theorem dX0_plainly_85 : decode cX0_plainly 85 = .ok (.invokevirtual 213, 3) := by decide +kernel
theorem dX0_plainly_88 : decode cX0_plainly 88 = .ok (.ifCond .lt 7, 3) := by decide +kernel
theorem dX0_plainly_91 : decode cX0_plainly 91 = .ok (.iconst 1, 1) := by decide +kernel
theorem dX0_plainly_92 : decode cX0_plainly 92 = .ok (.goto 4, 3) := by decide +kernel
theorem dX0_plainly_95 : decode cX0_plainly 95 = .ok (.iconst 0, 1) := by decide +kernel
theorem dX0_plainly_96 : decode cX0_plainly 96 = .ok (.istore 5, 2) := by decide +kernel
theorem dX0_plainly_98 : decode cX0_plainly 98 = .ok (.goto 111, 3) := by decide +kernel
theorem dX0_plainly_101 : decode cX0_plainly 101 = .ok (.aload_n 0, 1) := by decide +kernel
theorem dX0_plainly_102 : decode cX0_plainly 102 = .ok (.getfield 52, 3) := by decide +kernel
theorem dX0_plainly_105 : decode cX0_plainly 105 = .ok (.iload_n 3, 1) := by decide +kernel
theorem dX0_plainly_106 : decode cX0_plainly 106 = .ok (.iconst 2, 1) := by decide +kernel
theorem dX0_plainly_107 : decode cX0_plainly 107 = .ok (.invokevirtual 126, 3) := by decide +kernel
theorem dX0_plainly_110 : decode cX0_plainly 110 = .ok (.ifCond .eq 19, 3) := by decide +kernel
theorem dX0_plainly_113 : decode cX0_plainly 113 = .ok (.aload_n 0, 1) := by decide +kernel
theorem dX0_plainly_114 : decode cX0_plainly 114 = .ok (.getfield 52, 3) := by decide +kernel
theorem dX0_plainly_117 : decode cX0_plainly 117 = .ok (.iload_n 3, 1) := by decide +kernel
theorem dX0_plainly_118 : decode cX0_plainly 118 = .ok (.aload_n 0, 1) := by decide +kernel
theorem dX0_plainly_119 : decode cX0_plainly 119 = .ok (.getfield 49, 3) := by decide +kernel
theorem dX0_plainly_122 : decode cX0_plainly 122 = .ok (.iload_n 2, 1) := by decide +kernel
theorem dX0_plainly_123 : decode cX0_plainly 123 = .ok (.invokevirtual 213, 3) := by decide +kernel
theorem dX0_plainly_126 : decode cX0_plainly 126 = .ok (.ifCond .gt 7, 3) := by decide +kernel
theorem dX0_plainly_129 : decode cX0_plainly 129 = .ok (.iconst 1, 1) := by decide +kernel
theorem dX0_plainly_130 : decode cX0_plainly 130 = .ok (.goto 4, 3) := by decide +kernel
theorem dX0_plainly_133 : decode cX0_plainly 133 = .ok (.iconst 0, 1) := by decide +kernel
theorem dX0_plainly_134 : decode cX0_plainly 134 = .ok (.istore 5, 2) := by decide +kernel
theorem dX0_plainly_136 : decode cX0_plainly 136 = .ok (.goto 73, 3) := by decide +kernel
theorem dX0_plainly_139 : decode cX0_plainly 139 = .ok (.aload_n 0, 1) := by decide +kernel
theorem dX0_plainly_140 : decode cX0_plainly 140 = .ok (.getfield 52, 3) := by decide +kernel
theorem dX0_plainly_143 : decode cX0_plainly 143 = .ok (.iload_n 3, 1) := by decide +kernel
theorem dX0_plainly_144 : decode cX0_plainly 144 = .ok (.invokevirtual 216, 3) := by decide +kernel
theorem dX0_plainly_147 : decode cX0_plainly 147 = .ok (.iconst (-1), 1) := by decide +kernel
theorem dX0_plainly_148 : decode cX0_plainly 148 = .ok (.if_icmp .eq 12, 3) := by decide +kernel
theorem dX0_plainly_151 : decode cX0_plainly 151 = .ok (.aload_n 0, 1) := by decide +kernel
theorem dX0_plainly_152 : decode cX0_plainly 152 = .ok (.iload_n 3, 1) := by decide +kernel
theorem dX0_plainly_153 : decode cX0_plainly 153 = .ok (.iload_n 2, 1) := by decide +kernel
theorem dX0_plainly_154 : decode cX0_plainly 154 = .ok (.invokevirtual 219, 3) := by decide +kernel
theorem dX0_plainly_157 : decode cX0_plainly 157 = .ok (.ifCond .lt 7, 3) := by decide +kernel
theorem dX0_plainly_160 : decode cX0_plainly 160 = .ok (.iconst 1, 1) := by decide +kernel
theorem dX0_plainly_161 : decode cX0_plainly 161 = .ok (.goto 4, 3) := by decide +kernel
theorem dX0_plainly_164 : decode cX0_plainly 164 = .ok (.iconst 0, 1) := by decide +kernel
theorem dX0_plainly_165 : decode cX0_plainly 165 = .ok (.istore 5, 2) := by decide +kernel
theorem dX0_plainly_167 : decode cX0_plainly 167 = .ok (.goto 42, 3) := by decide +kernel
theorem dX0_plainly_170 : decode cX0_plainly 170 = .ok (.aload_n 0, 1) := by decide +kernel
theorem dX0_plainly_171 : decode cX0_plainly 171 = .ok (.getfield 52, 3) := by decide +kernel
theorem dX0_plainly_174 : decode cX0_plainly 174 = .ok (.iload_n 3, 1) := by decide +kernel
theorem dX0_plainly_175 : decode cX0_plainly 175 = .ok (.invokevirtual 216, 3) := by decide +kernel
theorem dX0_plainly_178 : decode cX0_plainly 178 = .ok (.iconst (-1), 1) := by decide +kernel
theorem dX0_plainly_179 : decode cX0_plainly 179 = .ok (.if_icmp .eq 12, 3) := by decide +kernel
theorem dX0_plainly_182 : decode cX0_plainly 182 = .ok (.aload_n 0, 1) := by decide +kernel
theorem dX0_plainly_183 : decode cX0_plainly 183 = .ok (.iload_n 3, 1) := by decide +kernel
theorem dX0_plainly_184 : decode cX0_plainly 184 = .ok (.iload_n 2, 1) := by decide +kernel
theorem dX0_plainly_185 : decode cX0_plainly 185 = .ok (.invokevirtual 219, 3) := by decide +kernel
theorem dX0_plainly_188 : decode cX0_plainly 188 = .ok (.ifCond .gt 7, 3) := by decide +kernel
theorem dX0_plainly_191 : decode cX0_plainly 191 = .ok (.iconst 1, 1) := by decide +kernel
theorem dX0_plainly_192 : decode cX0_plainly 192 = .ok (.goto 4, 3) := by decide +kernel
theorem dX0_plainly_195 : decode cX0_plainly 195 = .ok (.iconst 0, 1) := by decide +kernel
theorem dX0_plainly_196 : decode cX0_plainly 196 = .ok (.istore 5, 2) := by decide +kernel
theorem dX0_plainly_198 : decode cX0_plainly 198 = .ok (.goto 11, 3) := by decide +kernel
theorem dX0_plainly_201 : decode cX0_plainly 201 = .ok (.aload_n 0, 1) := by decide +kernel
theorem dX0_plainly_202 : decode cX0_plainly 202 = .ok (.iload_n 2, 1) := by decide +kernel
theorem dX0_plainly_203 : decode cX0_plainly 203 = .ok (.iload_n 3, 1) := by decide +kernel
theorem dX0_plainly_204 : decode cX0_plainly 204 = .ok (.invokevirtual 222, 3) := by decide +kernel
theorem dX0_plainly_207 : decode cX0_plainly 207 = .ok (.istore 5, 2) := by decide +kernel
theorem dX0_plainly_209 : decode cX0_plainly 209 = .ok (.iload 5, 2) := by decide +kernel
theorem dX0_plainly_211 : decode cX0_plainly 211 = .ok (.ifCond .ne 11, 3) := by decide +kernel
theorem dX0_plainly_214 : decode cX0_plainly 214 = .ok (.aload_n 0, 1) := by decide +kernel
theorem dX0_plainly_215 : decode cX0_plainly 215 = .ok (.iload_n 3, 1) := by decide +kernel
theorem dX0_plainly_216 : decode cX0_plainly 216 = .ok (.iload_n 1, 1) := by decide +kernel
theorem dX0_plainly_217 : decode cX0_plainly 217 = .ok (.iload 4, 2) := by decide +kernel
theorem dX0_plainly_219 : decode cX0_plainly 219 = .ok (.invokevirtual 134, 3) := by decide +kernel
theorem dX0_plainly_222 : decode cX0_plainly 222 = .ok (.iload 5, 2) := by decide +kernel
theorem dX0_plainly_224 : decode cX0_plainly 224 = .ok (.ireturn, 1) := by decide +kernel
theorem dX0_hasAll_0 : decode cX0_hasAll 0 = .ok (.iconst 1, 1) := by decide +kernel
theorem dX0_hasAll_1 : decode cX0_hasAll 1 = .ok (.istore 4, 2) := by decide +kernel
theorem dX0_hasAll_3 : decode cX0_hasAll 3 = .ok (.aload_n 0, 1) := by decide +kernel
theorem dX0_hasAll_4 : decode cX0_hasAll 4 = .ok (.getfield 49, 3) := by decide +kernel
theorem dX0_hasAll_7 : decode cX0_hasAll 7 = .ok (.iload_n 1, 1) := by decide +kernel
theorem dX0_hasAll_8 : decode cX0_hasAll 8 = .ok (.invokevirtual 179, 3) := by decide +kernel
theorem dX0_hasAll_11 : decode cX0_hasAll 11 = .ok (.istore 5, 2) := by decide +kernel
theorem dX0_hasAll_13 : decode cX0_hasAll 13 = .ok (.iconst 0, 1) := by decide +kernel
theorem dX0_hasAll_14 : decode cX0_hasAll 14 = .ok (.istore 6, 2) := by decide +kernel
theorem dX0_hasAll_16 : decode cX0_hasAll 16 = .ok (.iload 5, 2) := by decide +kernel
theorem dX0_hasAll_18 : decode cX0_hasAll 18 = .ok (.iconst (-1), 1) := by decide +kernel
theorem dX0_hasAll_19 : decode cX0_hasAll 19 = .ok (.if_icmp .eq 87, 3) := by decide +kernel
theorem dX0_hasAll_22 : decode cX0_hasAll 22 = .ok (.iload 6, 2) := by decide +kernel
theorem dX0_hasAll_24 : decode cX0_hasAll 24 = .ok (.bipush 100, 2) := by decide +kernel
theorem dX0_hasAll_26 : decode cX0_hasAll 26 = .ok (.if_icmp .ge 80, 3) := by decide +kernel
theorem dX0_hasAll_29 : decode cX0_hasAll 29 = .ok (.aload_n 0, 1) := by decide +kernel
theorem dX0_hasAll_30 : decode cX0_hasAll 30 = .ok (.getfield 23, 3) := by decide +kernel
theorem dX0_hasAll_33 : decode cX0_hasAll 33 = .ok (.invokevirtual 193, 3) := by decide +kernel
theorem dX0_hasAll_36 : decode cX0_hasAll 36 = .ok (.aload_n 0, 1) := by decide +kernel
theorem dX0_hasAll_37 : decode cX0_hasAll 37 = .ok (.getfield 49, 3) := by decide +kernel
theorem dX0_hasAll_40 : decode cX0_hasAll 40 = .ok (.iload 5, 2) := by decide +kernel
theorem dX0_hasAll_42 : decode cX0_hasAll 42 = .ok (.aload_n 0, 1) := by decide +kernel
theorem dX0_hasAll_43 : decode cX0_hasAll 43 = .ok (.getfield 23, 3) := by decide +kernel
theorem dX0_hasAll_46 : decode cX0_hasAll 46 = .ok (.invokevirtual 196, 3) := by decide +kernel
theorem dX0_hasAll_49 : decode cX0_hasAll 49 = .ok (.aload_n 0, 1) := by decide +kernel
theorem dX0_hasAll_50 : decode cX0_hasAll 50 = .ok (.getfield 52, 3) := by decide +kernel
theorem dX0_hasAll_53 : decode cX0_hasAll 53 = .ok (.iload_n 2, 1) := by decide +kernel
theorem dX0_hasAll_54 : decode cX0_hasAll 54 = .ok (.iconst 5, 1) := by decide +kernel
theorem dX0_hasAll_55 : decode cX0_hasAll 55 = .ok (.invokevirtual 126, 3) := by decide +kernel
theorem dX0_hasAll_58 : decode cX0_hasAll 58 = .ok (.ifCond .eq 30, 3) := by decide +kernel
theorem dX0_hasAll_61 : decode cX0_hasAll 61 = .ok (.aload_n 0, 1) := by decide +kernel
theorem dX0_hasAll_62 : decode cX0_hasAll 62 = .ok (.getfield 52, 3) := by decide +kernel
theorem dX0_hasAll_65 : decode cX0_hasAll 65 = .ok (.iload_n 2, 1) := by decide +kernel
theorem dX0_hasAll_66 : decode cX0_hasAll 66 = .ok (.aload_n 0, 1) := by decide +kernel
theorem dX0_hasAll_67 : decode cX0_hasAll 67 = .ok (.getfield 23, 3) := by decide +kernel
theorem dX0_hasAll_70 : decode cX0_hasAll 70 = .ok (.invokevirtual 202, 3) := by decide +kernel
theorem dX0_hasAll_73 : decode cX0_hasAll 73 = .ok (.iconst (-1), 1) := by decide +kernel
theorem dX0_hasAll_74 : decode cX0_hasAll 74 = .ok (.if_icmp .ne 14, 3) := by decide +kernel
theorem dX0_hasAll_77 : decode cX0_hasAll 77 = .ok (.iconst 0, 1) := by decide +kernel
theorem dX0_hasAll_78 : decode cX0_hasAll 78 = .ok (.istore 4, 2) := by decide +kernel
theorem dX0_hasAll_80 : decode cX0_hasAll 80 = .ok (.aload_n 0, 1) := by decide +kernel
theorem dX0_hasAll_81 : decode cX0_hasAll 81 = .ok (.iload_n 2, 1) := by decide +kernel
theorem dX0_hasAll_82 : decode cX0_hasAll 82 = .ok (.bipush 6, 2) := by decide +kernel
theorem dX0_hasAll_84 : decode cX0_hasAll 84 = .ok (.iload_n 3, 1) := by decide +kernel
theorem dX0_hasAll_85 : decode cX0_hasAll 85 = .ok (.invokevirtual 134, 3) := by decide +kernel
theorem dX0_hasAll_88 : decode cX0_hasAll 88 = .ok (.aload_n 0, 1) := by decide +kernel
theorem dX0_hasAll_89 : decode cX0_hasAll 89 = .ok (.getfield 49, 3) := by decide +kernel
theorem dX0_hasAll_92 : decode cX0_hasAll 92 = .ok (.iload_n 1, 1) := by decide +kernel
theorem dX0_hasAll_93 : decode cX0_hasAll 93 = .ok (.iload 5, 2) := by decide +kernel
theorem dX0_hasAll_95 : decode cX0_hasAll 95 = .ok (.invokevirtual 186, 3) := by decide +kernel
theorem dX0_hasAll_98 : decode cX0_hasAll 98 = .ok (.istore 5, 2) := by decide +kernel
theorem dX0_hasAll_100 : decode cX0_hasAll 100 = .ok (.iinc 6 1, 3) := by decide +kernel
theorem dX0_hasAll_103 : decode cX0_hasAll 103 = .ok (.goto (-87), 3) := by decide +kernel
theorem dX0_hasAll_106 : decode cX0_hasAll 106 = .ok (.iload 4, 2) := by decide +kernel
theorem dX0_hasAll_108 : decode cX0_hasAll 108 = .ok (.ireturn, 1) := by decide +kernel
theorem dX0_isOfKinds_0 : decode cX0_isOfKinds 0 = .ok (.aload_n 0, 1) := by decide +kernel
theorem dX0_isOfKinds_1 : decode cX0_isOfKinds 1 = .ok (.iload_n 1, 1) := by decide +kernel
theorem dX0_isOfKinds_2 : decode cX0_isOfKinds 2 = .ok (.iload_n 2, 1) := by decide +kernel
theorem dX0_isOfKinds_3 : decode cX0_isOfKinds 3 = .ok (.invokevirtual 225, 3) := by decide +kernel
theorem dX0_isOfKinds_6 : decode cX0_isOfKinds 6 = .ok (.istore_n 3, 1) := by decide +kernel
theorem dX0_isOfKinds_7 : decode cX0_isOfKinds 7 = .ok (.aload_n 0, 1) := by decide +kernel
theorem dX0_isOfKinds_8 : decode cX0_isOfKinds 8 = .ok (.getfield 49, 3) := by decide +kernel
theorem dX0_isOfKinds_11 : decode cX0_isOfKinds 11 = .ok (.iload_n 1, 1) := by decide +kernel
theorem dX0_isOfKinds_12 : decode cX0_isOfKinds 12 = .ok (.invokevirtual 179, 3) := by decide +kernel
theorem dX0_isOfKinds_15 : decode cX0_isOfKinds 15 = .ok (.istore 4, 2) := by decide +kernel
theorem dX0_isOfKinds_17 : decode cX0_isOfKinds 17 = .ok (.iconst 0, 1) := by decide +kernel
theorem dX0_isOfKinds_18 : decode cX0_isOfKinds 18 = .ok (.istore 5, 2) := by decide +kernel
theorem dX0_isOfKinds_20 : decode cX0_isOfKinds 20 = .ok (.iload 4, 2) := by decide +kernel
theorem dX0_isOfKinds_22 : decode cX0_isOfKinds 22 = .ok (.iconst (-1), 1) := by decide +kernel
theorem dX0_isOfKinds_23 : decode cX0_isOfKinds 23 = .ok (.if_icmp .eq 48, 3) := by decide +kernel
theorem dX0_isOfKinds_26 : decode cX0_isOfKinds 26 = .ok (.iload 5, 2) := by decide +kernel
theorem dX0_isOfKinds_28 : decode cX0_isOfKinds 28 = .ok (.bipush 100, 2) := by decide +kernel
theorem dX0_isOfKinds_30 : decode cX0_isOfKinds 30 = .ok (.if_icmp .ge 41, 3) := by decide +kernel
theorem dX0_isOfKinds_33 : decode cX0_isOfKinds 33 = .ok (.iload_n 3, 1) := by decide +kernel
theorem dX0_isOfKinds_34 : decode cX0_isOfKinds 34 = .ok (.ifCond .ne 13, 3) := by decide +kernel
theorem dX0_isOfKinds_37 : decode cX0_isOfKinds 37 = .ok (.aload_n 0, 1) := by decide +kernel
theorem dX0_isOfKinds_38 : decode cX0_isOfKinds 38 = .ok (.iload 4, 2) := by decide +kernel
theorem dX0_isOfKinds_40 : decode cX0_isOfKinds 40 = .ok (.iload_n 2, 1) := by decide +kernel
theorem dX0_isOfKinds_41 : decode cX0_isOfKinds 41 = .ok (.invokevirtual 225, 3) := by decide +kernel
theorem dX0_isOfKinds_44 : decode cX0_isOfKinds 44 = .ok (.ifCond .eq 7, 3) := by decide +kernel
theorem dX0_isOfKinds_47 : decode cX0_isOfKinds 47 = .ok (.iconst 1, 1) := by decide +kernel
theorem dX0_isOfKinds_48 : decode cX0_isOfKinds 48 = .ok (.goto 4, 3) := by decide +kernel
theorem dX0_isOfKinds_51 : decode cX0_isOfKinds 51 = .ok (.iconst 0, 1) := by decide +kernel
theorem dX0_isOfKinds_52 : decode cX0_isOfKinds 52 = .ok (.istore_n 3, 1) := by decide +kernel
theorem dX0_isOfKinds_53 : decode cX0_isOfKinds 53 = .ok (.aload_n 0, 1) := by decide +kernel
theorem dX0_isOfKinds_54 : decode cX0_isOfKinds 54 = .ok (.getfield 49, 3) := by decide +kernel
theorem dX0_isOfKinds_57 : decode cX0_isOfKinds 57 = .ok (.iload_n 1, 1) := by decide +kernel
theorem dX0_isOfKinds_58 : decode cX0_isOfKinds 58 = .ok (.iload 4, 2) := by decide +kernel
theorem dX0_isOfKinds_60 : decode cX0_isOfKinds 60 = .ok (.invokevirtual 186, 3) := by decide +kernel
theorem dX0_isOfKinds_63 : decode cX0_isOfKinds 63 = .ok (.istore 4, 2) := by decide +kernel
theorem dX0_isOfKinds_65 : decode cX0_isOfKinds 65 = .ok (.iinc 5 1, 3) := by decide +kernel
theorem dX0_isOfKinds_68 : decode cX0_isOfKinds 68 = .ok (.goto (-48), 3) := by decide +kernel
theorem dX0_isOfKinds_71 : decode cX0_isOfKinds 71 = .ok (.iload_n 3, 1) := by decide +kernel
theorem dX0_isOfKinds_72 : decode cX0_isOfKinds 72 = .ok (.ireturn, 1) := by decide +kernel
theorem dX0_isOfKind_0 : decode cX0_isOfKind 0 = .ok (.aload_n 0, 1) := by decide +kernel
theorem dX0_isOfKind_1 : decode cX0_isOfKind 1 = .ok (.getfield 49, 3) := by decide +kernel
theorem dX0_isOfKind_4 : decode cX0_isOfKind 4 = .ok (.iload_n 1, 1) := by decide +kernel
theorem dX0_isOfKind_5 : decode cX0_isOfKind 5 = .ok (.ldc 228, 2) := by decide +kernel
theorem dX0_isOfKind_7 : decode cX0_isOfKind 7 = .ok (.invokevirtual 230, 3) := by decide +kernel
theorem dX0_isOfKind_10 : decode cX0_isOfKind 10 = .ok (.ifCond .eq 32, 3) := by decide +kernel
theorem dX0_isOfKind_13 : decode cX0_isOfKind 13 = .ok (.aload_n 0, 1) := by decide +kernel
theorem dX0_isOfKind_14 : decode cX0_isOfKind 14 = .ok (.getfield 52, 3) := by decide +kernel
theorem dX0_isOfKind_17 : decode cX0_isOfKind 17 = .ok (.iload_n 2, 1) := by decide +kernel
theorem dX0_isOfKind_18 : decode cX0_isOfKind 18 = .ok (.iconst 2, 1) := by decide +kernel
theorem dX0_isOfKind_19 : decode cX0_isOfKind 19 = .ok (.invokevirtual 126, 3) := by decide +kernel
theorem dX0_isOfKind_22 : decode cX0_isOfKind 22 = .ok (.ifCond .eq 18, 3) := by decide +kernel
theorem dX0_isOfKind_25 : decode cX0_isOfKind 25 = .ok (.aload_n 0, 1) := by decide +kernel
theorem dX0_isOfKind_26 : decode cX0_isOfKind 26 = .ok (.getfield 52, 3) := by decide +kernel
theorem dX0_isOfKind_29 : decode cX0_isOfKind 29 = .ok (.iload_n 2, 1) := by decide +kernel
theorem dX0_isOfKind_30 : decode cX0_isOfKind 30 = .ok (.invokevirtual 234, 3) := by decide +kernel
theorem dX0_isOfKind_33 : decode cX0_isOfKind 33 = .ok (.ifCond .lt 7, 3) := by decide +kernel
theorem dX0_isOfKind_36 : decode cX0_isOfKind 36 = .ok (.iconst 1, 1) := by decide +kernel
theorem dX0_isOfKind_37 : decode cX0_isOfKind 37 = .ok (.goto 4, 3) := by decide +kernel
theorem dX0_isOfKind_40 : decode cX0_isOfKind 40 = .ok (.iconst 0, 1) := by decide +kernel
theorem dX0_isOfKind_41 : decode cX0_isOfKind 41 = .ok (.ireturn, 1) := by decide +kernel
theorem dX0_isOfKind_42 : decode cX0_isOfKind 42 = .ok (.aload_n 0, 1) := by decide +kernel
theorem dX0_isOfKind_43 : decode cX0_isOfKind 43 = .ok (.getfield 49, 3) := by decide +kernel
theorem dX0_isOfKind_46 : decode cX0_isOfKind 46 = .ok (.iload_n 1, 1) := by decide +kernel
theorem dX0_isOfKind_47 : decode cX0_isOfKind 47 = .ok (.aload_n 0, 1) := by decide +kernel
theorem dX0_isOfKind_48 : decode cX0_isOfKind 48 = .ok (.getfield 52, 3) := by decide +kernel
theorem dX0_isOfKind_51 : decode cX0_isOfKind 51 = .ok (.iload_n 2, 1) := by decide +kernel
theorem dX0_isOfKind_52 : decode cX0_isOfKind 52 = .ok (.invokevirtual 237, 3) := by decide +kernel
theorem dX0_isOfKind_55 : decode cX0_isOfKind 55 = .ok (.invokestatic 239, 3) := by decide +kernel
theorem dX0_isOfKind_58 : decode cX0_isOfKind 58 = .ok (.invokevirtual 230, 3) := by decide +kernel
theorem dX0_isOfKind_61 : decode cX0_isOfKind 61 = .ok (.ireturn, 1) := by decide +kernel
theorem dX0_orderOfLength_0 : decode cX0_orderOfLength 0 = .ok (.aload_n 0, 1) := by decide +kernel
theorem dX0_orderOfLength_1 : decode cX0_orderOfLength 1 = .ok (.getfield 27, 3) := by decide +kernel
theorem dX0_orderOfLength_4 : decode cX0_orderOfLength 4 = .ok (.invokevirtual 193, 3) := by decide +kernel
theorem dX0_orderOfLength_7 : decode cX0_orderOfLength 7 = .ok (.aload_n 0, 1) := by decide +kernel
theorem dX0_orderOfLength_8 : decode cX0_orderOfLength 8 = .ok (.getfield 27, 3) := by decide +kernel
theorem dX0_orderOfLength_11 : decode cX0_orderOfLength 11 = .ok (.aload_n 0, 1) := by decide +kernel
theorem dX0_orderOfLength_12 : decode cX0_orderOfLength 12 = .ok (.getfield 52, 3) := by decide +kernel
theorem dX0_orderOfLength_15 : decode cX0_orderOfLength 15 = .ok (.iload_n 1, 1) := by decide +kernel
theorem dX0_orderOfLength_16 : decode cX0_orderOfLength 16 = .ok (.invokevirtual 216, 3) := by decide +kernel
theorem dX0_orderOfLength_19 : decode cX0_orderOfLength 19 = .ok (.invokevirtual 242, 3) := by decide +kernel
theorem dX0_orderOfLength_22 : decode cX0_orderOfLength 22 = .ok (.aload_n 0, 1) := by decide +kernel
theorem dX0_orderOfLength_23 : decode cX0_orderOfLength 23 = .ok (.getfield 12, 3) := by decide +kernel
theorem dX0_orderOfLength_26 : decode cX0_orderOfLength 26 = .ok (.invokevirtual 245, 3) := by decide +kernel
theorem dX0_orderOfLength_29 : decode cX0_orderOfLength 29 = .ok (.aload_n 0, 1) := by decide +kernel
theorem dX0_orderOfLength_30 : decode cX0_orderOfLength 30 = .ok (.getfield 12, 3) := by decide +kernel
theorem dX0_orderOfLength_33 : decode cX0_orderOfLength 33 = .ok (.aload_n 0, 1) := by decide +kernel
theorem dX0_orderOfLength_34 : decode cX0_orderOfLength 34 = .ok (.getfield 12, 3) := by decide +kernel
theorem dX0_orderOfLength_37 : decode cX0_orderOfLength 37 = .ok (.iconst 2, 1) := by decide +kernel
theorem dX0_orderOfLength_38 : decode cX0_orderOfLength 38 = .ok (.invokevirtual 246, 3) := by decide +kernel
theorem dX0_orderOfLength_41 : decode cX0_orderOfLength 41 = .ok (.iconst 0, 1) := by decide +kernel
theorem dX0_orderOfLength_42 : decode cX0_orderOfLength 42 = .ok (.aload_n 0, 1) := by decide +kernel
theorem dX0_orderOfLength_43 : decode cX0_orderOfLength 43 = .ok (.getfield 27, 3) := by decide +kernel
theorem dX0_orderOfLength_46 : decode cX0_orderOfLength 46 = .ok (.iconst 0, 1) := by decide +kernel
theorem dX0_orderOfLength_47 : decode cX0_orderOfLength 47 = .ok (.invokevirtual 249, 3) := by decide +kernel
theorem dX0_orderOfLength_50 : decode cX0_orderOfLength 50 = .ok (.pop, 1) := by decide +kernel
theorem dX0_orderOfLength_51 : decode cX0_orderOfLength 51 = .ok (.aload_n 0, 1) := by decide +kernel
theorem dX0_orderOfLength_52 : decode cX0_orderOfLength 52 = .ok (.getfield 12, 3) := by decide +kernel
theorem dX0_orderOfLength_55 : decode cX0_orderOfLength 55 = .ok (.iconst 0, 1) := by decide +kernel
theorem dX0_orderOfLength_56 : decode cX0_orderOfLength 56 = .ok (.aload_n 0, 1) := by decide +kernel
theorem dX0_orderOfLength_57 : decode cX0_orderOfLength 57 = .ok (.getfield 49, 3) := by decide +kernel
theorem dX0_orderOfLength_60 : decode cX0_orderOfLength 60 = .ok (.iload_n 2, 1) := by decide +kernel
theorem dX0_orderOfLength_61 : decode cX0_orderOfLength 61 = .ok (.invokevirtual 213, 3) := by decide +kernel
theorem dX0_orderOfLength_64 : decode cX0_orderOfLength 64 = .ok (.ireturn, 1) := by decide +kernel
theorem dX0_isOneOf_0 : decode cX0_isOneOf 0 = .ok (.iconst 0, 1) := by decide +kernel
theorem dX0_isOneOf_1 : decode cX0_isOneOf 1 = .ok (.istore_n 3, 1) := by decide +kernel
theorem dX0_isOneOf_2 : decode cX0_isOneOf 2 = .ok (.aload_n 0, 1) := by decide +kernel
theorem dX0_isOneOf_3 : decode cX0_isOneOf 3 = .ok (.getfield 49, 3) := by decide +kernel
theorem dX0_isOneOf_6 : decode cX0_isOneOf 6 = .ok (.iload_n 1, 1) := by decide +kernel
theorem dX0_isOneOf_7 : decode cX0_isOneOf 7 = .ok (.invokevirtual 179, 3) := by decide +kernel
theorem dX0_isOneOf_10 : decode cX0_isOneOf 10 = .ok (.istore 4, 2) := by decide +kernel
theorem dX0_isOneOf_12 : decode cX0_isOneOf 12 = .ok (.iconst 0, 1) := by decide +kernel
theorem dX0_isOneOf_13 : decode cX0_isOneOf 13 = .ok (.istore 5, 2) := by decide +kernel
theorem dX0_isOneOf_15 : decode cX0_isOneOf 15 = .ok (.iload 4, 2) := by decide +kernel
theorem dX0_isOneOf_17 : decode cX0_isOneOf 17 = .ok (.iconst (-1), 1) := by decide +kernel
theorem dX0_isOneOf_18 : decode cX0_isOneOf 18 = .ok (.if_icmp .eq 56, 3) := by decide +kernel
theorem dX0_isOneOf_21 : decode cX0_isOneOf 21 = .ok (.iload 5, 2) := by decide +kernel
theorem dX0_isOneOf_23 : decode cX0_isOneOf 23 = .ok (.bipush 100, 2) := by decide +kernel
theorem dX0_isOneOf_25 : decode cX0_isOneOf 25 = .ok (.if_icmp .ge 49, 3) := by decide +kernel
theorem dX0_isOneOf_28 : decode cX0_isOneOf 28 = .ok (.iload_n 3, 1) := by decide +kernel
theorem dX0_isOneOf_29 : decode cX0_isOneOf 29 = .ok (.ifCond .ne 21, 3) := by decide +kernel
theorem dX0_isOneOf_32 : decode cX0_isOneOf 32 = .ok (.aload_n 0, 1) := by decide +kernel
theorem dX0_isOneOf_33 : decode cX0_isOneOf 33 = .ok (.getfield 49, 3) := by decide +kernel
theorem dX0_isOneOf_36 : decode cX0_isOneOf 36 = .ok (.iload 4, 2) := by decide +kernel
theorem dX0_isOneOf_38 : decode cX0_isOneOf 38 = .ok (.aload_n 0, 1) := by decide +kernel
theorem dX0_isOneOf_39 : decode cX0_isOneOf 39 = .ok (.getfield 52, 3) := by decide +kernel
theorem dX0_isOneOf_42 : decode cX0_isOneOf 42 = .ok (.iload_n 2, 1) := by decide +kernel
theorem dX0_isOneOf_43 : decode cX0_isOneOf 43 = .ok (.iconst 0, 1) := by decide +kernel
theorem dX0_isOneOf_44 : decode cX0_isOneOf 44 = .ok (.invokevirtual 253, 3) := by decide +kernel
theorem dX0_isOneOf_47 : decode cX0_isOneOf 47 = .ok (.ifCond .eq 7, 3) := by decide +kernel
theorem dX0_isOneOf_50 : decode cX0_isOneOf 50 = .ok (.iconst 1, 1) := by decide +kernel
theorem dX0_isOneOf_51 : decode cX0_isOneOf 51 = .ok (.goto 4, 3) := by decide +kernel
theorem dX0_isOneOf_54 : decode cX0_isOneOf 54 = .ok (.iconst 0, 1) := by decide +kernel
theorem dX0_isOneOf_55 : decode cX0_isOneOf 55 = .ok (.istore_n 3, 1) := by decide +kernel
theorem dX0_isOneOf_56 : decode cX0_isOneOf 56 = .ok (.aload_n 0, 1) := by decide +kernel
theorem dX0_isOneOf_57 : decode cX0_isOneOf 57 = .ok (.getfield 49, 3) := by decide +kernel
theorem dX0_isOneOf_60 : decode cX0_isOneOf 60 = .ok (.iload_n 1, 1) := by decide +kernel
theorem dX0_isOneOf_61 : decode cX0_isOneOf 61 = .ok (.iload 4, 2) := by decide +kernel
theorem dX0_isOneOf_63 : decode cX0_isOneOf 63 = .ok (.invokevirtual 186, 3) := by decide +kernel
theorem dX0_isOneOf_66 : decode cX0_isOneOf 66 = .ok (.istore 4, 2) := by decide +kernel
theorem dX0_isOneOf_68 : decode cX0_isOneOf 68 = .ok (.iinc 5 1, 3) := by decide +kernel
theorem dX0_isOneOf_71 : decode cX0_isOneOf 71 = .ok (.goto (-56), 3) := by decide +kernel
theorem dX0_isOneOf_74 : decode cX0_isOneOf 74 = .ok (.iload_n 3, 1) := by decide +kernel
theorem dX0_isOneOf_75 : decode cX0_isOneOf 75 = .ok (.ireturn, 1) := by decide +kernel
theorem dX1_init_0 : decode cX1_init 0 = .ok (.aload_n 0, 1) := by decide +kernel
theorem dX1_init_1 : decode cX1_init 1 = .ok (.invokespecial 3, 3) := by decide +kernel
theorem dX1_init_4 : decode cX1_init 4 = .ok (.aload_n 0, 1) := by decide +kernel
theorem dX1_init_5 : decode cX1_init 5 = .ok (.new 9, 3) := by decide +kernel
theorem dX1_init_8 : decode cX1_init 8 = .ok (.dup, 1) := by decide +kernel
theorem dX1_init_9 : decode cX1_init 9 = .ok (.invokespecial 11, 3) := by decide +kernel
theorem dX1_init_12 : decode cX1_init 12 = .ok (.putfield 12, 3) := by decide +kernel
theorem dX1_init_15 : decode cX1_init 15 = .ok (.aload_n 0, 1) := by decide +kernel
theorem dX1_init_16 : decode cX1_init 16 = .ok (.new 9, 3) := by decide +kernel
theorem dX1_init_19 : decode cX1_init 19 = .ok (.dup, 1) := by decide +kernel
theorem dX1_init_20 : decode cX1_init 20 = .ok (.invokespecial 11, 3) := by decide +kernel
theorem dX1_init_23 : decode cX1_init 23 = .ok (.putfield 18, 3) := by decide +kernel
theorem dX1_init_26 : decode cX1_init 26 = .ok (.aload_n 0, 1) := by decide +kernel
theorem dX1_init_27 : decode cX1_init 27 = .ok (.new 9, 3) := by decide +kernel
theorem dX1_init_30 : decode cX1_init 30 = .ok (.dup, 1) := by decide +kernel
theorem dX1_init_31 : decode cX1_init 31 = .ok (.invokespecial 11, 3) := by decide +kernel
theorem dX1_init_34 : decode cX1_init 34 = .ok (.putfield 21, 3) := by decide +kernel
theorem dX1_init_37 : decode cX1_init 37 = .ok (.aload_n 0, 1) := by decide +kernel
theorem dX1_init_38 : decode cX1_init 38 = .ok (.new 9, 3) := by decide +kernel
theorem dX1_init_41 : decode cX1_init 41 = .ok (.dup, 1) := by decide +kernel
theorem dX1_init_42 : decode cX1_init 42 = .ok (.invokespecial 11, 3) := by decide +kernel
theorem dX1_init_45 : decode cX1_init 45 = .ok (.putfield 24, 3) := by decide +kernel
theorem dX1_init_48 : decode cX1_init 48 = .ok (.aload_n 0, 1) := by decide +kernel
theorem dX1_init_49 : decode cX1_init 49 = .ok (.new 27, 3) := by decide +kernel
theorem dX1_init_52 : decode cX1_init 52 = .ok (.dup, 1) := by decide +kernel
theorem dX1_init_53 : decode cX1_init 53 = .ok (.invokespecial 29, 3) := by decide +kernel
theorem dX1_init_56 : decode cX1_init 56 = .ok (.putfield 30, 3) := by decide +kernel
theorem dX1_init_59 : decode cX1_init 59 = .ok (.aload_n 0, 1) := by decide +kernel
theorem dX1_init_60 : decode cX1_init 60 = .ok (.new 34, 3) := by decide +kernel
theorem dX1_init_63 : decode cX1_init 63 = .ok (.dup, 1) := by decide +kernel
theorem dX1_init_64 : decode cX1_init 64 = .ok (.sipush 400, 3) := by decide +kernel
theorem dX1_init_67 : decode cX1_init 67 = .ok (.invokespecial 36, 3) := by decide +kernel
theorem dX1_init_70 : decode cX1_init 70 = .ok (.putfield 39, 3) := by decide +kernel
theorem dX1_init_73 : decode cX1_init 73 = .ok (.aload_n 0, 1) := by decide +kernel
theorem dX1_init_74 : decode cX1_init 74 = .ok (.new 34, 3) := by decide +kernel
theorem dX1_init_77 : decode cX1_init 77 = .ok (.dup, 1) := by decide +kernel
theorem dX1_init_78 : decode cX1_init 78 = .ok (.sipush 400, 3) := by decide +kernel
theorem dX1_init_81 : decode cX1_init 81 = .ok (.invokespecial 36, 3) := by decide +kernel
theorem dX1_init_84 : decode cX1_init 84 = .ok (.putfield 43, 3) := by decide +kernel
theorem dX1_init_87 : decode cX1_init 87 = .ok (.return_, 1) := by decide +kernel
theorem dX1_result_0 : decode cX1_result 0 = .ok (.aload_n 0, 1) := by decide +kernel
theorem dX1_result_1 : decode cX1_result 1 = .ok (.getfield 12, 3) := by decide +kernel
theorem dX1_result_4 : decode cX1_result 4 = .ok (.areturn, 1) := by decide +kernel
theorem dX1_wayBack_0 : decode cX1_wayBack 0 = .ok (.aload_n 0, 1) := by decide +kernel
theorem dX1_wayBack_1 : decode cX1_wayBack 1 = .ok (.getfield 24, 3) := by decide +kernel
theorem dX1_wayBack_4 : decode cX1_wayBack 4 = .ok (.areturn, 1) := by decide +kernel
theorem dX1_begin_0 : decode cX1_begin 0 = .ok (.aload_n 0, 1) := by decide +kernel
theorem dX1_begin_1 : decode cX1_begin 1 = .ok (.getfield 12, 3) := by decide +kernel
theorem dX1_begin_4 : decode cX1_begin 4 = .ok (.aload_n 1, 1) := by decide +kernel
theorem dX1_begin_5 : decode cX1_begin 5 = .ok (.iconst 0, 1) := by decide +kernel
theorem dX1_begin_6 : decode cX1_begin 6 = .ok (.invokevirtual 46, 3) := by decide +kernel
theorem dX1_begin_9 : decode cX1_begin 9 = .ok (.aload_n 0, 1) := by decide +kernel
theorem dX1_begin_10 : decode cX1_begin 10 = .ok (.iload_n 2, 1) := by decide +kernel
theorem dX1_begin_11 : decode cX1_begin 11 = .ok (.putfield 50, 3) := by decide +kernel
theorem dX1_begin_14 : decode cX1_begin 14 = .ok (.aload_n 0, 1) := by decide +kernel
theorem dX1_begin_15 : decode cX1_begin 15 = .ok (.getfield 24, 3) := by decide +kernel
theorem dX1_begin_18 : decode cX1_begin 18 = .ok (.invokevirtual 54, 3) := by decide +kernel
theorem dX1_begin_21 : decode cX1_begin 21 = .ok (.aload_n 0, 1) := by decide +kernel
theorem dX1_begin_22 : decode cX1_begin 22 = .ok (.getfield 24, 3) := by decide +kernel
theorem dX1_begin_25 : decode cX1_begin 25 = .ok (.iconst 4, 1) := by decide +kernel
theorem dX1_begin_26 : decode cX1_begin 26 = .ok (.invokevirtual 57, 3) := by decide +kernel
theorem dX1_begin_29 : decode cX1_begin 29 = .ok (.pop, 1) := by decide +kernel
theorem dX1_begin_30 : decode cX1_begin 30 = .ok (.return_, 1) := by decide +kernel
theorem dX1_putIn_0 : decode cX1_putIn 0 = .ok (.aload_n 0, 1) := by decide +kernel
theorem dX1_putIn_1 : decode cX1_putIn 1 = .ok (.aload_n 1, 1) := by decide +kernel
theorem dX1_putIn_2 : decode cX1_putIn 2 = .ok (.aload_n 0, 1) := by decide +kernel
theorem dX1_putIn_3 : decode cX1_putIn 3 = .ok (.getfield 12, 3) := by decide +kernel
theorem dX1_putIn_6 : decode cX1_putIn 6 = .ok (.aload_n 1, 1) := by decide +kernel
theorem dX1_putIn_7 : decode cX1_putIn 7 = .ok (.invokevirtual 61, 3) := by decide +kernel
theorem dX1_putIn_10 : decode cX1_putIn 10 = .ok (.iconst 1, 1) := by decide +kernel
theorem dX1_putIn_11 : decode cX1_putIn 11 = .ok (.isub, 1) := by decide +kernel
theorem dX1_putIn_12 : decode cX1_putIn 12 = .ok (.invokevirtual 65, 3) := by decide +kernel
theorem dX1_putIn_15 : decode cX1_putIn 15 = .ok (.putfield 69, 3) := by decide +kernel
theorem dX1_putIn_18 : decode cX1_putIn 18 = .ok (.aload_n 0, 1) := by decide +kernel
theorem dX1_putIn_19 : decode cX1_putIn 19 = .ok (.aload_n 1, 1) := by decide +kernel
theorem dX1_putIn_20 : decode cX1_putIn 20 = .ok (.invokevirtual 73, 3) := by decide +kernel
theorem dX1_putIn_23 : decode cX1_putIn 23 = .ok (.ifCond .ne 5, 3) := by decide +kernel
theorem dX1_putIn_26 : decode cX1_putIn 26 = .ok (.iconst 0, 1) := by decide +kernel
theorem dX1_putIn_27 : decode cX1_putIn 27 = .ok (.ireturn, 1) := by decide +kernel
theorem dX1_putIn_28 : decode cX1_putIn 28 = .ok (.aload_n 0, 1) := by decide +kernel
theorem dX1_putIn_29 : decode cX1_putIn 29 = .ok (.getfield 50, 3) := by decide +kernel
theorem dX1_putIn_32 : decode cX1_putIn 32 = .ok (.ifCond .eq 35, 3) := by decide +kernel
theorem dX1_putIn_35 : decode cX1_putIn 35 = .ok (.aload_n 0, 1) := by decide +kernel
theorem dX1_putIn_36 : decode cX1_putIn 36 = .ok (.getfield 77, 3) := by decide +kernel
theorem dX1_putIn_39 : decode cX1_putIn 39 = .ok (.ifCond .eq 28, 3) := by decide +kernel
theorem dX1_putIn_42 : decode cX1_putIn 42 = .ok (.aload_n 1, 1) := by decide +kernel
theorem dX1_putIn_43 : decode cX1_putIn 43 = .ok (.aload_n 0, 1) := by decide +kernel
theorem dX1_putIn_44 : decode cX1_putIn 44 = .ok (.getfield 43, 3) := by decide +kernel
theorem dX1_putIn_47 : decode cX1_putIn 47 = .ok (.invokevirtual 80, 3) := by decide +kernel
theorem dX1_putIn_50 : decode cX1_putIn 50 = .ok (.aload_n 0, 1) := by decide +kernel
theorem dX1_putIn_51 : decode cX1_putIn 51 = .ok (.ldc 84, 2) := by decide +kernel
theorem dX1_putIn_53 : decode cX1_putIn 53 = .ok (.aload_n 0, 1) := by decide +kernel
theorem dX1_putIn_54 : decode cX1_putIn 54 = .ok (.getfield 12, 3) := by decide +kernel
theorem dX1_putIn_57 : decode cX1_putIn 57 = .ok (.aload_n 0, 1) := by decide +kernel
theorem dX1_putIn_58 : decode cX1_putIn 58 = .ok (.getfield 86, 3) := by decide +kernel
theorem dX1_putIn_61 : decode cX1_putIn 61 = .ok (.invokevirtual 89, 3) := by decide +kernel
theorem dX1_putIn_64 : decode cX1_putIn 64 = .ok (.goto 26, 3) := by decide +kernel
theorem dX1_putIn_67 : decode cX1_putIn 67 = .ok (.aload_n 0, 1) := by decide +kernel
theorem dX1_putIn_68 : decode cX1_putIn 68 = .ok (.getfield 50, 3) := by decide +kernel
theorem dX1_putIn_71 : decode cX1_putIn 71 = .ok (.ifCond .eq 19, 3) := by decide +kernel
theorem dX1_putIn_74 : decode cX1_putIn 74 = .ok (.aload_n 0, 1) := by decide +kernel
theorem dX1_putIn_75 : decode cX1_putIn 75 = .ok (.aload_n 1, 1) := by decide +kernel
theorem dX1_putIn_76 : decode cX1_putIn 76 = .ok (.invokevirtual 93, 3) := by decide +kernel
theorem dX1_putIn_79 : decode cX1_putIn 79 = .ok (.aload_n 0, 1) := by decide +kernel
theorem dX1_putIn_80 : decode cX1_putIn 80 = .ok (.ldc 97, 2) := by decide +kernel
theorem dX1_putIn_82 : decode cX1_putIn 82 = .ok (.aload_n 0, 1) := by decide +kernel
theorem dX1_putIn_83 : decode cX1_putIn 83 = .ok (.getfield 12, 3) := by decide +kernel
theorem dX1_putIn_86 : decode cX1_putIn 86 = .ok (.iconst (-1), 1) := by decide +kernel
theorem dX1_putIn_87 : decode cX1_putIn 87 = .ok (.invokevirtual 89, 3) := by decide +kernel
theorem dX1_putIn_90 : decode cX1_putIn 90 = .ok (.aload_n 0, 1) := by decide +kernel
theorem dX1_putIn_91 : decode cX1_putIn 91 = .ok (.getfield 77, 3) := by decide +kernel
theorem dX1_putIn_94 : decode cX1_putIn 94 = .ok (.ifCond .eq 24, 3) := by decide +kernel
theorem dX1_putIn_97 : decode cX1_putIn 97 = .ok (.aload_n 0, 1) := by decide +kernel
theorem dX1_putIn_98 : decode cX1_putIn 98 = .ok (.getfield 12, 3) := by decide +kernel
theorem dX1_putIn_101 : decode cX1_putIn 101 = .ok (.aload_n 0, 1) := by decide +kernel
theorem dX1_putIn_102 : decode cX1_putIn 102 = .ok (.getfield 86, 3) := by decide +kernel
theorem dX1_putIn_105 : decode cX1_putIn 105 = .ok (.aload_n 2, 1) := by decide +kernel
theorem dX1_putIn_106 : decode cX1_putIn 106 = .ok (.iload_n 3, 1) := by decide +kernel
theorem dX1_putIn_107 : decode cX1_putIn 107 = .ok (.invokevirtual 99, 3) := by decide +kernel
theorem dX1_putIn_110 : decode cX1_putIn 110 = .ok (.aload_n 0, 1) := by decide +kernel
theorem dX1_putIn_111 : decode cX1_putIn 111 = .ok (.getfield 12, 3) := by decide +kernel
theorem dX1_putIn_114 : decode cX1_putIn 114 = .ok (.invokevirtual 102, 3) := by decide +kernel
theorem dX1_putIn_117 : decode cX1_putIn 117 = .ok (.ireturn, 1) := by decide +kernel
theorem dX1_putIn_118 : decode cX1_putIn 118 = .ok (.aload_n 0, 1) := by decide +kernel
theorem dX1_putIn_119 : decode cX1_putIn 119 = .ok (.getfield 12, 3) := by decide +kernel
theorem dX1_putIn_122 : decode cX1_putIn 122 = .ok (.aload_n 0, 1) := by decide +kernel
theorem dX1_putIn_123 : decode cX1_putIn 123 = .ok (.getfield 69, 3) := by decide +kernel
theorem dX1_putIn_126 : decode cX1_putIn 126 = .ok (.aload_n 0, 1) := by decide +kernel
theorem dX1_putIn_127 : decode cX1_putIn 127 = .ok (.getfield 86, 3) := by decide +kernel
theorem dX1_putIn_130 : decode cX1_putIn 130 = .ok (.aload_n 2, 1) := by decide +kernel
theorem dX1_putIn_131 : decode cX1_putIn 131 = .ok (.iload_n 3, 1) := by decide +kernel
theorem dX1_putIn_132 : decode cX1_putIn 132 = .ok (.invokevirtual 106, 3) := by decide +kernel
theorem dX1_putIn_135 : decode cX1_putIn 135 = .ok (.aload_n 0, 1) := by decide +kernel
theorem dX1_putIn_136 : decode cX1_putIn 136 = .ok (.getfield 12, 3) := by decide +kernel
theorem dX1_putIn_139 : decode cX1_putIn 139 = .ok (.aload_n 0, 1) := by decide +kernel
theorem dX1_putIn_140 : decode cX1_putIn 140 = .ok (.getfield 86, 3) := by decide +kernel
theorem dX1_putIn_143 : decode cX1_putIn 143 = .ok (.invokevirtual 110, 3) := by decide +kernel
theorem dX1_putIn_146 : decode cX1_putIn 146 = .ok (.aload_n 0, 1) := by decide +kernel
theorem dX1_putIn_147 : decode cX1_putIn 147 = .ok (.getfield 12, 3) := by decide +kernel
theorem dX1_putIn_150 : decode cX1_putIn 150 = .ok (.aload_n 0, 1) := by decide +kernel
theorem dX1_putIn_151 : decode cX1_putIn 151 = .ok (.getfield 69, 3) := by decide +kernel
theorem dX1_putIn_154 : decode cX1_putIn 154 = .ok (.iconst 5, 1) := by decide +kernel
theorem dX1_putIn_155 : decode cX1_putIn 155 = .ok (.invokevirtual 113, 3) := by decide +kernel
theorem dX1_putIn_158 : decode cX1_putIn 158 = .ok (.ifCond .eq 18, 3) := by decide +kernel
theorem dX1_putIn_161 : decode cX1_putIn 161 = .ok (.aload_n 0, 1) := by decide +kernel
theorem dX1_putIn_162 : decode cX1_putIn 162 = .ok (.getfield 12, 3) := by decide +kernel
theorem dX1_putIn_165 : decode cX1_putIn 165 = .ok (.aload_n 0, 1) := by decide +kernel
theorem dX1_putIn_166 : decode cX1_putIn 166 = .ok (.getfield 86, 3) := by decide +kernel
theorem dX1_putIn_169 : decode cX1_putIn 169 = .ok (.aload_n 0, 1) := by decide +kernel
theorem dX1_putIn_170 : decode cX1_putIn 170 = .ok (.getfield 39, 3) := by decide +kernel
theorem dX1_putIn_173 : decode cX1_putIn 173 = .ok (.invokevirtual 117, 3) := by decide +kernel
theorem dX1_putIn_176 : decode cX1_putIn 176 = .ok (.aload_n 0, 1) := by decide +kernel
theorem dX1_putIn_177 : decode cX1_putIn 177 = .ok (.getfield 12, 3) := by decide +kernel
theorem dX1_putIn_180 : decode cX1_putIn 180 = .ok (.invokevirtual 102, 3) := by decide +kernel
theorem dX1_putIn_183 : decode cX1_putIn 183 = .ok (.ireturn, 1) := by decide +kernel
theorem dX1_aimedPathTo_0 : decode cX1_aimedPathTo 0 = .ok (.aload_n 0, 1) := by decide +kernel
theorem dX1_aimedPathTo_1 : decode cX1_aimedPathTo 1 = .ok (.getfield 12, 3) := by decide +kernel
theorem dX1_aimedPathTo_4 : decode cX1_aimedPathTo 4 = .ok (.aload_n 0, 1) := by decide +kernel
theorem dX1_aimedPathTo_5 : decode cX1_aimedPathTo 5 = .ok (.getfield 69, 3) := by decide +kernel
theorem dX1_aimedPathTo_8 : decode cX1_aimedPathTo 8 = .ok (.iconst 4, 1) := by decide +kernel
theorem dX1_aimedPathTo_9 : decode cX1_aimedPathTo 9 = .ok (.invokevirtual 113, 3) := by decide +kernel
theorem dX1_aimedPathTo_12 : decode cX1_aimedPathTo 12 = .ok (.ifCond .eq 18, 3) := by decide +kernel
theorem dX1_aimedPathTo_15 : decode cX1_aimedPathTo 15 = .ok (.aload_n 1, 1) := by decide +kernel
theorem dX1_aimedPathTo_16 : decode cX1_aimedPathTo 16 = .ok (.aload_n 0, 1) := by decide +kernel
theorem dX1_aimedPathTo_17 : decode cX1_aimedPathTo 17 = .ok (.getfield 121, 3) := by decide +kernel
theorem dX1_aimedPathTo_20 : decode cX1_aimedPathTo 20 = .ok (.aload_n 0, 1) := by decide +kernel
theorem dX1_aimedPathTo_21 : decode cX1_aimedPathTo 21 = .ok (.getfield 43, 3) := by decide +kernel
theorem dX1_aimedPathTo_24 : decode cX1_aimedPathTo 24 = .ok (.invokevirtual 124, 3) := by decide +kernel
theorem dX1_aimedPathTo_27 : decode cX1_aimedPathTo 27 = .ok (.goto 11, 3) := by decide +kernel
theorem dX1_aimedPathTo_30 : decode cX1_aimedPathTo 30 = .ok (.aload_n 1, 1) := by decide +kernel
theorem dX1_aimedPathTo_31 : decode cX1_aimedPathTo 31 = .ok (.aload_n 0, 1) := by decide +kernel
theorem dX1_aimedPathTo_32 : decode cX1_aimedPathTo 32 = .ok (.getfield 43, 3) := by decide +kernel
theorem dX1_aimedPathTo_35 : decode cX1_aimedPathTo 35 = .ok (.invokevirtual 80, 3) := by decide +kernel
theorem dX1_aimedPathTo_38 : decode cX1_aimedPathTo 38 = .ok (.return_, 1) := by decide +kernel
theorem dX1_aim_0 : decode cX1_aim 0 = .ok (.aload_n 0, 1) := by decide +kernel
theorem dX1_aim_1 : decode cX1_aim 1 = .ok (.iconst 0, 1) := by decide +kernel
theorem dX1_aim_2 : decode cX1_aim 2 = .ok (.putfield 86, 3) := by decide +kernel
theorem dX1_aim_5 : decode cX1_aim 5 = .ok (.aload_n 0, 1) := by decide +kernel
theorem dX1_aim_6 : decode cX1_aim 6 = .ok (.aload_n 1, 1) := by decide +kernel
theorem dX1_aim_7 : decode cX1_aim 7 = .ok (.invokevirtual 61, 3) := by decide +kernel
theorem dX1_aim_10 : decode cX1_aim 10 = .ok (.ifCond .ne 7, 3) := by decide +kernel
theorem dX1_aim_13 : decode cX1_aim 13 = .ok (.iconst 1, 1) := by decide +kernel
theorem dX1_aim_14 : decode cX1_aim 14 = .ok (.goto 4, 3) := by decide +kernel
theorem dX1_aim_17 : decode cX1_aim 17 = .ok (.iconst 0, 1) := by decide +kernel
theorem dX1_aim_18 : decode cX1_aim 18 = .ok (.putfield 77, 3) := by decide +kernel
theorem dX1_aim_21 : decode cX1_aim 21 = .ok (.aload_n 0, 1) := by decide +kernel
theorem dX1_aim_22 : decode cX1_aim 22 = .ok (.getfield 77, 3) := by decide +kernel
theorem dX1_aim_25 : decode cX1_aim 25 = .ok (.ifCond .eq 5, 3) := by decide +kernel
theorem dX1_aim_28 : decode cX1_aim 28 = .ok (.iconst 1, 1) := by decide +kernel
theorem dX1_aim_29 : decode cX1_aim 29 = .ok (.ireturn, 1) := by decide +kernel
theorem dX1_aim_30 : decode cX1_aim 30 = .ok (.aload_n 1, 1) := by decide +kernel
theorem dX1_aim_31 : decode cX1_aim 31 = .ok (.aload_n 1, 1) := by decide +kernel
theorem dX1_aim_32 : decode cX1_aim 32 = .ok (.invokevirtual 61, 3) := by decide +kernel
theorem dX1_aim_35 : decode cX1_aim 35 = .ok (.iconst 1, 1) := by decide +kernel
theorem dX1_aim_36 : decode cX1_aim 36 = .ok (.isub, 1) := by decide +kernel
theorem dX1_aim_37 : decode cX1_aim 37 = .ok (.aload_n 0, 1) := by decide +kernel
theorem dX1_aim_38 : decode cX1_aim 38 = .ok (.getfield 39, 3) := by decide +kernel
theorem dX1_aim_41 : decode cX1_aim 41 = .ok (.invokevirtual 127, 3) := by decide +kernel
theorem dX1_aim_44 : decode cX1_aim 44 = .ok (.aload_n 0, 1) := by decide +kernel
theorem dX1_aim_45 : decode cX1_aim 45 = .ok (.getfield 12, 3) := by decide +kernel
theorem dX1_aim_48 : decode cX1_aim 48 = .ok (.aload_n 0, 1) := by decide +kernel
theorem dX1_aim_49 : decode cX1_aim 49 = .ok (.getfield 69, 3) := by decide +kernel
theorem dX1_aim_52 : decode cX1_aim 52 = .ok (.iconst 5, 1) := by decide +kernel
theorem dX1_aim_53 : decode cX1_aim 53 = .ok (.invokevirtual 113, 3) := by decide +kernel
theorem dX1_aim_56 : decode cX1_aim 56 = .ok (.ifCond .eq 86, 3) := by decide +kernel
theorem dX1_aim_59 : decode cX1_aim 59 = .ok (.aload_n 0, 1) := by decide +kernel
theorem dX1_aim_60 : decode cX1_aim 60 = .ok (.aload_n 0, 1) := by decide +kernel
theorem dX1_aim_61 : decode cX1_aim 61 = .ok (.getfield 12, 3) := by decide +kernel
theorem dX1_aim_64 : decode cX1_aim 64 = .ok (.aload_n 0, 1) := by decide +kernel
theorem dX1_aim_65 : decode cX1_aim 65 = .ok (.getfield 69, 3) := by decide +kernel
theorem dX1_aim_68 : decode cX1_aim 68 = .ok (.aload_n 0, 1) := by decide +kernel
theorem dX1_aim_69 : decode cX1_aim 69 = .ok (.getfield 39, 3) := by decide +kernel
theorem dX1_aim_72 : decode cX1_aim 72 = .ok (.invokevirtual 130, 3) := by decide +kernel
theorem dX1_aim_75 : decode cX1_aim 75 = .ok (.putfield 86, 3) := by decide +kernel
theorem dX1_aim_78 : decode cX1_aim 78 = .ok (.aload_n 0, 1) := by decide +kernel
theorem dX1_aim_79 : decode cX1_aim 79 = .ok (.aload_n 0, 1) := by decide +kernel
theorem dX1_aim_80 : decode cX1_aim 80 = .ok (.getfield 86, 3) := by decide +kernel
theorem dX1_aim_83 : decode cX1_aim 83 = .ok (.iconst (-1), 1) := by decide +kernel
theorem dX1_aim_84 : decode cX1_aim 84 = .ok (.if_icmp .eq 7, 3) := by decide +kernel
theorem dX1_aim_87 : decode cX1_aim 87 = .ok (.iconst 1, 1) := by decide +kernel
theorem dX1_aim_88 : decode cX1_aim 88 = .ok (.goto 4, 3) := by decide +kernel
theorem dX1_aim_91 : decode cX1_aim 91 = .ok (.iconst 0, 1) := by decide +kernel
theorem dX1_aim_92 : decode cX1_aim 92 = .ok (.putfield 77, 3) := by decide +kernel
theorem dX1_aim_95 : decode cX1_aim 95 = .ok (.aload_n 0, 1) := by decide +kernel
theorem dX1_aim_96 : decode cX1_aim 96 = .ok (.aload_n 0, 1) := by decide +kernel
theorem dX1_aim_97 : decode cX1_aim 97 = .ok (.getfield 77, 3) := by decide +kernel
theorem dX1_aim_100 : decode cX1_aim 100 = .ok (.ifCond .eq 10, 3) := by decide +kernel
theorem dX1_aim_103 : decode cX1_aim 103 = .ok (.aload_n 0, 1) := by decide +kernel
theorem dX1_aim_104 : decode cX1_aim 104 = .ok (.getfield 86, 3) := by decide +kernel
theorem dX1_aim_107 : decode cX1_aim 107 = .ok (.goto 14, 3) := by decide +kernel
theorem dX1_aim_110 : decode cX1_aim 110 = .ok (.aload_n 0, 1) := by decide +kernel
theorem dX1_aim_111 : decode cX1_aim 111 = .ok (.getfield 12, 3) := by decide +kernel
theorem dX1_aim_114 : decode cX1_aim 114 = .ok (.aload_n 0, 1) := by decide +kernel
theorem dX1_aim_115 : decode cX1_aim 115 = .ok (.getfield 69, 3) := by decide +kernel
theorem dX1_aim_118 : decode cX1_aim 118 = .ok (.invokevirtual 134, 3) := by decide +kernel
theorem dX1_aim_121 : decode cX1_aim 121 = .ok (.putfield 86, 3) := by decide +kernel
theorem dX1_aim_124 : decode cX1_aim 124 = .ok (.aload_n 0, 1) := by decide +kernel
theorem dX1_aim_125 : decode cX1_aim 125 = .ok (.getfield 39, 3) := by decide +kernel
theorem dX1_aim_128 : decode cX1_aim 128 = .ok (.invokevirtual 137, 3) := by decide +kernel
theorem dX1_aim_131 : decode cX1_aim 131 = .ok (.bipush 12, 2) := by decide +kernel
theorem dX1_aim_133 : decode cX1_aim 133 = .ok (.if_icmp .gt 7, 3) := by decide +kernel
theorem dX1_aim_136 : decode cX1_aim 136 = .ok (.iconst 1, 1) := by decide +kernel
theorem dX1_aim_137 : decode cX1_aim 137 = .ok (.goto 4, 3) := by decide +kernel
theorem dX1_aim_140 : decode cX1_aim 140 = .ok (.iconst 0, 1) := by decide +kernel
theorem dX1_aim_141 : decode cX1_aim 141 = .ok (.ireturn, 1) := by decide +kernel
theorem dX1_aim_142 : decode cX1_aim 142 = .ok (.aload_n 0, 1) := by decide +kernel
theorem dX1_aim_143 : decode cX1_aim 143 = .ok (.getfield 12, 3) := by decide +kernel
theorem dX1_aim_146 : decode cX1_aim 146 = .ok (.aload_n 0, 1) := by decide +kernel
theorem dX1_aim_147 : decode cX1_aim 147 = .ok (.getfield 69, 3) := by decide +kernel
theorem dX1_aim_150 : decode cX1_aim 150 = .ok (.iconst 4, 1) := by decide +kernel
theorem dX1_aim_151 : decode cX1_aim 151 = .ok (.invokevirtual 113, 3) := by decide +kernel
theorem dX1_aim_154 : decode cX1_aim 154 = .ok (.ifCond .ne 5, 3) := by decide +kernel
theorem dX1_aim_157 : decode cX1_aim 157 = .ok (.iconst 0, 1) := by decide +kernel
theorem dX1_aim_158 : decode cX1_aim 158 = .ok (.ireturn, 1) := by decide +kernel
theorem dX1_aim_159 : decode cX1_aim 159 = .ok (.aload_n 0, 1) := by decide +kernel
theorem dX1_aim_160 : decode cX1_aim 160 = .ok (.getfield 12, 3) := by decide +kernel
theorem dX1_aim_163 : decode cX1_aim 163 = .ok (.aload_n 0, 1) := by decide +kernel
theorem dX1_aim_164 : decode cX1_aim 164 = .ok (.getfield 69, 3) := by decide +kernel
theorem dX1_aim_167 : decode cX1_aim 167 = .ok (.invokevirtual 140, 3) := by decide +kernel
theorem dX1_aim_170 : decode cX1_aim 170 = .ok (.istore_n 2, 1) := by decide +kernel
theorem dX1_aim_171 : decode cX1_aim 171 = .ok (.aload_n 0, 1) := by decide +kernel
theorem dX1_aim_172 : decode cX1_aim 172 = .ok (.aload_n 0, 1) := by decide +kernel
theorem dX1_aim_173 : decode cX1_aim 173 = .ok (.getfield 39, 3) := by decide +kernel
theorem dX1_aim_176 : decode cX1_aim 176 = .ok (.ldc 143, 2) := by decide +kernel
theorem dX1_aim_178 : decode cX1_aim 178 = .ok (.invokevirtual 145, 3) := by decide +kernel
theorem dX1_aim_181 : decode cX1_aim 181 = .ok (.ifCond .eq 7, 3) := by decide +kernel
theorem dX1_aim_184 : decode cX1_aim 184 = .ok (.iload_n 2, 1) := by decide +kernel
theorem dX1_aim_185 : decode cX1_aim 185 = .ok (.goto 11, 3) := by decide +kernel
theorem dX1_aim_188 : decode cX1_aim 188 = .ok (.aload_n 0, 1) := by decide +kernel
theorem dX1_aim_189 : decode cX1_aim 189 = .ok (.getfield 39, 3) := by decide +kernel
theorem dX1_aim_192 : decode cX1_aim 192 = .ok (.iconst 0, 1) := by decide +kernel
theorem dX1_aim_193 : decode cX1_aim 193 = .ok (.invokestatic 149, 3) := by decide +kernel
theorem dX1_aim_196 : decode cX1_aim 196 = .ok (.putfield 121, 3) := by decide +kernel
theorem dX1_aim_199 : decode cX1_aim 199 = .ok (.aload_n 0, 1) := by decide +kernel
theorem dX1_aim_200 : decode cX1_aim 200 = .ok (.aload_n 0, 1) := by decide +kernel
theorem dX1_aim_201 : decode cX1_aim 201 = .ok (.getfield 121, 3) := by decide +kernel
theorem dX1_aim_204 : decode cX1_aim 204 = .ok (.iload_n 2, 1) := by decide +kernel
theorem dX1_aim_205 : decode cX1_aim 205 = .ok (.if_icmp .ge 21, 3) := by decide +kernel
theorem dX1_aim_208 : decode cX1_aim 208 = .ok (.aload_n 0, 1) := by decide +kernel
theorem dX1_aim_209 : decode cX1_aim 209 = .ok (.getfield 12, 3) := by decide +kernel
theorem dX1_aim_212 : decode cX1_aim 212 = .ok (.aload_n 0, 1) := by decide +kernel
theorem dX1_aim_213 : decode cX1_aim 213 = .ok (.getfield 69, 3) := by decide +kernel
theorem dX1_aim_216 : decode cX1_aim 216 = .ok (.aload_n 0, 1) := by decide +kernel
theorem dX1_aim_217 : decode cX1_aim 217 = .ok (.getfield 121, 3) := by decide +kernel
theorem dX1_aim_220 : decode cX1_aim 220 = .ok (.invokevirtual 153, 3) := by decide +kernel
theorem dX1_aim_223 : decode cX1_aim 223 = .ok (.goto 14, 3) := by decide +kernel
theorem dX1_aim_226 : decode cX1_aim 226 = .ok (.aload_n 0, 1) := by decide +kernel
theorem dX1_aim_227 : decode cX1_aim 227 = .ok (.getfield 12, 3) := by decide +kernel
theorem dX1_aim_230 : decode cX1_aim 230 = .ok (.aload_n 0, 1) := by decide +kernel
theorem dX1_aim_231 : decode cX1_aim 231 = .ok (.getfield 69, 3) := by decide +kernel
theorem dX1_aim_234 : decode cX1_aim 234 = .ok (.invokevirtual 134, 3) := by decide +kernel
theorem dX1_aim_237 : decode cX1_aim 237 = .ok (.putfield 86, 3) := by decide +kernel
theorem dX1_aim_240 : decode cX1_aim 240 = .ok (.aload_n 0, 1) := by decide +kernel
theorem dX1_aim_241 : decode cX1_aim 241 = .ok (.getfield 121, 3) := by decide +kernel
theorem dX1_aim_244 : decode cX1_aim 244 = .ok (.ifCond .lt 15, 3) := by decide +kernel
theorem dX1_aim_247 : decode cX1_aim 247 = .ok (.aload_n 0, 1) := by decide +kernel
theorem dX1_aim_248 : decode cX1_aim 248 = .ok (.getfield 121, 3) := by decide +kernel
theorem dX1_aim_251 : decode cX1_aim 251 = .ok (.iload_n 2, 1) := by decide +kernel
theorem dX1_aim_252 : decode cX1_aim 252 = .ok (.if_icmp .gt 7, 3) := by decide +kernel
theorem dX1_aim_255 : decode cX1_aim 255 = .ok (.iconst 1, 1) := by decide +kernel
theorem dX1_aim_256 : decode cX1_aim 256 = .ok (.goto 4, 3) := by decide +kernel
theorem dX1_aim_259 : decode cX1_aim 259 = .ok (.iconst 0, 1) := by decide +kernel
theorem dX1_aim_260 : decode cX1_aim 260 = .ok (.ireturn, 1) := by decide +kernel
theorem dX1_cutOut_0 : decode cX1_cutOut 0 = .ok (.aload_n 1, 1) := by decide +kernel
theorem dX1_cutOut_1 : decode cX1_cutOut 1 = .ok (.aload_n 0, 1) := by decide +kernel
theorem dX1_cutOut_2 : decode cX1_cutOut 2 = .ok (.getfield 12, 3) := by decide +kernel
theorem dX1_cutOut_5 : decode cX1_cutOut 5 = .ok (.aload_n 1, 1) := by decide +kernel
theorem dX1_cutOut_6 : decode cX1_cutOut 6 = .ok (.invokevirtual 61, 3) := by decide +kernel
theorem dX1_cutOut_9 : decode cX1_cutOut 9 = .ok (.invokevirtual 65, 3) := by decide +kernel
theorem dX1_cutOut_12 : decode cX1_cutOut 12 = .ok (.istore_n 2, 1) := by decide +kernel
theorem dX1_cutOut_13 : decode cX1_cutOut 13 = .ok (.iload_n 2, 1) := by decide +kernel
theorem dX1_cutOut_14 : decode cX1_cutOut 14 = .ok (.iconst (-1), 1) := by decide +kernel
theorem dX1_cutOut_15 : decode cX1_cutOut 15 = .ok (.if_icmp .eq 10, 3) := by decide +kernel
theorem dX1_cutOut_18 : decode cX1_cutOut 18 = .ok (.aload_n 1, 1) := by decide +kernel
theorem dX1_cutOut_19 : decode cX1_cutOut 19 = .ok (.invokevirtual 61, 3) := by decide +kernel
theorem dX1_cutOut_22 : decode cX1_cutOut 22 = .ok (.ifCond .ne 5, 3) := by decide +kernel
theorem dX1_cutOut_25 : decode cX1_cutOut 25 = .ok (.iconst 0, 1) := by decide +kernel
theorem dX1_cutOut_26 : decode cX1_cutOut 26 = .ok (.ireturn, 1) := by decide +kernel
theorem dX1_cutOut_27 : decode cX1_cutOut 27 = .ok (.aload_n 0, 1) := by decide +kernel
theorem dX1_cutOut_28 : decode cX1_cutOut 28 = .ok (.getfield 50, 3) := by decide +kernel
theorem dX1_cutOut_31 : decode cX1_cutOut 31 = .ok (.ifCond .eq 22, 3) := by decide +kernel
theorem dX1_cutOut_34 : decode cX1_cutOut 34 = .ok (.aload_n 1, 1) := by decide +kernel
theorem dX1_cutOut_35 : decode cX1_cutOut 35 = .ok (.aload_n 0, 1) := by decide +kernel
theorem dX1_cutOut_36 : decode cX1_cutOut 36 = .ok (.getfield 43, 3) := by decide +kernel
theorem dX1_cutOut_39 : decode cX1_cutOut 39 = .ok (.invokevirtual 80, 3) := by decide +kernel
theorem dX1_cutOut_42 : decode cX1_cutOut 42 = .ok (.aload_n 0, 1) := by decide +kernel
theorem dX1_cutOut_43 : decode cX1_cutOut 43 = .ok (.ldc 157, 2) := by decide +kernel
theorem dX1_cutOut_45 : decode cX1_cutOut 45 = .ok (.aload_n 0, 1) := by decide +kernel
theorem dX1_cutOut_46 : decode cX1_cutOut 46 = .ok (.getfield 12, 3) := by decide +kernel
theorem dX1_cutOut_49 : decode cX1_cutOut 49 = .ok (.iload_n 2, 1) := by decide +kernel
theorem dX1_cutOut_50 : decode cX1_cutOut 50 = .ok (.invokevirtual 89, 3) := by decide +kernel
theorem dX1_cutOut_53 : decode cX1_cutOut 53 = .ok (.aload_n 0, 1) := by decide +kernel
theorem dX1_cutOut_54 : decode cX1_cutOut 54 = .ok (.getfield 12, 3) := by decide +kernel
theorem dX1_cutOut_57 : decode cX1_cutOut 57 = .ok (.iload_n 2, 1) := by decide +kernel
theorem dX1_cutOut_58 : decode cX1_cutOut 58 = .ok (.invokevirtual 158, 3) := by decide +kernel
theorem dX1_cutOut_61 : decode cX1_cutOut 61 = .ok (.iconst 1, 1) := by decide +kernel
theorem dX1_cutOut_62 : decode cX1_cutOut 62 = .ok (.ireturn, 1) := by decide +kernel
theorem dX1_record_0 : decode cX1_record 0 = .ok (.aload_n 0, 1) := by decide +kernel
theorem dX1_record_1 : decode cX1_record 1 = .ok (.getfield 21, 3) := by decide +kernel
theorem dX1_record_4 : decode cX1_record 4 = .ok (.invokevirtual 54, 3) := by decide +kernel
theorem dX1_record_7 : decode cX1_record 7 = .ok (.aload_n 0, 1) := by decide +kernel
theorem dX1_record_8 : decode cX1_record 8 = .ok (.getfield 21, 3) := by decide +kernel
theorem dX1_record_11 : decode cX1_record 11 = .ok (.aload_n 1, 1) := by decide +kernel
theorem dX1_record_12 : decode cX1_record 12 = .ok (.aload_n 0, 1) := by decide +kernel
theorem dX1_record_13 : decode cX1_record 13 = .ok (.getfield 43, 3) := by decide +kernel
theorem dX1_record_16 : decode cX1_record 16 = .ok (.aload_n 2, 1) := by decide +kernel
theorem dX1_record_17 : decode cX1_record 17 = .ok (.iload_n 3, 1) := by decide +kernel
theorem dX1_record_18 : decode cX1_record 18 = .ok (.invokestatic 160, 3) := by decide +kernel
theorem dX1_record_21 : decode cX1_record 21 = .ok (.aload_n 0, 1) := by decide +kernel
theorem dX1_record_22 : decode cX1_record 22 = .ok (.getfield 24, 3) := by decide +kernel
theorem dX1_record_25 : decode cX1_record 25 = .ok (.iconst 0, 1) := by decide +kernel
theorem dX1_record_26 : decode cX1_record 26 = .ok (.iconst 1, 1) := by decide +kernel
theorem dX1_record_27 : decode cX1_record 27 = .ok (.aload_n 0, 1) := by decide +kernel
theorem dX1_record_28 : decode cX1_record 28 = .ok (.getfield 21, 3) := by decide +kernel
theorem dX1_record_31 : decode cX1_record 31 = .ok (.iconst 0, 1) := by decide +kernel
theorem dX1_record_32 : decode cX1_record 32 = .ok (.invokevirtual 106, 3) := by decide +kernel
theorem dX1_record_35 : decode cX1_record 35 = .ok (.return_, 1) := by decide +kernel
theorem dX1_layAll_0 : decode cX1_layAll 0 = .ok (.aload_n 1, 1) := by decide +kernel
theorem dX1_layAll_1 : decode cX1_layAll 1 = .ok (.iconst 0, 1) := by decide +kernel
theorem dX1_layAll_2 : decode cX1_layAll 2 = .ok (.invokevirtual 165, 3) := by decide +kernel
theorem dX1_layAll_5 : decode cX1_layAll 5 = .ok (.istore_n 2, 1) := by decide +kernel
theorem dX1_layAll_6 : decode cX1_layAll 6 = .ok (.iconst 0, 1) := by decide +kernel
theorem dX1_layAll_7 : decode cX1_layAll 7 = .ok (.istore_n 3, 1) := by decide +kernel
theorem dX1_layAll_8 : decode cX1_layAll 8 = .ok (.iload_n 2, 1) := by decide +kernel
theorem dX1_layAll_9 : decode cX1_layAll 9 = .ok (.iconst (-1), 1) := by decide +kernel
theorem dX1_layAll_10 : decode cX1_layAll 10 = .ok (.if_icmp .eq 43, 3) := by decide +kernel
theorem dX1_layAll_13 : decode cX1_layAll 13 = .ok (.iload_n 3, 1) := by decide +kernel
theorem dX1_layAll_14 : decode cX1_layAll 14 = .ok (.bipush 100, 2) := by decide +kernel
theorem dX1_layAll_16 : decode cX1_layAll 16 = .ok (.if_icmp .ge 37, 3) := by decide +kernel
theorem dX1_layAll_19 : decode cX1_layAll 19 = .ok (.aload_n 0, 1) := by decide +kernel
theorem dX1_layAll_20 : decode cX1_layAll 20 = .ok (.aload_n 1, 1) := by decide +kernel
theorem dX1_layAll_21 : decode cX1_layAll 21 = .ok (.iload_n 2, 1) := by decide +kernel
theorem dX1_layAll_22 : decode cX1_layAll 22 = .ok (.invokevirtual 168, 3) := by decide +kernel
theorem dX1_layAll_25 : decode cX1_layAll 25 = .ok (.ifCond .eq 13, 3) := by decide +kernel
theorem dX1_layAll_28 : decode cX1_layAll 28 = .ok (.aload_n 0, 1) := by decide +kernel
theorem dX1_layAll_29 : decode cX1_layAll 29 = .ok (.getfield 12, 3) := by decide +kernel
theorem dX1_layAll_32 : decode cX1_layAll 32 = .ok (.invokevirtual 102, 3) := by decide +kernel
theorem dX1_layAll_35 : decode cX1_layAll 35 = .ok (.ifCond .ne 5, 3) := by decide +kernel
theorem dX1_layAll_38 : decode cX1_layAll 38 = .ok (.iload_n 3, 1) := by decide +kernel
theorem dX1_layAll_39 : decode cX1_layAll 39 = .ok (.ireturn, 1) := by decide +kernel
theorem dX1_layAll_40 : decode cX1_layAll 40 = .ok (.aload_n 1, 1) := by decide +kernel
theorem dX1_layAll_41 : decode cX1_layAll 41 = .ok (.iconst 0, 1) := by decide +kernel
theorem dX1_layAll_42 : decode cX1_layAll 42 = .ok (.iload_n 2, 1) := by decide +kernel
theorem dX1_layAll_43 : decode cX1_layAll 43 = .ok (.invokevirtual 172, 3) := by decide +kernel
theorem dX1_layAll_46 : decode cX1_layAll 46 = .ok (.istore_n 2, 1) := by decide +kernel
theorem dX1_layAll_47 : decode cX1_layAll 47 = .ok (.iinc 3 1, 3) := by decide +kernel
theorem dX1_layAll_50 : decode cX1_layAll 50 = .ok (.goto (-42), 3) := by decide +kernel
theorem dX1_layAll_53 : decode cX1_layAll 53 = .ok (.iconst (-1), 1) := by decide +kernel
theorem dX1_layAll_54 : decode cX1_layAll 54 = .ok (.ireturn, 1) := by decide +kernel
theorem dX1_layOne_0 : decode cX1_layOne 0 = .ok (.aload_n 1, 1) := by decide +kernel
theorem dX1_layOne_1 : decode cX1_layOne 1 = .ok (.iload_n 2, 1) := by decide +kernel
theorem dX1_layOne_2 : decode cX1_layOne 2 = .ok (.ldc 175, 2) := by decide +kernel
theorem dX1_layOne_4 : decode cX1_layOne 4 = .ok (.invokevirtual 177, 3) := by decide +kernel
theorem dX1_layOne_7 : decode cX1_layOne 7 = .ok (.istore_n 3, 1) := by decide +kernel
theorem dX1_layOne_8 : decode cX1_layOne 8 = .ok (.aload_n 1, 1) := by decide +kernel
theorem dX1_layOne_9 : decode cX1_layOne 9 = .ok (.iload_n 2, 1) := by decide +kernel
theorem dX1_layOne_10 : decode cX1_layOne 10 = .ok (.ldc 181, 2) := by decide +kernel
theorem dX1_layOne_12 : decode cX1_layOne 12 = .ok (.invokevirtual 177, 3) := by decide +kernel
theorem dX1_layOne_15 : decode cX1_layOne 15 = .ok (.istore 4, 2) := by decide +kernel
theorem dX1_layOne_17 : decode cX1_layOne 17 = .ok (.aload_n 1, 1) := by decide +kernel
theorem dX1_layOne_18 : decode cX1_layOne 18 = .ok (.iload_n 2, 1) := by decide +kernel
theorem dX1_layOne_19 : decode cX1_layOne 19 = .ok (.ldc 182, 2) := by decide +kernel
theorem dX1_layOne_21 : decode cX1_layOne 21 = .ok (.invokevirtual 177, 3) := by decide +kernel
theorem dX1_layOne_24 : decode cX1_layOne 24 = .ok (.istore 5, 2) := by decide +kernel
theorem dX1_layOne_26 : decode cX1_layOne 26 = .ok (.aload_n 1, 1) := by decide +kernel
theorem dX1_layOne_27 : decode cX1_layOne 27 = .ok (.iload_n 2, 1) := by decide +kernel
theorem dX1_layOne_28 : decode cX1_layOne 28 = .ok (.ldc 184, 2) := by decide +kernel
theorem dX1_layOne_30 : decode cX1_layOne 30 = .ok (.invokevirtual 177, 3) := by decide +kernel
theorem dX1_layOne_33 : decode cX1_layOne 33 = .ok (.istore 6, 2) := by decide +kernel
theorem dX1_layOne_35 : decode cX1_layOne 35 = .ok (.aload_n 1, 1) := by decide +kernel
theorem dX1_layOne_36 : decode cX1_layOne 36 = .ok (.iload_n 3, 1) := by decide +kernel
theorem dX1_layOne_37 : decode cX1_layOne 37 = .ok (.iconst 3, 1) := by decide +kernel
theorem dX1_layOne_38 : decode cX1_layOne 38 = .ok (.invokevirtual 113, 3) := by decide +kernel
theorem dX1_layOne_41 : decode cX1_layOne 41 = .ok (.ifCond .eq 16, 3) := by decide +kernel
theorem dX1_layOne_44 : decode cX1_layOne 44 = .ok (.aload_n 0, 1) := by decide +kernel
theorem dX1_layOne_45 : decode cX1_layOne 45 = .ok (.getfield 30, 3) := by decide +kernel
theorem dX1_layOne_48 : decode cX1_layOne 48 = .ok (.aload_n 1, 1) := by decide +kernel
theorem dX1_layOne_49 : decode cX1_layOne 49 = .ok (.iload 4, 2) := by decide +kernel
theorem dX1_layOne_51 : decode cX1_layOne 51 = .ok (.invokevirtual 186, 3) := by decide +kernel
theorem dX1_layOne_54 : decode cX1_layOne 54 = .ok (.ifCond .ne 5, 3) := by decide +kernel
theorem dX1_layOne_57 : decode cX1_layOne 57 = .ok (.iconst 0, 1) := by decide +kernel
theorem dX1_layOne_58 : decode cX1_layOne 58 = .ok (.ireturn, 1) := by decide +kernel
theorem dX1_layOne_59 : decode cX1_layOne 59 = .ok (.aload_n 1, 1) := by decide +kernel
theorem dX1_layOne_60 : decode cX1_layOne 60 = .ok (.iload_n 3, 1) := by decide +kernel
theorem dX1_layOne_61 : decode cX1_layOne 61 = .ok (.ldc 97, 2) := by decide +kernel
theorem dX1_layOne_63 : decode cX1_layOne 63 = .ok (.invokevirtual 189, 3) := by decide +kernel
theorem dX1_layOne_66 : decode cX1_layOne 66 = .ok (.ifCond .eq 12, 3) := by decide +kernel
theorem dX1_layOne_69 : decode cX1_layOne 69 = .ok (.aload_n 0, 1) := by decide +kernel
theorem dX1_layOne_70 : decode cX1_layOne 70 = .ok (.aload_n 0, 1) := by decide +kernel
theorem dX1_layOne_71 : decode cX1_layOne 71 = .ok (.getfield 30, 3) := by decide +kernel
theorem dX1_layOne_74 : decode cX1_layOne 74 = .ok (.invokevirtual 192, 3) := by decide +kernel
theorem dX1_layOne_77 : decode cX1_layOne 77 = .ok (.ireturn, 1) := by decide +kernel
theorem dX1_layOne_78 : decode cX1_layOne 78 = .ok (.aload_n 1, 1) := by decide +kernel
theorem dX1_layOne_79 : decode cX1_layOne 79 = .ok (.iload_n 3, 1) := by decide +kernel
theorem dX1_layOne_80 : decode cX1_layOne 80 = .ok (.ldc 195, 2) := by decide +kernel
theorem dX1_layOne_82 : decode cX1_layOne 82 = .ok (.invokevirtual 189, 3) := by decide +kernel
theorem dX1_layOne_85 : decode cX1_layOne 85 = .ok (.ifCond .eq 59, 3) := by decide +kernel
theorem dX1_layOne_88 : decode cX1_layOne 88 = .ok (.aload_n 0, 1) := by decide +kernel
theorem dX1_layOne_89 : decode cX1_layOne 89 = .ok (.aload_n 1, 1) := by decide +kernel
theorem dX1_layOne_90 : decode cX1_layOne 90 = .ok (.iload 5, 2) := by decide +kernel
theorem dX1_layOne_92 : decode cX1_layOne 92 = .ok (.invokevirtual 197, 3) := by decide +kernel
theorem dX1_layOne_95 : decode cX1_layOne 95 = .ok (.ifCond .eq 47, 3) := by decide +kernel
theorem dX1_layOne_98 : decode cX1_layOne 98 = .ok (.aload_n 0, 1) := by decide +kernel
theorem dX1_layOne_99 : decode cX1_layOne 99 = .ok (.aload_n 0, 1) := by decide +kernel
theorem dX1_layOne_100 : decode cX1_layOne 100 = .ok (.getfield 30, 3) := by decide +kernel
theorem dX1_layOne_103 : decode cX1_layOne 103 = .ok (.invokevirtual 192, 3) := by decide +kernel
theorem dX1_layOne_106 : decode cX1_layOne 106 = .ok (.ifCond .eq 36, 3) := by decide +kernel
theorem dX1_layOne_109 : decode cX1_layOne 109 = .ok (.aload_n 0, 1) := by decide +kernel
theorem dX1_layOne_110 : decode cX1_layOne 110 = .ok (.getfield 30, 3) := by decide +kernel
theorem dX1_layOne_113 : decode cX1_layOne 113 = .ok (.aload_n 1, 1) := by decide +kernel
theorem dX1_layOne_114 : decode cX1_layOne 114 = .ok (.iload 4, 2) := by decide +kernel
theorem dX1_layOne_116 : decode cX1_layOne 116 = .ok (.invokevirtual 186, 3) := by decide +kernel
theorem dX1_layOne_119 : decode cX1_layOne 119 = .ok (.ifCond .eq 23, 3) := by decide +kernel
theorem dX1_layOne_122 : decode cX1_layOne 122 = .ok (.aload_n 0, 1) := by decide +kernel
theorem dX1_layOne_123 : decode cX1_layOne 123 = .ok (.aload_n 0, 1) := by decide +kernel
theorem dX1_layOne_124 : decode cX1_layOne 124 = .ok (.getfield 30, 3) := by decide +kernel
theorem dX1_layOne_127 : decode cX1_layOne 127 = .ok (.aload_n 0, 1) := by decide +kernel
theorem dX1_layOne_128 : decode cX1_layOne 128 = .ok (.getfield 18, 3) := by decide +kernel
theorem dX1_layOne_131 : decode cX1_layOne 131 = .ok (.iconst 0, 1) := by decide +kernel
theorem dX1_layOne_132 : decode cX1_layOne 132 = .ok (.invokevirtual 200, 3) := by decide +kernel
theorem dX1_layOne_135 : decode cX1_layOne 135 = .ok (.ifCond .eq 7, 3) := by decide +kernel
theorem dX1_layOne_138 : decode cX1_layOne 138 = .ok (.iconst 1, 1) := by decide +kernel
theorem dX1_layOne_139 : decode cX1_layOne 139 = .ok (.goto 4, 3) := by decide +kernel
theorem dX1_layOne_142 : decode cX1_layOne 142 = .ok (.iconst 0, 1) := by decide +kernel
theorem dX1_layOne_143 : decode cX1_layOne 143 = .ok (.ireturn, 1) := by decide +kernel
theorem dX1_layOne_144 : decode cX1_layOne 144 = .ok (.aload_n 1, 1) := by decide +kernel
theorem dX1_layOne_145 : decode cX1_layOne 145 = .ok (.iload_n 3, 1) := by decide +kernel
theorem dX1_layOne_146 : decode cX1_layOne 146 = .ok (.ldc 204, 2) := by decide +kernel
theorem dX1_layOne_148 : decode cX1_layOne 148 = .ok (.invokevirtual 189, 3) := by decide +kernel
theorem dX1_layOne_151 : decode cX1_layOne 151 = .ok (.ifCond .eq 48, 3) := by decide +kernel
theorem dX1_layOne_154 : decode cX1_layOne 154 = .ok (.aload_n 0, 1) := by decide +kernel
theorem dX1_layOne_155 : decode cX1_layOne 155 = .ok (.aload_n 1, 1) := by decide +kernel
theorem dX1_layOne_156 : decode cX1_layOne 156 = .ok (.iload 5, 2) := by decide +kernel
theorem dX1_layOne_158 : decode cX1_layOne 158 = .ok (.invokevirtual 197, 3) := by decide +kernel
theorem dX1_layOne_161 : decode cX1_layOne 161 = .ok (.ifCond .eq 36, 3) := by decide +kernel
theorem dX1_layOne_164 : decode cX1_layOne 164 = .ok (.aload_n 0, 1) := by decide +kernel
theorem dX1_layOne_165 : decode cX1_layOne 165 = .ok (.getfield 30, 3) := by decide +kernel
theorem dX1_layOne_168 : decode cX1_layOne 168 = .ok (.aload_n 1, 1) := by decide +kernel
theorem dX1_layOne_169 : decode cX1_layOne 169 = .ok (.iload 4, 2) := by decide +kernel
theorem dX1_layOne_171 : decode cX1_layOne 171 = .ok (.invokevirtual 186, 3) := by decide +kernel
theorem dX1_layOne_174 : decode cX1_layOne 174 = .ok (.ifCond .eq 23, 3) := by decide +kernel
theorem dX1_layOne_177 : decode cX1_layOne 177 = .ok (.aload_n 0, 1) := by decide +kernel
theorem dX1_layOne_178 : decode cX1_layOne 178 = .ok (.aload_n 0, 1) := by decide +kernel
theorem dX1_layOne_179 : decode cX1_layOne 179 = .ok (.getfield 30, 3) := by decide +kernel
theorem dX1_layOne_182 : decode cX1_layOne 182 = .ok (.aload_n 0, 1) := by decide +kernel
theorem dX1_layOne_183 : decode cX1_layOne 183 = .ok (.getfield 18, 3) := by decide +kernel
theorem dX1_layOne_186 : decode cX1_layOne 186 = .ok (.iconst 0, 1) := by decide +kernel
theorem dX1_layOne_187 : decode cX1_layOne 187 = .ok (.invokevirtual 200, 3) := by decide +kernel
theorem dX1_layOne_190 : decode cX1_layOne 190 = .ok (.ifCond .eq 7, 3) := by decide +kernel
theorem dX1_layOne_193 : decode cX1_layOne 193 = .ok (.iconst 1, 1) := by decide +kernel
theorem dX1_layOne_194 : decode cX1_layOne 194 = .ok (.goto 4, 3) := by decide +kernel
theorem dX1_layOne_197 : decode cX1_layOne 197 = .ok (.iconst 0, 1) := by decide +kernel
theorem dX1_layOne_198 : decode cX1_layOne 198 = .ok (.ireturn, 1) := by decide +kernel
theorem dX1_layOne_199 : decode cX1_layOne 199 = .ok (.iload 6, 2) := by decide +kernel
theorem dX1_layOne_201 : decode cX1_layOne 201 = .ok (.iconst (-1), 1) := by decide +kernel
theorem dX1_layOne_202 : decode cX1_layOne 202 = .ok (.if_icmp .ne 5, 3) := by decide +kernel
theorem dX1_layOne_205 : decode cX1_layOne 205 = .ok (.iconst 0, 1) := by decide +kernel
theorem dX1_layOne_206 : decode cX1_layOne 206 = .ok (.ireturn, 1) := by decide +kernel
theorem dX1_layOne_207 : decode cX1_layOne 207 = .ok (.aload_n 1, 1) := by decide +kernel
theorem dX1_layOne_208 : decode cX1_layOne 208 = .ok (.iload_n 3, 1) := by decide +kernel
theorem dX1_layOne_209 : decode cX1_layOne 209 = .ok (.ldc 157, 2) := by decide +kernel
theorem dX1_layOne_211 : decode cX1_layOne 211 = .ok (.invokevirtual 189, 3) := by decide +kernel
theorem dX1_layOne_214 : decode cX1_layOne 214 = .ok (.ifCond .eq 15, 3) := by decide +kernel
theorem dX1_layOne_217 : decode cX1_layOne 217 = .ok (.aload_n 0, 1) := by decide +kernel
theorem dX1_layOne_218 : decode cX1_layOne 218 = .ok (.aload_n 0, 1) := by decide +kernel
theorem dX1_layOne_219 : decode cX1_layOne 219 = .ok (.getfield 30, 3) := by decide +kernel
theorem dX1_layOne_222 : decode cX1_layOne 222 = .ok (.aload_n 1, 1) := by decide +kernel
theorem dX1_layOne_223 : decode cX1_layOne 223 = .ok (.iload 6, 2) := by decide +kernel
theorem dX1_layOne_225 : decode cX1_layOne 225 = .ok (.invokevirtual 200, 3) := by decide +kernel
theorem dX1_layOne_228 : decode cX1_layOne 228 = .ok (.ireturn, 1) := by decide +kernel
theorem dX1_layOne_229 : decode cX1_layOne 229 = .ok (.aload_n 1, 1) := by decide +kernel
theorem dX1_layOne_230 : decode cX1_layOne 230 = .ok (.iload_n 3, 1) := by decide +kernel
theorem dX1_layOne_231 : decode cX1_layOne 231 = .ok (.ldc 84, 2) := by decide +kernel
theorem dX1_layOne_233 : decode cX1_layOne 233 = .ok (.invokevirtual 189, 3) := by decide +kernel
theorem dX1_layOne_236 : decode cX1_layOne 236 = .ok (.ifCond .eq 11, 3) := by decide +kernel
theorem dX1_layOne_239 : decode cX1_layOne 239 = .ok (.aload_n 0, 1) := by decide +kernel
theorem dX1_layOne_240 : decode cX1_layOne 240 = .ok (.aload_n 1, 1) := by decide +kernel
theorem dX1_layOne_241 : decode cX1_layOne 241 = .ok (.iload 6, 2) := by decide +kernel
theorem dX1_layOne_243 : decode cX1_layOne 243 = .ok (.invokevirtual 206, 3) := by decide +kernel
theorem dX1_layOne_246 : decode cX1_layOne 246 = .ok (.ireturn, 1) := by decide +kernel
theorem dX1_layOne_247 : decode cX1_layOne 247 = .ok (.aload_n 1, 1) := by decide +kernel
theorem dX1_layOne_248 : decode cX1_layOne 248 = .ok (.iload_n 3, 1) := by decide +kernel
theorem dX1_layOne_249 : decode cX1_layOne 249 = .ok (.ldc 209, 2) := by decide +kernel
theorem dX1_layOne_251 : decode cX1_layOne 251 = .ok (.invokevirtual 189, 3) := by decide +kernel
theorem dX1_layOne_254 : decode cX1_layOne 254 = .ok (.ifCond .eq 17, 3) := by decide +kernel
theorem dX1_layOne_257 : decode cX1_layOne 257 = .ok (.aload_n 0, 1) := by decide +kernel
theorem dX1_layOne_258 : decode cX1_layOne 258 = .ok (.aload_n 1, 1) := by decide +kernel
theorem dX1_layOne_259 : decode cX1_layOne 259 = .ok (.iload 6, 2) := by decide +kernel
theorem dX1_layOne_261 : decode cX1_layOne 261 = .ok (.invokevirtual 211, 3) := by decide +kernel
theorem dX1_layOne_264 : decode cX1_layOne 264 = .ok (.ifCond .eq 7, 3) := by decide +kernel
theorem dX1_layOne_267 : decode cX1_layOne 267 = .ok (.iconst 1, 1) := by decide +kernel
theorem dX1_layOne_268 : decode cX1_layOne 268 = .ok (.goto 4, 3) := by decide +kernel
theorem dX1_layOne_271 : decode cX1_layOne 271 = .ok (.iconst 0, 1) := by decide +kernel
theorem dX1_layOne_272 : decode cX1_layOne 272 = .ok (.ireturn, 1) := by decide +kernel
theorem dX1_holdAt_0 : decode cX1_holdAt 0 = .ok (.aload_n 0, 1) := by decide +kernel
theorem dX1_holdAt_1 : decode cX1_holdAt 1 = .ok (.getfield 30, 3) := by decide +kernel
theorem dX1_holdAt_4 : decode cX1_holdAt 4 = .ok (.aload_n 1, 1) := by decide +kernel
theorem dX1_holdAt_5 : decode cX1_holdAt 5 = .ok (.iload_n 2, 1) := by decide +kernel
theorem dX1_holdAt_6 : decode cX1_holdAt 6 = .ok (.invokevirtual 186, 3) := by decide +kernel
theorem dX1_holdAt_9 : decode cX1_holdAt 9 = .ok (.ifCond .ne 5, 3) := by decide +kernel
theorem dX1_holdAt_12 : decode cX1_holdAt 12 = .ok (.iconst 0, 1) := by decide +kernel
theorem dX1_holdAt_13 : decode cX1_holdAt 13 = .ok (.ireturn, 1) := by decide +kernel
theorem dX1_holdAt_14 : decode cX1_holdAt 14 = .ok (.aload_n 0, 1) := by decide +kernel
theorem dX1_holdAt_15 : decode cX1_holdAt 15 = .ok (.getfield 30, 3) := by decide +kernel
theorem dX1_holdAt_18 : decode cX1_holdAt 18 = .ok (.aload_n 0, 1) := by decide +kernel
theorem dX1_holdAt_19 : decode cX1_holdAt 19 = .ok (.getfield 12, 3) := by decide +kernel
theorem dX1_holdAt_22 : decode cX1_holdAt 22 = .ok (.aload_n 0, 1) := by decide +kernel
theorem dX1_holdAt_23 : decode cX1_holdAt 23 = .ok (.getfield 30, 3) := by decide +kernel
theorem dX1_holdAt_26 : decode cX1_holdAt 26 = .ok (.invokevirtual 61, 3) := by decide +kernel
theorem dX1_holdAt_29 : decode cX1_holdAt 29 = .ok (.invokevirtual 65, 3) := by decide +kernel
theorem dX1_holdAt_32 : decode cX1_holdAt 32 = .ok (.istore_n 3, 1) := by decide +kernel
theorem dX1_holdAt_33 : decode cX1_holdAt 33 = .ok (.aload_n 0, 1) := by decide +kernel
theorem dX1_holdAt_34 : decode cX1_holdAt 34 = .ok (.getfield 18, 3) := by decide +kernel
theorem dX1_holdAt_37 : decode cX1_holdAt 37 = .ok (.aload_n 0, 1) := by decide +kernel
theorem dX1_holdAt_38 : decode cX1_holdAt 38 = .ok (.getfield 12, 3) := by decide +kernel
theorem dX1_holdAt_41 : decode cX1_holdAt 41 = .ok (.iload_n 3, 1) := by decide +kernel
theorem dX1_holdAt_42 : decode cX1_holdAt 42 = .ok (.invokevirtual 46, 3) := by decide +kernel
theorem dX1_holdAt_45 : decode cX1_holdAt 45 = .ok (.iload_n 3, 1) := by decide +kernel
theorem dX1_holdAt_46 : decode cX1_holdAt 46 = .ok (.iconst (-1), 1) := by decide +kernel
theorem dX1_holdAt_47 : decode cX1_holdAt 47 = .ok (.if_icmp .eq 7, 3) := by decide +kernel
theorem dX1_holdAt_50 : decode cX1_holdAt 50 = .ok (.iconst 1, 1) := by decide +kernel
theorem dX1_holdAt_51 : decode cX1_holdAt 51 = .ok (.goto 4, 3) := by decide +kernel
theorem dX1_holdAt_54 : decode cX1_holdAt 54 = .ok (.iconst 0, 1) := by decide +kernel
theorem dX1_holdAt_55 : decode cX1_holdAt 55 = .ok (.ireturn, 1) := by decide +kernel
theorem dX1_exchange_0 : decode cX1_exchange 0 = .ok (.aload_n 0, 1) := by decide +kernel
theorem dX1_exchange_1 : decode cX1_exchange 1 = .ok (.getfield 30, 3) := by decide +kernel
theorem dX1_exchange_4 : decode cX1_exchange 4 = .ok (.aload_n 0, 1) := by decide +kernel
theorem dX1_exchange_5 : decode cX1_exchange 5 = .ok (.getfield 12, 3) := by decide +kernel
theorem dX1_exchange_8 : decode cX1_exchange 8 = .ok (.aload_n 0, 1) := by decide +kernel
theorem dX1_exchange_9 : decode cX1_exchange 9 = .ok (.getfield 30, 3) := by decide +kernel
theorem dX1_exchange_12 : decode cX1_exchange 12 = .ok (.invokevirtual 61, 3) := by decide +kernel
theorem dX1_exchange_15 : decode cX1_exchange 15 = .ok (.invokevirtual 65, 3) := by decide +kernel
theorem dX1_exchange_18 : decode cX1_exchange 18 = .ok (.istore_n 3, 1) := by decide +kernel
theorem dX1_exchange_19 : decode cX1_exchange 19 = .ok (.iload_n 3, 1) := by decide +kernel
theorem dX1_exchange_20 : decode cX1_exchange 20 = .ok (.iconst (-1), 1) := by decide +kernel
theorem dX1_exchange_21 : decode cX1_exchange 21 = .ok (.if_icmp .ne 5, 3) := by decide +kernel
theorem dX1_exchange_24 : decode cX1_exchange 24 = .ok (.iconst 0, 1) := by decide +kernel
theorem dX1_exchange_25 : decode cX1_exchange 25 = .ok (.ireturn, 1) := by decide +kernel
theorem dX1_exchange_26 : decode cX1_exchange 26 = .ok (.aload_n 0, 1) := by decide +kernel
theorem dX1_exchange_27 : decode cX1_exchange 27 = .ok (.getfield 50, 3) := by decide +kernel
theorem dX1_exchange_30 : decode cX1_exchange 30 = .ok (.ifCond .eq 25, 3) := by decide +kernel
theorem dX1_exchange_33 : decode cX1_exchange 33 = .ok (.aload_n 0, 1) := by decide +kernel
theorem dX1_exchange_34 : decode cX1_exchange 34 = .ok (.getfield 30, 3) := by decide +kernel
theorem dX1_exchange_37 : decode cX1_exchange 37 = .ok (.aload_n 0, 1) := by decide +kernel
theorem dX1_exchange_38 : decode cX1_exchange 38 = .ok (.getfield 43, 3) := by decide +kernel
theorem dX1_exchange_41 : decode cX1_exchange 41 = .ok (.invokevirtual 80, 3) := by decide +kernel
theorem dX1_exchange_44 : decode cX1_exchange 44 = .ok (.aload_n 0, 1) := by decide +kernel
theorem dX1_exchange_45 : decode cX1_exchange 45 = .ok (.ldc 84, 2) := by decide +kernel
theorem dX1_exchange_47 : decode cX1_exchange 47 = .ok (.aload_n 0, 1) := by decide +kernel
theorem dX1_exchange_48 : decode cX1_exchange 48 = .ok (.getfield 12, 3) := by decide +kernel
theorem dX1_exchange_51 : decode cX1_exchange 51 = .ok (.iload_n 3, 1) := by decide +kernel
theorem dX1_exchange_52 : decode cX1_exchange 52 = .ok (.invokevirtual 89, 3) := by decide +kernel
theorem dX1_exchange_55 : decode cX1_exchange 55 = .ok (.aload_n 0, 1) := by decide +kernel
theorem dX1_exchange_56 : decode cX1_exchange 56 = .ok (.getfield 12, 3) := by decide +kernel
theorem dX1_exchange_59 : decode cX1_exchange 59 = .ok (.iload_n 3, 1) := by decide +kernel
theorem dX1_exchange_60 : decode cX1_exchange 60 = .ok (.aload_n 1, 1) := by decide +kernel
theorem dX1_exchange_61 : decode cX1_exchange 61 = .ok (.iload_n 2, 1) := by decide +kernel
theorem dX1_exchange_62 : decode cX1_exchange 62 = .ok (.invokevirtual 99, 3) := by decide +kernel
theorem dX1_exchange_65 : decode cX1_exchange 65 = .ok (.iconst 1, 1) := by decide +kernel
theorem dX1_exchange_66 : decode cX1_exchange 66 = .ok (.ireturn, 1) := by decide +kernel
theorem dX1_isThere_0 : decode cX1_isThere 0 = .ok (.aload_n 0, 1) := by decide +kernel
theorem dX1_isThere_1 : decode cX1_isThere 1 = .ok (.getfield 30, 3) := by decide +kernel
theorem dX1_isThere_4 : decode cX1_isThere 4 = .ok (.aload_n 0, 1) := by decide +kernel
theorem dX1_isThere_5 : decode cX1_isThere 5 = .ok (.getfield 12, 3) := by decide +kernel
theorem dX1_isThere_8 : decode cX1_isThere 8 = .ok (.aload_n 0, 1) := by decide +kernel
theorem dX1_isThere_9 : decode cX1_isThere 9 = .ok (.getfield 30, 3) := by decide +kernel
theorem dX1_isThere_12 : decode cX1_isThere 12 = .ok (.invokevirtual 61, 3) := by decide +kernel
theorem dX1_isThere_15 : decode cX1_isThere 15 = .ok (.invokevirtual 65, 3) := by decide +kernel
theorem dX1_isThere_18 : decode cX1_isThere 18 = .ok (.istore_n 3, 1) := by decide +kernel
theorem dX1_isThere_19 : decode cX1_isThere 19 = .ok (.iload_n 3, 1) := by decide +kernel
theorem dX1_isThere_20 : decode cX1_isThere 20 = .ok (.iconst (-1), 1) := by decide +kernel
theorem dX1_isThere_21 : decode cX1_isThere 21 = .ok (.if_icmp .eq 17, 3) := by decide +kernel
theorem dX1_isThere_24 : decode cX1_isThere 24 = .ok (.aload_n 0, 1) := by decide +kernel
theorem dX1_isThere_25 : decode cX1_isThere 25 = .ok (.getfield 12, 3) := by decide +kernel
theorem dX1_isThere_28 : decode cX1_isThere 28 = .ok (.iload_n 3, 1) := by decide +kernel
theorem dX1_isThere_29 : decode cX1_isThere 29 = .ok (.aload_n 1, 1) := by decide +kernel
theorem dX1_isThere_30 : decode cX1_isThere 30 = .ok (.iload_n 2, 1) := by decide +kernel
theorem dX1_isThere_31 : decode cX1_isThere 31 = .ok (.iconst 0, 1) := by decide +kernel
theorem dX1_isThere_32 : decode cX1_isThere 32 = .ok (.invokevirtual 214, 3) := by decide +kernel
theorem dX1_isThere_35 : decode cX1_isThere 35 = .ok (.ifCond .ne 5, 3) := by decide +kernel
theorem dX1_isThere_38 : decode cX1_isThere 38 = .ok (.iconst 0, 1) := by decide +kernel
theorem dX1_isThere_39 : decode cX1_isThere 39 = .ok (.ireturn, 1) := by decide +kernel
theorem dX1_isThere_40 : decode cX1_isThere 40 = .ok (.aload_n 0, 1) := by decide +kernel
theorem dX1_isThere_41 : decode cX1_isThere 41 = .ok (.getfield 50, 3) := by decide +kernel
theorem dX1_isThere_44 : decode cX1_isThere 44 = .ok (.ifCond .eq 22, 3) := by decide +kernel
theorem dX1_isThere_47 : decode cX1_isThere 47 = .ok (.aload_n 0, 1) := by decide +kernel
theorem dX1_isThere_48 : decode cX1_isThere 48 = .ok (.getfield 30, 3) := by decide +kernel
theorem dX1_isThere_51 : decode cX1_isThere 51 = .ok (.aload_n 0, 1) := by decide +kernel
theorem dX1_isThere_52 : decode cX1_isThere 52 = .ok (.getfield 43, 3) := by decide +kernel
theorem dX1_isThere_55 : decode cX1_isThere 55 = .ok (.invokevirtual 80, 3) := by decide +kernel
theorem dX1_isThere_58 : decode cX1_isThere 58 = .ok (.aload_n 0, 1) := by decide +kernel
theorem dX1_isThere_59 : decode cX1_isThere 59 = .ok (.ldc 209, 2) := by decide +kernel
theorem dX1_isThere_61 : decode cX1_isThere 61 = .ok (.aload_n 1, 1) := by decide +kernel
theorem dX1_isThere_62 : decode cX1_isThere 62 = .ok (.iload_n 2, 1) := by decide +kernel
theorem dX1_isThere_63 : decode cX1_isThere 63 = .ok (.invokevirtual 89, 3) := by decide +kernel
theorem dX1_isThere_66 : decode cX1_isThere 66 = .ok (.iconst 1, 1) := by decide +kernel
theorem dX1_isThere_67 : decode cX1_isThere 67 = .ok (.ireturn, 1) := by decide +kernel
theorem dX2_init_0 : decode cX2_init 0 = .ok (.aload_n 0, 1) := by decide +kernel
theorem dX2_init_1 : decode cX2_init 1 = .ok (.invokespecial 3, 3) := by decide +kernel
theorem dX2_init_4 : decode cX2_init 4 = .ok (.aload_n 0, 1) := by decide +kernel
theorem dX2_init_5 : decode cX2_init 5 = .ok (.new 9, 3) := by decide +kernel
theorem dX2_init_8 : decode cX2_init 8 = .ok (.dup, 1) := by decide +kernel
theorem dX2_init_9 : decode cX2_init 9 = .ok (.sipush 400, 3) := by decide +kernel
theorem dX2_init_12 : decode cX2_init 12 = .ok (.invokespecial 11, 3) := by decide +kernel
theorem dX2_init_15 : decode cX2_init 15 = .ok (.putfield 14, 3) := by decide +kernel
theorem dX2_init_18 : decode cX2_init 18 = .ok (.aload_n 0, 1) := by decide +kernel
theorem dX2_init_19 : decode cX2_init 19 = .ok (.new 9, 3) := by decide +kernel
theorem dX2_init_22 : decode cX2_init 22 = .ok (.dup, 1) := by decide +kernel
theorem dX2_init_23 : decode cX2_init 23 = .ok (.sipush 400, 3) := by decide +kernel
theorem dX2_init_26 : decode cX2_init 26 = .ok (.invokespecial 11, 3) := by decide +kernel
theorem dX2_init_29 : decode cX2_init 29 = .ok (.putfield 20, 3) := by decide +kernel
theorem dX2_init_32 : decode cX2_init 32 = .ok (.aload_n 0, 1) := by decide +kernel
theorem dX2_init_33 : decode cX2_init 33 = .ok (.new 9, 3) := by decide +kernel
theorem dX2_init_36 : decode cX2_init 36 = .ok (.dup, 1) := by decide +kernel
theorem dX2_init_37 : decode cX2_init 37 = .ok (.ldc 23, 2) := by decide +kernel
theorem dX2_init_39 : decode cX2_init 39 = .ok (.invokespecial 11, 3) := by decide +kernel
theorem dX2_init_42 : decode cX2_init 42 = .ok (.putfield 24, 3) := by decide +kernel
theorem dX2_init_45 : decode cX2_init 45 = .ok (.aload_n 0, 1) := by decide +kernel
theorem dX2_init_46 : decode cX2_init 46 = .ok (.bipush 100, 2) := by decide +kernel
theorem dX2_init_48 : decode cX2_init 48 = .ok (.newarray .int, 2) := by decide +kernel
theorem dX2_init_50 : decode cX2_init 50 = .ok (.putfield 27, 3) := by decide +kernel
theorem dX2_init_53 : decode cX2_init 53 = .ok (.aload_n 0, 1) := by decide +kernel
theorem dX2_init_54 : decode cX2_init 54 = .ok (.bipush 100, 2) := by decide +kernel
theorem dX2_init_56 : decode cX2_init 56 = .ok (.newarray .int, 2) := by decide +kernel
theorem dX2_init_58 : decode cX2_init 58 = .ok (.putfield 31, 3) := by decide +kernel
theorem dX2_init_61 : decode cX2_init 61 = .ok (.aload_n 0, 1) := by decide +kernel
theorem dX2_init_62 : decode cX2_init 62 = .ok (.bipush 100, 2) := by decide +kernel
theorem dX2_init_64 : decode cX2_init 64 = .ok (.newarray .boolean, 2) := by decide +kernel
theorem dX2_init_66 : decode cX2_init 66 = .ok (.putfield 34, 3) := by decide +kernel
theorem dX2_init_69 : decode cX2_init 69 = .ok (.return_, 1) := by decide +kernel
theorem dX2_count_0 : decode cX2_count 0 = .ok (.aload_n 0, 1) := by decide +kernel
theorem dX2_count_1 : decode cX2_count 1 = .ok (.getfield 38, 3) := by decide +kernel
theorem dX2_count_4 : decode cX2_count 4 = .ok (.ireturn, 1) := by decide +kernel
theorem dX2_at_0 : decode cX2_at 0 = .ok (.iload_n 1, 1) := by decide +kernel
theorem dX2_at_1 : decode cX2_at 1 = .ok (.ifCond .lt 26, 3) := by decide +kernel
theorem dX2_at_4 : decode cX2_at 4 = .ok (.iload_n 1, 1) := by decide +kernel
theorem dX2_at_5 : decode cX2_at 5 = .ok (.aload_n 0, 1) := by decide +kernel
theorem dX2_at_6 : decode cX2_at 6 = .ok (.getfield 38, 3) := by decide +kernel
theorem dX2_at_9 : decode cX2_at 9 = .ok (.if_icmp .ge 18, 3) := by decide +kernel
theorem dX2_at_12 : decode cX2_at 12 = .ok (.iload_n 1, 1) := by decide +kernel
theorem dX2_at_13 : decode cX2_at 13 = .ok (.bipush 100, 2) := by decide +kernel
theorem dX2_at_15 : decode cX2_at 15 = .ok (.if_icmp .ge 12, 3) := by decide +kernel
theorem dX2_at_18 : decode cX2_at 18 = .ok (.aload_n 0, 1) := by decide +kernel
theorem dX2_at_19 : decode cX2_at 19 = .ok (.getfield 27, 3) := by decide +kernel
theorem dX2_at_22 : decode cX2_at 22 = .ok (.iload_n 1, 1) := by decide +kernel
theorem dX2_at_23 : decode cX2_at 23 = .ok (.iaload, 1) := by decide +kernel
theorem dX2_at_24 : decode cX2_at 24 = .ok (.goto 4, 3) := by decide +kernel
theorem dX2_at_27 : decode cX2_at 27 = .ok (.iconst (-1), 1) := by decide +kernel
theorem dX2_at_28 : decode cX2_at 28 = .ok (.ireturn, 1) := by decide +kernel
theorem dX2_seek_0 : decode cX2_seek 0 = .ok (.aload_n 0, 1) := by decide +kernel
theorem dX2_seek_1 : decode cX2_seek 1 = .ok (.invokevirtual 42, 3) := by decide +kernel
theorem dX2_seek_4 : decode cX2_seek 4 = .ok (.aload_n 0, 1) := by decide +kernel
theorem dX2_seek_5 : decode cX2_seek 5 = .ok (.iconst 0, 1) := by decide +kernel
theorem dX2_seek_6 : decode cX2_seek 6 = .ok (.invokevirtual 45, 3) := by decide +kernel
theorem dX2_seek_9 : decode cX2_seek 9 = .ok (.iconst 0, 1) := by decide +kernel
theorem dX2_seek_10 : decode cX2_seek 10 = .ok (.istore_n 3, 1) := by decide +kernel
theorem dX2_seek_11 : decode cX2_seek 11 = .ok (.iload_n 3, 1) := by decide +kernel
theorem dX2_seek_12 : decode cX2_seek 12 = .ok (.aload_n 2, 1) := by decide +kernel
theorem dX2_seek_13 : decode cX2_seek 13 = .ok (.invokevirtual 48, 3) := by decide +kernel
theorem dX2_seek_16 : decode cX2_seek 16 = .ok (.if_icmp .ge 91, 3) := by decide +kernel
theorem dX2_seek_19 : decode cX2_seek 19 = .ok (.aload_n 2, 1) := by decide +kernel
theorem dX2_seek_20 : decode cX2_seek 20 = .ok (.iload_n 3, 1) := by decide +kernel
theorem dX2_seek_21 : decode cX2_seek 21 = .ok (.aload_n 0, 1) := by decide +kernel
theorem dX2_seek_22 : decode cX2_seek 22 = .ok (.getfield 14, 3) := by decide +kernel
theorem dX2_seek_25 : decode cX2_seek 25 = .ok (.invokevirtual 54, 3) := by decide +kernel
theorem dX2_seek_28 : decode cX2_seek 28 = .ok (.aload_n 0, 1) := by decide +kernel
theorem dX2_seek_29 : decode cX2_seek 29 = .ok (.getfield 38, 3) := by decide +kernel
theorem dX2_seek_32 : decode cX2_seek 32 = .ok (.bipush 100, 2) := by decide +kernel
theorem dX2_seek_34 : decode cX2_seek 34 = .ok (.invokestatic 58, 3) := by decide +kernel
theorem dX2_seek_37 : decode cX2_seek 37 = .ok (.istore 4, 2) := by decide +kernel
theorem dX2_seek_39 : decode cX2_seek 39 = .ok (.iconst 0, 1) := by decide +kernel
theorem dX2_seek_40 : decode cX2_seek 40 = .ok (.istore 5, 2) := by decide +kernel
theorem dX2_seek_42 : decode cX2_seek 42 = .ok (.iload 5, 2) := by decide +kernel
theorem dX2_seek_44 : decode cX2_seek 44 = .ok (.iload 4, 2) := by decide +kernel
theorem dX2_seek_46 : decode cX2_seek 46 = .ok (.if_icmp .ge 23, 3) := by decide +kernel
theorem dX2_seek_49 : decode cX2_seek 49 = .ok (.aload_n 0, 1) := by decide +kernel
theorem dX2_seek_50 : decode cX2_seek 50 = .ok (.getfield 31, 3) := by decide +kernel
theorem dX2_seek_53 : decode cX2_seek 53 = .ok (.iload 5, 2) := by decide +kernel
theorem dX2_seek_55 : decode cX2_seek 55 = .ok (.aload_n 0, 1) := by decide +kernel
theorem dX2_seek_56 : decode cX2_seek 56 = .ok (.getfield 27, 3) := by decide +kernel
theorem dX2_seek_59 : decode cX2_seek 59 = .ok (.iload 5, 2) := by decide +kernel
theorem dX2_seek_61 : decode cX2_seek 61 = .ok (.iaload, 1) := by decide +kernel
theorem dX2_seek_62 : decode cX2_seek 62 = .ok (.iastore, 1) := by decide +kernel
theorem dX2_seek_63 : decode cX2_seek 63 = .ok (.iinc 5 1, 3) := by decide +kernel
theorem dX2_seek_66 : decode cX2_seek 66 = .ok (.goto (-24), 3) := by decide +kernel
theorem dX2_seek_69 : decode cX2_seek 69 = .ok (.aload_n 0, 1) := by decide +kernel
theorem dX2_seek_70 : decode cX2_seek 70 = .ok (.invokevirtual 42, 3) := by decide +kernel
theorem dX2_seek_73 : decode cX2_seek 73 = .ok (.iconst 0, 1) := by decide +kernel
theorem dX2_seek_74 : decode cX2_seek 74 = .ok (.istore 5, 2) := by decide +kernel
theorem dX2_seek_76 : decode cX2_seek 76 = .ok (.iload 5, 2) := by decide +kernel
theorem dX2_seek_78 : decode cX2_seek 78 = .ok (.iload 4, 2) := by decide +kernel
theorem dX2_seek_80 : decode cX2_seek 80 = .ok (.if_icmp .ge 21, 3) := by decide +kernel
theorem dX2_seek_83 : decode cX2_seek 83 = .ok (.aload_n 0, 1) := by decide +kernel
theorem dX2_seek_84 : decode cX2_seek 84 = .ok (.aload_n 1, 1) := by decide +kernel
theorem dX2_seek_85 : decode cX2_seek 85 = .ok (.aload_n 0, 1) := by decide +kernel
theorem dX2_seek_86 : decode cX2_seek 86 = .ok (.getfield 31, 3) := by decide +kernel
theorem dX2_seek_89 : decode cX2_seek 89 = .ok (.iload 5, 2) := by decide +kernel
theorem dX2_seek_91 : decode cX2_seek 91 = .ok (.iaload, 1) := by decide +kernel
theorem dX2_seek_92 : decode cX2_seek 92 = .ok (.invokevirtual 64, 3) := by decide +kernel
theorem dX2_seek_95 : decode cX2_seek 95 = .ok (.iinc 5 1, 3) := by decide +kernel
theorem dX2_seek_98 : decode cX2_seek 98 = .ok (.goto (-22), 3) := by decide +kernel
theorem dX2_seek_101 : decode cX2_seek 101 = .ok (.iinc 3 1, 3) := by decide +kernel
theorem dX2_seek_104 : decode cX2_seek 104 = .ok (.goto (-93), 3) := by decide +kernel
theorem dX2_seek_107 : decode cX2_seek 107 = .ok (.return_, 1) := by decide +kernel
theorem dX2_begin_0 : decode cX2_begin 0 = .ok (.aload_n 0, 1) := by decide +kernel
theorem dX2_begin_1 : decode cX2_begin 1 = .ok (.iconst 0, 1) := by decide +kernel
theorem dX2_begin_2 : decode cX2_begin 2 = .ok (.putfield 38, 3) := by decide +kernel
theorem dX2_begin_5 : decode cX2_begin 5 = .ok (.iconst 0, 1) := by decide +kernel
theorem dX2_begin_6 : decode cX2_begin 6 = .ok (.istore_n 1, 1) := by decide +kernel
theorem dX2_begin_7 : decode cX2_begin 7 = .ok (.iload_n 1, 1) := by decide +kernel
theorem dX2_begin_8 : decode cX2_begin 8 = .ok (.bipush 100, 2) := by decide +kernel
theorem dX2_begin_10 : decode cX2_begin 10 = .ok (.if_icmp .ge 16, 3) := by decide +kernel
theorem dX2_begin_13 : decode cX2_begin 13 = .ok (.aload_n 0, 1) := by decide +kernel
theorem dX2_begin_14 : decode cX2_begin 14 = .ok (.getfield 34, 3) := by decide +kernel
theorem dX2_begin_17 : decode cX2_begin 17 = .ok (.iload_n 1, 1) := by decide +kernel
theorem dX2_begin_18 : decode cX2_begin 18 = .ok (.iconst 0, 1) := by decide +kernel
theorem dX2_begin_19 : decode cX2_begin 19 = .ok (.bastore, 1) := by decide +kernel
theorem dX2_begin_20 : decode cX2_begin 20 = .ok (.iinc 1 1, 3) := by decide +kernel
theorem dX2_begin_23 : decode cX2_begin 23 = .ok (.goto (-16), 3) := by decide +kernel
theorem dX2_begin_26 : decode cX2_begin 26 = .ok (.return_, 1) := by decide +kernel
theorem dX2_meet_0 : decode cX2_meet 0 = .ok (.iload_n 1, 1) := by decide +kernel
theorem dX2_meet_1 : decode cX2_meet 1 = .ok (.ifCond .lt 61, 3) := by decide +kernel
theorem dX2_meet_4 : decode cX2_meet 4 = .ok (.iload_n 1, 1) := by decide +kernel
theorem dX2_meet_5 : decode cX2_meet 5 = .ok (.bipush 100, 2) := by decide +kernel
theorem dX2_meet_7 : decode cX2_meet 7 = .ok (.if_icmp .ge 55, 3) := by decide +kernel
theorem dX2_meet_10 : decode cX2_meet 10 = .ok (.aload_n 0, 1) := by decide +kernel
theorem dX2_meet_11 : decode cX2_meet 11 = .ok (.getfield 38, 3) := by decide +kernel
theorem dX2_meet_14 : decode cX2_meet 14 = .ok (.ifCond .lt 48, 3) := by decide +kernel
theorem dX2_meet_17 : decode cX2_meet 17 = .ok (.aload_n 0, 1) := by decide +kernel
theorem dX2_meet_18 : decode cX2_meet 18 = .ok (.getfield 38, 3) := by decide +kernel
theorem dX2_meet_21 : decode cX2_meet 21 = .ok (.bipush 100, 2) := by decide +kernel
theorem dX2_meet_23 : decode cX2_meet 23 = .ok (.if_icmp .ge 39, 3) := by decide +kernel
theorem dX2_meet_26 : decode cX2_meet 26 = .ok (.aload_n 0, 1) := by decide +kernel
theorem dX2_meet_27 : decode cX2_meet 27 = .ok (.getfield 34, 3) := by decide +kernel
theorem dX2_meet_30 : decode cX2_meet 30 = .ok (.iload_n 1, 1) := by decide +kernel
theorem dX2_meet_31 : decode cX2_meet 31 = .ok (.baload, 1) := by decide +kernel
theorem dX2_meet_32 : decode cX2_meet 32 = .ok (.ifCond .ne 30, 3) := by decide +kernel
theorem dX2_meet_35 : decode cX2_meet 35 = .ok (.aload_n 0, 1) := by decide +kernel
theorem dX2_meet_36 : decode cX2_meet 36 = .ok (.getfield 34, 3) := by decide +kernel
theorem dX2_meet_39 : decode cX2_meet 39 = .ok (.iload_n 1, 1) := by decide +kernel
theorem dX2_meet_40 : decode cX2_meet 40 = .ok (.iconst 1, 1) := by decide +kernel
theorem dX2_meet_41 : decode cX2_meet 41 = .ok (.bastore, 1) := by decide +kernel
theorem dX2_meet_42 : decode cX2_meet 42 = .ok (.aload_n 0, 1) := by decide +kernel
theorem dX2_meet_43 : decode cX2_meet 43 = .ok (.getfield 27, 3) := by decide +kernel
theorem dX2_meet_46 : decode cX2_meet 46 = .ok (.aload_n 0, 1) := by decide +kernel
theorem dX2_meet_47 : decode cX2_meet 47 = .ok (.getfield 38, 3) := by decide +kernel
theorem dX2_meet_50 : decode cX2_meet 50 = .ok (.iload_n 1, 1) := by decide +kernel
theorem dX2_meet_51 : decode cX2_meet 51 = .ok (.iastore, 1) := by decide +kernel
theorem dX2_meet_52 : decode cX2_meet 52 = .ok (.aload_n 0, 1) := by decide +kernel
theorem dX2_meet_53 : decode cX2_meet 53 = .ok (.dup, 1) := by decide +kernel
theorem dX2_meet_54 : decode cX2_meet 54 = .ok (.getfield 38, 3) := by decide +kernel
theorem dX2_meet_57 : decode cX2_meet 57 = .ok (.iconst 1, 1) := by decide +kernel
theorem dX2_meet_58 : decode cX2_meet 58 = .ok (.iadd, 1) := by decide +kernel
theorem dX2_meet_59 : decode cX2_meet 59 = .ok (.putfield 38, 3) := by decide +kernel
theorem dX2_meet_62 : decode cX2_meet 62 = .ok (.return_, 1) := by decide +kernel
theorem dX2_stepFrom_0 : decode cX2_stepFrom 0 = .ok (.aload_n 0, 1) := by decide +kernel
theorem dX2_stepFrom_1 : decode cX2_stepFrom 1 = .ok (.getfield 14, 3) := by decide +kernel
theorem dX2_stepFrom_4 : decode cX2_stepFrom 4 = .ok (.ldc 68, 2) := by decide +kernel
theorem dX2_stepFrom_6 : decode cX2_stepFrom 6 = .ok (.invokevirtual 70, 3) := by decide +kernel
theorem dX2_stepFrom_9 : decode cX2_stepFrom 9 = .ok (.ifCond .eq 28, 3) := by decide +kernel
theorem dX2_stepFrom_12 : decode cX2_stepFrom 12 = .ok (.iload_n 2, 1) := by decide +kernel
theorem dX2_stepFrom_13 : decode cX2_stepFrom 13 = .ok (.istore_n 3, 1) := by decide +kernel
theorem dX2_stepFrom_14 : decode cX2_stepFrom 14 = .ok (.iload_n 3, 1) := by decide +kernel
theorem dX2_stepFrom_15 : decode cX2_stepFrom 15 = .ok (.aload_n 1, 1) := by decide +kernel
theorem dX2_stepFrom_16 : decode cX2_stepFrom 16 = .ok (.iload_n 2, 1) := by decide +kernel
theorem dX2_stepFrom_17 : decode cX2_stepFrom 17 = .ok (.invokevirtual 74, 3) := by decide +kernel
theorem dX2_stepFrom_20 : decode cX2_stepFrom 20 = .ok (.if_icmp .ge 14, 3) := by decide +kernel
theorem dX2_stepFrom_23 : decode cX2_stepFrom 23 = .ok (.aload_n 0, 1) := by decide +kernel
theorem dX2_stepFrom_24 : decode cX2_stepFrom 24 = .ok (.iload_n 3, 1) := by decide +kernel
theorem dX2_stepFrom_25 : decode cX2_stepFrom 25 = .ok (.invokevirtual 45, 3) := by decide +kernel
theorem dX2_stepFrom_28 : decode cX2_stepFrom 28 = .ok (.iinc 3 1, 3) := by decide +kernel
theorem dX2_stepFrom_31 : decode cX2_stepFrom 31 = .ok (.goto (-17), 3) := by decide +kernel
theorem dX2_stepFrom_34 : decode cX2_stepFrom 34 = .ok (.goto 119, 3) := by decide +kernel
theorem dX2_stepFrom_37 : decode cX2_stepFrom 37 = .ok (.aload_n 0, 1) := by decide +kernel
theorem dX2_stepFrom_38 : decode cX2_stepFrom 38 = .ok (.getfield 14, 3) := by decide +kernel
theorem dX2_stepFrom_41 : decode cX2_stepFrom 41 = .ok (.ldc 80, 2) := by decide +kernel
theorem dX2_stepFrom_43 : decode cX2_stepFrom 43 = .ok (.invokevirtual 70, 3) := by decide +kernel
theorem dX2_stepFrom_46 : decode cX2_stepFrom 46 = .ok (.ifCond .eq 45, 3) := by decide +kernel
theorem dX2_stepFrom_49 : decode cX2_stepFrom 49 = .ok (.aload_n 1, 1) := by decide +kernel
theorem dX2_stepFrom_50 : decode cX2_stepFrom 50 = .ok (.iload_n 2, 1) := by decide +kernel
theorem dX2_stepFrom_51 : decode cX2_stepFrom 51 = .ok (.invokevirtual 82, 3) := by decide +kernel
theorem dX2_stepFrom_54 : decode cX2_stepFrom 54 = .ok (.istore_n 3, 1) := by decide +kernel
theorem dX2_stepFrom_55 : decode cX2_stepFrom 55 = .ok (.iconst 0, 1) := by decide +kernel
theorem dX2_stepFrom_56 : decode cX2_stepFrom 56 = .ok (.istore 4, 2) := by decide +kernel
theorem dX2_stepFrom_58 : decode cX2_stepFrom 58 = .ok (.iload_n 3, 1) := by decide +kernel
theorem dX2_stepFrom_59 : decode cX2_stepFrom 59 = .ok (.iconst (-1), 1) := by decide +kernel
theorem dX2_stepFrom_60 : decode cX2_stepFrom 60 = .ok (.if_icmp .eq 28, 3) := by decide +kernel
theorem dX2_stepFrom_63 : decode cX2_stepFrom 63 = .ok (.iload 4, 2) := by decide +kernel
theorem dX2_stepFrom_65 : decode cX2_stepFrom 65 = .ok (.bipush 100, 2) := by decide +kernel
theorem dX2_stepFrom_67 : decode cX2_stepFrom 67 = .ok (.if_icmp .ge 21, 3) := by decide +kernel
theorem dX2_stepFrom_70 : decode cX2_stepFrom 70 = .ok (.aload_n 0, 1) := by decide +kernel
theorem dX2_stepFrom_71 : decode cX2_stepFrom 71 = .ok (.iload_n 3, 1) := by decide +kernel
theorem dX2_stepFrom_72 : decode cX2_stepFrom 72 = .ok (.invokevirtual 45, 3) := by decide +kernel
theorem dX2_stepFrom_75 : decode cX2_stepFrom 75 = .ok (.aload_n 1, 1) := by decide +kernel
theorem dX2_stepFrom_76 : decode cX2_stepFrom 76 = .ok (.iload_n 2, 1) := by decide +kernel
theorem dX2_stepFrom_77 : decode cX2_stepFrom 77 = .ok (.iload_n 3, 1) := by decide +kernel
theorem dX2_stepFrom_78 : decode cX2_stepFrom 78 = .ok (.invokevirtual 85, 3) := by decide +kernel
theorem dX2_stepFrom_81 : decode cX2_stepFrom 81 = .ok (.istore_n 3, 1) := by decide +kernel
theorem dX2_stepFrom_82 : decode cX2_stepFrom 82 = .ok (.iinc 4 1, 3) := by decide +kernel
theorem dX2_stepFrom_85 : decode cX2_stepFrom 85 = .ok (.goto (-27), 3) := by decide +kernel
theorem dX2_stepFrom_88 : decode cX2_stepFrom 88 = .ok (.goto 65, 3) := by decide +kernel
theorem dX2_stepFrom_91 : decode cX2_stepFrom 91 = .ok (.aload_n 0, 1) := by decide +kernel
theorem dX2_stepFrom_92 : decode cX2_stepFrom 92 = .ok (.getfield 14, 3) := by decide +kernel
theorem dX2_stepFrom_95 : decode cX2_stepFrom 95 = .ok (.iconst 0, 1) := by decide +kernel
theorem dX2_stepFrom_96 : decode cX2_stepFrom 96 = .ok (.invokevirtual 88, 3) := by decide +kernel
theorem dX2_stepFrom_99 : decode cX2_stepFrom 99 = .ok (.bipush 63, 2) := by decide +kernel
theorem dX2_stepFrom_101 : decode cX2_stepFrom 101 = .ok (.if_icmp .ne 12, 3) := by decide +kernel
theorem dX2_stepFrom_104 : decode cX2_stepFrom 104 = .ok (.aload_n 0, 1) := by decide +kernel
theorem dX2_stepFrom_105 : decode cX2_stepFrom 105 = .ok (.aload_n 1, 1) := by decide +kernel
theorem dX2_stepFrom_106 : decode cX2_stepFrom 106 = .ok (.iload_n 2, 1) := by decide +kernel
theorem dX2_stepFrom_107 : decode cX2_stepFrom 107 = .ok (.invokevirtual 91, 3) := by decide +kernel
theorem dX2_stepFrom_110 : decode cX2_stepFrom 110 = .ok (.goto 43, 3) := by decide +kernel
theorem dX2_stepFrom_113 : decode cX2_stepFrom 113 = .ok (.aload_n 1, 1) := by decide +kernel
theorem dX2_stepFrom_114 : decode cX2_stepFrom 114 = .ok (.iload_n 2, 1) := by decide +kernel
theorem dX2_stepFrom_115 : decode cX2_stepFrom 115 = .ok (.iconst 4, 1) := by decide +kernel
theorem dX2_stepFrom_116 : decode cX2_stepFrom 116 = .ok (.invokevirtual 94, 3) := by decide +kernel
theorem dX2_stepFrom_119 : decode cX2_stepFrom 119 = .ok (.ifCond .eq 21, 3) := by decide +kernel
theorem dX2_stepFrom_122 : decode cX2_stepFrom 122 = .ok (.aload_n 0, 1) := by decide +kernel
theorem dX2_stepFrom_123 : decode cX2_stepFrom 123 = .ok (.aload_n 1, 1) := by decide +kernel
theorem dX2_stepFrom_124 : decode cX2_stepFrom 124 = .ok (.iload_n 2, 1) := by decide +kernel
theorem dX2_stepFrom_125 : decode cX2_stepFrom 125 = .ok (.aload_n 0, 1) := by decide +kernel
theorem dX2_stepFrom_126 : decode cX2_stepFrom 126 = .ok (.aload_n 1, 1) := by decide +kernel
theorem dX2_stepFrom_127 : decode cX2_stepFrom 127 = .ok (.iload_n 2, 1) := by decide +kernel
theorem dX2_stepFrom_128 : decode cX2_stepFrom 128 = .ok (.invokevirtual 98, 3) := by decide +kernel
theorem dX2_stepFrom_131 : decode cX2_stepFrom 131 = .ok (.invokevirtual 102, 3) := by decide +kernel
theorem dX2_stepFrom_134 : decode cX2_stepFrom 134 = .ok (.invokevirtual 45, 3) := by decide +kernel
theorem dX2_stepFrom_137 : decode cX2_stepFrom 137 = .ok (.goto 16, 3) := by decide +kernel
theorem dX2_stepFrom_140 : decode cX2_stepFrom 140 = .ok (.aload_n 0, 1) := by decide +kernel
theorem dX2_stepFrom_141 : decode cX2_stepFrom 141 = .ok (.aload_n 1, 1) := by decide +kernel
theorem dX2_stepFrom_142 : decode cX2_stepFrom 142 = .ok (.iload_n 2, 1) := by decide +kernel
theorem dX2_stepFrom_143 : decode cX2_stepFrom 143 = .ok (.aload_n 0, 1) := by decide +kernel
theorem dX2_stepFrom_144 : decode cX2_stepFrom 144 = .ok (.getfield 14, 3) := by decide +kernel
theorem dX2_stepFrom_147 : decode cX2_stepFrom 147 = .ok (.invokevirtual 105, 3) := by decide +kernel
theorem dX2_stepFrom_150 : decode cX2_stepFrom 150 = .ok (.invokevirtual 45, 3) := by decide +kernel
theorem dX2_stepFrom_153 : decode cX2_stepFrom 153 = .ok (.return_, 1) := by decide +kernel
theorem dX2_placeIn_0 : decode cX2_placeIn 0 = .ok (.aload_n 0, 1) := by decide +kernel
theorem dX2_placeIn_1 : decode cX2_placeIn 1 = .ok (.getfield 14, 3) := by decide +kernel
theorem dX2_placeIn_4 : decode cX2_placeIn 4 = .ok (.iconst 0, 1) := by decide +kernel
theorem dX2_placeIn_5 : decode cX2_placeIn 5 = .ok (.invokevirtual 88, 3) := by decide +kernel
theorem dX2_placeIn_8 : decode cX2_placeIn 8 = .ok (.bipush 45, 2) := by decide +kernel
theorem dX2_placeIn_10 : decode cX2_placeIn 10 = .ok (.if_icmp .eq 12, 3) := by decide +kernel
theorem dX2_placeIn_13 : decode cX2_placeIn 13 = .ok (.aload_n 0, 1) := by decide +kernel
theorem dX2_placeIn_14 : decode cX2_placeIn 14 = .ok (.getfield 14, 3) := by decide +kernel
theorem dX2_placeIn_17 : decode cX2_placeIn 17 = .ok (.iconst 0, 1) := by decide +kernel
theorem dX2_placeIn_18 : decode cX2_placeIn 18 = .ok (.invokestatic 109, 3) := by decide +kernel
theorem dX2_placeIn_21 : decode cX2_placeIn 21 = .ok (.ireturn, 1) := by decide +kernel
theorem dX2_placeIn_22 : decode cX2_placeIn 22 = .ok (.aload_n 0, 1) := by decide +kernel
theorem dX2_placeIn_23 : decode cX2_placeIn 23 = .ok (.getfield 14, 3) := by decide +kernel
theorem dX2_placeIn_26 : decode cX2_placeIn 26 = .ok (.iconst 1, 1) := by decide +kernel
theorem dX2_placeIn_27 : decode cX2_placeIn 27 = .ok (.invokestatic 109, 3) := by decide +kernel
theorem dX2_placeIn_30 : decode cX2_placeIn 30 = .ok (.istore_n 3, 1) := by decide +kernel
theorem dX2_placeIn_31 : decode cX2_placeIn 31 = .ok (.iload_n 3, 1) := by decide +kernel
theorem dX2_placeIn_32 : decode cX2_placeIn 32 = .ok (.ifCond .le 13, 3) := by decide +kernel
theorem dX2_placeIn_35 : decode cX2_placeIn 35 = .ok (.aload_n 1, 1) := by decide +kernel
theorem dX2_placeIn_36 : decode cX2_placeIn 36 = .ok (.iload_n 2, 1) := by decide +kernel
theorem dX2_placeIn_37 : decode cX2_placeIn 37 = .ok (.invokevirtual 112, 3) := by decide +kernel
theorem dX2_placeIn_40 : decode cX2_placeIn 40 = .ok (.iload_n 3, 1) := by decide +kernel
theorem dX2_placeIn_41 : decode cX2_placeIn 41 = .ok (.isub, 1) := by decide +kernel
theorem dX2_placeIn_42 : decode cX2_placeIn 42 = .ok (.goto 4, 3) := by decide +kernel
theorem dX2_placeIn_45 : decode cX2_placeIn 45 = .ok (.iconst (-1), 1) := by decide +kernel
theorem dX2_placeIn_46 : decode cX2_placeIn 46 = .ok (.ireturn, 1) := by decide +kernel
theorem dX2_meetMatches_0 : decode cX2_meetMatches 0 = .ok (.aload_n 0, 1) := by decide +kernel
theorem dX2_meetMatches_1 : decode cX2_meetMatches 1 = .ok (.getfield 14, 3) := by decide +kernel
theorem dX2_meetMatches_4 : decode cX2_meetMatches 4 = .ok (.bipush 61, 2) := by decide +kernel
theorem dX2_meetMatches_6 : decode cX2_meetMatches 6 = .ok (.invokevirtual 115, 3) := by decide +kernel
theorem dX2_meetMatches_9 : decode cX2_meetMatches 9 = .ok (.istore_n 3, 1) := by decide +kernel
theorem dX2_meetMatches_10 : decode cX2_meetMatches 10 = .ok (.aload_n 0, 1) := by decide +kernel
theorem dX2_meetMatches_11 : decode cX2_meetMatches 11 = .ok (.getfield 20, 3) := by decide +kernel
theorem dX2_meetMatches_14 : decode cX2_meetMatches 14 = .ok (.invokevirtual 118, 3) := by decide +kernel
theorem dX2_meetMatches_17 : decode cX2_meetMatches 17 = .ok (.aload_n 0, 1) := by decide +kernel
theorem dX2_meetMatches_18 : decode cX2_meetMatches 18 = .ok (.getfield 20, 3) := by decide +kernel
theorem dX2_meetMatches_21 : decode cX2_meetMatches 21 = .ok (.aload_n 0, 1) := by decide +kernel
theorem dX2_meetMatches_22 : decode cX2_meetMatches 22 = .ok (.getfield 14, 3) := by decide +kernel
theorem dX2_meetMatches_25 : decode cX2_meetMatches 25 = .ok (.iconst 1, 1) := by decide +kernel
theorem dX2_meetMatches_26 : decode cX2_meetMatches 26 = .ok (.iload_n 3, 1) := by decide +kernel
theorem dX2_meetMatches_27 : decode cX2_meetMatches 27 = .ok (.invokevirtual 121, 3) := by decide +kernel
theorem dX2_meetMatches_30 : decode cX2_meetMatches 30 = .ok (.aload_n 1, 1) := by decide +kernel
theorem dX2_meetMatches_31 : decode cX2_meetMatches 31 = .ok (.iload_n 2, 1) := by decide +kernel
theorem dX2_meetMatches_32 : decode cX2_meetMatches 32 = .ok (.invokevirtual 82, 3) := by decide +kernel
theorem dX2_meetMatches_35 : decode cX2_meetMatches 35 = .ok (.istore 4, 2) := by decide +kernel
theorem dX2_meetMatches_37 : decode cX2_meetMatches 37 = .ok (.iconst 0, 1) := by decide +kernel
theorem dX2_meetMatches_38 : decode cX2_meetMatches 38 = .ok (.istore 5, 2) := by decide +kernel
theorem dX2_meetMatches_40 : decode cX2_meetMatches 40 = .ok (.iload 4, 2) := by decide +kernel
theorem dX2_meetMatches_42 : decode cX2_meetMatches 42 = .ok (.iconst (-1), 1) := by decide +kernel
theorem dX2_meetMatches_43 : decode cX2_meetMatches 43 = .ok (.if_icmp .eq 90, 3) := by decide +kernel
theorem dX2_meetMatches_46 : decode cX2_meetMatches 46 = .ok (.iload 5, 2) := by decide +kernel
theorem dX2_meetMatches_48 : decode cX2_meetMatches 48 = .ok (.bipush 100, 2) := by decide +kernel
theorem dX2_meetMatches_50 : decode cX2_meetMatches 50 = .ok (.if_icmp .ge 83, 3) := by decide +kernel
theorem dX2_meetMatches_53 : decode cX2_meetMatches 53 = .ok (.iload_n 3, 1) := by decide +kernel
theorem dX2_meetMatches_54 : decode cX2_meetMatches 54 = .ok (.iconst (-1), 1) := by decide +kernel
theorem dX2_meetMatches_55 : decode cX2_meetMatches 55 = .ok (.if_icmp .eq 78, 3) := by decide +kernel
theorem dX2_meetMatches_58 : decode cX2_meetMatches 58 = .ok (.aload_n 1, 1) := by decide +kernel
theorem dX2_meetMatches_59 : decode cX2_meetMatches 59 = .ok (.iload 4, 2) := by decide +kernel
theorem dX2_meetMatches_61 : decode cX2_meetMatches 61 = .ok (.aload_n 0, 1) := by decide +kernel
theorem dX2_meetMatches_62 : decode cX2_meetMatches 62 = .ok (.getfield 20, 3) := by decide +kernel
theorem dX2_meetMatches_65 : decode cX2_meetMatches 65 = .ok (.invokevirtual 105, 3) := by decide +kernel
theorem dX2_meetMatches_68 : decode cX2_meetMatches 68 = .ok (.istore 6, 2) := by decide +kernel
theorem dX2_meetMatches_70 : decode cX2_meetMatches 70 = .ok (.iload 6, 2) := by decide +kernel
theorem dX2_meetMatches_72 : decode cX2_meetMatches 72 = .ok (.iconst (-1), 1) := by decide +kernel
theorem dX2_meetMatches_73 : decode cX2_meetMatches 73 = .ok (.if_icmp .eq 45, 3) := by decide +kernel
theorem dX2_meetMatches_76 : decode cX2_meetMatches 76 = .ok (.aload_n 0, 1) := by decide +kernel
theorem dX2_meetMatches_77 : decode cX2_meetMatches 77 = .ok (.getfield 24, 3) := by decide +kernel
theorem dX2_meetMatches_80 : decode cX2_meetMatches 80 = .ok (.invokevirtual 118, 3) := by decide +kernel
theorem dX2_meetMatches_83 : decode cX2_meetMatches 83 = .ok (.aload_n 1, 1) := by decide +kernel
theorem dX2_meetMatches_84 : decode cX2_meetMatches 84 = .ok (.iload 6, 2) := by decide +kernel
theorem dX2_meetMatches_86 : decode cX2_meetMatches 86 = .ok (.iconst 0, 1) := by decide +kernel
theorem dX2_meetMatches_87 : decode cX2_meetMatches 87 = .ok (.iconst 0, 1) := by decide +kernel
theorem dX2_meetMatches_88 : decode cX2_meetMatches 88 = .ok (.aload_n 0, 1) := by decide +kernel
theorem dX2_meetMatches_89 : decode cX2_meetMatches 89 = .ok (.getfield 24, 3) := by decide +kernel
theorem dX2_meetMatches_92 : decode cX2_meetMatches 92 = .ok (.invokestatic 125, 3) := by decide +kernel
theorem dX2_meetMatches_95 : decode cX2_meetMatches 95 = .ok (.aload_n 0, 1) := by decide +kernel
theorem dX2_meetMatches_96 : decode cX2_meetMatches 96 = .ok (.getfield 14, 3) := by decide +kernel
theorem dX2_meetMatches_99 : decode cX2_meetMatches 99 = .ok (.aload_n 0, 1) := by decide +kernel
theorem dX2_meetMatches_100 : decode cX2_meetMatches 100 = .ok (.getfield 24, 3) := by decide +kernel
theorem dX2_meetMatches_103 : decode cX2_meetMatches 103 = .ok (.iload_n 3, 1) := by decide +kernel
theorem dX2_meetMatches_104 : decode cX2_meetMatches 104 = .ok (.iconst 1, 1) := by decide +kernel
theorem dX2_meetMatches_105 : decode cX2_meetMatches 105 = .ok (.iadd, 1) := by decide +kernel
theorem dX2_meetMatches_106 : decode cX2_meetMatches 106 = .ok (.invokevirtual 131, 3) := by decide +kernel
theorem dX2_meetMatches_109 : decode cX2_meetMatches 109 = .ok (.ifCond .eq 9, 3) := by decide +kernel
theorem dX2_meetMatches_112 : decode cX2_meetMatches 112 = .ok (.aload_n 0, 1) := by decide +kernel
theorem dX2_meetMatches_113 : decode cX2_meetMatches 113 = .ok (.iload 4, 2) := by decide +kernel
theorem dX2_meetMatches_115 : decode cX2_meetMatches 115 = .ok (.invokevirtual 45, 3) := by decide +kernel
theorem dX2_meetMatches_118 : decode cX2_meetMatches 118 = .ok (.aload_n 1, 1) := by decide +kernel
theorem dX2_meetMatches_119 : decode cX2_meetMatches 119 = .ok (.iload_n 2, 1) := by decide +kernel
theorem dX2_meetMatches_120 : decode cX2_meetMatches 120 = .ok (.iload 4, 2) := by decide +kernel
theorem dX2_meetMatches_122 : decode cX2_meetMatches 122 = .ok (.invokevirtual 85, 3) := by decide +kernel
theorem dX2_meetMatches_125 : decode cX2_meetMatches 125 = .ok (.istore 4, 2) := by decide +kernel
theorem dX2_meetMatches_127 : decode cX2_meetMatches 127 = .ok (.iinc 5 1, 3) := by decide +kernel
theorem dX2_meetMatches_130 : decode cX2_meetMatches 130 = .ok (.goto (-90), 3) := by decide +kernel
theorem dX2_meetMatches_133 : decode cX2_meetMatches 133 = .ok (.return_, 1) := by decide +kernel
theorem dX3_init_0 : decode cX3_init 0 = .ok (.aload_n 0, 1) := by decide +kernel
theorem dX3_init_1 : decode cX3_init 1 = .ok (.invokespecial 3, 3) := by decide +kernel
theorem dX3_init_4 : decode cX3_init 4 = .ok (.aload_n 0, 1) := by decide +kernel
theorem dX3_init_5 : decode cX3_init 5 = .ok (.new 9, 3) := by decide +kernel
theorem dX3_init_8 : decode cX3_init 8 = .ok (.dup, 1) := by decide +kernel
theorem dX3_init_9 : decode cX3_init 9 = .ok (.invokespecial 11, 3) := by decide +kernel
theorem dX3_init_12 : decode cX3_init 12 = .ok (.putfield 12, 3) := by decide +kernel
theorem dX3_init_15 : decode cX3_init 15 = .ok (.aload_n 0, 1) := by decide +kernel
theorem dX3_init_16 : decode cX3_init 16 = .ok (.new 9, 3) := by decide +kernel
theorem dX3_init_19 : decode cX3_init 19 = .ok (.dup, 1) := by decide +kernel
theorem dX3_init_20 : decode cX3_init 20 = .ok (.invokespecial 11, 3) := by decide +kernel
theorem dX3_init_23 : decode cX3_init 23 = .ok (.putfield 18, 3) := by decide +kernel
theorem dX3_init_26 : decode cX3_init 26 = .ok (.aload_n 0, 1) := by decide +kernel
theorem dX3_init_27 : decode cX3_init 27 = .ok (.new 21, 3) := by decide +kernel
theorem dX3_init_30 : decode cX3_init 30 = .ok (.dup, 1) := by decide +kernel
theorem dX3_init_31 : decode cX3_init 31 = .ok (.bipush 24, 2) := by decide +kernel
theorem dX3_init_33 : decode cX3_init 33 = .ok (.invokespecial 23, 3) := by decide +kernel
theorem dX3_init_36 : decode cX3_init 36 = .ok (.putfield 26, 3) := by decide +kernel
theorem dX3_init_39 : decode cX3_init 39 = .ok (.aload_n 0, 1) := by decide +kernel
theorem dX3_init_40 : decode cX3_init 40 = .ok (.new 21, 3) := by decide +kernel
theorem dX3_init_43 : decode cX3_init 43 = .ok (.dup, 1) := by decide +kernel
theorem dX3_init_44 : decode cX3_init 44 = .ok (.bipush 12, 2) := by decide +kernel
theorem dX3_init_46 : decode cX3_init 46 = .ok (.invokespecial 23, 3) := by decide +kernel
theorem dX3_init_49 : decode cX3_init 49 = .ok (.putfield 30, 3) := by decide +kernel
theorem dX3_init_52 : decode cX3_init 52 = .ok (.return_, 1) := by decide +kernel
theorem dX3_result_0 : decode cX3_result 0 = .ok (.aload_n 0, 1) := by decide +kernel
theorem dX3_result_1 : decode cX3_result 1 = .ok (.getfield 12, 3) := by decide +kernel
theorem dX3_result_4 : decode cX3_result 4 = .ok (.areturn, 1) := by decide +kernel
theorem dX3_begin_0 : decode cX3_begin 0 = .ok (.aload_n 0, 1) := by decide +kernel
theorem dX3_begin_1 : decode cX3_begin 1 = .ok (.iload_n 1, 1) := by decide +kernel
theorem dX3_begin_2 : decode cX3_begin 2 = .ok (.putfield 33, 3) := by decide +kernel
theorem dX3_begin_5 : decode cX3_begin 5 = .ok (.aload_n 0, 1) := by decide +kernel
theorem dX3_begin_6 : decode cX3_begin 6 = .ok (.getfield 12, 3) := by decide +kernel
theorem dX3_begin_9 : decode cX3_begin 9 = .ok (.invokevirtual 37, 3) := by decide +kernel
theorem dX3_begin_12 : decode cX3_begin 12 = .ok (.return_, 1) := by decide +kernel
theorem dX3_draw_0 : decode cX3_draw 0 = .ok (.aload_n 0, 1) := by decide +kernel
theorem dX3_draw_1 : decode cX3_draw 1 = .ok (.sipush 25173, 3) := by decide +kernel
theorem dX3_draw_4 : decode cX3_draw 4 = .ok (.aload_n 0, 1) := by decide +kernel
theorem dX3_draw_5 : decode cX3_draw 5 = .ok (.getfield 33, 3) := by decide +kernel
theorem dX3_draw_8 : decode cX3_draw 8 = .ok (.imul, 1) := by decide +kernel
theorem dX3_draw_9 : decode cX3_draw 9 = .ok (.sipush 13849, 3) := by decide +kernel
theorem dX3_draw_12 : decode cX3_draw 12 = .ok (.iadd, 1) := by decide +kernel
theorem dX3_draw_13 : decode cX3_draw 13 = .ok (.ldc 40, 2) := by decide +kernel
theorem dX3_draw_15 : decode cX3_draw 15 = .ok (.irem, 1) := by decide +kernel
theorem dX3_draw_16 : decode cX3_draw 16 = .ok (.putfield 33, 3) := by decide +kernel
theorem dX3_draw_19 : decode cX3_draw 19 = .ok (.iload_n 1, 1) := by decide +kernel
theorem dX3_draw_20 : decode cX3_draw 20 = .ok (.ifCond .le 15, 3) := by decide +kernel
theorem dX3_draw_23 : decode cX3_draw 23 = .ok (.aload_n 0, 1) := by decide +kernel
theorem dX3_draw_24 : decode cX3_draw 24 = .ok (.getfield 33, 3) := by decide +kernel
theorem dX3_draw_27 : decode cX3_draw 27 = .ok (.bipush 16, 2) := by decide +kernel
theorem dX3_draw_29 : decode cX3_draw 29 = .ok (.idiv, 1) := by decide +kernel
theorem dX3_draw_30 : decode cX3_draw 30 = .ok (.iload_n 1, 1) := by decide +kernel
theorem dX3_draw_31 : decode cX3_draw 31 = .ok (.irem, 1) := by decide +kernel
theorem dX3_draw_32 : decode cX3_draw 32 = .ok (.goto 4, 3) := by decide +kernel
theorem dX3_draw_35 : decode cX3_draw 35 = .ok (.iconst 0, 1) := by decide +kernel
theorem dX3_draw_36 : decode cX3_draw 36 = .ok (.ireturn, 1) := by decide +kernel
theorem dX3_sprout_0 : decode cX3_sprout 0 = .ok (.aload_n 0, 1) := by decide +kernel
theorem dX3_sprout_1 : decode cX3_sprout 1 = .ok (.iload_n 1, 1) := by decide +kernel
theorem dX3_sprout_2 : decode cX3_sprout 2 = .ok (.ifCond .eq 8, 3) := by decide +kernel
theorem dX3_sprout_5 : decode cX3_sprout 5 = .ok (.iload_n 1, 1) := by decide +kernel
theorem dX3_sprout_6 : decode cX3_sprout 6 = .ok (.iconst 3, 1) := by decide +kernel
theorem dX3_sprout_7 : decode cX3_sprout 7 = .ok (.if_icmp .lt 7, 3) := by decide +kernel
theorem dX3_sprout_10 : decode cX3_sprout 10 = .ok (.iconst 4, 1) := by decide +kernel
theorem dX3_sprout_11 : decode cX3_sprout 11 = .ok (.goto 5, 3) := by decide +kernel
theorem dX3_sprout_14 : decode cX3_sprout 14 = .ok (.bipush 8, 2) := by decide +kernel
theorem dX3_sprout_16 : decode cX3_sprout 16 = .ok (.invokevirtual 41, 3) := by decide +kernel
theorem dX3_sprout_19 : decode cX3_sprout 19 = .ok (.iload_n 1, 1) := by decide +kernel
theorem dX3_sprout_20 : decode cX3_sprout 20 = .ok (.ifCond .ne 7, 3) := by decide +kernel
theorem dX3_sprout_23 : decode cX3_sprout 23 = .ok (.iconst 4, 1) := by decide +kernel
theorem dX3_sprout_24 : decode cX3_sprout 24 = .ok (.goto 4, 3) := by decide +kernel
theorem dX3_sprout_27 : decode cX3_sprout 27 = .ok (.iconst 0, 1) := by decide +kernel
theorem dX3_sprout_28 : decode cX3_sprout 28 = .ok (.iadd, 1) := by decide +kernel
theorem dX3_sprout_29 : decode cX3_sprout 29 = .ok (.istore_n 3, 1) := by decide +kernel
theorem dX3_sprout_30 : decode cX3_sprout 30 = .ok (.iload_n 3, 1) := by decide +kernel
theorem dX3_sprout_31 : decode cX3_sprout 31 = .ok (.tableswitch 70 0 3 #[29, 38, 60, 65], 29) := by decide +kernel
theorem dX3_sprout_60 : decode cX3_sprout 60 = .ok (.aload_n 0, 1) := by decide +kernel
theorem dX3_sprout_61 : decode cX3_sprout 61 = .ok (.getfield 12, 3) := by decide +kernel
theorem dX3_sprout_64 : decode cX3_sprout 64 = .ok (.iconst 0, 1) := by decide +kernel
theorem dX3_sprout_65 : decode cX3_sprout 65 = .ok (.invokevirtual 45, 3) := by decide +kernel
theorem dX3_sprout_68 : decode cX3_sprout 68 = .ok (.ireturn, 1) := by decide +kernel
theorem dX3_sprout_69 : decode cX3_sprout 69 = .ok (.aload_n 0, 1) := by decide +kernel
theorem dX3_sprout_70 : decode cX3_sprout 70 = .ok (.getfield 12, 3) := by decide +kernel
theorem dX3_sprout_73 : decode cX3_sprout 73 = .ok (.aload_n 0, 1) := by decide +kernel
theorem dX3_sprout_74 : decode cX3_sprout 74 = .ok (.iconst 2, 1) := by decide +kernel
theorem dX3_sprout_75 : decode cX3_sprout 75 = .ok (.invokevirtual 41, 3) := by decide +kernel
theorem dX3_sprout_78 : decode cX3_sprout 78 = .ok (.iconst 1, 1) := by decide +kernel
theorem dX3_sprout_79 : decode cX3_sprout 79 = .ok (.if_icmp .ne 7, 3) := by decide +kernel
theorem dX3_sprout_82 : decode cX3_sprout 82 = .ok (.iconst 1, 1) := by decide +kernel
theorem dX3_sprout_83 : decode cX3_sprout 83 = .ok (.goto 4, 3) := by decide +kernel
theorem dX3_sprout_86 : decode cX3_sprout 86 = .ok (.iconst 0, 1) := by decide +kernel
theorem dX3_sprout_87 : decode cX3_sprout 87 = .ok (.invokevirtual 48, 3) := by decide +kernel
theorem dX3_sprout_90 : decode cX3_sprout 90 = .ok (.ireturn, 1) := by decide +kernel
theorem dX3_sprout_91 : decode cX3_sprout 91 = .ok (.aload_n 0, 1) := by decide +kernel
theorem dX3_sprout_92 : decode cX3_sprout 92 = .ok (.invokevirtual 52, 3) := by decide +kernel
theorem dX3_sprout_95 : decode cX3_sprout 95 = .ok (.ireturn, 1) := by decide +kernel
theorem dX3_sprout_96 : decode cX3_sprout 96 = .ok (.aload_n 0, 1) := by decide +kernel
theorem dX3_sprout_97 : decode cX3_sprout 97 = .ok (.invokevirtual 56, 3) := by decide +kernel
theorem dX3_sprout_100 : decode cX3_sprout 100 = .ok (.ireturn, 1) := by decide +kernel
theorem dX3_sprout_101 : decode cX3_sprout 101 = .ok (.aload_n 0, 1) := by decide +kernel
theorem dX3_sprout_102 : decode cX3_sprout 102 = .ok (.iload_n 3, 1) := by decide +kernel
theorem dX3_sprout_103 : decode cX3_sprout 103 = .ok (.bipush 6, 2) := by decide +kernel
theorem dX3_sprout_105 : decode cX3_sprout 105 = .ok (.if_icmp .ge 7, 3) := by decide +kernel
theorem dX3_sprout_108 : decode cX3_sprout 108 = .ok (.iconst 4, 1) := by decide +kernel
theorem dX3_sprout_109 : decode cX3_sprout 109 = .ok (.goto 4, 3) := by decide +kernel
theorem dX3_sprout_112 : decode cX3_sprout 112 = .ok (.iconst 5, 1) := by decide +kernel
theorem dX3_sprout_113 : decode cX3_sprout 113 = .ok (.iload_n 1, 1) := by decide +kernel
theorem dX3_sprout_114 : decode cX3_sprout 114 = .ok (.iload_n 2, 1) := by decide +kernel
theorem dX3_sprout_115 : decode cX3_sprout 115 = .ok (.invokevirtual 59, 3) := by decide +kernel
theorem dX3_sprout_118 : decode cX3_sprout 118 = .ok (.ireturn, 1) := by decide +kernel
theorem dX3_number_0 : decode cX3_number 0 = .ok (.aload_n 0, 1) := by decide +kernel
theorem dX3_number_1 : decode cX3_number 1 = .ok (.getfield 12, 3) := by decide +kernel
theorem dX3_number_4 : decode cX3_number 4 = .ok (.iconst 2, 1) := by decide +kernel
theorem dX3_number_5 : decode cX3_number 5 = .ok (.invokevirtual 45, 3) := by decide +kernel
theorem dX3_number_8 : decode cX3_number 8 = .ok (.istore_n 1, 1) := by decide +kernel
theorem dX3_number_9 : decode cX3_number 9 = .ok (.aload_n 0, 1) := by decide +kernel
theorem dX3_number_10 : decode cX3_number 10 = .ok (.getfield 26, 3) := by decide +kernel
theorem dX3_number_13 : decode cX3_number 13 = .ok (.invokevirtual 63, 3) := by decide +kernel
theorem dX3_number_16 : decode cX3_number 16 = .ok (.aload_n 0, 1) := by decide +kernel
theorem dX3_number_17 : decode cX3_number 17 = .ok (.getfield 26, 3) := by decide +kernel
theorem dX3_number_20 : decode cX3_number 20 = .ok (.aload_n 0, 1) := by decide +kernel
theorem dX3_number_21 : decode cX3_number 21 = .ok (.sipush 1000, 3) := by decide +kernel
theorem dX3_number_24 : decode cX3_number 24 = .ok (.invokevirtual 41, 3) := by decide +kernel
theorem dX3_number_27 : decode cX3_number 27 = .ok (.invokevirtual 64, 3) := by decide +kernel
theorem dX3_number_30 : decode cX3_number 30 = .ok (.aload_n 0, 1) := by decide +kernel
theorem dX3_number_31 : decode cX3_number 31 = .ok (.getfield 12, 3) := by decide +kernel
theorem dX3_number_34 : decode cX3_number 34 = .ok (.iload_n 1, 1) := by decide +kernel
theorem dX3_number_35 : decode cX3_number 35 = .ok (.iconst 0, 1) := by decide +kernel
theorem dX3_number_36 : decode cX3_number 36 = .ok (.aload_n 0, 1) := by decide +kernel
theorem dX3_number_37 : decode cX3_number 37 = .ok (.getfield 26, 3) := by decide +kernel
theorem dX3_number_40 : decode cX3_number 40 = .ok (.aload_n 0, 1) := by decide +kernel
theorem dX3_number_41 : decode cX3_number 41 = .ok (.iconst 5, 1) := by decide +kernel
theorem dX3_number_42 : decode cX3_number 42 = .ok (.invokevirtual 41, 3) := by decide +kernel
theorem dX3_number_45 : decode cX3_number 45 = .ok (.iconst 2, 1) := by decide +kernel
theorem dX3_number_46 : decode cX3_number 46 = .ok (.isub, 1) := by decide +kernel
theorem dX3_number_47 : decode cX3_number 47 = .ok (.invokevirtual 67, 3) := by decide +kernel
theorem dX3_number_50 : decode cX3_number 50 = .ok (.pop, 1) := by decide +kernel
theorem dX3_number_51 : decode cX3_number 51 = .ok (.iload_n 1, 1) := by decide +kernel
theorem dX3_number_52 : decode cX3_number 52 = .ok (.ireturn, 1) := by decide +kernel
theorem dX3_text_0 : decode cX3_text 0 = .ok (.aload_n 0, 1) := by decide +kernel
theorem dX3_text_1 : decode cX3_text 1 = .ok (.getfield 12, 3) := by decide +kernel
theorem dX3_text_4 : decode cX3_text 4 = .ok (.iconst 3, 1) := by decide +kernel
theorem dX3_text_5 : decode cX3_text 5 = .ok (.invokevirtual 45, 3) := by decide +kernel
theorem dX3_text_8 : decode cX3_text 8 = .ok (.istore_n 1, 1) := by decide +kernel
theorem dX3_text_9 : decode cX3_text 9 = .ok (.aload_n 0, 1) := by decide +kernel
theorem dX3_text_10 : decode cX3_text 10 = .ok (.iconst 4, 1) := by decide +kernel
theorem dX3_text_11 : decode cX3_text 11 = .ok (.invokevirtual 41, 3) := by decide +kernel
theorem dX3_text_14 : decode cX3_text 14 = .ok (.istore_n 2, 1) := by decide +kernel
theorem dX3_text_15 : decode cX3_text 15 = .ok (.iconst 0, 1) := by decide +kernel
theorem dX3_text_16 : decode cX3_text 16 = .ok (.istore_n 3, 1) := by decide +kernel
theorem dX3_text_17 : decode cX3_text 17 = .ok (.iload_n 3, 1) := by decide +kernel
theorem dX3_text_18 : decode cX3_text 18 = .ok (.iload_n 2, 1) := by decide +kernel
theorem dX3_text_19 : decode cX3_text 19 = .ok (.if_icmp .ge 25, 3) := by decide +kernel
theorem dX3_text_22 : decode cX3_text 22 = .ok (.aload_n 0, 1) := by decide +kernel
theorem dX3_text_23 : decode cX3_text 23 = .ok (.getfield 12, 3) := by decide +kernel
theorem dX3_text_26 : decode cX3_text 26 = .ok (.iload_n 1, 1) := by decide +kernel
theorem dX3_text_27 : decode cX3_text 27 = .ok (.bipush 97, 2) := by decide +kernel
theorem dX3_text_29 : decode cX3_text 29 = .ok (.aload_n 0, 1) := by decide +kernel
theorem dX3_text_30 : decode cX3_text 30 = .ok (.iconst 3, 1) := by decide +kernel
theorem dX3_text_31 : decode cX3_text 31 = .ok (.invokevirtual 41, 3) := by decide +kernel
theorem dX3_text_34 : decode cX3_text 34 = .ok (.iadd, 1) := by decide +kernel
theorem dX3_text_35 : decode cX3_text 35 = .ok (.invokevirtual 71, 3) := by decide +kernel
theorem dX3_text_38 : decode cX3_text 38 = .ok (.iinc 3 1, 3) := by decide +kernel
theorem dX3_text_41 : decode cX3_text 41 = .ok (.goto (-24), 3) := by decide +kernel
theorem dX3_text_44 : decode cX3_text 44 = .ok (.iload_n 1, 1) := by decide +kernel
theorem dX3_text_45 : decode cX3_text 45 = .ok (.ireturn, 1) := by decide +kernel
theorem dX3_group_0 : decode cX3_group 0 = .ok (.aload_n 0, 1) := by decide +kernel
theorem dX3_group_1 : decode cX3_group 1 = .ok (.getfield 12, 3) := by decide +kernel
theorem dX3_group_4 : decode cX3_group 4 = .ok (.iload_n 1, 1) := by decide +kernel
theorem dX3_group_5 : decode cX3_group 5 = .ok (.invokevirtual 45, 3) := by decide +kernel
theorem dX3_group_8 : decode cX3_group 8 = .ok (.istore 4, 2) := by decide +kernel
theorem dX3_group_10 : decode cX3_group 10 = .ok (.aload_n 0, 1) := by decide +kernel
theorem dX3_group_11 : decode cX3_group 11 = .ok (.iload_n 3, 1) := by decide +kernel
theorem dX3_group_12 : decode cX3_group 12 = .ok (.iconst 1, 1) := by decide +kernel
theorem dX3_group_13 : decode cX3_group 13 = .ok (.iadd, 1) := by decide +kernel
theorem dX3_group_14 : decode cX3_group 14 = .ok (.invokevirtual 41, 3) := by decide +kernel
theorem dX3_group_17 : decode cX3_group 17 = .ok (.istore 5, 2) := by decide +kernel
theorem dX3_group_19 : decode cX3_group 19 = .ok (.iconst 0, 1) := by decide +kernel
theorem dX3_group_20 : decode cX3_group 20 = .ok (.istore 6, 2) := by decide +kernel
theorem dX3_group_22 : decode cX3_group 22 = .ok (.iload 6, 2) := by decide +kernel
theorem dX3_group_24 : decode cX3_group 24 = .ok (.iload 5, 2) := by decide +kernel
theorem dX3_group_26 : decode cX3_group 26 = .ok (.if_icmp .ge 39, 3) := by decide +kernel
theorem dX3_group_29 : decode cX3_group 29 = .ok (.iload_n 2, 1) := by decide +kernel
theorem dX3_group_30 : decode cX3_group 30 = .ok (.iconst 3, 1) := by decide +kernel
theorem dX3_group_31 : decode cX3_group 31 = .ok (.if_icmp .ge 34, 3) := by decide +kernel
theorem dX3_group_34 : decode cX3_group 34 = .ok (.iload_n 1, 1) := by decide +kernel
theorem dX3_group_35 : decode cX3_group 35 = .ok (.iconst 4, 1) := by decide +kernel
theorem dX3_group_36 : decode cX3_group 36 = .ok (.if_icmp .ne 15, 3) := by decide +kernel
theorem dX3_group_39 : decode cX3_group 39 = .ok (.aload_n 0, 1) := by decide +kernel
theorem dX3_group_40 : decode cX3_group 40 = .ok (.iload_n 2, 1) := by decide +kernel
theorem dX3_group_41 : decode cX3_group 41 = .ok (.iconst 1, 1) := by decide +kernel
theorem dX3_group_42 : decode cX3_group 42 = .ok (.iadd, 1) := by decide +kernel
theorem dX3_group_43 : decode cX3_group 43 = .ok (.iload_n 3, 1) := by decide +kernel
theorem dX3_group_44 : decode cX3_group 44 = .ok (.invokevirtual 75, 3) := by decide +kernel
theorem dX3_group_47 : decode cX3_group 47 = .ok (.pop, 1) := by decide +kernel
theorem dX3_group_48 : decode cX3_group 48 = .ok (.goto 11, 3) := by decide +kernel
theorem dX3_group_51 : decode cX3_group 51 = .ok (.aload_n 0, 1) := by decide +kernel
theorem dX3_group_52 : decode cX3_group 52 = .ok (.iload 4, 2) := by decide +kernel
theorem dX3_group_54 : decode cX3_group 54 = .ok (.iload_n 2, 1) := by decide +kernel
theorem dX3_group_55 : decode cX3_group 55 = .ok (.iload_n 3, 1) := by decide +kernel
theorem dX3_group_56 : decode cX3_group 56 = .ok (.invokevirtual 79, 3) := by decide +kernel
theorem dX3_group_59 : decode cX3_group 59 = .ok (.iinc 6 1, 3) := by decide +kernel
theorem dX3_group_62 : decode cX3_group 62 = .ok (.goto (-40), 3) := by decide +kernel
theorem dX3_group_65 : decode cX3_group 65 = .ok (.aload_n 0, 1) := by decide +kernel
theorem dX3_group_66 : decode cX3_group 66 = .ok (.getfield 12, 3) := by decide +kernel
theorem dX3_group_69 : decode cX3_group 69 = .ok (.iload 4, 2) := by decide +kernel
theorem dX3_group_71 : decode cX3_group 71 = .ok (.invokevirtual 83, 3) := by decide +kernel
theorem dX3_group_74 : decode cX3_group 74 = .ok (.iload 4, 2) := by decide +kernel
theorem dX3_group_76 : decode cX3_group 76 = .ok (.ireturn, 1) := by decide +kernel
theorem dX3_entry_0 : decode cX3_entry 0 = .ok (.aload_n 0, 1) := by decide +kernel
theorem dX3_entry_1 : decode cX3_entry 1 = .ok (.getfield 30, 3) := by decide +kernel
theorem dX3_entry_4 : decode cX3_entry 4 = .ok (.invokevirtual 63, 3) := by decide +kernel
theorem dX3_entry_7 : decode cX3_entry 7 = .ok (.aload_n 0, 1) := by decide +kernel
theorem dX3_entry_8 : decode cX3_entry 8 = .ok (.getfield 30, 3) := by decide +kernel
theorem dX3_entry_11 : decode cX3_entry 11 = .ok (.bipush 97, 2) := by decide +kernel
theorem dX3_entry_13 : decode cX3_entry 13 = .ok (.aload_n 0, 1) := by decide +kernel
theorem dX3_entry_14 : decode cX3_entry 14 = .ok (.iconst 5, 1) := by decide +kernel
theorem dX3_entry_15 : decode cX3_entry 15 = .ok (.invokevirtual 41, 3) := by decide +kernel
theorem dX3_entry_18 : decode cX3_entry 18 = .ok (.iadd, 1) := by decide +kernel
theorem dX3_entry_19 : decode cX3_entry 19 = .ok (.invokevirtual 86, 3) := by decide +kernel
theorem dX3_entry_22 : decode cX3_entry 22 = .ok (.aload_n 0, 1) := by decide +kernel
theorem dX3_entry_23 : decode cX3_entry 23 = .ok (.getfield 12, 3) := by decide +kernel
theorem dX3_entry_26 : decode cX3_entry 26 = .ok (.iload_n 1, 1) := by decide +kernel
theorem dX3_entry_27 : decode cX3_entry 27 = .ok (.invokevirtual 83, 3) := by decide +kernel
theorem dX3_entry_30 : decode cX3_entry 30 = .ok (.aload_n 0, 1) := by decide +kernel
theorem dX3_entry_31 : decode cX3_entry 31 = .ok (.getfield 12, 3) := by decide +kernel
theorem dX3_entry_34 : decode cX3_entry 34 = .ok (.iload_n 1, 1) := by decide +kernel
theorem dX3_entry_35 : decode cX3_entry 35 = .ok (.aload_n 0, 1) := by decide +kernel
theorem dX3_entry_36 : decode cX3_entry 36 = .ok (.getfield 30, 3) := by decide +kernel
theorem dX3_entry_39 : decode cX3_entry 39 = .ok (.invokevirtual 88, 3) := by decide +kernel
theorem dX3_entry_42 : decode cX3_entry 42 = .ok (.istore 4, 2) := by decide +kernel
theorem dX3_entry_44 : decode cX3_entry 44 = .ok (.aload_n 0, 1) := by decide +kernel
theorem dX3_entry_45 : decode cX3_entry 45 = .ok (.getfield 30, 3) := by decide +kernel
theorem dX3_entry_48 : decode cX3_entry 48 = .ok (.iconst 0, 1) := by decide +kernel
theorem dX3_entry_49 : decode cX3_entry 49 = .ok (.invokevirtual 92, 3) := by decide +kernel
theorem dX3_entry_52 : decode cX3_entry 52 = .ok (.istore 5, 2) := by decide +kernel
theorem dX3_entry_54 : decode cX3_entry 54 = .ok (.aload_n 0, 1) := by decide +kernel
theorem dX3_entry_55 : decode cX3_entry 55 = .ok (.iload_n 2, 1) := by decide +kernel
theorem dX3_entry_56 : decode cX3_entry 56 = .ok (.iconst 1, 1) := by decide +kernel
theorem dX3_entry_57 : decode cX3_entry 57 = .ok (.iadd, 1) := by decide +kernel
theorem dX3_entry_58 : decode cX3_entry 58 = .ok (.iload_n 3, 1) := by decide +kernel
theorem dX3_entry_59 : decode cX3_entry 59 = .ok (.invokevirtual 75, 3) := by decide +kernel
theorem dX3_entry_62 : decode cX3_entry 62 = .ok (.istore 6, 2) := by decide +kernel
theorem dX3_entry_64 : decode cX3_entry 64 = .ok (.iload 4, 2) := by decide +kernel
theorem dX3_entry_66 : decode cX3_entry 66 = .ok (.iconst (-1), 1) := by decide +kernel
theorem dX3_entry_67 : decode cX3_entry 67 = .ok (.if_icmp .ne 17, 3) := by decide +kernel
theorem dX3_entry_70 : decode cX3_entry 70 = .ok (.aload_n 0, 1) := by decide +kernel
theorem dX3_entry_71 : decode cX3_entry 71 = .ok (.getfield 12, 3) := by decide +kernel
theorem dX3_entry_74 : decode cX3_entry 74 = .ok (.iload 6, 2) := by decide +kernel
theorem dX3_entry_76 : decode cX3_entry 76 = .ok (.iload 5, 2) := by decide +kernel
theorem dX3_entry_78 : decode cX3_entry 78 = .ok (.invokevirtual 95, 3) := by decide +kernel
theorem dX3_entry_81 : decode cX3_entry 81 = .ok (.goto 18, 3) := by decide +kernel
theorem dX3_entry_84 : decode cX3_entry 84 = .ok (.aload_n 0, 1) := by decide +kernel
theorem dX3_entry_85 : decode cX3_entry 85 = .ok (.getfield 12, 3) := by decide +kernel
theorem dX3_entry_88 : decode cX3_entry 88 = .ok (.iload 4, 2) := by decide +kernel
theorem dX3_entry_90 : decode cX3_entry 90 = .ok (.iload 6, 2) := by decide +kernel
theorem dX3_entry_92 : decode cX3_entry 92 = .ok (.aload_n 0, 1) := by decide +kernel
theorem dX3_entry_93 : decode cX3_entry 93 = .ok (.getfield 18, 3) := by decide +kernel
theorem dX3_entry_96 : decode cX3_entry 96 = .ok (.invokevirtual 98, 3) := by decide +kernel
theorem dX3_entry_99 : decode cX3_entry 99 = .ok (.return_, 1) := by decide +kernel
theorem dX4_init_0 : decode cX4_init 0 = .ok (.aload_n 0, 1) := by decide +kernel
theorem dX4_init_1 : decode cX4_init 1 = .ok (.invokespecial 3, 3) := by decide +kernel
theorem dX4_init_4 : decode cX4_init 4 = .ok (.aload_n 0, 1) := by decide +kernel
theorem dX4_init_5 : decode cX4_init 5 = .ok (.new 9, 3) := by decide +kernel
theorem dX4_init_8 : decode cX4_init 8 = .ok (.dup, 1) := by decide +kernel
theorem dX4_init_9 : decode cX4_init 9 = .ok (.invokespecial 11, 3) := by decide +kernel
theorem dX4_init_12 : decode cX4_init 12 = .ok (.putfield 12, 3) := by decide +kernel
theorem dX4_init_15 : decode cX4_init 15 = .ok (.aload_n 0, 1) := by decide +kernel
theorem dX4_init_16 : decode cX4_init 16 = .ok (.new 18, 3) := by decide +kernel
theorem dX4_init_19 : decode cX4_init 19 = .ok (.dup, 1) := by decide +kernel
theorem dX4_init_20 : decode cX4_init 20 = .ok (.sipush 400, 3) := by decide +kernel
theorem dX4_init_23 : decode cX4_init 23 = .ok (.invokespecial 20, 3) := by decide +kernel
theorem dX4_init_26 : decode cX4_init 26 = .ok (.putfield 23, 3) := by decide +kernel
theorem dX4_init_29 : decode cX4_init 29 = .ok (.aload_n 0, 1) := by decide +kernel
theorem dX4_init_30 : decode cX4_init 30 = .ok (.new 18, 3) := by decide +kernel
theorem dX4_init_33 : decode cX4_init 33 = .ok (.dup, 1) := by decide +kernel
theorem dX4_init_34 : decode cX4_init 34 = .ok (.ldc 27, 2) := by decide +kernel
theorem dX4_init_36 : decode cX4_init 36 = .ok (.invokespecial 20, 3) := by decide +kernel
theorem dX4_init_39 : decode cX4_init 39 = .ok (.putfield 28, 3) := by decide +kernel
theorem dX4_init_42 : decode cX4_init 42 = .ok (.aload_n 0, 1) := by decide +kernel
theorem dX4_init_43 : decode cX4_init 43 = .ok (.sipush 200, 3) := by decide +kernel
theorem dX4_init_46 : decode cX4_init 46 = .ok (.newarray .int, 2) := by decide +kernel
theorem dX4_init_48 : decode cX4_init 48 = .ok (.putfield 31, 3) := by decide +kernel
theorem dX4_init_51 : decode cX4_init 51 = .ok (.aload_n 0, 1) := by decide +kernel
theorem dX4_init_52 : decode cX4_init 52 = .ok (.aload_n 0, 1) := by decide +kernel
theorem dX4_init_53 : decode cX4_init 53 = .ok (.getfield 12, 3) := by decide +kernel
theorem dX4_init_56 : decode cX4_init 56 = .ok (.putfield 35, 3) := by decide +kernel
theorem dX4_init_59 : decode cX4_init 59 = .ok (.aload_n 0, 1) := by decide +kernel
theorem dX4_init_60 : decode cX4_init 60 = .ok (.aload_n 0, 1) := by decide +kernel
theorem dX4_init_61 : decode cX4_init 61 = .ok (.getfield 12, 3) := by decide +kernel
theorem dX4_init_64 : decode cX4_init 64 = .ok (.putfield 38, 3) := by decide +kernel
theorem dX4_init_67 : decode cX4_init 67 = .ok (.aload_n 0, 1) := by decide +kernel
theorem dX4_init_68 : decode cX4_init 68 = .ok (.aload_n 0, 1) := by decide +kernel
theorem dX4_init_69 : decode cX4_init 69 = .ok (.getfield 12, 3) := by decide +kernel
theorem dX4_init_72 : decode cX4_init 72 = .ok (.putfield 41, 3) := by decide +kernel
theorem dX4_init_75 : decode cX4_init 75 = .ok (.return_, 1) := by decide +kernel
theorem dX4_result_0 : decode cX4_result 0 = .ok (.aload_n 0, 1) := by decide +kernel
theorem dX4_result_1 : decode cX4_result 1 = .ok (.getfield 12, 3) := by decide +kernel
theorem dX4_result_4 : decode cX4_result 4 = .ok (.areturn, 1) := by decide +kernel
theorem dX4_count_0 : decode cX4_count 0 = .ok (.aload_n 0, 1) := by decide +kernel
theorem dX4_count_1 : decode cX4_count 1 = .ok (.getfield 44, 3) := by decide +kernel
theorem dX4_count_4 : decode cX4_count 4 = .ok (.ireturn, 1) := by decide +kernel
theorem dX4_forget_0 : decode cX4_forget 0 = .ok (.aload_n 0, 1) := by decide +kernel
theorem dX4_forget_1 : decode cX4_forget 1 = .ok (.iconst 0, 1) := by decide +kernel
theorem dX4_forget_2 : decode cX4_forget 2 = .ok (.putfield 44, 3) := by decide +kernel
theorem dX4_forget_5 : decode cX4_forget 5 = .ok (.aload_n 0, 1) := by decide +kernel
theorem dX4_forget_6 : decode cX4_forget 6 = .ok (.getfield 28, 3) := by decide +kernel
theorem dX4_forget_9 : decode cX4_forget 9 = .ok (.invokevirtual 48, 3) := by decide +kernel
theorem dX4_forget_12 : decode cX4_forget 12 = .ok (.return_, 1) := by decide +kernel
theorem dX4_endOf_0 : decode cX4_endOf 0 = .ok (.iload_n 1, 1) := by decide +kernel
theorem dX4_endOf_1 : decode cX4_endOf 1 = .ok (.ifCond .lt 29, 3) := by decide +kernel
theorem dX4_endOf_4 : decode cX4_endOf 4 = .ok (.iload_n 1, 1) := by decide +kernel
theorem dX4_endOf_5 : decode cX4_endOf 5 = .ok (.aload_n 0, 1) := by decide +kernel
theorem dX4_endOf_6 : decode cX4_endOf 6 = .ok (.getfield 44, 3) := by decide +kernel
theorem dX4_endOf_9 : decode cX4_endOf 9 = .ok (.if_icmp .ge 21, 3) := by decide +kernel
theorem dX4_endOf_12 : decode cX4_endOf 12 = .ok (.iload_n 1, 1) := by decide +kernel
theorem dX4_endOf_13 : decode cX4_endOf 13 = .ok (.aload_n 0, 1) := by decide +kernel
theorem dX4_endOf_14 : decode cX4_endOf 14 = .ok (.getfield 31, 3) := by decide +kernel
theorem dX4_endOf_17 : decode cX4_endOf 17 = .ok (.arraylength, 1) := by decide +kernel
theorem dX4_endOf_18 : decode cX4_endOf 18 = .ok (.if_icmp .ge 12, 3) := by decide +kernel
theorem dX4_endOf_21 : decode cX4_endOf 21 = .ok (.aload_n 0, 1) := by decide +kernel
theorem dX4_endOf_22 : decode cX4_endOf 22 = .ok (.getfield 31, 3) := by decide +kernel
theorem dX4_endOf_25 : decode cX4_endOf 25 = .ok (.iload_n 1, 1) := by decide +kernel
theorem dX4_endOf_26 : decode cX4_endOf 26 = .ok (.iaload, 1) := by decide +kernel
theorem dX4_endOf_27 : decode cX4_endOf 27 = .ok (.goto 4, 3) := by decide +kernel
theorem dX4_endOf_30 : decode cX4_endOf 30 = .ok (.iconst 0, 1) := by decide +kernel
theorem dX4_endOf_31 : decode cX4_endOf 31 = .ok (.ireturn, 1) := by decide +kernel
theorem dX4_pathTo_0 : decode cX4_pathTo 0 = .ok (.aload_n 2, 1) := by decide +kernel
theorem dX4_pathTo_1 : decode cX4_pathTo 1 = .ok (.aload_n 0, 1) := by decide +kernel
theorem dX4_pathTo_2 : decode cX4_pathTo 2 = .ok (.getfield 28, 3) := by decide +kernel
theorem dX4_pathTo_5 : decode cX4_pathTo 5 = .ok (.aload_n 0, 1) := by decide +kernel
theorem dX4_pathTo_6 : decode cX4_pathTo 6 = .ok (.iload_n 1, 1) := by decide +kernel
theorem dX4_pathTo_7 : decode cX4_pathTo 7 = .ok (.iconst 1, 1) := by decide +kernel
theorem dX4_pathTo_8 : decode cX4_pathTo 8 = .ok (.isub, 1) := by decide +kernel
theorem dX4_pathTo_9 : decode cX4_pathTo 9 = .ok (.invokevirtual 51, 3) := by decide +kernel
theorem dX4_pathTo_12 : decode cX4_pathTo 12 = .ok (.aload_n 0, 1) := by decide +kernel
theorem dX4_pathTo_13 : decode cX4_pathTo 13 = .ok (.iload_n 1, 1) := by decide +kernel
theorem dX4_pathTo_14 : decode cX4_pathTo 14 = .ok (.invokevirtual 51, 3) := by decide +kernel
theorem dX4_pathTo_17 : decode cX4_pathTo 17 = .ok (.invokevirtual 55, 3) := by decide +kernel
theorem dX4_pathTo_20 : decode cX4_pathTo 20 = .ok (.return_, 1) := by decide +kernel
theorem dX4_unite_0 : decode cX4_unite 0 = .ok (.aload_n 0, 1) := by decide +kernel
theorem dX4_unite_1 : decode cX4_unite 1 = .ok (.aload_n 1, 1) := by decide +kernel
theorem dX4_unite_2 : decode cX4_unite 2 = .ok (.putfield 35, 3) := by decide +kernel
theorem dX4_unite_5 : decode cX4_unite 5 = .ok (.aload_n 0, 1) := by decide +kernel
theorem dX4_unite_6 : decode cX4_unite 6 = .ok (.aload_n 2, 1) := by decide +kernel
theorem dX4_unite_7 : decode cX4_unite 7 = .ok (.putfield 38, 3) := by decide +kernel
theorem dX4_unite_10 : decode cX4_unite 10 = .ok (.aload_n 0, 1) := by decide +kernel
theorem dX4_unite_11 : decode cX4_unite 11 = .ok (.aload_n 3, 1) := by decide +kernel
theorem dX4_unite_12 : decode cX4_unite 12 = .ok (.putfield 41, 3) := by decide +kernel
theorem dX4_unite_15 : decode cX4_unite 15 = .ok (.aload_n 0, 1) := by decide +kernel
theorem dX4_unite_16 : decode cX4_unite 16 = .ok (.iconst 0, 1) := by decide +kernel
theorem dX4_unite_17 : decode cX4_unite 17 = .ok (.putfield 59, 3) := by decide +kernel
theorem dX4_unite_20 : decode cX4_unite 20 = .ok (.aload_n 0, 1) := by decide +kernel
theorem dX4_unite_21 : decode cX4_unite 21 = .ok (.getfield 12, 3) := by decide +kernel
theorem dX4_unite_24 : decode cX4_unite 24 = .ok (.invokevirtual 63, 3) := by decide +kernel
theorem dX4_unite_27 : decode cX4_unite 27 = .ok (.aload_n 0, 1) := by decide +kernel
theorem dX4_unite_28 : decode cX4_unite 28 = .ok (.getfield 23, 3) := by decide +kernel
theorem dX4_unite_31 : decode cX4_unite 31 = .ok (.invokevirtual 48, 3) := by decide +kernel
theorem dX4_unite_34 : decode cX4_unite 34 = .ok (.aload_n 0, 1) := by decide +kernel
theorem dX4_unite_35 : decode cX4_unite 35 = .ok (.iconst 0, 1) := by decide +kernel
theorem dX4_unite_36 : decode cX4_unite 36 = .ok (.iconst 0, 1) := by decide +kernel
theorem dX4_unite_37 : decode cX4_unite 37 = .ok (.iconst 0, 1) := by decide +kernel
theorem dX4_unite_38 : decode cX4_unite 38 = .ok (.iconst 0, 1) := by decide +kernel
theorem dX4_unite_39 : decode cX4_unite 39 = .ok (.invokevirtual 64, 3) := by decide +kernel
theorem dX4_unite_42 : decode cX4_unite 42 = .ok (.aload_n 0, 1) := by decide +kernel
theorem dX4_unite_43 : decode cX4_unite 43 = .ok (.getfield 59, 3) := by decide +kernel
theorem dX4_unite_46 : decode cX4_unite 46 = .ok (.ifCond .ne 7, 3) := by decide +kernel
theorem dX4_unite_49 : decode cX4_unite 49 = .ok (.iconst 1, 1) := by decide +kernel
theorem dX4_unite_50 : decode cX4_unite 50 = .ok (.goto 4, 3) := by decide +kernel
theorem dX4_unite_53 : decode cX4_unite 53 = .ok (.iconst 0, 1) := by decide +kernel
theorem dX4_unite_54 : decode cX4_unite 54 = .ok (.ireturn, 1) := by decide +kernel
theorem dX4_alike_0 : decode cX4_alike 0 = .ok (.iload_n 1, 1) := by decide +kernel
theorem dX4_alike_1 : decode cX4_alike 1 = .ok (.iconst (-1), 1) := by decide +kernel
theorem dX4_alike_2 : decode cX4_alike 2 = .ok (.if_icmp .eq 8, 3) := by decide +kernel
theorem dX4_alike_5 : decode cX4_alike 5 = .ok (.iload_n 3, 1) := by decide +kernel
theorem dX4_alike_6 : decode cX4_alike 6 = .ok (.iconst (-1), 1) := by decide +kernel
theorem dX4_alike_7 : decode cX4_alike 7 = .ok (.if_icmp .ne 16, 3) := by decide +kernel
theorem dX4_alike_10 : decode cX4_alike 10 = .ok (.iload_n 1, 1) := by decide +kernel
theorem dX4_alike_11 : decode cX4_alike 11 = .ok (.iload_n 3, 1) := by decide +kernel
theorem dX4_alike_12 : decode cX4_alike 12 = .ok (.if_icmp .ne 7, 3) := by decide +kernel
theorem dX4_alike_15 : decode cX4_alike 15 = .ok (.iconst 1, 1) := by decide +kernel
theorem dX4_alike_16 : decode cX4_alike 16 = .ok (.goto 15, 3) := by decide +kernel
theorem dX4_alike_19 : decode cX4_alike 19 = .ok (.iconst 0, 1) := by decide +kernel
theorem dX4_alike_20 : decode cX4_alike 20 = .ok (.goto 11, 3) := by decide +kernel
theorem dX4_alike_23 : decode cX4_alike 23 = .ok (.aload_n 0, 1) := by decide +kernel
theorem dX4_alike_24 : decode cX4_alike 24 = .ok (.iload_n 1, 1) := by decide +kernel
theorem dX4_alike_25 : decode cX4_alike 25 = .ok (.aload_n 2, 1) := by decide +kernel
theorem dX4_alike_26 : decode cX4_alike 26 = .ok (.iload_n 3, 1) := by decide +kernel
theorem dX4_alike_27 : decode cX4_alike 27 = .ok (.iconst 0, 1) := by decide +kernel
theorem dX4_alike_28 : decode cX4_alike 28 = .ok (.invokevirtual 68, 3) := by decide +kernel
theorem dX4_alike_31 : decode cX4_alike 31 = .ok (.ireturn, 1) := by decide +kernel
theorem dX4_uniteAt_0 : decode cX4_uniteAt 0 = .ok (.aload_n 0, 1) := by decide +kernel
theorem dX4_uniteAt_1 : decode cX4_uniteAt 1 = .ok (.getfield 38, 3) := by decide +kernel
theorem dX4_uniteAt_4 : decode cX4_uniteAt 4 = .ok (.iload_n 2, 1) := by decide +kernel
theorem dX4_uniteAt_5 : decode cX4_uniteAt 5 = .ok (.aload_n 0, 1) := by decide +kernel
theorem dX4_uniteAt_6 : decode cX4_uniteAt 6 = .ok (.getfield 41, 3) := by decide +kernel
theorem dX4_uniteAt_9 : decode cX4_uniteAt 9 = .ok (.iload_n 3, 1) := by decide +kernel
theorem dX4_uniteAt_10 : decode cX4_uniteAt 10 = .ok (.invokestatic 72, 3) := by decide +kernel
theorem dX4_uniteAt_13 : decode cX4_uniteAt 13 = .ok (.ifCond .ne 19, 3) := by decide +kernel
theorem dX4_uniteAt_16 : decode cX4_uniteAt 16 = .ok (.aload_n 0, 1) := by decide +kernel
theorem dX4_uniteAt_17 : decode cX4_uniteAt 17 = .ok (.getfield 41, 3) := by decide +kernel
theorem dX4_uniteAt_20 : decode cX4_uniteAt 20 = .ok (.iload_n 3, 1) := by decide +kernel
theorem dX4_uniteAt_21 : decode cX4_uniteAt 21 = .ok (.aload_n 0, 1) := by decide +kernel
theorem dX4_uniteAt_22 : decode cX4_uniteAt 22 = .ok (.getfield 35, 3) := by decide +kernel
theorem dX4_uniteAt_25 : decode cX4_uniteAt 25 = .ok (.iload_n 1, 1) := by decide +kernel
theorem dX4_uniteAt_26 : decode cX4_uniteAt 26 = .ok (.invokestatic 72, 3) := by decide +kernel
theorem dX4_uniteAt_29 : decode cX4_uniteAt 29 = .ok (.ifCond .eq 15, 3) := by decide +kernel
theorem dX4_uniteAt_32 : decode cX4_uniteAt 32 = .ok (.aload_n 0, 1) := by decide +kernel
theorem dX4_uniteAt_33 : decode cX4_uniteAt 33 = .ok (.aload_n 0, 1) := by decide +kernel
theorem dX4_uniteAt_34 : decode cX4_uniteAt 34 = .ok (.getfield 38, 3) := by decide +kernel
theorem dX4_uniteAt_37 : decode cX4_uniteAt 37 = .ok (.iload_n 2, 1) := by decide +kernel
theorem dX4_uniteAt_38 : decode cX4_uniteAt 38 = .ok (.invokevirtual 76, 3) := by decide +kernel
theorem dX4_uniteAt_41 : decode cX4_uniteAt 41 = .ok (.goto 95, 3) := by decide +kernel
theorem dX4_uniteAt_44 : decode cX4_uniteAt 44 = .ok (.aload_n 0, 1) := by decide +kernel
theorem dX4_uniteAt_45 : decode cX4_uniteAt 45 = .ok (.getfield 38, 3) := by decide +kernel
theorem dX4_uniteAt_48 : decode cX4_uniteAt 48 = .ok (.iload_n 2, 1) := by decide +kernel
theorem dX4_uniteAt_49 : decode cX4_uniteAt 49 = .ok (.aload_n 0, 1) := by decide +kernel
theorem dX4_uniteAt_50 : decode cX4_uniteAt 50 = .ok (.getfield 35, 3) := by decide +kernel
theorem dX4_uniteAt_53 : decode cX4_uniteAt 53 = .ok (.iload_n 1, 1) := by decide +kernel
theorem dX4_uniteAt_54 : decode cX4_uniteAt 54 = .ok (.invokestatic 72, 3) := by decide +kernel
theorem dX4_uniteAt_57 : decode cX4_uniteAt 57 = .ok (.ifCond .eq 15, 3) := by decide +kernel
theorem dX4_uniteAt_60 : decode cX4_uniteAt 60 = .ok (.aload_n 0, 1) := by decide +kernel
theorem dX4_uniteAt_61 : decode cX4_uniteAt 61 = .ok (.aload_n 0, 1) := by decide +kernel
theorem dX4_uniteAt_62 : decode cX4_uniteAt 62 = .ok (.getfield 41, 3) := by decide +kernel
theorem dX4_uniteAt_65 : decode cX4_uniteAt 65 = .ok (.iload_n 3, 1) := by decide +kernel
theorem dX4_uniteAt_66 : decode cX4_uniteAt 66 = .ok (.invokevirtual 76, 3) := by decide +kernel
theorem dX4_uniteAt_69 : decode cX4_uniteAt 69 = .ok (.goto 67, 3) := by decide +kernel
theorem dX4_uniteAt_72 : decode cX4_uniteAt 72 = .ok (.aload_n 0, 1) := by decide +kernel
theorem dX4_uniteAt_73 : decode cX4_uniteAt 73 = .ok (.getfield 38, 3) := by decide +kernel
theorem dX4_uniteAt_76 : decode cX4_uniteAt 76 = .ok (.iload_n 2, 1) := by decide +kernel
theorem dX4_uniteAt_77 : decode cX4_uniteAt 77 = .ok (.iconst 5, 1) := by decide +kernel
theorem dX4_uniteAt_78 : decode cX4_uniteAt 78 = .ok (.invokevirtual 80, 3) := by decide +kernel
theorem dX4_uniteAt_81 : decode cX4_uniteAt 81 = .ok (.ifCond .eq 51, 3) := by decide +kernel
theorem dX4_uniteAt_84 : decode cX4_uniteAt 84 = .ok (.aload_n 0, 1) := by decide +kernel
theorem dX4_uniteAt_85 : decode cX4_uniteAt 85 = .ok (.getfield 41, 3) := by decide +kernel
theorem dX4_uniteAt_88 : decode cX4_uniteAt 88 = .ok (.iload_n 3, 1) := by decide +kernel
theorem dX4_uniteAt_89 : decode cX4_uniteAt 89 = .ok (.iconst 5, 1) := by decide +kernel
theorem dX4_uniteAt_90 : decode cX4_uniteAt 90 = .ok (.invokevirtual 80, 3) := by decide +kernel
theorem dX4_uniteAt_93 : decode cX4_uniteAt 93 = .ok (.ifCond .eq 39, 3) := by decide +kernel
theorem dX4_uniteAt_96 : decode cX4_uniteAt 96 = .ok (.iload_n 1, 1) := by decide +kernel
theorem dX4_uniteAt_97 : decode cX4_uniteAt 97 = .ok (.iconst (-1), 1) := by decide +kernel
theorem dX4_uniteAt_98 : decode cX4_uniteAt 98 = .ok (.if_icmp .eq 15, 3) := by decide +kernel
theorem dX4_uniteAt_101 : decode cX4_uniteAt 101 = .ok (.aload_n 0, 1) := by decide +kernel
theorem dX4_uniteAt_102 : decode cX4_uniteAt 102 = .ok (.getfield 35, 3) := by decide +kernel
theorem dX4_uniteAt_105 : decode cX4_uniteAt 105 = .ok (.iload_n 1, 1) := by decide +kernel
theorem dX4_uniteAt_106 : decode cX4_uniteAt 106 = .ok (.iconst 5, 1) := by decide +kernel
theorem dX4_uniteAt_107 : decode cX4_uniteAt 107 = .ok (.invokevirtual 80, 3) := by decide +kernel
theorem dX4_uniteAt_110 : decode cX4_uniteAt 110 = .ok (.ifCond .eq 22, 3) := by decide +kernel
theorem dX4_uniteAt_113 : decode cX4_uniteAt 113 = .ok (.iload 4, 2) := by decide +kernel
theorem dX4_uniteAt_115 : decode cX4_uniteAt 115 = .ok (.bipush 12, 2) := by decide +kernel
theorem dX4_uniteAt_117 : decode cX4_uniteAt 117 = .ok (.if_icmp .gt 15, 3) := by decide +kernel
theorem dX4_uniteAt_120 : decode cX4_uniteAt 120 = .ok (.aload_n 0, 1) := by decide +kernel
theorem dX4_uniteAt_121 : decode cX4_uniteAt 121 = .ok (.iload_n 1, 1) := by decide +kernel
theorem dX4_uniteAt_122 : decode cX4_uniteAt 122 = .ok (.iload_n 2, 1) := by decide +kernel
theorem dX4_uniteAt_123 : decode cX4_uniteAt 123 = .ok (.iload_n 3, 1) := by decide +kernel
theorem dX4_uniteAt_124 : decode cX4_uniteAt 124 = .ok (.iload 4, 2) := by decide +kernel
theorem dX4_uniteAt_126 : decode cX4_uniteAt 126 = .ok (.invokevirtual 84, 3) := by decide +kernel
theorem dX4_uniteAt_129 : decode cX4_uniteAt 129 = .ok (.goto 7, 3) := by decide +kernel
theorem dX4_uniteAt_132 : decode cX4_uniteAt 132 = .ok (.aload_n 0, 1) := by decide +kernel
theorem dX4_uniteAt_133 : decode cX4_uniteAt 133 = .ok (.invokevirtual 87, 3) := by decide +kernel
theorem dX4_uniteAt_136 : decode cX4_uniteAt 136 = .ok (.return_, 1) := by decide +kernel
theorem dX4_accept_0 : decode cX4_accept 0 = .ok (.iload_n 2, 1) := by decide +kernel
theorem dX4_accept_1 : decode cX4_accept 1 = .ok (.iconst (-1), 1) := by decide +kernel
theorem dX4_accept_2 : decode cX4_accept 2 = .ok (.if_icmp .eq 13, 3) := by decide +kernel
theorem dX4_accept_5 : decode cX4_accept 5 = .ok (.aload_n 0, 1) := by decide +kernel
theorem dX4_accept_6 : decode cX4_accept 6 = .ok (.getfield 12, 3) := by decide +kernel
theorem dX4_accept_9 : decode cX4_accept 9 = .ok (.aload_n 1, 1) := by decide +kernel
theorem dX4_accept_10 : decode cX4_accept 10 = .ok (.iload_n 2, 1) := by decide +kernel
theorem dX4_accept_11 : decode cX4_accept 11 = .ok (.invokevirtual 90, 3) := by decide +kernel
theorem dX4_accept_14 : decode cX4_accept 14 = .ok (.pop, 1) := by decide +kernel
theorem dX4_accept_15 : decode cX4_accept 15 = .ok (.return_, 1) := by decide +kernel
theorem dX4_uniteMaps_0 : decode cX4_uniteMaps 0 = .ok (.aload_n 0, 1) := by decide +kernel
theorem dX4_uniteMaps_1 : decode cX4_uniteMaps 1 = .ok (.getfield 12, 3) := by decide +kernel
theorem dX4_uniteMaps_4 : decode cX4_uniteMaps 4 = .ok (.iconst 5, 1) := by decide +kernel
theorem dX4_uniteMaps_5 : decode cX4_uniteMaps 5 = .ok (.invokevirtual 94, 3) := by decide +kernel
theorem dX4_uniteMaps_8 : decode cX4_uniteMaps 8 = .ok (.istore 5, 2) := by decide +kernel
theorem dX4_uniteMaps_10 : decode cX4_uniteMaps 10 = .ok (.aload_n 0, 1) := by decide +kernel
theorem dX4_uniteMaps_11 : decode cX4_uniteMaps 11 = .ok (.getfield 12, 3) := by decide +kernel
theorem dX4_uniteMaps_14 : decode cX4_uniteMaps 14 = .ok (.iload 5, 2) := by decide +kernel
theorem dX4_uniteMaps_16 : decode cX4_uniteMaps 16 = .ok (.aload_n 0, 1) := by decide +kernel
theorem dX4_uniteMaps_17 : decode cX4_uniteMaps 17 = .ok (.getfield 38, 3) := by decide +kernel
theorem dX4_uniteMaps_20 : decode cX4_uniteMaps 20 = .ok (.iload_n 2, 1) := by decide +kernel
theorem dX4_uniteMaps_21 : decode cX4_uniteMaps 21 = .ok (.invokevirtual 97, 3) := by decide +kernel
theorem dX4_uniteMaps_24 : decode cX4_uniteMaps 24 = .ok (.aload_n 0, 1) := by decide +kernel
theorem dX4_uniteMaps_25 : decode cX4_uniteMaps 25 = .ok (.getfield 23, 3) := by decide +kernel
theorem dX4_uniteMaps_28 : decode cX4_uniteMaps 28 = .ok (.invokevirtual 101, 3) := by decide +kernel
theorem dX4_uniteMaps_31 : decode cX4_uniteMaps 31 = .ok (.istore 6, 2) := by decide +kernel
theorem dX4_uniteMaps_33 : decode cX4_uniteMaps 33 = .ok (.aload_n 0, 1) := by decide +kernel
theorem dX4_uniteMaps_34 : decode cX4_uniteMaps 34 = .ok (.getfield 35, 3) := by decide +kernel
theorem dX4_uniteMaps_37 : decode cX4_uniteMaps 37 = .ok (.iload_n 1, 1) := by decide +kernel
theorem dX4_uniteMaps_38 : decode cX4_uniteMaps 38 = .ok (.invokevirtual 105, 3) := by decide +kernel
theorem dX4_uniteMaps_41 : decode cX4_uniteMaps 41 = .ok (.istore 7, 2) := by decide +kernel
theorem dX4_uniteMaps_43 : decode cX4_uniteMaps 43 = .ok (.iconst 0, 1) := by decide +kernel
theorem dX4_uniteMaps_44 : decode cX4_uniteMaps 44 = .ok (.istore 8, 2) := by decide +kernel
theorem dX4_uniteMaps_46 : decode cX4_uniteMaps 46 = .ok (.iload 7, 2) := by decide +kernel
theorem dX4_uniteMaps_48 : decode cX4_uniteMaps 48 = .ok (.iconst (-1), 1) := by decide +kernel
theorem dX4_uniteMaps_49 : decode cX4_uniteMaps 49 = .ok (.if_icmp .eq 88, 3) := by decide +kernel
theorem dX4_uniteMaps_52 : decode cX4_uniteMaps 52 = .ok (.iload 8, 2) := by decide +kernel
theorem dX4_uniteMaps_54 : decode cX4_uniteMaps 54 = .ok (.bipush 100, 2) := by decide +kernel
theorem dX4_uniteMaps_56 : decode cX4_uniteMaps 56 = .ok (.if_icmp .ge 81, 3) := by decide +kernel
theorem dX4_uniteMaps_59 : decode cX4_uniteMaps 59 = .ok (.aload_n 0, 1) := by decide +kernel
theorem dX4_uniteMaps_60 : decode cX4_uniteMaps 60 = .ok (.getfield 35, 3) := by decide +kernel
theorem dX4_uniteMaps_63 : decode cX4_uniteMaps 63 = .ok (.iload 7, 2) := by decide +kernel
theorem dX4_uniteMaps_65 : decode cX4_uniteMaps 65 = .ok (.aload_n 0, 1) := by decide +kernel
theorem dX4_uniteMaps_66 : decode cX4_uniteMaps 66 = .ok (.getfield 23, 3) := by decide +kernel
theorem dX4_uniteMaps_69 : decode cX4_uniteMaps 69 = .ok (.invokevirtual 108, 3) := by decide +kernel
theorem dX4_uniteMaps_72 : decode cX4_uniteMaps 72 = .ok (.aload_n 0, 1) := by decide +kernel
theorem dX4_uniteMaps_73 : decode cX4_uniteMaps 73 = .ok (.iload 7, 2) := by decide +kernel
theorem dX4_uniteMaps_75 : decode cX4_uniteMaps 75 = .ok (.aload_n 0, 1) := by decide +kernel
theorem dX4_uniteMaps_76 : decode cX4_uniteMaps 76 = .ok (.getfield 38, 3) := by decide +kernel
theorem dX4_uniteMaps_79 : decode cX4_uniteMaps 79 = .ok (.iload_n 2, 1) := by decide +kernel
theorem dX4_uniteMaps_80 : decode cX4_uniteMaps 80 = .ok (.aload_n 0, 1) := by decide +kernel
theorem dX4_uniteMaps_81 : decode cX4_uniteMaps 81 = .ok (.getfield 35, 3) := by decide +kernel
theorem dX4_uniteMaps_84 : decode cX4_uniteMaps 84 = .ok (.iload 7, 2) := by decide +kernel
theorem dX4_uniteMaps_86 : decode cX4_uniteMaps 86 = .ok (.invokevirtual 112, 3) := by decide +kernel
theorem dX4_uniteMaps_89 : decode cX4_uniteMaps 89 = .ok (.aload_n 0, 1) := by decide +kernel
theorem dX4_uniteMaps_90 : decode cX4_uniteMaps 90 = .ok (.getfield 41, 3) := by decide +kernel
theorem dX4_uniteMaps_93 : decode cX4_uniteMaps 93 = .ok (.iload_n 3, 1) := by decide +kernel
theorem dX4_uniteMaps_94 : decode cX4_uniteMaps 94 = .ok (.aload_n 0, 1) := by decide +kernel
theorem dX4_uniteMaps_95 : decode cX4_uniteMaps 95 = .ok (.getfield 35, 3) := by decide +kernel
theorem dX4_uniteMaps_98 : decode cX4_uniteMaps 98 = .ok (.iload 7, 2) := by decide +kernel
theorem dX4_uniteMaps_100 : decode cX4_uniteMaps 100 = .ok (.invokevirtual 112, 3) := by decide +kernel
theorem dX4_uniteMaps_103 : decode cX4_uniteMaps 103 = .ok (.iload 4, 2) := by decide +kernel
theorem dX4_uniteMaps_105 : decode cX4_uniteMaps 105 = .ok (.iconst 1, 1) := by decide +kernel
theorem dX4_uniteMaps_106 : decode cX4_uniteMaps 106 = .ok (.iadd, 1) := by decide +kernel
theorem dX4_uniteMaps_107 : decode cX4_uniteMaps 107 = .ok (.invokevirtual 64, 3) := by decide +kernel
theorem dX4_uniteMaps_110 : decode cX4_uniteMaps 110 = .ok (.aload_n 0, 1) := by decide +kernel
theorem dX4_uniteMaps_111 : decode cX4_uniteMaps 111 = .ok (.getfield 23, 3) := by decide +kernel
theorem dX4_uniteMaps_114 : decode cX4_uniteMaps 114 = .ok (.iload 6, 2) := by decide +kernel
theorem dX4_uniteMaps_116 : decode cX4_uniteMaps 116 = .ok (.invokevirtual 116, 3) := by decide +kernel
theorem dX4_uniteMaps_119 : decode cX4_uniteMaps 119 = .ok (.aload_n 0, 1) := by decide +kernel
theorem dX4_uniteMaps_120 : decode cX4_uniteMaps 120 = .ok (.getfield 35, 3) := by decide +kernel
theorem dX4_uniteMaps_123 : decode cX4_uniteMaps 123 = .ok (.iload_n 1, 1) := by decide +kernel
theorem dX4_uniteMaps_124 : decode cX4_uniteMaps 124 = .ok (.iload 7, 2) := by decide +kernel
theorem dX4_uniteMaps_126 : decode cX4_uniteMaps 126 = .ok (.invokevirtual 119, 3) := by decide +kernel
theorem dX4_uniteMaps_129 : decode cX4_uniteMaps 129 = .ok (.istore 7, 2) := by decide +kernel
theorem dX4_uniteMaps_131 : decode cX4_uniteMaps 131 = .ok (.iinc 8 1, 3) := by decide +kernel
theorem dX4_uniteMaps_134 : decode cX4_uniteMaps 134 = .ok (.goto (-88), 3) := by decide +kernel
theorem dX4_uniteMaps_137 : decode cX4_uniteMaps 137 = .ok (.aload_n 0, 1) := by decide +kernel
theorem dX4_uniteMaps_138 : decode cX4_uniteMaps 138 = .ok (.getfield 38, 3) := by decide +kernel
theorem dX4_uniteMaps_141 : decode cX4_uniteMaps 141 = .ok (.iload_n 2, 1) := by decide +kernel
theorem dX4_uniteMaps_142 : decode cX4_uniteMaps 142 = .ok (.invokevirtual 105, 3) := by decide +kernel
theorem dX4_uniteMaps_145 : decode cX4_uniteMaps 145 = .ok (.istore 7, 2) := by decide +kernel
theorem dX4_uniteMaps_147 : decode cX4_uniteMaps 147 = .ok (.iconst 0, 1) := by decide +kernel
theorem dX4_uniteMaps_148 : decode cX4_uniteMaps 148 = .ok (.istore 8, 2) := by decide +kernel
theorem dX4_uniteMaps_150 : decode cX4_uniteMaps 150 = .ok (.iload 7, 2) := by decide +kernel
theorem dX4_uniteMaps_152 : decode cX4_uniteMaps 152 = .ok (.iconst (-1), 1) := by decide +kernel
theorem dX4_uniteMaps_153 : decode cX4_uniteMaps 153 = .ok (.if_icmp .eq 93, 3) := by decide +kernel
theorem dX4_uniteMaps_156 : decode cX4_uniteMaps 156 = .ok (.iload 8, 2) := by decide +kernel
theorem dX4_uniteMaps_158 : decode cX4_uniteMaps 158 = .ok (.bipush 100, 2) := by decide +kernel
theorem dX4_uniteMaps_160 : decode cX4_uniteMaps 160 = .ok (.if_icmp .ge 86, 3) := by decide +kernel
theorem dX4_uniteMaps_163 : decode cX4_uniteMaps 163 = .ok (.aload_n 0, 1) := by decide +kernel
theorem dX4_uniteMaps_164 : decode cX4_uniteMaps 164 = .ok (.getfield 35, 3) := by decide +kernel
theorem dX4_uniteMaps_167 : decode cX4_uniteMaps 167 = .ok (.iload_n 1, 1) := by decide +kernel
theorem dX4_uniteMaps_168 : decode cX4_uniteMaps 168 = .ok (.aload_n 0, 1) := by decide +kernel
theorem dX4_uniteMaps_169 : decode cX4_uniteMaps 169 = .ok (.getfield 38, 3) := by decide +kernel
theorem dX4_uniteMaps_172 : decode cX4_uniteMaps 172 = .ok (.iload 7, 2) := by decide +kernel
theorem dX4_uniteMaps_174 : decode cX4_uniteMaps 174 = .ok (.invokevirtual 112, 3) := by decide +kernel
theorem dX4_uniteMaps_177 : decode cX4_uniteMaps 177 = .ok (.iconst (-1), 1) := by decide +kernel
theorem dX4_uniteMaps_178 : decode cX4_uniteMaps 178 = .ok (.if_icmp .ne 50, 3) := by decide +kernel
theorem dX4_uniteMaps_181 : decode cX4_uniteMaps 181 = .ok (.aload_n 0, 1) := by decide +kernel
theorem dX4_uniteMaps_182 : decode cX4_uniteMaps 182 = .ok (.getfield 38, 3) := by decide +kernel
theorem dX4_uniteMaps_185 : decode cX4_uniteMaps 185 = .ok (.iload 7, 2) := by decide +kernel
theorem dX4_uniteMaps_187 : decode cX4_uniteMaps 187 = .ok (.aload_n 0, 1) := by decide +kernel
theorem dX4_uniteMaps_188 : decode cX4_uniteMaps 188 = .ok (.getfield 23, 3) := by decide +kernel
theorem dX4_uniteMaps_191 : decode cX4_uniteMaps 191 = .ok (.invokevirtual 108, 3) := by decide +kernel
theorem dX4_uniteMaps_194 : decode cX4_uniteMaps 194 = .ok (.aload_n 0, 1) := by decide +kernel
theorem dX4_uniteMaps_195 : decode cX4_uniteMaps 195 = .ok (.iconst (-1), 1) := by decide +kernel
theorem dX4_uniteMaps_196 : decode cX4_uniteMaps 196 = .ok (.iload 7, 2) := by decide +kernel
theorem dX4_uniteMaps_198 : decode cX4_uniteMaps 198 = .ok (.aload_n 0, 1) := by decide +kernel
theorem dX4_uniteMaps_199 : decode cX4_uniteMaps 199 = .ok (.getfield 41, 3) := by decide +kernel
theorem dX4_uniteMaps_202 : decode cX4_uniteMaps 202 = .ok (.iload_n 3, 1) := by decide +kernel
theorem dX4_uniteMaps_203 : decode cX4_uniteMaps 203 = .ok (.aload_n 0, 1) := by decide +kernel
theorem dX4_uniteMaps_204 : decode cX4_uniteMaps 204 = .ok (.getfield 38, 3) := by decide +kernel
theorem dX4_uniteMaps_207 : decode cX4_uniteMaps 207 = .ok (.iload 7, 2) := by decide +kernel
theorem dX4_uniteMaps_209 : decode cX4_uniteMaps 209 = .ok (.invokevirtual 112, 3) := by decide +kernel
theorem dX4_uniteMaps_212 : decode cX4_uniteMaps 212 = .ok (.iload 4, 2) := by decide +kernel
theorem dX4_uniteMaps_214 : decode cX4_uniteMaps 214 = .ok (.iconst 1, 1) := by decide +kernel
theorem dX4_uniteMaps_215 : decode cX4_uniteMaps 215 = .ok (.iadd, 1) := by decide +kernel
theorem dX4_uniteMaps_216 : decode cX4_uniteMaps 216 = .ok (.invokevirtual 64, 3) := by decide +kernel
theorem dX4_uniteMaps_219 : decode cX4_uniteMaps 219 = .ok (.aload_n 0, 1) := by decide +kernel
theorem dX4_uniteMaps_220 : decode cX4_uniteMaps 220 = .ok (.getfield 23, 3) := by decide +kernel
theorem dX4_uniteMaps_223 : decode cX4_uniteMaps 223 = .ok (.iload 6, 2) := by decide +kernel
theorem dX4_uniteMaps_225 : decode cX4_uniteMaps 225 = .ok (.invokevirtual 116, 3) := by decide +kernel
theorem dX4_uniteMaps_228 : decode cX4_uniteMaps 228 = .ok (.aload_n 0, 1) := by decide +kernel
theorem dX4_uniteMaps_229 : decode cX4_uniteMaps 229 = .ok (.getfield 38, 3) := by decide +kernel
theorem dX4_uniteMaps_232 : decode cX4_uniteMaps 232 = .ok (.iload_n 2, 1) := by decide +kernel
theorem dX4_uniteMaps_233 : decode cX4_uniteMaps 233 = .ok (.iload 7, 2) := by decide +kernel
theorem dX4_uniteMaps_235 : decode cX4_uniteMaps 235 = .ok (.invokevirtual 119, 3) := by decide +kernel
theorem dX4_uniteMaps_238 : decode cX4_uniteMaps 238 = .ok (.istore 7, 2) := by decide +kernel
theorem dX4_uniteMaps_240 : decode cX4_uniteMaps 240 = .ok (.iinc 8 1, 3) := by decide +kernel
theorem dX4_uniteMaps_243 : decode cX4_uniteMaps 243 = .ok (.goto (-93), 3) := by decide +kernel
theorem dX4_uniteMaps_246 : decode cX4_uniteMaps 246 = .ok (.aload_n 0, 1) := by decide +kernel
theorem dX4_uniteMaps_247 : decode cX4_uniteMaps 247 = .ok (.getfield 41, 3) := by decide +kernel
theorem dX4_uniteMaps_250 : decode cX4_uniteMaps 250 = .ok (.iload_n 3, 1) := by decide +kernel
theorem dX4_uniteMaps_251 : decode cX4_uniteMaps 251 = .ok (.invokevirtual 105, 3) := by decide +kernel
theorem dX4_uniteMaps_254 : decode cX4_uniteMaps 254 = .ok (.istore 7, 2) := by decide +kernel
theorem dX4_uniteMaps_256 : decode cX4_uniteMaps 256 = .ok (.iconst 0, 1) := by decide +kernel
theorem dX4_uniteMaps_257 : decode cX4_uniteMaps 257 = .ok (.istore 8, 2) := by decide +kernel
theorem dX4_uniteMaps_259 : decode cX4_uniteMaps 259 = .ok (.iload 7, 2) := by decide +kernel
theorem dX4_uniteMaps_261 : decode cX4_uniteMaps 261 = .ok (.iconst (-1), 1) := by decide +kernel
theorem dX4_uniteMaps_262 : decode cX4_uniteMaps 262 = .ok (.if_icmp .eq 74, 3) := by decide +kernel
theorem dX4_uniteMaps_265 : decode cX4_uniteMaps 265 = .ok (.iload 8, 2) := by decide +kernel
theorem dX4_uniteMaps_267 : decode cX4_uniteMaps 267 = .ok (.bipush 100, 2) := by decide +kernel
theorem dX4_uniteMaps_269 : decode cX4_uniteMaps 269 = .ok (.if_icmp .ge 67, 3) := by decide +kernel
theorem dX4_uniteMaps_272 : decode cX4_uniteMaps 272 = .ok (.aload_n 0, 1) := by decide +kernel
theorem dX4_uniteMaps_273 : decode cX4_uniteMaps 273 = .ok (.getfield 35, 3) := by decide +kernel
theorem dX4_uniteMaps_276 : decode cX4_uniteMaps 276 = .ok (.iload_n 1, 1) := by decide +kernel
theorem dX4_uniteMaps_277 : decode cX4_uniteMaps 277 = .ok (.aload_n 0, 1) := by decide +kernel
theorem dX4_uniteMaps_278 : decode cX4_uniteMaps 278 = .ok (.getfield 41, 3) := by decide +kernel
theorem dX4_uniteMaps_281 : decode cX4_uniteMaps 281 = .ok (.iload 7, 2) := by decide +kernel
theorem dX4_uniteMaps_283 : decode cX4_uniteMaps 283 = .ok (.invokevirtual 112, 3) := by decide +kernel
theorem dX4_uniteMaps_286 : decode cX4_uniteMaps 286 = .ok (.iconst (-1), 1) := by decide +kernel
theorem dX4_uniteMaps_287 : decode cX4_uniteMaps 287 = .ok (.if_icmp .ne 31, 3) := by decide +kernel
theorem dX4_uniteMaps_290 : decode cX4_uniteMaps 290 = .ok (.aload_n 0, 1) := by decide +kernel
theorem dX4_uniteMaps_291 : decode cX4_uniteMaps 291 = .ok (.getfield 38, 3) := by decide +kernel
theorem dX4_uniteMaps_294 : decode cX4_uniteMaps 294 = .ok (.iload_n 2, 1) := by decide +kernel
theorem dX4_uniteMaps_295 : decode cX4_uniteMaps 295 = .ok (.aload_n 0, 1) := by decide +kernel
theorem dX4_uniteMaps_296 : decode cX4_uniteMaps 296 = .ok (.getfield 41, 3) := by decide +kernel
theorem dX4_uniteMaps_299 : decode cX4_uniteMaps 299 = .ok (.iload 7, 2) := by decide +kernel
theorem dX4_uniteMaps_301 : decode cX4_uniteMaps 301 = .ok (.invokevirtual 112, 3) := by decide +kernel
theorem dX4_uniteMaps_304 : decode cX4_uniteMaps 304 = .ok (.iconst (-1), 1) := by decide +kernel
theorem dX4_uniteMaps_305 : decode cX4_uniteMaps 305 = .ok (.if_icmp .ne 13, 3) := by decide +kernel
theorem dX4_uniteMaps_308 : decode cX4_uniteMaps 308 = .ok (.aload_n 0, 1) := by decide +kernel
theorem dX4_uniteMaps_309 : decode cX4_uniteMaps 309 = .ok (.aload_n 0, 1) := by decide +kernel
theorem dX4_uniteMaps_310 : decode cX4_uniteMaps 310 = .ok (.getfield 41, 3) := by decide +kernel
theorem dX4_uniteMaps_313 : decode cX4_uniteMaps 313 = .ok (.iload 7, 2) := by decide +kernel
theorem dX4_uniteMaps_315 : decode cX4_uniteMaps 315 = .ok (.invokevirtual 76, 3) := by decide +kernel
theorem dX4_uniteMaps_318 : decode cX4_uniteMaps 318 = .ok (.aload_n 0, 1) := by decide +kernel
theorem dX4_uniteMaps_319 : decode cX4_uniteMaps 319 = .ok (.getfield 41, 3) := by decide +kernel
theorem dX4_uniteMaps_322 : decode cX4_uniteMaps 322 = .ok (.iload_n 3, 1) := by decide +kernel
theorem dX4_uniteMaps_323 : decode cX4_uniteMaps 323 = .ok (.iload 7, 2) := by decide +kernel
theorem dX4_uniteMaps_325 : decode cX4_uniteMaps 325 = .ok (.invokevirtual 119, 3) := by decide +kernel
theorem dX4_uniteMaps_328 : decode cX4_uniteMaps 328 = .ok (.istore 7, 2) := by decide +kernel
theorem dX4_uniteMaps_330 : decode cX4_uniteMaps 330 = .ok (.iinc 8 1, 3) := by decide +kernel
theorem dX4_uniteMaps_333 : decode cX4_uniteMaps 333 = .ok (.goto (-74), 3) := by decide +kernel
theorem dX4_uniteMaps_336 : decode cX4_uniteMaps 336 = .ok (.aload_n 0, 1) := by decide +kernel
theorem dX4_uniteMaps_337 : decode cX4_uniteMaps 337 = .ok (.getfield 12, 3) := by decide +kernel
theorem dX4_uniteMaps_340 : decode cX4_uniteMaps 340 = .ok (.iload 5, 2) := by decide +kernel
theorem dX4_uniteMaps_342 : decode cX4_uniteMaps 342 = .ok (.invokevirtual 123, 3) := by decide +kernel
theorem dX4_uniteMaps_345 : decode cX4_uniteMaps 345 = .ok (.return_, 1) := by decide +kernel
theorem dX4_dispute_0 : decode cX4_dispute 0 = .ok (.aload_n 0, 1) := by decide +kernel
theorem dX4_dispute_1 : decode cX4_dispute 1 = .ok (.getfield 59, 3) := by decide +kernel
theorem dX4_dispute_4 : decode cX4_dispute 4 = .ok (.ifCond .ne 7, 3) := by decide +kernel
theorem dX4_dispute_7 : decode cX4_dispute 7 = .ok (.aload_n 0, 1) := by decide +kernel
theorem dX4_dispute_8 : decode cX4_dispute 8 = .ok (.invokevirtual 126, 3) := by decide +kernel
theorem dX4_dispute_11 : decode cX4_dispute 11 = .ok (.aload_n 0, 1) := by decide +kernel
theorem dX4_dispute_12 : decode cX4_dispute 12 = .ok (.iconst 1, 1) := by decide +kernel
theorem dX4_dispute_13 : decode cX4_dispute 13 = .ok (.putfield 59, 3) := by decide +kernel
theorem dX4_dispute_16 : decode cX4_dispute 16 = .ok (.aload_n 0, 1) := by decide +kernel
theorem dX4_dispute_17 : decode cX4_dispute 17 = .ok (.getfield 44, 3) := by decide +kernel
theorem dX4_dispute_20 : decode cX4_dispute 20 = .ok (.ifCond .lt 60, 3) := by decide +kernel
theorem dX4_dispute_23 : decode cX4_dispute 23 = .ok (.aload_n 0, 1) := by decide +kernel
theorem dX4_dispute_24 : decode cX4_dispute 24 = .ok (.getfield 44, 3) := by decide +kernel
theorem dX4_dispute_27 : decode cX4_dispute 27 = .ok (.aload_n 0, 1) := by decide +kernel
theorem dX4_dispute_28 : decode cX4_dispute 28 = .ok (.getfield 31, 3) := by decide +kernel
theorem dX4_dispute_31 : decode cX4_dispute 31 = .ok (.arraylength, 1) := by decide +kernel
theorem dX4_dispute_32 : decode cX4_dispute 32 = .ok (.if_icmp .ge 48, 3) := by decide +kernel
theorem dX4_dispute_35 : decode cX4_dispute 35 = .ok (.aload_n 0, 1) := by decide +kernel
theorem dX4_dispute_36 : decode cX4_dispute 36 = .ok (.getfield 28, 3) := by decide +kernel
theorem dX4_dispute_39 : decode cX4_dispute 39 = .ok (.aload_n 0, 1) := by decide +kernel
theorem dX4_dispute_40 : decode cX4_dispute 40 = .ok (.getfield 23, 3) := by decide +kernel
theorem dX4_dispute_43 : decode cX4_dispute 43 = .ok (.iconst 0, 1) := by decide +kernel
theorem dX4_dispute_44 : decode cX4_dispute 44 = .ok (.aload_n 0, 1) := by decide +kernel
theorem dX4_dispute_45 : decode cX4_dispute 45 = .ok (.getfield 23, 3) := by decide +kernel
theorem dX4_dispute_48 : decode cX4_dispute 48 = .ok (.invokevirtual 101, 3) := by decide +kernel
theorem dX4_dispute_51 : decode cX4_dispute 51 = .ok (.invokevirtual 55, 3) := by decide +kernel
theorem dX4_dispute_54 : decode cX4_dispute 54 = .ok (.aload_n 0, 1) := by decide +kernel
theorem dX4_dispute_55 : decode cX4_dispute 55 = .ok (.getfield 31, 3) := by decide +kernel
theorem dX4_dispute_58 : decode cX4_dispute 58 = .ok (.aload_n 0, 1) := by decide +kernel
theorem dX4_dispute_59 : decode cX4_dispute 59 = .ok (.getfield 44, 3) := by decide +kernel
theorem dX4_dispute_62 : decode cX4_dispute 62 = .ok (.aload_n 0, 1) := by decide +kernel
theorem dX4_dispute_63 : decode cX4_dispute 63 = .ok (.getfield 28, 3) := by decide +kernel
theorem dX4_dispute_66 : decode cX4_dispute 66 = .ok (.invokevirtual 101, 3) := by decide +kernel
theorem dX4_dispute_69 : decode cX4_dispute 69 = .ok (.iastore, 1) := by decide +kernel
theorem dX4_dispute_70 : decode cX4_dispute 70 = .ok (.aload_n 0, 1) := by decide +kernel
theorem dX4_dispute_71 : decode cX4_dispute 71 = .ok (.dup, 1) := by decide +kernel
theorem dX4_dispute_72 : decode cX4_dispute 72 = .ok (.getfield 44, 3) := by decide +kernel
theorem dX4_dispute_75 : decode cX4_dispute 75 = .ok (.iconst 1, 1) := by decide +kernel
theorem dX4_dispute_76 : decode cX4_dispute 76 = .ok (.iadd, 1) := by decide +kernel
theorem dX4_dispute_77 : decode cX4_dispute 77 = .ok (.putfield 44, 3) := by decide +kernel
theorem dX4_dispute_80 : decode cX4_dispute 80 = .ok (.return_, 1) := by decide +kernel
