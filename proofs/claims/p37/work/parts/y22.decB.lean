theorem dX0_init_0 : decode cX0_init 0 = .ok (.aload_n 0, 1) := by decide +kernel
theorem dX0_init_1 : decode cX0_init 1 = .ok (.invokespecial 3, 3) := by decide +kernel
theorem dX0_init_4 : decode cX0_init 4 = .ok (.aload_n 0, 1) := by decide +kernel
theorem dX0_init_5 : decode cX0_init 5 = .ok (.new 9, 3) := by decide +kernel
theorem dX0_init_8 : decode cX0_init 8 = .ok (.dup, 1) := by decide +kernel
theorem dX0_init_9 : decode cX0_init 9 = .ok (.invokespecial 11, 3) := by decide +kernel
theorem dX0_init_12 : decode cX0_init 12 = .ok (.putfield 12, 3) := by decide +kernel
theorem dX0_init_15 : decode cX0_init 15 = .ok (.aload_n 0, 1) := by decide +kernel
theorem dX0_init_16 : decode cX0_init 16 = .ok (.new 18, 3) := by decide +kernel
theorem dX0_init_19 : decode cX0_init 19 = .ok (.dup, 1) := by decide +kernel
theorem dX0_init_20 : decode cX0_init 20 = .ok (.bipush 40, 2) := by decide +kernel
theorem dX0_init_22 : decode cX0_init 22 = .ok (.invokespecial 20, 3) := by decide +kernel
theorem dX0_init_25 : decode cX0_init 25 = .ok (.putfield 23, 3) := by decide +kernel
theorem dX0_init_28 : decode cX0_init 28 = .ok (.aload_n 0, 1) := by decide +kernel
theorem dX0_init_29 : decode cX0_init 29 = .ok (.new 18, 3) := by decide +kernel
theorem dX0_init_32 : decode cX0_init 32 = .ok (.dup, 1) := by decide +kernel
theorem dX0_init_33 : decode cX0_init 33 = .ok (.bipush 24, 2) := by decide +kernel
theorem dX0_init_35 : decode cX0_init 35 = .ok (.invokespecial 20, 3) := by decide +kernel
theorem dX0_init_38 : decode cX0_init 38 = .ok (.putfield 27, 3) := by decide +kernel
theorem dX0_init_41 : decode cX0_init 41 = .ok (.aload_n 0, 1) := by decide +kernel
theorem dX0_init_42 : decode cX0_init 42 = .ok (.bipush 13, 2) := by decide +kernel
theorem dX0_init_44 : decode cX0_init 44 = .ok (.newarray .int, 2) := by decide +kernel
theorem dX0_init_46 : decode cX0_init 46 = .ok (.putfield 30, 3) := by decide +kernel
theorem dX0_init_49 : decode cX0_init 49 = .ok (.aload_n 0, 1) := by decide +kernel
theorem dX0_init_50 : decode cX0_init 50 = .ok (.bipush 13, 2) := by decide +kernel
theorem dX0_init_52 : decode cX0_init 52 = .ok (.newarray .int, 2) := by decide +kernel
theorem dX0_init_54 : decode cX0_init 54 = .ok (.putfield 34, 3) := by decide +kernel
theorem dX0_init_57 : decode cX0_init 57 = .ok (.aload_n 0, 1) := by decide +kernel
theorem dX0_init_58 : decode cX0_init 58 = .ok (.sipush 1000, 3) := by decide +kernel
theorem dX0_init_61 : decode cX0_init 61 = .ok (.newarray .int, 2) := by decide +kernel
theorem dX0_init_63 : decode cX0_init 63 = .ok (.putfield 37, 3) := by decide +kernel
theorem dX0_init_66 : decode cX0_init 66 = .ok (.aload_n 0, 1) := by decide +kernel
theorem dX0_init_67 : decode cX0_init 67 = .ok (.sipush 1000, 3) := by decide +kernel
theorem dX0_init_70 : decode cX0_init 70 = .ok (.newarray .int, 2) := by decide +kernel
theorem dX0_init_72 : decode cX0_init 72 = .ok (.putfield 40, 3) := by decide +kernel
theorem dX0_init_75 : decode cX0_init 75 = .ok (.aload_n 0, 1) := by decide +kernel
theorem dX0_init_76 : decode cX0_init 76 = .ok (.sipush 1000, 3) := by decide +kernel
theorem dX0_init_79 : decode cX0_init 79 = .ok (.newarray .int, 2) := by decide +kernel
theorem dX0_init_81 : decode cX0_init 81 = .ok (.putfield 43, 3) := by decide +kernel
theorem dX0_init_84 : decode cX0_init 84 = .ok (.aload_n 0, 1) := by decide +kernel
theorem dX0_init_85 : decode cX0_init 85 = .ok (.sipush 1000, 3) := by decide +kernel
theorem dX0_init_88 : decode cX0_init 88 = .ok (.newarray .int, 2) := by decide +kernel
theorem dX0_init_90 : decode cX0_init 90 = .ok (.putfield 46, 3) := by decide +kernel
theorem dX0_init_93 : decode cX0_init 93 = .ok (.aload_n 0, 1) := by decide +kernel
theorem dX0_init_94 : decode cX0_init 94 = .ok (.aload_n 0, 1) := by decide +kernel
theorem dX0_init_95 : decode cX0_init 95 = .ok (.getfield 12, 3) := by decide +kernel
theorem dX0_init_98 : decode cX0_init 98 = .ok (.putfield 49, 3) := by decide +kernel
theorem dX0_init_101 : decode cX0_init 101 = .ok (.aload_n 0, 1) := by decide +kernel
theorem dX0_init_102 : decode cX0_init 102 = .ok (.aload_n 0, 1) := by decide +kernel
theorem dX0_init_103 : decode cX0_init 103 = .ok (.getfield 12, 3) := by decide +kernel
theorem dX0_init_106 : decode cX0_init 106 = .ok (.putfield 52, 3) := by decide +kernel
theorem dX0_init_109 : decode cX0_init 109 = .ok (.return_, 1) := by decide +kernel
theorem dX0_count_0 : decode cX0_count 0 = .ok (.aload_n 0, 1) := by decide +kernel
theorem dX0_count_1 : decode cX0_count 1 = .ok (.getfield 55, 3) := by decide +kernel
theorem dX0_count_4 : decode cX0_count 4 = .ok (.ireturn, 1) := by decide +kernel
theorem dX0_agrees_0 : decode cX0_agrees 0 = .ok (.aload_n 0, 1) := by decide +kernel
theorem dX0_agrees_1 : decode cX0_agrees 1 = .ok (.aload_n 1, 1) := by decide +kernel
theorem dX0_agrees_2 : decode cX0_agrees 2 = .ok (.aload_n 2, 1) := by decide +kernel
theorem dX0_agrees_3 : decode cX0_agrees 3 = .ok (.ldc 59, 2) := by decide +kernel
theorem dX0_agrees_5 : decode cX0_agrees 5 = .ok (.invokevirtual 60, 3) := by decide +kernel
theorem dX0_agrees_8 : decode cX0_agrees 8 = .ok (.aload_n 0, 1) := by decide +kernel
theorem dX0_agrees_9 : decode cX0_agrees 9 = .ok (.iconst 0, 1) := by decide +kernel
theorem dX0_agrees_10 : decode cX0_agrees 10 = .ok (.iconst 0, 1) := by decide +kernel
theorem dX0_agrees_11 : decode cX0_agrees 11 = .ok (.iconst 1, 1) := by decide +kernel
theorem dX0_agrees_12 : decode cX0_agrees 12 = .ok (.iconst 0, 1) := by decide +kernel
theorem dX0_agrees_13 : decode cX0_agrees 13 = .ok (.invokevirtual 64, 3) := by decide +kernel
theorem dX0_agrees_16 : decode cX0_agrees 16 = .ok (.ifCond .eq 14, 3) := by decide +kernel
theorem dX0_agrees_19 : decode cX0_agrees 19 = .ok (.aload_n 0, 1) := by decide +kernel
theorem dX0_agrees_20 : decode cX0_agrees 20 = .ok (.getfield 68, 3) := by decide +kernel
theorem dX0_agrees_23 : decode cX0_agrees 23 = .ok (.ifCond .ne 7, 3) := by decide +kernel
theorem dX0_agrees_26 : decode cX0_agrees 26 = .ok (.iconst 1, 1) := by decide +kernel
theorem dX0_agrees_27 : decode cX0_agrees 27 = .ok (.goto 4, 3) := by decide +kernel
theorem dX0_agrees_30 : decode cX0_agrees 30 = .ok (.iconst 0, 1) := by decide +kernel
theorem dX0_agrees_31 : decode cX0_agrees 31 = .ok (.ireturn, 1) := by decide +kernel
theorem dX0_examine_0 : decode cX0_examine 0 = .ok (.aload_n 0, 1) := by decide +kernel
theorem dX0_examine_1 : decode cX0_examine 1 = .ok (.aload_n 1, 1) := by decide +kernel
theorem dX0_examine_2 : decode cX0_examine 2 = .ok (.aload_n 2, 1) := by decide +kernel
theorem dX0_examine_3 : decode cX0_examine 3 = .ok (.sipush 2000, 3) := by decide +kernel
theorem dX0_examine_6 : decode cX0_examine 6 = .ok (.invokevirtual 60, 3) := by decide +kernel
theorem dX0_examine_9 : decode cX0_examine 9 = .ok (.aload_n 0, 1) := by decide +kernel
theorem dX0_examine_10 : decode cX0_examine 10 = .ok (.iconst 0, 1) := by decide +kernel
theorem dX0_examine_11 : decode cX0_examine 11 = .ok (.iconst 0, 1) := by decide +kernel
theorem dX0_examine_12 : decode cX0_examine 12 = .ok (.iconst 0, 1) := by decide +kernel
theorem dX0_examine_13 : decode cX0_examine 13 = .ok (.iconst 0, 1) := by decide +kernel
theorem dX0_examine_14 : decode cX0_examine 14 = .ok (.invokevirtual 64, 3) := by decide +kernel
theorem dX0_examine_17 : decode cX0_examine 17 = .ok (.pop, 1) := by decide +kernel
theorem dX0_examine_18 : decode cX0_examine 18 = .ok (.iconst 0, 1) := by decide +kernel
theorem dX0_examine_19 : decode cX0_examine 19 = .ok (.istore_n 3, 1) := by decide +kernel
theorem dX0_examine_20 : decode cX0_examine 20 = .ok (.iload_n 3, 1) := by decide +kernel
theorem dX0_examine_21 : decode cX0_examine 21 = .ok (.aload_n 0, 1) := by decide +kernel
theorem dX0_examine_22 : decode cX0_examine 22 = .ok (.getfield 72, 3) := by decide +kernel
theorem dX0_examine_25 : decode cX0_examine 25 = .ok (.if_icmp .ge 54, 3) := by decide +kernel
theorem dX0_examine_28 : decode cX0_examine 28 = .ok (.iload_n 3, 1) := by decide +kernel
theorem dX0_examine_29 : decode cX0_examine 29 = .ok (.sipush 1000, 3) := by decide +kernel
theorem dX0_examine_32 : decode cX0_examine 32 = .ok (.if_icmp .ge 47, 3) := by decide +kernel
theorem dX0_examine_35 : decode cX0_examine 35 = .ok (.aload_n 0, 1) := by decide +kernel
theorem dX0_examine_36 : decode cX0_examine 36 = .ok (.getfield 68, 3) := by decide +kernel
theorem dX0_examine_39 : decode cX0_examine 39 = .ok (.ifCond .ne 40, 3) := by decide +kernel
theorem dX0_examine_42 : decode cX0_examine 42 = .ok (.aload_n 0, 1) := by decide +kernel
theorem dX0_examine_43 : decode cX0_examine 43 = .ok (.getfield 43, 3) := by decide +kernel
theorem dX0_examine_46 : decode cX0_examine 46 = .ok (.iload_n 3, 1) := by decide +kernel
theorem dX0_examine_47 : decode cX0_examine 47 = .ok (.aload_n 0, 1) := by decide +kernel
theorem dX0_examine_48 : decode cX0_examine 48 = .ok (.getfield 37, 3) := by decide +kernel
theorem dX0_examine_51 : decode cX0_examine 51 = .ok (.iload_n 3, 1) := by decide +kernel
theorem dX0_examine_52 : decode cX0_examine 52 = .ok (.iaload, 1) := by decide +kernel
theorem dX0_examine_53 : decode cX0_examine 53 = .ok (.iastore, 1) := by decide +kernel
theorem dX0_examine_54 : decode cX0_examine 54 = .ok (.aload_n 0, 1) := by decide +kernel
theorem dX0_examine_55 : decode cX0_examine 55 = .ok (.getfield 46, 3) := by decide +kernel
theorem dX0_examine_58 : decode cX0_examine 58 = .ok (.iload_n 3, 1) := by decide +kernel
theorem dX0_examine_59 : decode cX0_examine 59 = .ok (.aload_n 0, 1) := by decide +kernel
theorem dX0_examine_60 : decode cX0_examine 60 = .ok (.getfield 40, 3) := by decide +kernel
theorem dX0_examine_63 : decode cX0_examine 63 = .ok (.iload_n 3, 1) := by decide +kernel
theorem dX0_examine_64 : decode cX0_examine 64 = .ok (.iaload, 1) := by decide +kernel
theorem dX0_examine_65 : decode cX0_examine 65 = .ok (.iastore, 1) := by decide +kernel
theorem dX0_examine_66 : decode cX0_examine 66 = .ok (.aload_n 0, 1) := by decide +kernel
theorem dX0_examine_67 : decode cX0_examine 67 = .ok (.iload_n 3, 1) := by decide +kernel
theorem dX0_examine_68 : decode cX0_examine 68 = .ok (.iconst 1, 1) := by decide +kernel
theorem dX0_examine_69 : decode cX0_examine 69 = .ok (.iadd, 1) := by decide +kernel
theorem dX0_examine_70 : decode cX0_examine 70 = .ok (.putfield 55, 3) := by decide +kernel
theorem dX0_examine_73 : decode cX0_examine 73 = .ok (.iinc 3 1, 3) := by decide +kernel
theorem dX0_examine_76 : decode cX0_examine 76 = .ok (.goto (-56), 3) := by decide +kernel
theorem dX0_examine_79 : decode cX0_examine 79 = .ok (.aload_n 0, 1) := by decide +kernel
theorem dX0_examine_80 : decode cX0_examine 80 = .ok (.getfield 72, 3) := by decide +kernel
theorem dX0_examine_83 : decode cX0_examine 83 = .ok (.ifCond .ne 15, 3) := by decide +kernel
theorem dX0_examine_86 : decode cX0_examine 86 = .ok (.aload_n 0, 1) := by decide +kernel
theorem dX0_examine_87 : decode cX0_examine 87 = .ok (.getfield 68, 3) := by decide +kernel
theorem dX0_examine_90 : decode cX0_examine 90 = .ok (.ifCond .ne 8, 3) := by decide +kernel
theorem dX0_examine_93 : decode cX0_examine 93 = .ok (.aload_n 0, 1) := by decide +kernel
theorem dX0_examine_94 : decode cX0_examine 94 = .ok (.iconst 0, 1) := by decide +kernel
theorem dX0_examine_95 : decode cX0_examine 95 = .ok (.putfield 55, 3) := by decide +kernel
theorem dX0_examine_98 : decode cX0_examine 98 = .ok (.aload_n 0, 1) := by decide +kernel
theorem dX0_examine_99 : decode cX0_examine 99 = .ok (.getfield 68, 3) := by decide +kernel
theorem dX0_examine_102 : decode cX0_examine 102 = .ok (.ifCond .ne 7, 3) := by decide +kernel
theorem dX0_examine_105 : decode cX0_examine 105 = .ok (.iconst 1, 1) := by decide +kernel
theorem dX0_examine_106 : decode cX0_examine 106 = .ok (.goto 4, 3) := by decide +kernel
theorem dX0_examine_109 : decode cX0_examine 109 = .ok (.iconst 0, 1) := by decide +kernel
theorem dX0_examine_110 : decode cX0_examine 110 = .ok (.ireturn, 1) := by decide +kernel
theorem dX0_begin_0 : decode cX0_begin 0 = .ok (.aload_n 0, 1) := by decide +kernel
theorem dX0_begin_1 : decode cX0_begin 1 = .ok (.aload_n 1, 1) := by decide +kernel
theorem dX0_begin_2 : decode cX0_begin 2 = .ok (.putfield 49, 3) := by decide +kernel
theorem dX0_begin_5 : decode cX0_begin 5 = .ok (.aload_n 0, 1) := by decide +kernel
theorem dX0_begin_6 : decode cX0_begin 6 = .ok (.aload_n 2, 1) := by decide +kernel
theorem dX0_begin_7 : decode cX0_begin 7 = .ok (.putfield 52, 3) := by decide +kernel
theorem dX0_begin_10 : decode cX0_begin 10 = .ok (.aload_n 0, 1) := by decide +kernel
theorem dX0_begin_11 : decode cX0_begin 11 = .ok (.iload_n 3, 1) := by decide +kernel
theorem dX0_begin_12 : decode cX0_begin 12 = .ok (.putfield 75, 3) := by decide +kernel
theorem dX0_begin_15 : decode cX0_begin 15 = .ok (.aload_n 0, 1) := by decide +kernel
theorem dX0_begin_16 : decode cX0_begin 16 = .ok (.iconst 0, 1) := by decide +kernel
theorem dX0_begin_17 : decode cX0_begin 17 = .ok (.putfield 78, 3) := by decide +kernel
theorem dX0_begin_20 : decode cX0_begin 20 = .ok (.aload_n 0, 1) := by decide +kernel
theorem dX0_begin_21 : decode cX0_begin 21 = .ok (.iconst 0, 1) := by decide +kernel
theorem dX0_begin_22 : decode cX0_begin 22 = .ok (.putfield 81, 3) := by decide +kernel
theorem dX0_begin_25 : decode cX0_begin 25 = .ok (.aload_n 0, 1) := by decide +kernel
theorem dX0_begin_26 : decode cX0_begin 26 = .ok (.iconst 0, 1) := by decide +kernel
theorem dX0_begin_27 : decode cX0_begin 27 = .ok (.putfield 72, 3) := by decide +kernel
theorem dX0_begin_30 : decode cX0_begin 30 = .ok (.aload_n 0, 1) := by decide +kernel
theorem dX0_begin_31 : decode cX0_begin 31 = .ok (.iconst 0, 1) := by decide +kernel
theorem dX0_begin_32 : decode cX0_begin 32 = .ok (.putfield 68, 3) := by decide +kernel
theorem dX0_begin_35 : decode cX0_begin 35 = .ok (.return_, 1) := by decide +kernel
theorem dX0_complain_0 : decode cX0_complain 0 = .ok (.iload_n 3, 1) := by decide +kernel
theorem dX0_complain_1 : decode cX0_complain 1 = .ok (.ifCond .eq 4, 3) := by decide +kernel
theorem dX0_complain_4 : decode cX0_complain 4 = .ok (.return_, 1) := by decide +kernel
theorem dX0_complain_5 : decode cX0_complain 5 = .ok (.aload_n 0, 1) := by decide +kernel
theorem dX0_complain_6 : decode cX0_complain 6 = .ok (.getfield 72, 3) := by decide +kernel
theorem dX0_complain_9 : decode cX0_complain 9 = .ok (.ifCond .lt 13, 3) := by decide +kernel
theorem dX0_complain_12 : decode cX0_complain 12 = .ok (.aload_n 0, 1) := by decide +kernel
theorem dX0_complain_13 : decode cX0_complain 13 = .ok (.getfield 72, 3) := by decide +kernel
theorem dX0_complain_16 : decode cX0_complain 16 = .ok (.sipush 1000, 3) := by decide +kernel
theorem dX0_complain_19 : decode cX0_complain 19 = .ok (.if_icmp .lt 9, 3) := by decide +kernel
theorem dX0_complain_22 : decode cX0_complain 22 = .ok (.aload_n 0, 1) := by decide +kernel
theorem dX0_complain_23 : decode cX0_complain 23 = .ok (.iconst 1, 1) := by decide +kernel
theorem dX0_complain_24 : decode cX0_complain 24 = .ok (.putfield 68, 3) := by decide +kernel
theorem dX0_complain_27 : decode cX0_complain 27 = .ok (.return_, 1) := by decide +kernel
theorem dX0_complain_28 : decode cX0_complain 28 = .ok (.aload_n 0, 1) := by decide +kernel
theorem dX0_complain_29 : decode cX0_complain 29 = .ok (.getfield 37, 3) := by decide +kernel
theorem dX0_complain_32 : decode cX0_complain 32 = .ok (.aload_n 0, 1) := by decide +kernel
theorem dX0_complain_33 : decode cX0_complain 33 = .ok (.getfield 72, 3) := by decide +kernel
theorem dX0_complain_36 : decode cX0_complain 36 = .ok (.iload_n 1, 1) := by decide +kernel
theorem dX0_complain_37 : decode cX0_complain 37 = .ok (.iastore, 1) := by decide +kernel
theorem dX0_complain_38 : decode cX0_complain 38 = .ok (.aload_n 0, 1) := by decide +kernel
theorem dX0_complain_39 : decode cX0_complain 39 = .ok (.getfield 40, 3) := by decide +kernel
theorem dX0_complain_42 : decode cX0_complain 42 = .ok (.aload_n 0, 1) := by decide +kernel
theorem dX0_complain_43 : decode cX0_complain 43 = .ok (.getfield 72, 3) := by decide +kernel
theorem dX0_complain_46 : decode cX0_complain 46 = .ok (.iload_n 2, 1) := by decide +kernel
theorem dX0_complain_47 : decode cX0_complain 47 = .ok (.iastore, 1) := by decide +kernel
theorem dX0_complain_48 : decode cX0_complain 48 = .ok (.aload_n 0, 1) := by decide +kernel
theorem dX0_complain_49 : decode cX0_complain 49 = .ok (.dup, 1) := by decide +kernel
theorem dX0_complain_50 : decode cX0_complain 50 = .ok (.getfield 72, 3) := by decide +kernel
theorem dX0_complain_53 : decode cX0_complain 53 = .ok (.iconst 1, 1) := by decide +kernel
theorem dX0_complain_54 : decode cX0_complain 54 = .ok (.iadd, 1) := by decide +kernel
theorem dX0_complain_55 : decode cX0_complain 55 = .ok (.putfield 72, 3) := by decide +kernel
theorem dX0_complain_58 : decode cX0_complain 58 = .ok (.return_, 1) := by decide +kernel
theorem dX0_wordOf_0 : decode cX0_wordOf 0 = .ok (.iload_n 0, 1) := by decide +kernel
theorem dX0_wordOf_1 : decode cX0_wordOf 1 = .ok (.tableswitch 113 1 14 #[71, 74, 77, 80, 83, 86, 89, 92, 95, 98, 101, 104, 107, 110], 71) := by decide +kernel
theorem dX0_wordOf_72 : decode cX0_wordOf 72 = .ok (.ldc 84, 2) := by decide +kernel
theorem dX0_wordOf_74 : decode cX0_wordOf 74 = .ok (.areturn, 1) := by decide +kernel
theorem dX0_wordOf_75 : decode cX0_wordOf 75 = .ok (.ldc 86, 2) := by decide +kernel
theorem dX0_wordOf_77 : decode cX0_wordOf 77 = .ok (.areturn, 1) := by decide +kernel
theorem dX0_wordOf_78 : decode cX0_wordOf 78 = .ok (.ldc 88, 2) := by decide +kernel
theorem dX0_wordOf_80 : decode cX0_wordOf 80 = .ok (.areturn, 1) := by decide +kernel
theorem dX0_wordOf_81 : decode cX0_wordOf 81 = .ok (.ldc 90, 2) := by decide +kernel
theorem dX0_wordOf_83 : decode cX0_wordOf 83 = .ok (.areturn, 1) := by decide +kernel
theorem dX0_wordOf_84 : decode cX0_wordOf 84 = .ok (.ldc 92, 2) := by decide +kernel
theorem dX0_wordOf_86 : decode cX0_wordOf 86 = .ok (.areturn, 1) := by decide +kernel
theorem dX0_wordOf_87 : decode cX0_wordOf 87 = .ok (.ldc 94, 2) := by decide +kernel
theorem dX0_wordOf_89 : decode cX0_wordOf 89 = .ok (.areturn, 1) := by decide +kernel
theorem dX0_wordOf_90 : decode cX0_wordOf 90 = .ok (.ldc 96, 2) := by decide +kernel
theorem dX0_wordOf_92 : decode cX0_wordOf 92 = .ok (.areturn, 1) := by decide +kernel
theorem dX0_wordOf_93 : decode cX0_wordOf 93 = .ok (.ldc 98, 2) := by decide +kernel
theorem dX0_wordOf_95 : decode cX0_wordOf 95 = .ok (.areturn, 1) := by decide +kernel
theorem dX0_wordOf_96 : decode cX0_wordOf 96 = .ok (.ldc 100, 2) := by decide +kernel
theorem dX0_wordOf_98 : decode cX0_wordOf 98 = .ok (.areturn, 1) := by decide +kernel
theorem dX0_wordOf_99 : decode cX0_wordOf 99 = .ok (.ldc 102, 2) := by decide +kernel
theorem dX0_wordOf_101 : decode cX0_wordOf 101 = .ok (.areturn, 1) := by decide +kernel
theorem dX0_wordOf_102 : decode cX0_wordOf 102 = .ok (.ldc 104, 2) := by decide +kernel
theorem dX0_wordOf_104 : decode cX0_wordOf 104 = .ok (.areturn, 1) := by decide +kernel
theorem dX0_wordOf_105 : decode cX0_wordOf 105 = .ok (.ldc 106, 2) := by decide +kernel
theorem dX0_wordOf_107 : decode cX0_wordOf 107 = .ok (.areturn, 1) := by decide +kernel
theorem dX0_wordOf_108 : decode cX0_wordOf 108 = .ok (.ldc 108, 2) := by decide +kernel
theorem dX0_wordOf_110 : decode cX0_wordOf 110 = .ok (.areturn, 1) := by decide +kernel
theorem dX0_wordOf_111 : decode cX0_wordOf 111 = .ok (.ldc 110, 2) := by decide +kernel
theorem dX0_wordOf_113 : decode cX0_wordOf 113 = .ok (.areturn, 1) := by decide +kernel
theorem dX0_wordOf_114 : decode cX0_wordOf 114 = .ok (.ldc 112, 2) := by decide +kernel
theorem dX0_wordOf_116 : decode cX0_wordOf 116 = .ok (.areturn, 1) := by decide +kernel
theorem dX0_kindOf_0 : decode cX0_kindOf 0 = .ok (.iload_n 0, 1) := by decide +kernel
theorem dX0_kindOf_1 : decode cX0_kindOf 1 = .ok (.tableswitch 50 0 4 #[35, 38, 41, 44, 47], 35) := by decide +kernel
theorem dX0_kindOf_36 : decode cX0_kindOf 36 = .ok (.ldc 114, 2) := by decide +kernel
theorem dX0_kindOf_38 : decode cX0_kindOf 38 = .ok (.areturn, 1) := by decide +kernel
theorem dX0_kindOf_39 : decode cX0_kindOf 39 = .ok (.ldc 116, 2) := by decide +kernel
theorem dX0_kindOf_41 : decode cX0_kindOf 41 = .ok (.areturn, 1) := by decide +kernel
theorem dX0_kindOf_42 : decode cX0_kindOf 42 = .ok (.ldc 118, 2) := by decide +kernel
theorem dX0_kindOf_44 : decode cX0_kindOf 44 = .ok (.areturn, 1) := by decide +kernel
theorem dX0_kindOf_45 : decode cX0_kindOf 45 = .ok (.ldc 120, 2) := by decide +kernel
theorem dX0_kindOf_47 : decode cX0_kindOf 47 = .ok (.areturn, 1) := by decide +kernel
theorem dX0_kindOf_48 : decode cX0_kindOf 48 = .ok (.ldc 122, 2) := by decide +kernel
theorem dX0_kindOf_50 : decode cX0_kindOf 50 = .ok (.areturn, 1) := by decide +kernel
theorem dX0_kindOf_51 : decode cX0_kindOf 51 = .ok (.ldc 124, 2) := by decide +kernel
theorem dX0_kindOf_53 : decode cX0_kindOf 53 = .ok (.areturn, 1) := by decide +kernel
theorem dX0_ask_0 : decode cX0_ask 0 = .ok (.aload_n 0, 1) := by decide +kernel
theorem dX0_ask_1 : decode cX0_ask 1 = .ok (.dup, 1) := by decide +kernel
theorem dX0_ask_2 : decode cX0_ask 2 = .ok (.getfield 78, 3) := by decide +kernel
theorem dX0_ask_5 : decode cX0_ask 5 = .ok (.iconst 1, 1) := by decide +kernel
theorem dX0_ask_6 : decode cX0_ask 6 = .ok (.iadd, 1) := by decide +kernel
theorem dX0_ask_7 : decode cX0_ask 7 = .ok (.putfield 78, 3) := by decide +kernel
theorem dX0_ask_10 : decode cX0_ask 10 = .ok (.aload_n 0, 1) := by decide +kernel
theorem dX0_ask_11 : decode cX0_ask 11 = .ok (.aload_n 0, 1) := by decide +kernel
theorem dX0_ask_12 : decode cX0_ask 12 = .ok (.getfield 68, 3) := by decide +kernel
theorem dX0_ask_15 : decode cX0_ask 15 = .ok (.ifCond .ne 22, 3) := by decide +kernel
theorem dX0_ask_18 : decode cX0_ask 18 = .ok (.aload_n 0, 1) := by decide +kernel
theorem dX0_ask_19 : decode cX0_ask 19 = .ok (.getfield 78, 3) := by decide +kernel
theorem dX0_ask_22 : decode cX0_ask 22 = .ok (.aload_n 0, 1) := by decide +kernel
theorem dX0_ask_23 : decode cX0_ask 23 = .ok (.getfield 75, 3) := by decide +kernel
theorem dX0_ask_26 : decode cX0_ask 26 = .ok (.if_icmp .gt 11, 3) := by decide +kernel
theorem dX0_ask_29 : decode cX0_ask 29 = .ok (.iload 4, 2) := by decide +kernel
theorem dX0_ask_31 : decode cX0_ask 31 = .ok (.sipush 150, 3) := by decide +kernel
theorem dX0_ask_34 : decode cX0_ask 34 = .ok (.if_icmp .le 7, 3) := by decide +kernel
theorem dX0_ask_37 : decode cX0_ask 37 = .ok (.iconst 1, 1) := by decide +kernel
theorem dX0_ask_38 : decode cX0_ask 38 = .ok (.goto 4, 3) := by decide +kernel
theorem dX0_ask_41 : decode cX0_ask 41 = .ok (.iconst 0, 1) := by decide +kernel
theorem dX0_ask_42 : decode cX0_ask 42 = .ok (.putfield 68, 3) := by decide +kernel
theorem dX0_ask_45 : decode cX0_ask 45 = .ok (.aload_n 0, 1) := by decide +kernel
theorem dX0_ask_46 : decode cX0_ask 46 = .ok (.getfield 68, 3) := by decide +kernel
theorem dX0_ask_49 : decode cX0_ask 49 = .ok (.ifCond .eq 5, 3) := by decide +kernel
theorem dX0_ask_52 : decode cX0_ask 52 = .ok (.iconst 0, 1) := by decide +kernel
theorem dX0_ask_53 : decode cX0_ask 53 = .ok (.ireturn, 1) := by decide +kernel
theorem dX0_ask_54 : decode cX0_ask 54 = .ok (.aload_n 0, 1) := by decide +kernel
theorem dX0_ask_55 : decode cX0_ask 55 = .ok (.getfield 49, 3) := by decide +kernel
theorem dX0_ask_58 : decode cX0_ask 58 = .ok (.iload_n 1, 1) := by decide +kernel
theorem dX0_ask_59 : decode cX0_ask 59 = .ok (.iconst 5, 1) := by decide +kernel
theorem dX0_ask_60 : decode cX0_ask 60 = .ok (.invokevirtual 126, 3) := by decide +kernel
theorem dX0_ask_63 : decode cX0_ask 63 = .ok (.ifCond .ne 28, 3) := by decide +kernel
theorem dX0_ask_66 : decode cX0_ask 66 = .ok (.aload_n 0, 1) := by decide +kernel
theorem dX0_ask_67 : decode cX0_ask 67 = .ok (.getfield 49, 3) := by decide +kernel
theorem dX0_ask_70 : decode cX0_ask 70 = .ok (.iload_n 1, 1) := by decide +kernel
theorem dX0_ask_71 : decode cX0_ask 71 = .ok (.invokevirtual 130, 3) := by decide +kernel
theorem dX0_ask_74 : decode cX0_ask 74 = .ok (.istore 5, 2) := by decide +kernel
theorem dX0_ask_76 : decode cX0_ask 76 = .ok (.iload 5, 2) := by decide +kernel
theorem dX0_ask_78 : decode cX0_ask 78 = .ok (.ifCond .ne 10, 3) := by decide +kernel
theorem dX0_ask_81 : decode cX0_ask 81 = .ok (.aload_n 0, 1) := by decide +kernel
theorem dX0_ask_82 : decode cX0_ask 82 = .ok (.iload_n 2, 1) := by decide +kernel
theorem dX0_ask_83 : decode cX0_ask 83 = .ok (.iconst 0, 1) := by decide +kernel
theorem dX0_ask_84 : decode cX0_ask 84 = .ok (.iload_n 3, 1) := by decide +kernel
theorem dX0_ask_85 : decode cX0_ask 85 = .ok (.invokevirtual 134, 3) := by decide +kernel
theorem dX0_ask_88 : decode cX0_ask 88 = .ok (.iload 5, 2) := by decide +kernel
theorem dX0_ask_90 : decode cX0_ask 90 = .ok (.ireturn, 1) := by decide +kernel
theorem dX0_ask_91 : decode cX0_ask 91 = .ok (.iconst 1, 1) := by decide +kernel
theorem dX0_ask_92 : decode cX0_ask 92 = .ok (.istore 5, 2) := by decide +kernel
theorem dX0_ask_94 : decode cX0_ask 94 = .ok (.iconst 1, 1) := by decide +kernel
theorem dX0_ask_95 : decode cX0_ask 95 = .ok (.istore 6, 2) := by decide +kernel
theorem dX0_ask_97 : decode cX0_ask 97 = .ok (.iload 6, 2) := by decide +kernel
theorem dX0_ask_99 : decode cX0_ask 99 = .ok (.bipush 15, 2) := by decide +kernel
theorem dX0_ask_101 : decode cX0_ask 101 = .ok (.if_icmp .gt 284, 3) := by decide +kernel
theorem dX0_ask_104 : decode cX0_ask 104 = .ok (.aload_n 0, 1) := by decide +kernel
theorem dX0_ask_105 : decode cX0_ask 105 = .ok (.getfield 49, 3) := by decide +kernel
theorem dX0_ask_108 : decode cX0_ask 108 = .ok (.iload_n 1, 1) := by decide +kernel
theorem dX0_ask_109 : decode cX0_ask 109 = .ok (.iload 6, 2) := by decide +kernel
theorem dX0_ask_111 : decode cX0_ask 111 = .ok (.invokestatic 138, 3) := by decide +kernel
theorem dX0_ask_114 : decode cX0_ask 114 = .ok (.invokevirtual 142, 3) := by decide +kernel
theorem dX0_ask_117 : decode cX0_ask 117 = .ok (.istore 7, 2) := by decide +kernel
theorem dX0_ask_119 : decode cX0_ask 119 = .ok (.iload 7, 2) := by decide +kernel
theorem dX0_ask_121 : decode cX0_ask 121 = .ok (.iconst (-1), 1) := by decide +kernel
theorem dX0_ask_122 : decode cX0_ask 122 = .ok (.if_icmp .eq 45, 3) := by decide +kernel
theorem dX0_ask_125 : decode cX0_ask 125 = .ok (.iload 6, 2) := by decide +kernel
theorem dX0_ask_127 : decode cX0_ask 127 = .ok (.bipush 6, 2) := by decide +kernel
theorem dX0_ask_129 : decode cX0_ask 129 = .ok (.if_icmp .le 10, 3) := by decide +kernel
theorem dX0_ask_132 : decode cX0_ask 132 = .ok (.iload 6, 2) := by decide +kernel
theorem dX0_ask_134 : decode cX0_ask 134 = .ok (.bipush 10, 2) := by decide +kernel
theorem dX0_ask_136 : decode cX0_ask 136 = .ok (.if_icmp .ne 31, 3) := by decide +kernel
theorem dX0_ask_139 : decode cX0_ask 139 = .ok (.aload_n 0, 1) := by decide +kernel
theorem dX0_ask_140 : decode cX0_ask 140 = .ok (.iload 6, 2) := by decide +kernel
theorem dX0_ask_142 : decode cX0_ask 142 = .ok (.iload 7, 2) := by decide +kernel
theorem dX0_ask_144 : decode cX0_ask 144 = .ok (.iload_n 2, 1) := by decide +kernel
theorem dX0_ask_145 : decode cX0_ask 145 = .ok (.iload_n 3, 1) := by decide +kernel
theorem dX0_ask_146 : decode cX0_ask 146 = .ok (.invokevirtual 146, 3) := by decide +kernel
theorem dX0_ask_149 : decode cX0_ask 149 = .ok (.ifCond .eq 12, 3) := by decide +kernel
theorem dX0_ask_152 : decode cX0_ask 152 = .ok (.iload 5, 2) := by decide +kernel
theorem dX0_ask_154 : decode cX0_ask 154 = .ok (.ifCond .eq 7, 3) := by decide +kernel
theorem dX0_ask_157 : decode cX0_ask 157 = .ok (.iconst 1, 1) := by decide +kernel
theorem dX0_ask_158 : decode cX0_ask 158 = .ok (.goto 4, 3) := by decide +kernel
theorem dX0_ask_161 : decode cX0_ask 161 = .ok (.iconst 0, 1) := by decide +kernel
theorem dX0_ask_162 : decode cX0_ask 162 = .ok (.istore 5, 2) := by decide +kernel
theorem dX0_ask_164 : decode cX0_ask 164 = .ok (.goto 215, 3) := by decide +kernel
theorem dX0_ask_167 : decode cX0_ask 167 = .ok (.iload 7, 2) := by decide +kernel
theorem dX0_ask_169 : decode cX0_ask 169 = .ok (.iconst (-1), 1) := by decide +kernel
theorem dX0_ask_170 : decode cX0_ask 170 = .ok (.if_icmp .eq 209, 3) := by decide +kernel
theorem dX0_ask_173 : decode cX0_ask 173 = .ok (.iconst 0, 1) := by decide +kernel
theorem dX0_ask_174 : decode cX0_ask 174 = .ok (.istore 8, 2) := by decide +kernel
theorem dX0_ask_176 : decode cX0_ask 176 = .ok (.iconst 0, 1) := by decide +kernel
theorem dX0_ask_177 : decode cX0_ask 177 = .ok (.istore 9, 2) := by decide +kernel
theorem dX0_ask_179 : decode cX0_ask 179 = .ok (.aload_n 0, 1) := by decide +kernel
theorem dX0_ask_180 : decode cX0_ask 180 = .ok (.iload 6, 2) := by decide +kernel
theorem dX0_ask_182 : decode cX0_ask 182 = .ok (.iload 7, 2) := by decide +kernel
theorem dX0_ask_184 : decode cX0_ask 184 = .ok (.iload_n 2, 1) := by decide +kernel
theorem dX0_ask_185 : decode cX0_ask 185 = .ok (.invokevirtual 150, 3) := by decide +kernel
theorem dX0_ask_188 : decode cX0_ask 188 = .ok (.istore 10, 2) := by decide +kernel
theorem dX0_ask_190 : decode cX0_ask 190 = .ok (.iconst 0, 1) := by decide +kernel
theorem dX0_ask_191 : decode cX0_ask 191 = .ok (.istore 11, 2) := by decide +kernel
theorem dX0_ask_193 : decode cX0_ask 193 = .ok (.iload 11, 2) := by decide +kernel
theorem dX0_ask_195 : decode cX0_ask 195 = .ok (.bipush 100, 2) := by decide +kernel
theorem dX0_ask_197 : decode cX0_ask 197 = .ok (.if_icmp .ge 134, 3) := by decide +kernel
theorem dX0_ask_200 : decode cX0_ask 200 = .ok (.iload 10, 2) := by decide +kernel
theorem dX0_ask_202 : decode cX0_ask 202 = .ok (.ifCond .lt 129, 3) := by decide +kernel
theorem dX0_ask_205 : decode cX0_ask 205 = .ok (.aload_n 0, 1) := by decide +kernel
theorem dX0_ask_206 : decode cX0_ask 206 = .ok (.getfield 68, 3) := by decide +kernel
theorem dX0_ask_209 : decode cX0_ask 209 = .ok (.ifCond .ne 122, 3) := by decide +kernel
theorem dX0_ask_212 : decode cX0_ask 212 = .ok (.aload_n 0, 1) := by decide +kernel
theorem dX0_ask_213 : decode cX0_ask 213 = .ok (.iload 6, 2) := by decide +kernel
theorem dX0_ask_215 : decode cX0_ask 215 = .ok (.iload_n 1, 1) := by decide +kernel
theorem dX0_ask_216 : decode cX0_ask 216 = .ok (.iload 7, 2) := by decide +kernel
theorem dX0_ask_218 : decode cX0_ask 218 = .ok (.iload 10, 2) := by decide +kernel
theorem dX0_ask_220 : decode cX0_ask 220 = .ok (.invokevirtual 154, 3) := by decide +kernel
theorem dX0_ask_223 : decode cX0_ask 223 = .ok (.istore 12, 2) := by decide +kernel
theorem dX0_ask_225 : decode cX0_ask 225 = .ok (.iload_n 3, 1) := by decide +kernel
theorem dX0_ask_226 : decode cX0_ask 226 = .ok (.ifCond .ne 17, 3) := by decide +kernel
theorem dX0_ask_229 : decode cX0_ask 229 = .ok (.iload 6, 2) := by decide +kernel
theorem dX0_ask_231 : decode cX0_ask 231 = .ok (.bipush 12, 2) := by decide +kernel
theorem dX0_ask_233 : decode cX0_ask 233 = .ok (.if_icmp .lt 14, 3) := by decide +kernel
theorem dX0_ask_236 : decode cX0_ask 236 = .ok (.iload 6, 2) := by decide +kernel
theorem dX0_ask_238 : decode cX0_ask 238 = .ok (.bipush 14, 2) := by decide +kernel
theorem dX0_ask_240 : decode cX0_ask 240 = .ok (.if_icmp .gt 7, 3) := by decide +kernel
theorem dX0_ask_243 : decode cX0_ask 243 = .ok (.iconst 1, 1) := by decide +kernel
theorem dX0_ask_244 : decode cX0_ask 244 = .ok (.goto 4, 3) := by decide +kernel
theorem dX0_ask_247 : decode cX0_ask 247 = .ok (.iconst 0, 1) := by decide +kernel
theorem dX0_ask_248 : decode cX0_ask 248 = .ok (.istore 13, 2) := by decide +kernel
theorem dX0_ask_250 : decode cX0_ask 250 = .ok (.iload 12, 2) := by decide +kernel
theorem dX0_ask_252 : decode cX0_ask 252 = .ok (.iconst (-1), 1) := by decide +kernel
theorem dX0_ask_253 : decode cX0_ask 253 = .ok (.if_icmp .eq 59, 3) := by decide +kernel
theorem dX0_ask_256 : decode cX0_ask 256 = .ok (.iinc 8 1, 3) := by decide +kernel
theorem dX0_ask_259 : decode cX0_ask 259 = .ok (.aload_n 0, 1) := by decide +kernel
theorem dX0_ask_260 : decode cX0_ask 260 = .ok (.iload 6, 2) := by decide +kernel
theorem dX0_ask_262 : decode cX0_ask 262 = .ok (.iload 12, 2) := by decide +kernel
theorem dX0_ask_264 : decode cX0_ask 264 = .ok (.iload_n 2, 1) := by decide +kernel
theorem dX0_ask_265 : decode cX0_ask 265 = .ok (.invokevirtual 158, 3) := by decide +kernel
theorem dX0_ask_268 : decode cX0_ask 268 = .ok (.iload 9, 2) := by decide +kernel
theorem dX0_ask_270 : decode cX0_ask 270 = .ok (.aload_n 0, 1) := by decide +kernel
theorem dX0_ask_271 : decode cX0_ask 271 = .ok (.iload 12, 2) := by decide +kernel
theorem dX0_ask_273 : decode cX0_ask 273 = .ok (.iload 6, 2) := by decide +kernel
theorem dX0_ask_275 : decode cX0_ask 275 = .ok (.bipush 10, 2) := by decide +kernel
theorem dX0_ask_277 : decode cX0_ask 277 = .ok (.if_icmp .ge 8, 3) := by decide +kernel
theorem dX0_ask_280 : decode cX0_ask 280 = .ok (.iload 10, 2) := by decide +kernel
theorem dX0_ask_282 : decode cX0_ask 282 = .ok (.goto 4, 3) := by decide +kernel
theorem dX0_ask_285 : decode cX0_ask 285 = .ok (.iload_n 2, 1) := by decide +kernel
theorem dX0_ask_286 : decode cX0_ask 286 = .ok (.iload 13, 2) := by decide +kernel
theorem dX0_ask_288 : decode cX0_ask 288 = .ok (.iload 4, 2) := by decide +kernel
theorem dX0_ask_290 : decode cX0_ask 290 = .ok (.iconst 1, 1) := by decide +kernel
theorem dX0_ask_291 : decode cX0_ask 291 = .ok (.iadd, 1) := by decide +kernel
theorem dX0_ask_292 : decode cX0_ask 292 = .ok (.invokevirtual 64, 3) := by decide +kernel
theorem dX0_ask_295 : decode cX0_ask 295 = .ok (.ifCond .eq 7, 3) := by decide +kernel
theorem dX0_ask_298 : decode cX0_ask 298 = .ok (.iconst 1, 1) := by decide +kernel
theorem dX0_ask_299 : decode cX0_ask 299 = .ok (.goto 4, 3) := by decide +kernel
theorem dX0_ask_302 : decode cX0_ask 302 = .ok (.iconst 0, 1) := by decide +kernel
theorem dX0_ask_303 : decode cX0_ask 303 = .ok (.iadd, 1) := by decide +kernel
theorem dX0_ask_304 : decode cX0_ask 304 = .ok (.istore 9, 2) := by decide +kernel
theorem dX0_ask_306 : decode cX0_ask 306 = .ok (.aload_n 0, 1) := by decide +kernel
theorem dX0_ask_307 : decode cX0_ask 307 = .ok (.iload 6, 2) := by decide +kernel
theorem dX0_ask_309 : decode cX0_ask 309 = .ok (.invokevirtual 162, 3) := by decide +kernel
theorem dX0_ask_312 : decode cX0_ask 312 = .ok (.aload_n 0, 1) := by decide +kernel
theorem dX0_ask_313 : decode cX0_ask 313 = .ok (.iload 6, 2) := by decide +kernel
theorem dX0_ask_315 : decode cX0_ask 315 = .ok (.iload 7, 2) := by decide +kernel
theorem dX0_ask_317 : decode cX0_ask 317 = .ok (.iload_n 2, 1) := by decide +kernel
theorem dX0_ask_318 : decode cX0_ask 318 = .ok (.iload 10, 2) := by decide +kernel
theorem dX0_ask_320 : decode cX0_ask 320 = .ok (.invokevirtual 165, 3) := by decide +kernel
theorem dX0_ask_323 : decode cX0_ask 323 = .ok (.istore 10, 2) := by decide +kernel
theorem dX0_ask_325 : decode cX0_ask 325 = .ok (.iinc 11 1, 3) := by decide +kernel
theorem dX0_ask_328 : decode cX0_ask 328 = .ok (.goto (-135), 3) := by decide +kernel
theorem dX0_ask_331 : decode cX0_ask 331 = .ok (.iload 6, 2) := by decide +kernel
theorem dX0_ask_333 : decode cX0_ask 333 = .ok (.iload 8, 2) := by decide +kernel
theorem dX0_ask_335 : decode cX0_ask 335 = .ok (.iload 9, 2) := by decide +kernel
theorem dX0_ask_337 : decode cX0_ask 337 = .ok (.iload 10, 2) := by decide +kernel
theorem dX0_ask_339 : decode cX0_ask 339 = .ok (.invokestatic 168, 3) := by decide +kernel
theorem dX0_ask_342 : decode cX0_ask 342 = .ok (.ifCond .eq 12, 3) := by decide +kernel
theorem dX0_ask_345 : decode cX0_ask 345 = .ok (.iload 5, 2) := by decide +kernel
theorem dX0_ask_347 : decode cX0_ask 347 = .ok (.ifCond .eq 7, 3) := by decide +kernel
theorem dX0_ask_350 : decode cX0_ask 350 = .ok (.iconst 1, 1) := by decide +kernel
theorem dX0_ask_351 : decode cX0_ask 351 = .ok (.goto 4, 3) := by decide +kernel
theorem dX0_ask_354 : decode cX0_ask 354 = .ok (.iconst 0, 1) := by decide +kernel
theorem dX0_ask_355 : decode cX0_ask 355 = .ok (.istore 5, 2) := by decide +kernel
theorem dX0_ask_357 : decode cX0_ask 357 = .ok (.iload 6, 2) := by decide +kernel
theorem dX0_ask_359 : decode cX0_ask 359 = .ok (.iload 8, 2) := by decide +kernel
theorem dX0_ask_361 : decode cX0_ask 361 = .ok (.iload 9, 2) := by decide +kernel
theorem dX0_ask_363 : decode cX0_ask 363 = .ok (.iload 10, 2) := by decide +kernel
theorem dX0_ask_365 : decode cX0_ask 365 = .ok (.invokestatic 172, 3) := by decide +kernel
theorem dX0_ask_368 : decode cX0_ask 368 = .ok (.ifCond .ne 11, 3) := by decide +kernel
theorem dX0_ask_371 : decode cX0_ask 371 = .ok (.aload_n 0, 1) := by decide +kernel
theorem dX0_ask_372 : decode cX0_ask 372 = .ok (.iload_n 2, 1) := by decide +kernel
theorem dX0_ask_373 : decode cX0_ask 373 = .ok (.iload 6, 2) := by decide +kernel
theorem dX0_ask_375 : decode cX0_ask 375 = .ok (.iload_n 3, 1) := by decide +kernel
theorem dX0_ask_376 : decode cX0_ask 376 = .ok (.invokevirtual 134, 3) := by decide +kernel
theorem dX0_ask_379 : decode cX0_ask 379 = .ok (.iinc 6 1, 3) := by decide +kernel
theorem dX0_ask_382 : decode cX0_ask 382 = .ok (.goto (-285), 3) := by decide +kernel
theorem dX0_ask_385 : decode cX0_ask 385 = .ok (.iload 5, 2) := by decide +kernel
theorem dX0_ask_387 : decode cX0_ask 387 = .ok (.ireturn, 1) := by decide +kernel
theorem dX0_firstQuestion_0 : decode cX0_firstQuestion 0 = .ok (.iload_n 1, 1) := by decide +kernel
theorem dX0_firstQuestion_1 : decode cX0_firstQuestion 1 = .ok (.tableswitch 94 7 15 #[51, 51, 60, 94, 94, 94, 94, 85, 87], 51) := by decide +kernel
theorem dX0_firstQuestion_52 : decode cX0_firstQuestion 52 = .ok (.aload_n 0, 1) := by decide +kernel
theorem dX0_firstQuestion_53 : decode cX0_firstQuestion 53 = .ok (.getfield 52, 3) := by decide +kernel
theorem dX0_firstQuestion_56 : decode cX0_firstQuestion 56 = .ok (.iload_n 3, 1) := by decide +kernel
theorem dX0_firstQuestion_57 : decode cX0_firstQuestion 57 = .ok (.invokevirtual 175, 3) := by decide +kernel
theorem dX0_firstQuestion_60 : decode cX0_firstQuestion 60 = .ok (.ireturn, 1) := by decide +kernel
theorem dX0_firstQuestion_61 : decode cX0_firstQuestion 61 = .ok (.aload_n 0, 1) := by decide +kernel
theorem dX0_firstQuestion_62 : decode cX0_firstQuestion 62 = .ok (.getfield 52, 3) := by decide +kernel
theorem dX0_firstQuestion_65 : decode cX0_firstQuestion 65 = .ok (.iload_n 3, 1) := by decide +kernel
theorem dX0_firstQuestion_66 : decode cX0_firstQuestion 66 = .ok (.iconst 4, 1) := by decide +kernel
theorem dX0_firstQuestion_67 : decode cX0_firstQuestion 67 = .ok (.invokevirtual 126, 3) := by decide +kernel
theorem dX0_firstQuestion_70 : decode cX0_firstQuestion 70 = .ok (.ifCond .eq 14, 3) := by decide +kernel
theorem dX0_firstQuestion_73 : decode cX0_firstQuestion 73 = .ok (.aload_n 0, 1) := by decide +kernel
theorem dX0_firstQuestion_74 : decode cX0_firstQuestion 74 = .ok (.getfield 52, 3) := by decide +kernel
theorem dX0_firstQuestion_77 : decode cX0_firstQuestion 77 = .ok (.iload_n 3, 1) := by decide +kernel
theorem dX0_firstQuestion_78 : decode cX0_firstQuestion 78 = .ok (.invokevirtual 179, 3) := by decide +kernel
theorem dX0_firstQuestion_81 : decode cX0_firstQuestion 81 = .ok (.goto 4, 3) := by decide +kernel
theorem dX0_firstQuestion_84 : decode cX0_firstQuestion 84 = .ok (.iconst (-1), 1) := by decide +kernel
theorem dX0_firstQuestion_85 : decode cX0_firstQuestion 85 = .ok (.ireturn, 1) := by decide +kernel
theorem dX0_firstQuestion_86 : decode cX0_firstQuestion 86 = .ok (.iload_n 2, 1) := by decide +kernel
theorem dX0_firstQuestion_87 : decode cX0_firstQuestion 87 = .ok (.ireturn, 1) := by decide +kernel
theorem dX0_firstQuestion_88 : decode cX0_firstQuestion 88 = .ok (.aload_n 0, 1) := by decide +kernel
theorem dX0_firstQuestion_89 : decode cX0_firstQuestion 89 = .ok (.iload_n 2, 1) := by decide +kernel
theorem dX0_firstQuestion_90 : decode cX0_firstQuestion 90 = .ok (.iload_n 3, 1) := by decide +kernel
theorem dX0_firstQuestion_91 : decode cX0_firstQuestion 91 = .ok (.invokevirtual 182, 3) := by decide +kernel
theorem dX0_firstQuestion_94 : decode cX0_firstQuestion 94 = .ok (.ireturn, 1) := by decide +kernel
theorem dX0_firstQuestion_95 : decode cX0_firstQuestion 95 = .ok (.aload_n 0, 1) := by decide +kernel
theorem dX0_firstQuestion_96 : decode cX0_firstQuestion 96 = .ok (.getfield 49, 3) := by decide +kernel
theorem dX0_firstQuestion_99 : decode cX0_firstQuestion 99 = .ok (.iload_n 2, 1) := by decide +kernel
theorem dX0_firstQuestion_100 : decode cX0_firstQuestion 100 = .ok (.invokevirtual 179, 3) := by decide +kernel
theorem dX0_firstQuestion_103 : decode cX0_firstQuestion 103 = .ok (.ireturn, 1) := by decide +kernel
theorem dX0_nextQuestion_0 : decode cX0_nextQuestion 0 = .ok (.iload_n 1, 1) := by decide +kernel
theorem dX0_nextQuestion_1 : decode cX0_nextQuestion 1 = .ok (.bipush 10, 2) := by decide +kernel
theorem dX0_nextQuestion_3 : decode cX0_nextQuestion 3 = .ok (.if_icmp .ge 14, 3) := by decide +kernel
theorem dX0_nextQuestion_6 : decode cX0_nextQuestion 6 = .ok (.aload_n 0, 1) := by decide +kernel
theorem dX0_nextQuestion_7 : decode cX0_nextQuestion 7 = .ok (.getfield 52, 3) := by decide +kernel
theorem dX0_nextQuestion_10 : decode cX0_nextQuestion 10 = .ok (.iload_n 3, 1) := by decide +kernel
theorem dX0_nextQuestion_11 : decode cX0_nextQuestion 11 = .ok (.iload 4, 2) := by decide +kernel
theorem dX0_nextQuestion_13 : decode cX0_nextQuestion 13 = .ok (.invokevirtual 186, 3) := by decide +kernel
theorem dX0_nextQuestion_16 : decode cX0_nextQuestion 16 = .ok (.ireturn, 1) := by decide +kernel
theorem dX0_nextQuestion_17 : decode cX0_nextQuestion 17 = .ok (.iload_n 1, 1) := by decide +kernel
theorem dX0_nextQuestion_18 : decode cX0_nextQuestion 18 = .ok (.bipush 14, 2) := by decide +kernel
theorem dX0_nextQuestion_20 : decode cX0_nextQuestion 20 = .ok (.if_icmp .ge 16, 3) := by decide +kernel
theorem dX0_nextQuestion_23 : decode cX0_nextQuestion 23 = .ok (.aload_n 0, 1) := by decide +kernel
theorem dX0_nextQuestion_24 : decode cX0_nextQuestion 24 = .ok (.getfield 49, 3) := by decide +kernel
theorem dX0_nextQuestion_27 : decode cX0_nextQuestion 27 = .ok (.iload_n 2, 1) := by decide +kernel
theorem dX0_nextQuestion_28 : decode cX0_nextQuestion 28 = .ok (.iload 4, 2) := by decide +kernel
theorem dX0_nextQuestion_30 : decode cX0_nextQuestion 30 = .ok (.invokevirtual 186, 3) := by decide +kernel
theorem dX0_nextQuestion_33 : decode cX0_nextQuestion 33 = .ok (.goto 4, 3) := by decide +kernel
theorem dX0_nextQuestion_36 : decode cX0_nextQuestion 36 = .ok (.iconst (-1), 1) := by decide +kernel
theorem dX0_nextQuestion_37 : decode cX0_nextQuestion 37 = .ok (.ireturn, 1) := by decide +kernel
theorem dX0_schemaOf_0 : decode cX0_schemaOf 0 = .ok (.iload_n 1, 1) := by decide +kernel
theorem dX0_schemaOf_1 : decode cX0_schemaOf 1 = .ok (.tableswitch 77 7 9 #[27, 42, 75], 27) := by decide +kernel
theorem dX0_schemaOf_28 : decode cX0_schemaOf 28 = .ok (.aload_n 0, 1) := by decide +kernel
theorem dX0_schemaOf_29 : decode cX0_schemaOf 29 = .ok (.getfield 49, 3) := by decide +kernel
theorem dX0_schemaOf_32 : decode cX0_schemaOf 32 = .ok (.iload_n 3, 1) := by decide +kernel
theorem dX0_schemaOf_33 : decode cX0_schemaOf 33 = .ok (.aload_n 0, 1) := by decide +kernel
theorem dX0_schemaOf_34 : decode cX0_schemaOf 34 = .ok (.getfield 52, 3) := by decide +kernel
theorem dX0_schemaOf_37 : decode cX0_schemaOf 37 = .ok (.iload 4, 2) := by decide +kernel
theorem dX0_schemaOf_39 : decode cX0_schemaOf 39 = .ok (.invokevirtual 189, 3) := by decide +kernel
theorem dX0_schemaOf_42 : decode cX0_schemaOf 42 = .ok (.ireturn, 1) := by decide +kernel
theorem dX0_schemaOf_43 : decode cX0_schemaOf 43 = .ok (.aload_n 0, 1) := by decide +kernel
theorem dX0_schemaOf_44 : decode cX0_schemaOf 44 = .ok (.getfield 49, 3) := by decide +kernel
theorem dX0_schemaOf_47 : decode cX0_schemaOf 47 = .ok (.aload_n 0, 1) := by decide +kernel
theorem dX0_schemaOf_48 : decode cX0_schemaOf 48 = .ok (.getfield 49, 3) := by decide +kernel
theorem dX0_schemaOf_51 : decode cX0_schemaOf 51 = .ok (.iload_n 2, 1) := by decide +kernel
theorem dX0_schemaOf_52 : decode cX0_schemaOf 52 = .ok (.ldc 96, 2) := by decide +kernel
theorem dX0_schemaOf_54 : decode cX0_schemaOf 54 = .ok (.invokevirtual 142, 3) := by decide +kernel
theorem dX0_schemaOf_57 : decode cX0_schemaOf 57 = .ok (.aload_n 0, 1) := by decide +kernel
theorem dX0_schemaOf_58 : decode cX0_schemaOf 58 = .ok (.getfield 52, 3) := by decide +kernel
theorem dX0_schemaOf_61 : decode cX0_schemaOf 61 = .ok (.iload 4, 2) := by decide +kernel
theorem dX0_schemaOf_63 : decode cX0_schemaOf 63 = .ok (.invokevirtual 189, 3) := by decide +kernel
theorem dX0_schemaOf_66 : decode cX0_schemaOf 66 = .ok (.iconst (-1), 1) := by decide +kernel
theorem dX0_schemaOf_67 : decode cX0_schemaOf 67 = .ok (.if_icmp .ne 7, 3) := by decide +kernel
theorem dX0_schemaOf_70 : decode cX0_schemaOf 70 = .ok (.iload_n 3, 1) := by decide +kernel
theorem dX0_schemaOf_71 : decode cX0_schemaOf 71 = .ok (.goto 4, 3) := by decide +kernel
theorem dX0_schemaOf_74 : decode cX0_schemaOf 74 = .ok (.iconst (-1), 1) := by decide +kernel
theorem dX0_schemaOf_75 : decode cX0_schemaOf 75 = .ok (.ireturn, 1) := by decide +kernel
theorem dX0_schemaOf_76 : decode cX0_schemaOf 76 = .ok (.iload_n 3, 1) := by decide +kernel
theorem dX0_schemaOf_77 : decode cX0_schemaOf 77 = .ok (.ireturn, 1) := by decide +kernel
theorem dX0_schemaOf_78 : decode cX0_schemaOf 78 = .ok (.iload 4, 2) := by decide +kernel
theorem dX0_schemaOf_80 : decode cX0_schemaOf 80 = .ok (.ireturn, 1) := by decide +kernel
theorem dX0_holds_0 : decode cX0_holds 0 = .ok (.iload_n 0, 1) := by decide +kernel
theorem dX0_holds_1 : decode cX0_holds 1 = .ok (.tableswitch 58 12 14 #[27, 37, 48], 27) := by decide +kernel
theorem dX0_holds_28 : decode cX0_holds 28 = .ok (.iload_n 2, 1) := by decide +kernel
theorem dX0_holds_29 : decode cX0_holds 29 = .ok (.ifCond .le 7, 3) := by decide +kernel
theorem dX0_holds_32 : decode cX0_holds 32 = .ok (.iconst 1, 1) := by decide +kernel
theorem dX0_holds_33 : decode cX0_holds 33 = .ok (.goto 4, 3) := by decide +kernel
theorem dX0_holds_36 : decode cX0_holds 36 = .ok (.iconst 0, 1) := by decide +kernel
theorem dX0_holds_37 : decode cX0_holds 37 = .ok (.ireturn, 1) := by decide +kernel
theorem dX0_holds_38 : decode cX0_holds 38 = .ok (.iload_n 2, 1) := by decide +kernel
theorem dX0_holds_39 : decode cX0_holds 39 = .ok (.iconst 1, 1) := by decide +kernel
theorem dX0_holds_40 : decode cX0_holds 40 = .ok (.if_icmp .ne 7, 3) := by decide +kernel
theorem dX0_holds_43 : decode cX0_holds 43 = .ok (.iconst 1, 1) := by decide +kernel
theorem dX0_holds_44 : decode cX0_holds 44 = .ok (.goto 4, 3) := by decide +kernel
theorem dX0_holds_47 : decode cX0_holds 47 = .ok (.iconst 0, 1) := by decide +kernel
theorem dX0_holds_48 : decode cX0_holds 48 = .ok (.ireturn, 1) := by decide +kernel
theorem dX0_holds_49 : decode cX0_holds 49 = .ok (.iload_n 2, 1) := by decide +kernel
theorem dX0_holds_50 : decode cX0_holds 50 = .ok (.ifCond .ne 7, 3) := by decide +kernel
theorem dX0_holds_53 : decode cX0_holds 53 = .ok (.iconst 1, 1) := by decide +kernel
theorem dX0_holds_54 : decode cX0_holds 54 = .ok (.goto 4, 3) := by decide +kernel
theorem dX0_holds_57 : decode cX0_holds 57 = .ok (.iconst 0, 1) := by decide +kernel
theorem dX0_holds_58 : decode cX0_holds 58 = .ok (.ireturn, 1) := by decide +kernel
theorem dX0_holds_59 : decode cX0_holds 59 = .ok (.iload_n 2, 1) := by decide +kernel
theorem dX0_holds_60 : decode cX0_holds 60 = .ok (.iload_n 1, 1) := by decide +kernel
theorem dX0_holds_61 : decode cX0_holds 61 = .ok (.if_icmp .ne 13, 3) := by decide +kernel
theorem dX0_holds_64 : decode cX0_holds 64 = .ok (.iload_n 3, 1) := by decide +kernel
theorem dX0_holds_65 : decode cX0_holds 65 = .ok (.bipush (-2), 2) := by decide +kernel
theorem dX0_holds_67 : decode cX0_holds 67 = .ok (.if_icmp .eq 7, 3) := by decide +kernel
theorem dX0_holds_70 : decode cX0_holds 70 = .ok (.iconst 1, 1) := by decide +kernel
theorem dX0_holds_71 : decode cX0_holds 71 = .ok (.goto 4, 3) := by decide +kernel
theorem dX0_holds_74 : decode cX0_holds 74 = .ok (.iconst 0, 1) := by decide +kernel
theorem dX0_holds_75 : decode cX0_holds 75 = .ok (.ireturn, 1) := by decide +kernel
theorem dX0_holdsItself_0 : decode cX0_holdsItself 0 = .ok (.iload_n 0, 1) := by decide +kernel
theorem dX0_holdsItself_1 : decode cX0_holdsItself 1 = .ok (.bipush 12, 2) := by decide +kernel
theorem dX0_holdsItself_3 : decode cX0_holdsItself 3 = .ok (.if_icmp .ge 5, 3) := by decide +kernel
theorem dX0_holdsItself_6 : decode cX0_holdsItself 6 = .ok (.iconst 1, 1) := by decide +kernel
theorem dX0_holdsItself_7 : decode cX0_holdsItself 7 = .ok (.ireturn, 1) := by decide +kernel
theorem dX0_holdsItself_8 : decode cX0_holdsItself 8 = .ok (.iload_n 0, 1) := by decide +kernel
theorem dX0_holdsItself_9 : decode cX0_holdsItself 9 = .ok (.bipush 15, 2) := by decide +kernel
theorem dX0_holdsItself_11 : decode cX0_holdsItself 11 = .ok (.if_icmp .ne 17, 3) := by decide +kernel
theorem dX0_holdsItself_14 : decode cX0_holdsItself 14 = .ok (.iload_n 3, 1) := by decide +kernel
theorem dX0_holdsItself_15 : decode cX0_holdsItself 15 = .ok (.bipush (-2), 2) := by decide +kernel
theorem dX0_holdsItself_17 : decode cX0_holdsItself 17 = .ok (.if_icmp .eq 7, 3) := by decide +kernel
theorem dX0_holdsItself_20 : decode cX0_holdsItself 20 = .ok (.iconst 1, 1) := by decide +kernel
theorem dX0_holdsItself_21 : decode cX0_holdsItself 21 = .ok (.goto 14, 3) := by decide +kernel
theorem dX0_holdsItself_24 : decode cX0_holdsItself 24 = .ok (.iconst 0, 1) := by decide +kernel
theorem dX0_holdsItself_25 : decode cX0_holdsItself 25 = .ok (.goto 10, 3) := by decide +kernel
theorem dX0_holdsItself_28 : decode cX0_holdsItself 28 = .ok (.iload_n 0, 1) := by decide +kernel
theorem dX0_holdsItself_29 : decode cX0_holdsItself 29 = .ok (.iload_n 1, 1) := by decide +kernel
theorem dX0_holdsItself_30 : decode cX0_holdsItself 30 = .ok (.iload_n 2, 1) := by decide +kernel
theorem dX0_holdsItself_31 : decode cX0_holdsItself 31 = .ok (.iload_n 3, 1) := by decide +kernel
theorem dX0_holdsItself_32 : decode cX0_holdsItself 32 = .ok (.invokestatic 168, 3) := by decide +kernel
theorem dX0_holdsItself_35 : decode cX0_holdsItself 35 = .ok (.ireturn, 1) := by decide +kernel
theorem dX0_target_0 : decode cX0_target 0 = .ok (.aload_n 0, 1) := by decide +kernel
theorem dX0_target_1 : decode cX0_target 1 = .ok (.getfield 23, 3) := by decide +kernel
theorem dX0_target_4 : decode cX0_target 4 = .ok (.invokevirtual 193, 3) := by decide +kernel
theorem dX0_target_7 : decode cX0_target 7 = .ok (.aload_n 0, 1) := by decide +kernel
theorem dX0_target_8 : decode cX0_target 8 = .ok (.getfield 49, 3) := by decide +kernel
theorem dX0_target_11 : decode cX0_target 11 = .ok (.iload_n 1, 1) := by decide +kernel
theorem dX0_target_12 : decode cX0_target 12 = .ok (.aload_n 0, 1) := by decide +kernel
theorem dX0_target_13 : decode cX0_target 13 = .ok (.getfield 23, 3) := by decide +kernel
theorem dX0_target_16 : decode cX0_target 16 = .ok (.invokevirtual 196, 3) := by decide +kernel
theorem dX0_target_19 : decode cX0_target 19 = .ok (.aload_n 0, 1) := by decide +kernel
theorem dX0_target_20 : decode cX0_target 20 = .ok (.getfield 49, 3) := by decide +kernel
theorem dX0_target_23 : decode cX0_target 23 = .ok (.aload_n 0, 1) := by decide +kernel
theorem dX0_target_24 : decode cX0_target 24 = .ok (.getfield 49, 3) := by decide +kernel
theorem dX0_target_27 : decode cX0_target 27 = .ok (.iconst 0, 1) := by decide +kernel
theorem dX0_target_28 : decode cX0_target 28 = .ok (.ldc 200, 2) := by decide +kernel
theorem dX0_target_30 : decode cX0_target 30 = .ok (.invokevirtual 142, 3) := by decide +kernel
theorem dX0_target_33 : decode cX0_target 33 = .ok (.aload_n 0, 1) := by decide +kernel
theorem dX0_target_34 : decode cX0_target 34 = .ok (.getfield 23, 3) := by decide +kernel
theorem dX0_target_37 : decode cX0_target 37 = .ok (.invokevirtual 202, 3) := by decide +kernel
theorem dX0_target_40 : decode cX0_target 40 = .ok (.istore_n 3, 1) := by decide +kernel
theorem dX0_target_41 : decode cX0_target 41 = .ok (.iload_n 3, 1) := by decide +kernel
theorem dX0_target_42 : decode cX0_target 42 = .ok (.iconst (-1), 1) := by decide +kernel
theorem dX0_target_43 : decode cX0_target 43 = .ok (.if_icmp .ne 6, 3) := by decide +kernel
theorem dX0_target_46 : decode cX0_target 46 = .ok (.bipush (-2), 2) := by decide +kernel
theorem dX0_target_48 : decode cX0_target 48 = .ok (.ireturn, 1) := by decide +kernel
theorem dX0_target_49 : decode cX0_target 49 = .ok (.iconst 0, 1) := by decide +kernel
theorem dX0_target_50 : decode cX0_target 50 = .ok (.istore 4, 2) := by decide +kernel
theorem dX0_target_52 : decode cX0_target 52 = .ok (.iload 4, 2) := by decide +kernel
theorem dX0_target_54 : decode cX0_target 54 = .ok (.aload_n 0, 1) := by decide +kernel
theorem dX0_target_55 : decode cX0_target 55 = .ok (.getfield 81, 3) := by decide +kernel
theorem dX0_target_58 : decode cX0_target 58 = .ok (.if_icmp .ge 40, 3) := by decide +kernel
theorem dX0_target_61 : decode cX0_target 61 = .ok (.iload 4, 2) := by decide +kernel
theorem dX0_target_63 : decode cX0_target 63 = .ok (.bipush 13, 2) := by decide +kernel
theorem dX0_target_65 : decode cX0_target 65 = .ok (.if_icmp .ge 33, 3) := by decide +kernel
theorem dX0_target_68 : decode cX0_target 68 = .ok (.aload_n 0, 1) := by decide +kernel
theorem dX0_target_69 : decode cX0_target 69 = .ok (.getfield 30, 3) := by decide +kernel
theorem dX0_target_72 : decode cX0_target 72 = .ok (.iload 4, 2) := by decide +kernel
theorem dX0_target_74 : decode cX0_target 74 = .ok (.iaload, 1) := by decide +kernel
theorem dX0_target_75 : decode cX0_target 75 = .ok (.iload_n 3, 1) := by decide +kernel
theorem dX0_target_76 : decode cX0_target 76 = .ok (.if_icmp .ne 16, 3) := by decide +kernel
theorem dX0_target_79 : decode cX0_target 79 = .ok (.aload_n 0, 1) := by decide +kernel
theorem dX0_target_80 : decode cX0_target 80 = .ok (.getfield 34, 3) := by decide +kernel
theorem dX0_target_83 : decode cX0_target 83 = .ok (.iload 4, 2) := by decide +kernel
theorem dX0_target_85 : decode cX0_target 85 = .ok (.iaload, 1) := by decide +kernel
theorem dX0_target_86 : decode cX0_target 86 = .ok (.iload_n 2, 1) := by decide +kernel
theorem dX0_target_87 : decode cX0_target 87 = .ok (.if_icmp .ne 5, 3) := by decide +kernel
theorem dX0_target_90 : decode cX0_target 90 = .ok (.iconst (-1), 1) := by decide +kernel
theorem dX0_target_91 : decode cX0_target 91 = .ok (.ireturn, 1) := by decide +kernel
theorem dX0_target_92 : decode cX0_target 92 = .ok (.iinc 4 1, 3) := by decide +kernel
theorem dX0_target_95 : decode cX0_target 95 = .ok (.goto (-43), 3) := by decide +kernel
theorem dX0_target_98 : decode cX0_target 98 = .ok (.aload_n 0, 1) := by decide +kernel
theorem dX0_target_99 : decode cX0_target 99 = .ok (.getfield 81, 3) := by decide +kernel
theorem dX0_target_102 : decode cX0_target 102 = .ok (.bipush 13, 2) := by decide +kernel
theorem dX0_target_104 : decode cX0_target 104 = .ok (.if_icmp .lt 8, 3) := by decide +kernel
theorem dX0_target_107 : decode cX0_target 107 = .ok (.bipush (-2), 2) := by decide +kernel
theorem dX0_target_109 : decode cX0_target 109 = .ok (.goto 4, 3) := by decide +kernel
theorem dX0_target_112 : decode cX0_target 112 = .ok (.iload_n 3, 1) := by decide +kernel
theorem dX0_target_113 : decode cX0_target 113 = .ok (.ireturn, 1) := by decide +kernel
theorem dX0_openRef_0 : decode cX0_openRef 0 = .ok (.iload_n 1, 1) := by decide +kernel
theorem dX0_openRef_1 : decode cX0_openRef 1 = .ok (.bipush 15, 2) := by decide +kernel
theorem dX0_openRef_3 : decode cX0_openRef 3 = .ok (.if_icmp .ne 49, 3) := by decide +kernel
theorem dX0_openRef_6 : decode cX0_openRef 6 = .ok (.aload_n 0, 1) := by decide +kernel
theorem dX0_openRef_7 : decode cX0_openRef 7 = .ok (.getfield 81, 3) := by decide +kernel
theorem dX0_openRef_10 : decode cX0_openRef 10 = .ok (.ifCond .lt 42, 3) := by decide +kernel
theorem dX0_openRef_13 : decode cX0_openRef 13 = .ok (.aload_n 0, 1) := by decide +kernel
theorem dX0_openRef_14 : decode cX0_openRef 14 = .ok (.getfield 81, 3) := by decide +kernel
theorem dX0_openRef_17 : decode cX0_openRef 17 = .ok (.bipush 13, 2) := by decide +kernel
theorem dX0_openRef_19 : decode cX0_openRef 19 = .ok (.if_icmp .ge 33, 3) := by decide +kernel
theorem dX0_openRef_22 : decode cX0_openRef 22 = .ok (.aload_n 0, 1) := by decide +kernel
theorem dX0_openRef_23 : decode cX0_openRef 23 = .ok (.getfield 30, 3) := by decide +kernel
theorem dX0_openRef_26 : decode cX0_openRef 26 = .ok (.aload_n 0, 1) := by decide +kernel
theorem dX0_openRef_27 : decode cX0_openRef 27 = .ok (.getfield 81, 3) := by decide +kernel
theorem dX0_openRef_30 : decode cX0_openRef 30 = .ok (.iload_n 2, 1) := by decide +kernel
theorem dX0_openRef_31 : decode cX0_openRef 31 = .ok (.iastore, 1) := by decide +kernel
theorem dX0_openRef_32 : decode cX0_openRef 32 = .ok (.aload_n 0, 1) := by decide +kernel
theorem dX0_openRef_33 : decode cX0_openRef 33 = .ok (.getfield 34, 3) := by decide +kernel
theorem dX0_openRef_36 : decode cX0_openRef 36 = .ok (.aload_n 0, 1) := by decide +kernel
theorem dX0_openRef_37 : decode cX0_openRef 37 = .ok (.getfield 81, 3) := by decide +kernel
theorem dX0_openRef_40 : decode cX0_openRef 40 = .ok (.iload_n 3, 1) := by decide +kernel
theorem dX0_openRef_41 : decode cX0_openRef 41 = .ok (.iastore, 1) := by decide +kernel
theorem dX0_openRef_42 : decode cX0_openRef 42 = .ok (.aload_n 0, 1) := by decide +kernel
theorem dX0_openRef_43 : decode cX0_openRef 43 = .ok (.dup, 1) := by decide +kernel
theorem dX0_openRef_44 : decode cX0_openRef 44 = .ok (.getfield 81, 3) := by decide +kernel
theorem dX0_openRef_47 : decode cX0_openRef 47 = .ok (.iconst 1, 1) := by decide +kernel
theorem dX0_openRef_48 : decode cX0_openRef 48 = .ok (.iadd, 1) := by decide +kernel
theorem dX0_openRef_49 : decode cX0_openRef 49 = .ok (.putfield 81, 3) := by decide +kernel
theorem dX0_openRef_52 : decode cX0_openRef 52 = .ok (.return_, 1) := by decide +kernel
theorem dX0_closeRef_0 : decode cX0_closeRef 0 = .ok (.iload_n 1, 1) := by decide +kernel
theorem dX0_closeRef_1 : decode cX0_closeRef 1 = .ok (.bipush 15, 2) := by decide +kernel
theorem dX0_closeRef_3 : decode cX0_closeRef 3 = .ok (.if_icmp .ne 20, 3) := by decide +kernel
theorem dX0_closeRef_6 : decode cX0_closeRef 6 = .ok (.aload_n 0, 1) := by decide +kernel
theorem dX0_closeRef_7 : decode cX0_closeRef 7 = .ok (.getfield 81, 3) := by decide +kernel
theorem dX0_closeRef_10 : decode cX0_closeRef 10 = .ok (.ifCond .le 13, 3) := by decide +kernel
theorem dX0_closeRef_13 : decode cX0_closeRef 13 = .ok (.aload_n 0, 1) := by decide +kernel
theorem dX0_closeRef_14 : decode cX0_closeRef 14 = .ok (.dup, 1) := by decide +kernel
theorem dX0_closeRef_15 : decode cX0_closeRef 15 = .ok (.getfield 81, 3) := by decide +kernel
theorem dX0_closeRef_18 : decode cX0_closeRef 18 = .ok (.iconst 1, 1) := by decide +kernel
theorem dX0_closeRef_19 : decode cX0_closeRef 19 = .ok (.isub, 1) := by decide +kernel
theorem dX0_closeRef_20 : decode cX0_closeRef 20 = .ok (.putfield 81, 3) := by decide +kernel
theorem dX0_closeRef_23 : decode cX0_closeRef 23 = .ok (.return_, 1) := by decide +kernel
theorem dX0_plainly_0 : decode cX0_plainly 0 = .ok (.iload_n 1, 1) := by decide +kernel
theorem dX0_plainly_1 : decode cX0_plainly 1 = .ok (.bipush 6, 2) := by decide +kernel
theorem dX0_plainly_3 : decode cX0_plainly 3 = .ok (.if_icmp .ne 12, 3) := by decide +kernel
theorem dX0_plainly_6 : decode cX0_plainly 6 = .ok (.aload_n 0, 1) := by decide +kernel
theorem dX0_plainly_7 : decode cX0_plainly 7 = .ok (.iload_n 2, 1) := by decide +kernel
theorem dX0_plainly_8 : decode cX0_plainly 8 = .ok (.iload_n 3, 1) := by decide +kernel
theorem dX0_plainly_9 : decode cX0_plainly 9 = .ok (.iload 4, 2) := by decide +kernel
theorem dX0_plainly_11 : decode cX0_plainly 11 = .ok (.invokevirtual 206, 3) := by decide +kernel
theorem dX0_plainly_14 : decode cX0_plainly 14 = .ok (.ireturn, 1) := by decide +kernel
theorem dX0_plainly_15 : decode cX0_plainly 15 = .ok (.iconst 1, 1) := by decide +kernel
theorem dX0_plainly_16 : decode cX0_plainly 16 = .ok (.istore 5, 2) := by decide +kernel
theorem dX0_plainly_18 : decode cX0_plainly 18 = .ok (.iload_n 1, 1) := by decide +kernel
theorem dX0_plainly_19 : decode cX0_plainly 19 = .ok (.tableswitch 182 1 5 #[33, 44, 82, 120, 151], 33) := by decide +kernel
theorem dX0_plainly_52 : decode cX0_plainly 52 = .ok (.aload_n 0, 1) := by decide +kernel
theorem dX0_plainly_53 : decode cX0_plainly 53 = .ok (.iload_n 2, 1) := by decide +kernel
theorem dX0_plainly_54 : decode cX0_plainly 54 = .ok (.iload_n 3, 1) := by decide +kernel
theorem dX0_plainly_55 : decode cX0_plainly 55 = .ok (.invokevirtual 210, 3) := by decide +kernel
theorem dX0_plainly_58 : decode cX0_plainly 58 = .ok (.istore 5, 2) := by decide +kernel
theorem dX0_plainly_60 : decode cX0_plainly 60 = .ok (.goto 149, 3) := by decide +kernel
theorem dX0_plainly_63 : decode cX0_plainly 63 = .ok (.aload_n 0, 1) := by decide +kernel
theorem dX0_plainly_64 : decode cX0_plainly 64 = .ok (.getfield 52, 3) := by decide +kernel
theorem dX0_plainly_67 : decode cX0_plainly 67 = .ok (.iload_n 3, 1) := by decide +kernel
theorem dX0_plainly_68 : decode cX0_plainly 68 = .ok (.iconst 2, 1) := by decide +kernel
theorem dX0_plainly_69 : decode cX0_plainly 69 = .ok (.invokevirtual 126, 3) := by decide +kernel
theorem dX0_plainly_72 : decode cX0_plainly 72 = .ok (.ifCond .eq 19, 3) := by decide +kernel
theorem dX0_plainly_75 : decode cX0_plainly 75 = .ok (.aload_n 0, 1) := by decide +kernel
theorem dX0_plainly_76 : decode cX0_plainly 76 = .ok (.getfield 52, 3) := by decide +kernel
theorem dX0_plainly_79 : decode cX0_plainly 79 = .ok (.iload_n 3, 1) := by decide +kernel
theorem dX0_plainly_80 : decode cX0_plainly 80 = .ok (.aload_n 0, 1) := by decide +kernel
theorem dX0_plainly_81 : decode cX0_plainly 81 = .ok (.getfield 49, 3) := by decide +kernel
theorem dX0_plainly_84 : decode cX0_plainly 84 = .ok (.iload_n 2, 1) := by decide +kernel
theorem dX0_plainly_85 : decode cX0_plainly 85 = .ok (.invokevirtual 213, 3) := by decide +kernel
theorem dX0_plainly_88 : decode cX0_plainly 88 = .ok (.ifCond .lt 7, 3) := by decide +kernel
theorem dX0_plainly_91 : decode cX0_plainly 91 = .ok (.iconst 1, 1) := by decide +kernel
theorem dX0_plainly_92 : decode cX0_plainly 92 = .ok (.goto 4, 3) := by decide +kernel
theorem dX0_plainly_95 : decode cX0_plainly 95 = .ok (.iconst 0, 1) := by decide +kernel
theorem dX0_plainly_96 : decode cX0_plainly 96 = .ok (.istore 5, 2) := by decide +kernel
theorem dX0_plainly_98 : decode cX0_plainly 98 = .ok (.goto 111, 3) := by decide +kernel
theorem dX0_plainly_101 : decode cX0_plainly 101 = .ok (.aload_n 0, 1) := by decide +kernel
theorem dX0_plainly_102 : decode cX0_plainly 102 = .ok (.getfield 52, 3) := by decide +kernel
theorem dX0_plainly_105 : decode cX0_plainly 105 = .ok (.iload_n 3, 1) := by decide +kernel
theorem dX0_plainly_106 : decode cX0_plainly 106 = .ok (.iconst 2, 1) := by decide +kernel
theorem dX0_plainly_107 : decode cX0_plainly 107 = .ok (.invokevirtual 126, 3) := by decide +kernel
theorem dX0_plainly_110 : decode cX0_plainly 110 = .ok (.ifCond .eq 19, 3) := by decide +kernel
theorem dX0_plainly_113 : decode cX0_plainly 113 = .ok (.aload_n 0, 1) := by decide +kernel
theorem dX0_plainly_114 : decode cX0_plainly 114 = .ok (.getfield 52, 3) := by decide +kernel
theorem dX0_plainly_117 : decode cX0_plainly 117 = .ok (.iload_n 3, 1) := by decide +kernel
theorem dX0_plainly_118 : decode cX0_plainly 118 = .ok (.aload_n 0, 1) := by decide +kernel
theorem dX0_plainly_119 : decode cX0_plainly 119 = .ok (.getfield 49, 3) := by decide +kernel
theorem dX0_plainly_122 : decode cX0_plainly 122 = .ok (.iload_n 2, 1) := by decide +kernel
theorem dX0_plainly_123 : decode cX0_plainly 123 = .ok (.invokevirtual 213, 3) := by decide +kernel
theorem dX0_plainly_126 : decode cX0_plainly 126 = .ok (.ifCond .gt 7, 3) := by decide +kernel
theorem dX0_plainly_129 : decode cX0_plainly 129 = .ok (.iconst 1, 1) := by decide +kernel
theorem dX0_plainly_130 : decode cX0_plainly 130 = .ok (.goto 4, 3) := by decide +kernel
theorem dX0_plainly_133 : decode cX0_plainly 133 = .ok (.iconst 0, 1) := by decide +kernel
theorem dX0_plainly_134 : decode cX0_plainly 134 = .ok (.istore 5, 2) := by decide +kernel
theorem dX0_plainly_136 : decode cX0_plainly 136 = .ok (.goto 73, 3) := by decide +kernel
theorem dX0_plainly_139 : decode cX0_plainly 139 = .ok (.aload_n 0, 1) := by decide +kernel
theorem dX0_plainly_140 : decode cX0_plainly 140 = .ok (.getfield 52, 3) := by decide +kernel
theorem dX0_plainly_143 : decode cX0_plainly 143 = .ok (.iload_n 3, 1) := by decide +kernel
theorem dX0_plainly_144 : decode cX0_plainly 144 = .ok (.invokevirtual 216, 3) := by decide +kernel
theorem dX0_plainly_147 : decode cX0_plainly 147 = .ok (.iconst (-1), 1) := by decide +kernel
theorem dX0_plainly_148 : decode cX0_plainly 148 = .ok (.if_icmp .eq 12, 3) := by decide +kernel
theorem dX0_plainly_151 : decode cX0_plainly 151 = .ok (.aload_n 0, 1) := by decide +kernel
theorem dX0_plainly_152 : decode cX0_plainly 152 = .ok (.iload_n 3, 1) := by decide +kernel
theorem dX0_plainly_153 : decode cX0_plainly 153 = .ok (.iload_n 2, 1) := by decide +kernel
theorem dX0_plainly_154 : decode cX0_plainly 154 = .ok (.invokevirtual 219, 3) := by decide +kernel
theorem dX0_plainly_157 : decode cX0_plainly 157 = .ok (.ifCond .lt 7, 3) := by decide +kernel
theorem dX0_plainly_160 : decode cX0_plainly 160 = .ok (.iconst 1, 1) := by decide +kernel
theorem dX0_plainly_161 : decode cX0_plainly 161 = .ok (.goto 4, 3) := by decide +kernel
theorem dX0_plainly_164 : decode cX0_plainly 164 = .ok (.iconst 0, 1) := by decide +kernel
theorem dX0_plainly_165 : decode cX0_plainly 165 = .ok (.istore 5, 2) := by decide +kernel
theorem dX0_plainly_167 : decode cX0_plainly 167 = .ok (.goto 42, 3) := by decide +kernel
theorem dX0_plainly_170 : decode cX0_plainly 170 = .ok (.aload_n 0, 1) := by decide +kernel
theorem dX0_plainly_171 : decode cX0_plainly 171 = .ok (.getfield 52, 3) := by decide +kernel
theorem dX0_plainly_174 : decode cX0_plainly 174 = .ok (.iload_n 3, 1) := by decide +kernel
theorem dX0_plainly_175 : decode cX0_plainly 175 = .ok (.invokevirtual 216, 3) := by decide +kernel
theorem dX0_plainly_178 : decode cX0_plainly 178 = .ok (.iconst (-1), 1) := by decide +kernel
theorem dX0_plainly_179 : decode cX0_plainly 179 = .ok (.if_icmp .eq 12, 3) := by decide +kernel
theorem dX0_plainly_182 : decode cX0_plainly 182 = .ok (.aload_n 0, 1) := by decide +kernel
theorem dX0_plainly_183 : decode cX0_plainly 183 = .ok (.iload_n 3, 1) := by decide +kernel
theorem dX0_plainly_184 : decode cX0_plainly 184 = .ok (.iload_n 2, 1) := by decide +kernel
theorem dX0_plainly_185 : decode cX0_plainly 185 = .ok (.invokevirtual 219, 3) := by decide +kernel
theorem dX0_plainly_188 : decode cX0_plainly 188 = .ok (.ifCond .gt 7, 3) := by decide +kernel
theorem dX0_plainly_191 : decode cX0_plainly 191 = .ok (.iconst 1, 1) := by decide +kernel
theorem dX0_plainly_192 : decode cX0_plainly 192 = .ok (.goto 4, 3) := by decide +kernel
theorem dX0_plainly_195 : decode cX0_plainly 195 = .ok (.iconst 0, 1) := by decide +kernel
theorem dX0_plainly_196 : decode cX0_plainly 196 = .ok (.istore 5, 2) := by decide +kernel
theorem dX0_plainly_198 : decode cX0_plainly 198 = .ok (.goto 11, 3) := by decide +kernel
theorem dX0_plainly_201 : decode cX0_plainly 201 = .ok (.aload_n 0, 1) := by decide +kernel
theorem dX0_plainly_202 : decode cX0_plainly 202 = .ok (.iload_n 2, 1) := by decide +kernel
theorem dX0_plainly_203 : decode cX0_plainly 203 = .ok (.iload_n 3, 1) := by decide +kernel
theorem dX0_plainly_204 : decode cX0_plainly 204 = .ok (.invokevirtual 222, 3) := by decide +kernel
theorem dX0_plainly_207 : decode cX0_plainly 207 = .ok (.istore 5, 2) := by decide +kernel
theorem dX0_plainly_209 : decode cX0_plainly 209 = .ok (.iload 5, 2) := by decide +kernel
theorem dX0_plainly_211 : decode cX0_plainly 211 = .ok (.ifCond .ne 11, 3) := by decide +kernel
theorem dX0_plainly_214 : decode cX0_plainly 214 = .ok (.aload_n 0, 1) := by decide +kernel
theorem dX0_plainly_215 : decode cX0_plainly 215 = .ok (.iload_n 3, 1) := by decide +kernel
theorem dX0_plainly_216 : decode cX0_plainly 216 = .ok (.iload_n 1, 1) := by decide +kernel
theorem dX0_plainly_217 : decode cX0_plainly 217 = .ok (.iload 4, 2) := by decide +kernel
theorem dX0_plainly_219 : decode cX0_plainly 219 = .ok (.invokevirtual 134, 3) := by decide +kernel
theorem dX0_plainly_222 : decode cX0_plainly 222 = .ok (.iload 5, 2) := by decide +kernel
theorem dX0_plainly_224 : decode cX0_plainly 224 = .ok (.ireturn, 1) := by decide +kernel
theorem dX0_hasAll_0 : decode cX0_hasAll 0 = .ok (.iconst 1, 1) := by decide +kernel
theorem dX0_hasAll_1 : decode cX0_hasAll 1 = .ok (.istore 4, 2) := by decide +kernel
theorem dX0_hasAll_3 : decode cX0_hasAll 3 = .ok (.aload_n 0, 1) := by decide +kernel
theorem dX0_hasAll_4 : decode cX0_hasAll 4 = .ok (.getfield 49, 3) := by decide +kernel
theorem dX0_hasAll_7 : decode cX0_hasAll 7 = .ok (.iload_n 1, 1) := by decide +kernel
theorem dX0_hasAll_8 : decode cX0_hasAll 8 = .ok (.invokevirtual 179, 3) := by decide +kernel
theorem dX0_hasAll_11 : decode cX0_hasAll 11 = .ok (.istore 5, 2) := by decide +kernel
theorem dX0_hasAll_13 : decode cX0_hasAll 13 = .ok (.iconst 0, 1) := by decide +kernel
theorem dX0_hasAll_14 : decode cX0_hasAll 14 = .ok (.istore 6, 2) := by decide +kernel
theorem dX0_hasAll_16 : decode cX0_hasAll 16 = .ok (.iload 5, 2) := by decide +kernel
theorem dX0_hasAll_18 : decode cX0_hasAll 18 = .ok (.iconst (-1), 1) := by decide +kernel
theorem dX0_hasAll_19 : decode cX0_hasAll 19 = .ok (.if_icmp .eq 87, 3) := by decide +kernel
theorem dX0_hasAll_22 : decode cX0_hasAll 22 = .ok (.iload 6, 2) := by decide +kernel
theorem dX0_hasAll_24 : decode cX0_hasAll 24 = .ok (.bipush 100, 2) := by decide +kernel
theorem dX0_hasAll_26 : decode cX0_hasAll 26 = .ok (.if_icmp .ge 80, 3) := by decide +kernel
theorem dX0_hasAll_29 : decode cX0_hasAll 29 = .ok (.aload_n 0, 1) := by decide +kernel
theorem dX0_hasAll_30 : decode cX0_hasAll 30 = .ok (.getfield 23, 3) := by decide +kernel
theorem dX0_hasAll_33 : decode cX0_hasAll 33 = .ok (.invokevirtual 193, 3) := by decide +kernel
theorem dX0_hasAll_36 : decode cX0_hasAll 36 = .ok (.aload_n 0, 1) := by decide +kernel
theorem dX0_hasAll_37 : decode cX0_hasAll 37 = .ok (.getfield 49, 3) := by decide +kernel
theorem dX0_hasAll_40 : decode cX0_hasAll 40 = .ok (.iload 5, 2) := by decide +kernel
theorem dX0_hasAll_42 : decode cX0_hasAll 42 = .ok (.aload_n 0, 1) := by decide +kernel
theorem dX0_hasAll_43 : decode cX0_hasAll 43 = .ok (.getfield 23, 3) := by decide +kernel
theorem dX0_hasAll_46 : decode cX0_hasAll 46 = .ok (.invokevirtual 196, 3) := by decide +kernel
theorem dX0_hasAll_49 : decode cX0_hasAll 49 = .ok (.aload_n 0, 1) := by decide +kernel
theorem dX0_hasAll_50 : decode cX0_hasAll 50 = .ok (.getfield 52, 3) := by decide +kernel
theorem dX0_hasAll_53 : decode cX0_hasAll 53 = .ok (.iload_n 2, 1) := by decide +kernel
theorem dX0_hasAll_54 : decode cX0_hasAll 54 = .ok (.iconst 5, 1) := by decide +kernel
theorem dX0_hasAll_55 : decode cX0_hasAll 55 = .ok (.invokevirtual 126, 3) := by decide +kernel
theorem dX0_hasAll_58 : decode cX0_hasAll 58 = .ok (.ifCond .eq 30, 3) := by decide +kernel
theorem dX0_hasAll_61 : decode cX0_hasAll 61 = .ok (.aload_n 0, 1) := by decide +kernel
theorem dX0_hasAll_62 : decode cX0_hasAll 62 = .ok (.getfield 52, 3) := by decide +kernel
theorem dX0_hasAll_65 : decode cX0_hasAll 65 = .ok (.iload_n 2, 1) := by decide +kernel
theorem dX0_hasAll_66 : decode cX0_hasAll 66 = .ok (.aload_n 0, 1) := by decide +kernel
theorem dX0_hasAll_67 : decode cX0_hasAll 67 = .ok (.getfield 23, 3) := by decide +kernel
theorem dX0_hasAll_70 : decode cX0_hasAll 70 = .ok (.invokevirtual 202, 3) := by decide +kernel
theorem dX0_hasAll_73 : decode cX0_hasAll 73 = .ok (.iconst (-1), 1) := by decide +kernel
theorem dX0_hasAll_74 : decode cX0_hasAll 74 = .ok (.if_icmp .ne 14, 3) := by decide +kernel
theorem dX0_hasAll_77 : decode cX0_hasAll 77 = .ok (.iconst 0, 1) := by decide +kernel
theorem dX0_hasAll_78 : decode cX0_hasAll 78 = .ok (.istore 4, 2) := by decide +kernel
theorem dX0_hasAll_80 : decode cX0_hasAll 80 = .ok (.aload_n 0, 1) := by decide +kernel
theorem dX0_hasAll_81 : decode cX0_hasAll 81 = .ok (.iload_n 2, 1) := by decide +kernel
theorem dX0_hasAll_82 : decode cX0_hasAll 82 = .ok (.bipush 6, 2) := by decide +kernel
theorem dX0_hasAll_84 : decode cX0_hasAll 84 = .ok (.iload_n 3, 1) := by decide +kernel
theorem dX0_hasAll_85 : decode cX0_hasAll 85 = .ok (.invokevirtual 134, 3) := by decide +kernel
theorem dX0_hasAll_88 : decode cX0_hasAll 88 = .ok (.aload_n 0, 1) := by decide +kernel
theorem dX0_hasAll_89 : decode cX0_hasAll 89 = .ok (.getfield 49, 3) := by decide +kernel
theorem dX0_hasAll_92 : decode cX0_hasAll 92 = .ok (.iload_n 1, 1) := by decide +kernel
theorem dX0_hasAll_93 : decode cX0_hasAll 93 = .ok (.iload 5, 2) := by decide +kernel
theorem dX0_hasAll_95 : decode cX0_hasAll 95 = .ok (.invokevirtual 186, 3) := by decide +kernel
theorem dX0_hasAll_98 : decode cX0_hasAll 98 = .ok (.istore 5, 2) := by decide +kernel
theorem dX0_hasAll_100 : decode cX0_hasAll 100 = .ok (.iinc 6 1, 3) := by decide +kernel
theorem dX0_hasAll_103 : decode cX0_hasAll 103 = .ok (.goto (-87), 3) := by decide +kernel
theorem dX0_hasAll_106 : decode cX0_hasAll 106 = .ok (.iload 4, 2) := by decide +kernel
theorem dX0_hasAll_108 : decode cX0_hasAll 108 = .ok (.ireturn, 1) := by decide +kernel
theorem dX0_isOfKinds_0 : decode cX0_isOfKinds 0 = .ok (.aload_n 0, 1) := by decide +kernel
theorem dX0_isOfKinds_1 : decode cX0_isOfKinds 1 = .ok (.iload_n 1, 1) := by decide +kernel
theorem dX0_isOfKinds_2 : decode cX0_isOfKinds 2 = .ok (.iload_n 2, 1) := by decide +kernel
theorem dX0_isOfKinds_3 : decode cX0_isOfKinds 3 = .ok (.invokevirtual 225, 3) := by decide +kernel
theorem dX0_isOfKinds_6 : decode cX0_isOfKinds 6 = .ok (.istore_n 3, 1) := by decide +kernel
theorem dX0_isOfKinds_7 : decode cX0_isOfKinds 7 = .ok (.aload_n 0, 1) := by decide +kernel
theorem dX0_isOfKinds_8 : decode cX0_isOfKinds 8 = .ok (.getfield 49, 3) := by decide +kernel
theorem dX0_isOfKinds_11 : decode cX0_isOfKinds 11 = .ok (.iload_n 1, 1) := by decide +kernel
theorem dX0_isOfKinds_12 : decode cX0_isOfKinds 12 = .ok (.invokevirtual 179, 3) := by decide +kernel
theorem dX0_isOfKinds_15 : decode cX0_isOfKinds 15 = .ok (.istore 4, 2) := by decide +kernel
theorem dX0_isOfKinds_17 : decode cX0_isOfKinds 17 = .ok (.iconst 0, 1) := by decide +kernel
theorem dX0_isOfKinds_18 : decode cX0_isOfKinds 18 = .ok (.istore 5, 2) := by decide +kernel
theorem dX0_isOfKinds_20 : decode cX0_isOfKinds 20 = .ok (.iload 4, 2) := by decide +kernel
theorem dX0_isOfKinds_22 : decode cX0_isOfKinds 22 = .ok (.iconst (-1), 1) := by decide +kernel
theorem dX0_isOfKinds_23 : decode cX0_isOfKinds 23 = .ok (.if_icmp .eq 48, 3) := by decide +kernel
theorem dX0_isOfKinds_26 : decode cX0_isOfKinds 26 = .ok (.iload 5, 2) := by decide +kernel
theorem dX0_isOfKinds_28 : decode cX0_isOfKinds 28 = .ok (.bipush 100, 2) := by decide +kernel
theorem dX0_isOfKinds_30 : decode cX0_isOfKinds 30 = .ok (.if_icmp .ge 41, 3) := by decide +kernel
theorem dX0_isOfKinds_33 : decode cX0_isOfKinds 33 = .ok (.iload_n 3, 1) := by decide +kernel
theorem dX0_isOfKinds_34 : decode cX0_isOfKinds 34 = .ok (.ifCond .ne 13, 3) := by decide +kernel
theorem dX0_isOfKinds_37 : decode cX0_isOfKinds 37 = .ok (.aload_n 0, 1) := by decide +kernel
theorem dX0_isOfKinds_38 : decode cX0_isOfKinds 38 = .ok (.iload 4, 2) := by decide +kernel
theorem dX0_isOfKinds_40 : decode cX0_isOfKinds 40 = .ok (.iload_n 2, 1) := by decide +kernel
theorem dX0_isOfKinds_41 : decode cX0_isOfKinds 41 = .ok (.invokevirtual 225, 3) := by decide +kernel
theorem dX0_isOfKinds_44 : decode cX0_isOfKinds 44 = .ok (.ifCond .eq 7, 3) := by decide +kernel
theorem dX0_isOfKinds_47 : decode cX0_isOfKinds 47 = .ok (.iconst 1, 1) := by decide +kernel
theorem dX0_isOfKinds_48 : decode cX0_isOfKinds 48 = .ok (.goto 4, 3) := by decide +kernel
theorem dX0_isOfKinds_51 : decode cX0_isOfKinds 51 = .ok (.iconst 0, 1) := by decide +kernel
theorem dX0_isOfKinds_52 : decode cX0_isOfKinds 52 = .ok (.istore_n 3, 1) := by decide +kernel
theorem dX0_isOfKinds_53 : decode cX0_isOfKinds 53 = .ok (.aload_n 0, 1) := by decide +kernel
theorem dX0_isOfKinds_54 : decode cX0_isOfKinds 54 = .ok (.getfield 49, 3) := by decide +kernel
theorem dX0_isOfKinds_57 : decode cX0_isOfKinds 57 = .ok (.iload_n 1, 1) := by decide +kernel
theorem dX0_isOfKinds_58 : decode cX0_isOfKinds 58 = .ok (.iload 4, 2) := by decide +kernel
theorem dX0_isOfKinds_60 : decode cX0_isOfKinds 60 = .ok (.invokevirtual 186, 3) := by decide +kernel
theorem dX0_isOfKinds_63 : decode cX0_isOfKinds 63 = .ok (.istore 4, 2) := by decide +kernel
theorem dX0_isOfKinds_65 : decode cX0_isOfKinds 65 = .ok (.iinc 5 1, 3) := by decide +kernel
theorem dX0_isOfKinds_68 : decode cX0_isOfKinds 68 = .ok (.goto (-48), 3) := by decide +kernel
theorem dX0_isOfKinds_71 : decode cX0_isOfKinds 71 = .ok (.iload_n 3, 1) := by decide +kernel
theorem dX0_isOfKinds_72 : decode cX0_isOfKinds 72 = .ok (.ireturn, 1) := by decide +kernel
theorem dX0_isOfKind_0 : decode cX0_isOfKind 0 = .ok (.aload_n 0, 1) := by decide +kernel
theorem dX0_isOfKind_1 : decode cX0_isOfKind 1 = .ok (.getfield 49, 3) := by decide +kernel
theorem dX0_isOfKind_4 : decode cX0_isOfKind 4 = .ok (.iload_n 1, 1) := by decide +kernel
theorem dX0_isOfKind_5 : decode cX0_isOfKind 5 = .ok (.ldc 228, 2) := by decide +kernel
theorem dX0_isOfKind_7 : decode cX0_isOfKind 7 = .ok (.invokevirtual 230, 3) := by decide +kernel
theorem dX0_isOfKind_10 : decode cX0_isOfKind 10 = .ok (.ifCond .eq 32, 3) := by decide +kernel
theorem dX0_isOfKind_13 : decode cX0_isOfKind 13 = .ok (.aload_n 0, 1) := by decide +kernel
theorem dX0_isOfKind_14 : decode cX0_isOfKind 14 = .ok (.getfield 52, 3) := by decide +kernel
theorem dX0_isOfKind_17 : decode cX0_isOfKind 17 = .ok (.iload_n 2, 1) := by decide +kernel
theorem dX0_isOfKind_18 : decode cX0_isOfKind 18 = .ok (.iconst 2, 1) := by decide +kernel
theorem dX0_isOfKind_19 : decode cX0_isOfKind 19 = .ok (.invokevirtual 126, 3) := by decide +kernel
theorem dX0_isOfKind_22 : decode cX0_isOfKind 22 = .ok (.ifCond .eq 18, 3) := by decide +kernel
theorem dX0_isOfKind_25 : decode cX0_isOfKind 25 = .ok (.aload_n 0, 1) := by decide +kernel
theorem dX0_isOfKind_26 : decode cX0_isOfKind 26 = .ok (.getfield 52, 3) := by decide +kernel
theorem dX0_isOfKind_29 : decode cX0_isOfKind 29 = .ok (.iload_n 2, 1) := by decide +kernel
theorem dX0_isOfKind_30 : decode cX0_isOfKind 30 = .ok (.invokevirtual 234, 3) := by decide +kernel
theorem dX0_isOfKind_33 : decode cX0_isOfKind 33 = .ok (.ifCond .lt 7, 3) := by decide +kernel
theorem dX0_isOfKind_36 : decode cX0_isOfKind 36 = .ok (.iconst 1, 1) := by decide +kernel
theorem dX0_isOfKind_37 : decode cX0_isOfKind 37 = .ok (.goto 4, 3) := by decide +kernel
theorem dX0_isOfKind_40 : decode cX0_isOfKind 40 = .ok (.iconst 0, 1) := by decide +kernel
theorem dX0_isOfKind_41 : decode cX0_isOfKind 41 = .ok (.ireturn, 1) := by decide +kernel
theorem dX0_isOfKind_42 : decode cX0_isOfKind 42 = .ok (.aload_n 0, 1) := by decide +kernel
theorem dX0_isOfKind_43 : decode cX0_isOfKind 43 = .ok (.getfield 49, 3) := by decide +kernel
theorem dX0_isOfKind_46 : decode cX0_isOfKind 46 = .ok (.iload_n 1, 1) := by decide +kernel
theorem dX0_isOfKind_47 : decode cX0_isOfKind 47 = .ok (.aload_n 0, 1) := by decide +kernel
theorem dX0_isOfKind_48 : decode cX0_isOfKind 48 = .ok (.getfield 52, 3) := by decide +kernel
theorem dX0_isOfKind_51 : decode cX0_isOfKind 51 = .ok (.iload_n 2, 1) := by decide +kernel
theorem dX0_isOfKind_52 : decode cX0_isOfKind 52 = .ok (.invokevirtual 237, 3) := by decide +kernel
theorem dX0_isOfKind_55 : decode cX0_isOfKind 55 = .ok (.invokestatic 239, 3) := by decide +kernel
theorem dX0_isOfKind_58 : decode cX0_isOfKind 58 = .ok (.invokevirtual 230, 3) := by decide +kernel
theorem dX0_isOfKind_61 : decode cX0_isOfKind 61 = .ok (.ireturn, 1) := by decide +kernel
theorem dX0_orderOfLength_0 : decode cX0_orderOfLength 0 = .ok (.aload_n 0, 1) := by decide +kernel
theorem dX0_orderOfLength_1 : decode cX0_orderOfLength 1 = .ok (.getfield 27, 3) := by decide +kernel
theorem dX0_orderOfLength_4 : decode cX0_orderOfLength 4 = .ok (.invokevirtual 193, 3) := by decide +kernel
theorem dX0_orderOfLength_7 : decode cX0_orderOfLength 7 = .ok (.aload_n 0, 1) := by decide +kernel
theorem dX0_orderOfLength_8 : decode cX0_orderOfLength 8 = .ok (.getfield 27, 3) := by decide +kernel
theorem dX0_orderOfLength_11 : decode cX0_orderOfLength 11 = .ok (.aload_n 0, 1) := by decide +kernel
theorem dX0_orderOfLength_12 : decode cX0_orderOfLength 12 = .ok (.getfield 52, 3) := by decide +kernel
theorem dX0_orderOfLength_15 : decode cX0_orderOfLength 15 = .ok (.iload_n 1, 1) := by decide +kernel
theorem dX0_orderOfLength_16 : decode cX0_orderOfLength 16 = .ok (.invokevirtual 216, 3) := by decide +kernel
theorem dX0_orderOfLength_19 : decode cX0_orderOfLength 19 = .ok (.invokevirtual 242, 3) := by decide +kernel
theorem dX0_orderOfLength_22 : decode cX0_orderOfLength 22 = .ok (.aload_n 0, 1) := by decide +kernel
theorem dX0_orderOfLength_23 : decode cX0_orderOfLength 23 = .ok (.getfield 12, 3) := by decide +kernel
theorem dX0_orderOfLength_26 : decode cX0_orderOfLength 26 = .ok (.invokevirtual 245, 3) := by decide +kernel
theorem dX0_orderOfLength_29 : decode cX0_orderOfLength 29 = .ok (.aload_n 0, 1) := by decide +kernel
theorem dX0_orderOfLength_30 : decode cX0_orderOfLength 30 = .ok (.getfield 12, 3) := by decide +kernel
theorem dX0_orderOfLength_33 : decode cX0_orderOfLength 33 = .ok (.aload_n 0, 1) := by decide +kernel
theorem dX0_orderOfLength_34 : decode cX0_orderOfLength 34 = .ok (.getfield 12, 3) := by decide +kernel
theorem dX0_orderOfLength_37 : decode cX0_orderOfLength 37 = .ok (.iconst 2, 1) := by decide +kernel
theorem dX0_orderOfLength_38 : decode cX0_orderOfLength 38 = .ok (.invokevirtual 246, 3) := by decide +kernel
theorem dX0_orderOfLength_41 : decode cX0_orderOfLength 41 = .ok (.iconst 0, 1) := by decide +kernel
theorem dX0_orderOfLength_42 : decode cX0_orderOfLength 42 = .ok (.aload_n 0, 1) := by decide +kernel
theorem dX0_orderOfLength_43 : decode cX0_orderOfLength 43 = .ok (.getfield 27, 3) := by decide +kernel
theorem dX0_orderOfLength_46 : decode cX0_orderOfLength 46 = .ok (.iconst 0, 1) := by decide +kernel
theorem dX0_orderOfLength_47 : decode cX0_orderOfLength 47 = .ok (.invokevirtual 249, 3) := by decide +kernel
theorem dX0_orderOfLength_50 : decode cX0_orderOfLength 50 = .ok (.pop, 1) := by decide +kernel
theorem dX0_orderOfLength_51 : decode cX0_orderOfLength 51 = .ok (.aload_n 0, 1) := by decide +kernel
theorem dX0_orderOfLength_52 : decode cX0_orderOfLength 52 = .ok (.getfield 12, 3) := by decide +kernel
theorem dX0_orderOfLength_55 : decode cX0_orderOfLength 55 = .ok (.iconst 0, 1) := by decide +kernel
theorem dX0_orderOfLength_56 : decode cX0_orderOfLength 56 = .ok (.aload_n 0, 1) := by decide +kernel
theorem dX0_orderOfLength_57 : decode cX0_orderOfLength 57 = .ok (.getfield 49, 3) := by decide +kernel
theorem dX0_orderOfLength_60 : decode cX0_orderOfLength 60 = .ok (.iload_n 2, 1) := by decide +kernel
theorem dX0_orderOfLength_61 : decode cX0_orderOfLength 61 = .ok (.invokevirtual 213, 3) := by decide +kernel
theorem dX0_orderOfLength_64 : decode cX0_orderOfLength 64 = .ok (.ireturn, 1) := by decide +kernel
theorem dX0_isOneOf_0 : decode cX0_isOneOf 0 = .ok (.iconst 0, 1) := by decide +kernel
theorem dX0_isOneOf_1 : decode cX0_isOneOf 1 = .ok (.istore_n 3, 1) := by decide +kernel
theorem dX0_isOneOf_2 : decode cX0_isOneOf 2 = .ok (.aload_n 0, 1) := by decide +kernel
theorem dX0_isOneOf_3 : decode cX0_isOneOf 3 = .ok (.getfield 49, 3) := by decide +kernel
theorem dX0_isOneOf_6 : decode cX0_isOneOf 6 = .ok (.iload_n 1, 1) := by decide +kernel
theorem dX0_isOneOf_7 : decode cX0_isOneOf 7 = .ok (.invokevirtual 179, 3) := by decide +kernel
theorem dX0_isOneOf_10 : decode cX0_isOneOf 10 = .ok (.istore 4, 2) := by decide +kernel
theorem dX0_isOneOf_12 : decode cX0_isOneOf 12 = .ok (.iconst 0, 1) := by decide +kernel
theorem dX0_isOneOf_13 : decode cX0_isOneOf 13 = .ok (.istore 5, 2) := by decide +kernel
theorem dX0_isOneOf_15 : decode cX0_isOneOf 15 = .ok (.iload 4, 2) := by decide +kernel
theorem dX0_isOneOf_17 : decode cX0_isOneOf 17 = .ok (.iconst (-1), 1) := by decide +kernel
theorem dX0_isOneOf_18 : decode cX0_isOneOf 18 = .ok (.if_icmp .eq 56, 3) := by decide +kernel
theorem dX0_isOneOf_21 : decode cX0_isOneOf 21 = .ok (.iload 5, 2) := by decide +kernel
theorem dX0_isOneOf_23 : decode cX0_isOneOf 23 = .ok (.bipush 100, 2) := by decide +kernel
theorem dX0_isOneOf_25 : decode cX0_isOneOf 25 = .ok (.if_icmp .ge 49, 3) := by decide +kernel
theorem dX0_isOneOf_28 : decode cX0_isOneOf 28 = .ok (.iload_n 3, 1) := by decide +kernel
theorem dX0_isOneOf_29 : decode cX0_isOneOf 29 = .ok (.ifCond .ne 21, 3) := by decide +kernel
theorem dX0_isOneOf_32 : decode cX0_isOneOf 32 = .ok (.aload_n 0, 1) := by decide +kernel
theorem dX0_isOneOf_33 : decode cX0_isOneOf 33 = .ok (.getfield 49, 3) := by decide +kernel
theorem dX0_isOneOf_36 : decode cX0_isOneOf 36 = .ok (.iload 4, 2) := by decide +kernel
theorem dX0_isOneOf_38 : decode cX0_isOneOf 38 = .ok (.aload_n 0, 1) := by decide +kernel
theorem dX0_isOneOf_39 : decode cX0_isOneOf 39 = .ok (.getfield 52, 3) := by decide +kernel
theorem dX0_isOneOf_42 : decode cX0_isOneOf 42 = .ok (.iload_n 2, 1) := by decide +kernel
theorem dX0_isOneOf_43 : decode cX0_isOneOf 43 = .ok (.iconst 0, 1) := by decide +kernel
theorem dX0_isOneOf_44 : decode cX0_isOneOf 44 = .ok (.invokevirtual 253, 3) := by decide +kernel
theorem dX0_isOneOf_47 : decode cX0_isOneOf 47 = .ok (.ifCond .eq 7, 3) := by decide +kernel
theorem dX0_isOneOf_50 : decode cX0_isOneOf 50 = .ok (.iconst 1, 1) := by decide +kernel
theorem dX0_isOneOf_51 : decode cX0_isOneOf 51 = .ok (.goto 4, 3) := by decide +kernel
theorem dX0_isOneOf_54 : decode cX0_isOneOf 54 = .ok (.iconst 0, 1) := by decide +kernel
theorem dX0_isOneOf_55 : decode cX0_isOneOf 55 = .ok (.istore_n 3, 1) := by decide +kernel
theorem dX0_isOneOf_56 : decode cX0_isOneOf 56 = .ok (.aload_n 0, 1) := by decide +kernel
theorem dX0_isOneOf_57 : decode cX0_isOneOf 57 = .ok (.getfield 49, 3) := by decide +kernel
theorem dX0_isOneOf_60 : decode cX0_isOneOf 60 = .ok (.iload_n 1, 1) := by decide +kernel
theorem dX0_isOneOf_61 : decode cX0_isOneOf 61 = .ok (.iload 4, 2) := by decide +kernel
theorem dX0_isOneOf_63 : decode cX0_isOneOf 63 = .ok (.invokevirtual 186, 3) := by decide +kernel
theorem dX0_isOneOf_66 : decode cX0_isOneOf 66 = .ok (.istore 4, 2) := by decide +kernel
theorem dX0_isOneOf_68 : decode cX0_isOneOf 68 = .ok (.iinc 5 1, 3) := by decide +kernel
theorem dX0_isOneOf_71 : decode cX0_isOneOf 71 = .ok (.goto (-56), 3) := by decide +kernel
theorem dX0_isOneOf_74 : decode cX0_isOneOf 74 = .ok (.iload_n 3, 1) := by decide +kernel
theorem dX0_isOneOf_75 : decode cX0_isOneOf 75 = .ok (.ireturn, 1) := by decide +kernel
theorem dX3_init_0 : decode cX3_init 0 = .ok (.aload_n 0, 1) := by decide +kernel
theorem dX3_init_1 : decode cX3_init 1 = .ok (.invokespecial 3, 3) := by decide +kernel
theorem dX3_init_4 : decode cX3_init 4 = .ok (.aload_n 0, 1) := by decide +kernel
theorem dX3_init_5 : decode cX3_init 5 = .ok (.new 9, 3) := by decide +kernel
theorem dX3_init_8 : decode cX3_init 8 = .ok (.dup, 1) := by decide +kernel
theorem dX3_init_9 : decode cX3_init 9 = .ok (.invokespecial 11, 3) := by decide +kernel
theorem dX3_init_12 : decode cX3_init 12 = .ok (.putfield 12, 3) := by decide +kernel
theorem dX3_init_15 : decode cX3_init 15 = .ok (.aload_n 0, 1) := by decide +kernel
theorem dX3_init_16 : decode cX3_init 16 = .ok (.new 9, 3) := by decide +kernel
theorem dX3_init_19 : decode cX3_init 19 = .ok (.dup, 1) := by decide +kernel
theorem dX3_init_20 : decode cX3_init 20 = .ok (.invokespecial 11, 3) := by decide +kernel
theorem dX3_init_23 : decode cX3_init 23 = .ok (.putfield 18, 3) := by decide +kernel
theorem dX3_init_26 : decode cX3_init 26 = .ok (.aload_n 0, 1) := by decide +kernel
theorem dX3_init_27 : decode cX3_init 27 = .ok (.new 21, 3) := by decide +kernel
theorem dX3_init_30 : decode cX3_init 30 = .ok (.dup, 1) := by decide +kernel
theorem dX3_init_31 : decode cX3_init 31 = .ok (.bipush 24, 2) := by decide +kernel
theorem dX3_init_33 : decode cX3_init 33 = .ok (.invokespecial 23, 3) := by decide +kernel
theorem dX3_init_36 : decode cX3_init 36 = .ok (.putfield 26, 3) := by decide +kernel
theorem dX3_init_39 : decode cX3_init 39 = .ok (.aload_n 0, 1) := by decide +kernel
theorem dX3_init_40 : decode cX3_init 40 = .ok (.new 21, 3) := by decide +kernel
theorem dX3_init_43 : decode cX3_init 43 = .ok (.dup, 1) := by decide +kernel
theorem dX3_init_44 : decode cX3_init 44 = .ok (.bipush 12, 2) := by decide +kernel
theorem dX3_init_46 : decode cX3_init 46 = .ok (.invokespecial 23, 3) := by decide +kernel
theorem dX3_init_49 : decode cX3_init 49 = .ok (.putfield 30, 3) := by decide +kernel
theorem dX3_init_52 : decode cX3_init 52 = .ok (.return_, 1) := by decide +kernel
theorem dX3_result_0 : decode cX3_result 0 = .ok (.aload_n 0, 1) := by decide +kernel
theorem dX3_result_1 : decode cX3_result 1 = .ok (.getfield 12, 3) := by decide +kernel
theorem dX3_result_4 : decode cX3_result 4 = .ok (.areturn, 1) := by decide +kernel
theorem dX3_begin_0 : decode cX3_begin 0 = .ok (.aload_n 0, 1) := by decide +kernel
theorem dX3_begin_1 : decode cX3_begin 1 = .ok (.iload_n 1, 1) := by decide +kernel
theorem dX3_begin_2 : decode cX3_begin 2 = .ok (.putfield 33, 3) := by decide +kernel
theorem dX3_begin_5 : decode cX3_begin 5 = .ok (.aload_n 0, 1) := by decide +kernel
theorem dX3_begin_6 : decode cX3_begin 6 = .ok (.getfield 12, 3) := by decide +kernel
theorem dX3_begin_9 : decode cX3_begin 9 = .ok (.invokevirtual 37, 3) := by decide +kernel
theorem dX3_begin_12 : decode cX3_begin 12 = .ok (.return_, 1) := by decide +kernel
theorem dX3_draw_0 : decode cX3_draw 0 = .ok (.aload_n 0, 1) := by decide +kernel
theorem dX3_draw_1 : decode cX3_draw 1 = .ok (.sipush 25173, 3) := by decide +kernel
theorem dX3_draw_4 : decode cX3_draw 4 = .ok (.aload_n 0, 1) := by decide +kernel
theorem dX3_draw_5 : decode cX3_draw 5 = .ok (.getfield 33, 3) := by decide +kernel
theorem dX3_draw_8 : decode cX3_draw 8 = .ok (.imul, 1) := by decide +kernel
theorem dX3_draw_9 : decode cX3_draw 9 = .ok (.sipush 13849, 3) := by decide +kernel
theorem dX3_draw_12 : decode cX3_draw 12 = .ok (.iadd, 1) := by decide +kernel
theorem dX3_draw_13 : decode cX3_draw 13 = .ok (.ldc 40, 2) := by decide +kernel
theorem dX3_draw_15 : decode cX3_draw 15 = .ok (.irem, 1) := by decide +kernel
theorem dX3_draw_16 : decode cX3_draw 16 = .ok (.putfield 33, 3) := by decide +kernel
theorem dX3_draw_19 : decode cX3_draw 19 = .ok (.iload_n 1, 1) := by decide +kernel
theorem dX3_draw_20 : decode cX3_draw 20 = .ok (.ifCond .le 15, 3) := by decide +kernel
theorem dX3_draw_23 : decode cX3_draw 23 = .ok (.aload_n 0, 1) := by decide +kernel
theorem dX3_draw_24 : decode cX3_draw 24 = .ok (.getfield 33, 3) := by decide +kernel
theorem dX3_draw_27 : decode cX3_draw 27 = .ok (.bipush 16, 2) := by decide +kernel
theorem dX3_draw_29 : decode cX3_draw 29 = .ok (.idiv, 1) := by decide +kernel
theorem dX3_draw_30 : decode cX3_draw 30 = .ok (.iload_n 1, 1) := by decide +kernel
theorem dX3_draw_31 : decode cX3_draw 31 = .ok (.irem, 1) := by decide +kernel
theorem dX3_draw_32 : decode cX3_draw 32 = .ok (.goto 4, 3) := by decide +kernel
theorem dX3_draw_35 : decode cX3_draw 35 = .ok (.iconst 0, 1) := by decide +kernel
theorem dX3_draw_36 : decode cX3_draw 36 = .ok (.ireturn, 1) := by decide +kernel
theorem dX3_sprout_0 : decode cX3_sprout 0 = .ok (.aload_n 0, 1) := by decide +kernel
theorem dX3_sprout_1 : decode cX3_sprout 1 = .ok (.iload_n 1, 1) := by decide +kernel
theorem dX3_sprout_2 : decode cX3_sprout 2 = .ok (.ifCond .eq 8, 3) := by decide +kernel
theorem dX3_sprout_5 : decode cX3_sprout 5 = .ok (.iload_n 1, 1) := by decide +kernel
theorem dX3_sprout_6 : decode cX3_sprout 6 = .ok (.iconst 3, 1) := by decide +kernel
theorem dX3_sprout_7 : decode cX3_sprout 7 = .ok (.if_icmp .lt 7, 3) := by decide +kernel
theorem dX3_sprout_10 : decode cX3_sprout 10 = .ok (.iconst 4, 1) := by decide +kernel
theorem dX3_sprout_11 : decode cX3_sprout 11 = .ok (.goto 5, 3) := by decide +kernel
theorem dX3_sprout_14 : decode cX3_sprout 14 = .ok (.bipush 8, 2) := by decide +kernel
theorem dX3_sprout_16 : decode cX3_sprout 16 = .ok (.invokevirtual 41, 3) := by decide +kernel
theorem dX3_sprout_19 : decode cX3_sprout 19 = .ok (.iload_n 1, 1) := by decide +kernel
theorem dX3_sprout_20 : decode cX3_sprout 20 = .ok (.ifCond .ne 7, 3) := by decide +kernel
theorem dX3_sprout_23 : decode cX3_sprout 23 = .ok (.iconst 4, 1) := by decide +kernel
theorem dX3_sprout_24 : decode cX3_sprout 24 = .ok (.goto 4, 3) := by decide +kernel
theorem dX3_sprout_27 : decode cX3_sprout 27 = .ok (.iconst 0, 1) := by decide +kernel
theorem dX3_sprout_28 : decode cX3_sprout 28 = .ok (.iadd, 1) := by decide +kernel
theorem dX3_sprout_29 : decode cX3_sprout 29 = .ok (.istore_n 3, 1) := by decide +kernel
theorem dX3_sprout_30 : decode cX3_sprout 30 = .ok (.iload_n 3, 1) := by decide +kernel
theorem dX3_sprout_31 : decode cX3_sprout 31 = .ok (.tableswitch 70 0 3 #[29, 38, 60, 65], 29) := by decide +kernel
theorem dX3_sprout_60 : decode cX3_sprout 60 = .ok (.aload_n 0, 1) := by decide +kernel
theorem dX3_sprout_61 : decode cX3_sprout 61 = .ok (.getfield 12, 3) := by decide +kernel
theorem dX3_sprout_64 : decode cX3_sprout 64 = .ok (.iconst 0, 1) := by decide +kernel
theorem dX3_sprout_65 : decode cX3_sprout 65 = .ok (.invokevirtual 45, 3) := by decide +kernel
theorem dX3_sprout_68 : decode cX3_sprout 68 = .ok (.ireturn, 1) := by decide +kernel
theorem dX3_sprout_69 : decode cX3_sprout 69 = .ok (.aload_n 0, 1) := by decide +kernel
theorem dX3_sprout_70 : decode cX3_sprout 70 = .ok (.getfield 12, 3) := by decide +kernel
theorem dX3_sprout_73 : decode cX3_sprout 73 = .ok (.aload_n 0, 1) := by decide +kernel
theorem dX3_sprout_74 : decode cX3_sprout 74 = .ok (.iconst 2, 1) := by decide +kernel
theorem dX3_sprout_75 : decode cX3_sprout 75 = .ok (.invokevirtual 41, 3) := by decide +kernel
theorem dX3_sprout_78 : decode cX3_sprout 78 = .ok (.iconst 1, 1) := by decide +kernel
theorem dX3_sprout_79 : decode cX3_sprout 79 = .ok (.if_icmp .ne 7, 3) := by decide +kernel
theorem dX3_sprout_82 : decode cX3_sprout 82 = .ok (.iconst 1, 1) := by decide +kernel
theorem dX3_sprout_83 : decode cX3_sprout 83 = .ok (.goto 4, 3) := by decide +kernel
theorem dX3_sprout_86 : decode cX3_sprout 86 = .ok (.iconst 0, 1) := by decide +kernel
theorem dX3_sprout_87 : decode cX3_sprout 87 = .ok (.invokevirtual 48, 3) := by decide +kernel
theorem dX3_sprout_90 : decode cX3_sprout 90 = .ok (.ireturn, 1) := by decide +kernel
theorem dX3_sprout_91 : decode cX3_sprout 91 = .ok (.aload_n 0, 1) := by decide +kernel
theorem dX3_sprout_92 : decode cX3_sprout 92 = .ok (.invokevirtual 52, 3) := by decide +kernel
theorem dX3_sprout_95 : decode cX3_sprout 95 = .ok (.ireturn, 1) := by decide +kernel
theorem dX3_sprout_96 : decode cX3_sprout 96 = .ok (.aload_n 0, 1) := by decide +kernel
theorem dX3_sprout_97 : decode cX3_sprout 97 = .ok (.invokevirtual 56, 3) := by decide +kernel
theorem dX3_sprout_100 : decode cX3_sprout 100 = .ok (.ireturn, 1) := by decide +kernel
theorem dX3_sprout_101 : decode cX3_sprout 101 = .ok (.aload_n 0, 1) := by decide +kernel
theorem dX3_sprout_102 : decode cX3_sprout 102 = .ok (.iload_n 3, 1) := by decide +kernel
theorem dX3_sprout_103 : decode cX3_sprout 103 = .ok (.bipush 6, 2) := by decide +kernel
theorem dX3_sprout_105 : decode cX3_sprout 105 = .ok (.if_icmp .ge 7, 3) := by decide +kernel
theorem dX3_sprout_108 : decode cX3_sprout 108 = .ok (.iconst 4, 1) := by decide +kernel
theorem dX3_sprout_109 : decode cX3_sprout 109 = .ok (.goto 4, 3) := by decide +kernel
theorem dX3_sprout_112 : decode cX3_sprout 112 = .ok (.iconst 5, 1) := by decide +kernel
theorem dX3_sprout_113 : decode cX3_sprout 113 = .ok (.iload_n 1, 1) := by decide +kernel
theorem dX3_sprout_114 : decode cX3_sprout 114 = .ok (.iload_n 2, 1) := by decide +kernel
theorem dX3_sprout_115 : decode cX3_sprout 115 = .ok (.invokevirtual 59, 3) := by decide +kernel
theorem dX3_sprout_118 : decode cX3_sprout 118 = .ok (.ireturn, 1) := by decide +kernel
theorem dX3_number_0 : decode cX3_number 0 = .ok (.aload_n 0, 1) := by decide +kernel
theorem dX3_number_1 : decode cX3_number 1 = .ok (.getfield 12, 3) := by decide +kernel
theorem dX3_number_4 : decode cX3_number 4 = .ok (.iconst 2, 1) := by decide +kernel
theorem dX3_number_5 : decode cX3_number 5 = .ok (.invokevirtual 45, 3) := by decide +kernel
theorem dX3_number_8 : decode cX3_number 8 = .ok (.istore_n 1, 1) := by decide +kernel
theorem dX3_number_9 : decode cX3_number 9 = .ok (.aload_n 0, 1) := by decide +kernel
theorem dX3_number_10 : decode cX3_number 10 = .ok (.getfield 26, 3) := by decide +kernel
theorem dX3_number_13 : decode cX3_number 13 = .ok (.invokevirtual 63, 3) := by decide +kernel
theorem dX3_number_16 : decode cX3_number 16 = .ok (.aload_n 0, 1) := by decide +kernel
theorem dX3_number_17 : decode cX3_number 17 = .ok (.getfield 26, 3) := by decide +kernel
theorem dX3_number_20 : decode cX3_number 20 = .ok (.aload_n 0, 1) := by decide +kernel
theorem dX3_number_21 : decode cX3_number 21 = .ok (.sipush 1000, 3) := by decide +kernel
theorem dX3_number_24 : decode cX3_number 24 = .ok (.invokevirtual 41, 3) := by decide +kernel
theorem dX3_number_27 : decode cX3_number 27 = .ok (.invokevirtual 64, 3) := by decide +kernel
theorem dX3_number_30 : decode cX3_number 30 = .ok (.aload_n 0, 1) := by decide +kernel
theorem dX3_number_31 : decode cX3_number 31 = .ok (.getfield 12, 3) := by decide +kernel
theorem dX3_number_34 : decode cX3_number 34 = .ok (.iload_n 1, 1) := by decide +kernel
theorem dX3_number_35 : decode cX3_number 35 = .ok (.iconst 0, 1) := by decide +kernel
theorem dX3_number_36 : decode cX3_number 36 = .ok (.aload_n 0, 1) := by decide +kernel
theorem dX3_number_37 : decode cX3_number 37 = .ok (.getfield 26, 3) := by decide +kernel
theorem dX3_number_40 : decode cX3_number 40 = .ok (.aload_n 0, 1) := by decide +kernel
theorem dX3_number_41 : decode cX3_number 41 = .ok (.iconst 5, 1) := by decide +kernel
theorem dX3_number_42 : decode cX3_number 42 = .ok (.invokevirtual 41, 3) := by decide +kernel
theorem dX3_number_45 : decode cX3_number 45 = .ok (.iconst 2, 1) := by decide +kernel
theorem dX3_number_46 : decode cX3_number 46 = .ok (.isub, 1) := by decide +kernel
theorem dX3_number_47 : decode cX3_number 47 = .ok (.invokevirtual 67, 3) := by decide +kernel
theorem dX3_number_50 : decode cX3_number 50 = .ok (.pop, 1) := by decide +kernel
theorem dX3_number_51 : decode cX3_number 51 = .ok (.iload_n 1, 1) := by decide +kernel
theorem dX3_number_52 : decode cX3_number 52 = .ok (.ireturn, 1) := by decide +kernel
theorem dX3_text_0 : decode cX3_text 0 = .ok (.aload_n 0, 1) := by decide +kernel
theorem dX3_text_1 : decode cX3_text 1 = .ok (.getfield 12, 3) := by decide +kernel
theorem dX3_text_4 : decode cX3_text 4 = .ok (.iconst 3, 1) := by decide +kernel
theorem dX3_text_5 : decode cX3_text 5 = .ok (.invokevirtual 45, 3) := by decide +kernel
theorem dX3_text_8 : decode cX3_text 8 = .ok (.istore_n 1, 1) := by decide +kernel
theorem dX3_text_9 : decode cX3_text 9 = .ok (.aload_n 0, 1) := by decide +kernel
theorem dX3_text_10 : decode cX3_text 10 = .ok (.iconst 4, 1) := by decide +kernel
theorem dX3_text_11 : decode cX3_text 11 = .ok (.invokevirtual 41, 3) := by decide +kernel
theorem dX3_text_14 : decode cX3_text 14 = .ok (.istore_n 2, 1) := by decide +kernel
theorem dX3_text_15 : decode cX3_text 15 = .ok (.iconst 0, 1) := by decide +kernel
theorem dX3_text_16 : decode cX3_text 16 = .ok (.istore_n 3, 1) := by decide +kernel
theorem dX3_text_17 : decode cX3_text 17 = .ok (.iload_n 3, 1) := by decide +kernel
theorem dX3_text_18 : decode cX3_text 18 = .ok (.iload_n 2, 1) := by decide +kernel
theorem dX3_text_19 : decode cX3_text 19 = .ok (.if_icmp .ge 25, 3) := by decide +kernel
theorem dX3_text_22 : decode cX3_text 22 = .ok (.aload_n 0, 1) := by decide +kernel
theorem dX3_text_23 : decode cX3_text 23 = .ok (.getfield 12, 3) := by decide +kernel
theorem dX3_text_26 : decode cX3_text 26 = .ok (.iload_n 1, 1) := by decide +kernel
theorem dX3_text_27 : decode cX3_text 27 = .ok (.bipush 97, 2) := by decide +kernel
theorem dX3_text_29 : decode cX3_text 29 = .ok (.aload_n 0, 1) := by decide +kernel
theorem dX3_text_30 : decode cX3_text 30 = .ok (.iconst 3, 1) := by decide +kernel
theorem dX3_text_31 : decode cX3_text 31 = .ok (.invokevirtual 41, 3) := by decide +kernel
theorem dX3_text_34 : decode cX3_text 34 = .ok (.iadd, 1) := by decide +kernel
theorem dX3_text_35 : decode cX3_text 35 = .ok (.invokevirtual 71, 3) := by decide +kernel
theorem dX3_text_38 : decode cX3_text 38 = .ok (.iinc 3 1, 3) := by decide +kernel
theorem dX3_text_41 : decode cX3_text 41 = .ok (.goto (-24), 3) := by decide +kernel
theorem dX3_text_44 : decode cX3_text 44 = .ok (.iload_n 1, 1) := by decide +kernel
theorem dX3_text_45 : decode cX3_text 45 = .ok (.ireturn, 1) := by decide +kernel
theorem dX3_group_0 : decode cX3_group 0 = .ok (.aload_n 0, 1) := by decide +kernel
theorem dX3_group_1 : decode cX3_group 1 = .ok (.getfield 12, 3) := by decide +kernel
theorem dX3_group_4 : decode cX3_group 4 = .ok (.iload_n 1, 1) := by decide +kernel
theorem dX3_group_5 : decode cX3_group 5 = .ok (.invokevirtual 45, 3) := by decide +kernel
theorem dX3_group_8 : decode cX3_group 8 = .ok (.istore 4, 2) := by decide +kernel
theorem dX3_group_10 : decode cX3_group 10 = .ok (.aload_n 0, 1) := by decide +kernel
theorem dX3_group_11 : decode cX3_group 11 = .ok (.iload_n 3, 1) := by decide +kernel
theorem dX3_group_12 : decode cX3_group 12 = .ok (.iconst 1, 1) := by decide +kernel
theorem dX3_group_13 : decode cX3_group 13 = .ok (.iadd, 1) := by decide +kernel
theorem dX3_group_14 : decode cX3_group 14 = .ok (.invokevirtual 41, 3) := by decide +kernel
theorem dX3_group_17 : decode cX3_group 17 = .ok (.istore 5, 2) := by decide +kernel
theorem dX3_group_19 : decode cX3_group 19 = .ok (.iconst 0, 1) := by decide +kernel
theorem dX3_group_20 : decode cX3_group 20 = .ok (.istore 6, 2) := by decide +kernel
theorem dX3_group_22 : decode cX3_group 22 = .ok (.iload 6, 2) := by decide +kernel
theorem dX3_group_24 : decode cX3_group 24 = .ok (.iload 5, 2) := by decide +kernel
theorem dX3_group_26 : decode cX3_group 26 = .ok (.if_icmp .ge 39, 3) := by decide +kernel
theorem dX3_group_29 : decode cX3_group 29 = .ok (.iload_n 2, 1) := by decide +kernel
theorem dX3_group_30 : decode cX3_group 30 = .ok (.iconst 3, 1) := by decide +kernel
theorem dX3_group_31 : decode cX3_group 31 = .ok (.if_icmp .ge 34, 3) := by decide +kernel
theorem dX3_group_34 : decode cX3_group 34 = .ok (.iload_n 1, 1) := by decide +kernel
theorem dX3_group_35 : decode cX3_group 35 = .ok (.iconst 4, 1) := by decide +kernel
theorem dX3_group_36 : decode cX3_group 36 = .ok (.if_icmp .ne 15, 3) := by decide +kernel
theorem dX3_group_39 : decode cX3_group 39 = .ok (.aload_n 0, 1) := by decide +kernel
theorem dX3_group_40 : decode cX3_group 40 = .ok (.iload_n 2, 1) := by decide +kernel
theorem dX3_group_41 : decode cX3_group 41 = .ok (.iconst 1, 1) := by decide +kernel
theorem dX3_group_42 : decode cX3_group 42 = .ok (.iadd, 1) := by decide +kernel
theorem dX3_group_43 : decode cX3_group 43 = .ok (.iload_n 3, 1) := by decide +kernel
theorem dX3_group_44 : decode cX3_group 44 = .ok (.invokevirtual 75, 3) := by decide +kernel
theorem dX3_group_47 : decode cX3_group 47 = .ok (.pop, 1) := by decide +kernel
theorem dX3_group_48 : decode cX3_group 48 = .ok (.goto 11, 3) := by decide +kernel
theorem dX3_group_51 : decode cX3_group 51 = .ok (.aload_n 0, 1) := by decide +kernel
theorem dX3_group_52 : decode cX3_group 52 = .ok (.iload 4, 2) := by decide +kernel
theorem dX3_group_54 : decode cX3_group 54 = .ok (.iload_n 2, 1) := by decide +kernel
theorem dX3_group_55 : decode cX3_group 55 = .ok (.iload_n 3, 1) := by decide +kernel
theorem dX3_group_56 : decode cX3_group 56 = .ok (.invokevirtual 79, 3) := by decide +kernel
theorem dX3_group_59 : decode cX3_group 59 = .ok (.iinc 6 1, 3) := by decide +kernel
theorem dX3_group_62 : decode cX3_group 62 = .ok (.goto (-40), 3) := by decide +kernel
theorem dX3_group_65 : decode cX3_group 65 = .ok (.aload_n 0, 1) := by decide +kernel
theorem dX3_group_66 : decode cX3_group 66 = .ok (.getfield 12, 3) := by decide +kernel
theorem dX3_group_69 : decode cX3_group 69 = .ok (.iload 4, 2) := by decide +kernel
theorem dX3_group_71 : decode cX3_group 71 = .ok (.invokevirtual 83, 3) := by decide +kernel
theorem dX3_group_74 : decode cX3_group 74 = .ok (.iload 4, 2) := by decide +kernel
theorem dX3_group_76 : decode cX3_group 76 = .ok (.ireturn, 1) := by decide +kernel
theorem dX3_entry_0 : decode cX3_entry 0 = .ok (.aload_n 0, 1) := by decide +kernel
theorem dX3_entry_1 : decode cX3_entry 1 = .ok (.getfield 30, 3) := by decide +kernel
theorem dX3_entry_4 : decode cX3_entry 4 = .ok (.invokevirtual 63, 3) := by decide +kernel
theorem dX3_entry_7 : decode cX3_entry 7 = .ok (.aload_n 0, 1) := by decide +kernel
theorem dX3_entry_8 : decode cX3_entry 8 = .ok (.getfield 30, 3) := by decide +kernel
theorem dX3_entry_11 : decode cX3_entry 11 = .ok (.bipush 97, 2) := by decide +kernel
theorem dX3_entry_13 : decode cX3_entry 13 = .ok (.aload_n 0, 1) := by decide +kernel
theorem dX3_entry_14 : decode cX3_entry 14 = .ok (.iconst 5, 1) := by decide +kernel
theorem dX3_entry_15 : decode cX3_entry 15 = .ok (.invokevirtual 41, 3) := by decide +kernel
theorem dX3_entry_18 : decode cX3_entry 18 = .ok (.iadd, 1) := by decide +kernel
theorem dX3_entry_19 : decode cX3_entry 19 = .ok (.invokevirtual 86, 3) := by decide +kernel
theorem dX3_entry_22 : decode cX3_entry 22 = .ok (.aload_n 0, 1) := by decide +kernel
theorem dX3_entry_23 : decode cX3_entry 23 = .ok (.getfield 12, 3) := by decide +kernel
theorem dX3_entry_26 : decode cX3_entry 26 = .ok (.iload_n 1, 1) := by decide +kernel
theorem dX3_entry_27 : decode cX3_entry 27 = .ok (.invokevirtual 83, 3) := by decide +kernel
theorem dX3_entry_30 : decode cX3_entry 30 = .ok (.aload_n 0, 1) := by decide +kernel
theorem dX3_entry_31 : decode cX3_entry 31 = .ok (.getfield 12, 3) := by decide +kernel
theorem dX3_entry_34 : decode cX3_entry 34 = .ok (.iload_n 1, 1) := by decide +kernel
theorem dX3_entry_35 : decode cX3_entry 35 = .ok (.aload_n 0, 1) := by decide +kernel
theorem dX3_entry_36 : decode cX3_entry 36 = .ok (.getfield 30, 3) := by decide +kernel
theorem dX3_entry_39 : decode cX3_entry 39 = .ok (.invokevirtual 88, 3) := by decide +kernel
theorem dX3_entry_42 : decode cX3_entry 42 = .ok (.istore 4, 2) := by decide +kernel
theorem dX3_entry_44 : decode cX3_entry 44 = .ok (.aload_n 0, 1) := by decide +kernel
theorem dX3_entry_45 : decode cX3_entry 45 = .ok (.getfield 30, 3) := by decide +kernel
theorem dX3_entry_48 : decode cX3_entry 48 = .ok (.iconst 0, 1) := by decide +kernel
theorem dX3_entry_49 : decode cX3_entry 49 = .ok (.invokevirtual 92, 3) := by decide +kernel
theorem dX3_entry_52 : decode cX3_entry 52 = .ok (.istore 5, 2) := by decide +kernel
theorem dX3_entry_54 : decode cX3_entry 54 = .ok (.aload_n 0, 1) := by decide +kernel
theorem dX3_entry_55 : decode cX3_entry 55 = .ok (.iload_n 2, 1) := by decide +kernel
theorem dX3_entry_56 : decode cX3_entry 56 = .ok (.iconst 1, 1) := by decide +kernel
theorem dX3_entry_57 : decode cX3_entry 57 = .ok (.iadd, 1) := by decide +kernel
theorem dX3_entry_58 : decode cX3_entry 58 = .ok (.iload_n 3, 1) := by decide +kernel
theorem dX3_entry_59 : decode cX3_entry 59 = .ok (.invokevirtual 75, 3) := by decide +kernel
theorem dX3_entry_62 : decode cX3_entry 62 = .ok (.istore 6, 2) := by decide +kernel
theorem dX3_entry_64 : decode cX3_entry 64 = .ok (.iload 4, 2) := by decide +kernel
theorem dX3_entry_66 : decode cX3_entry 66 = .ok (.iconst (-1), 1) := by decide +kernel
theorem dX3_entry_67 : decode cX3_entry 67 = .ok (.if_icmp .ne 17, 3) := by decide +kernel
theorem dX3_entry_70 : decode cX3_entry 70 = .ok (.aload_n 0, 1) := by decide +kernel
theorem dX3_entry_71 : decode cX3_entry 71 = .ok (.getfield 12, 3) := by decide +kernel
theorem dX3_entry_74 : decode cX3_entry 74 = .ok (.iload 6, 2) := by decide +kernel
theorem dX3_entry_76 : decode cX3_entry 76 = .ok (.iload 5, 2) := by decide +kernel
theorem dX3_entry_78 : decode cX3_entry 78 = .ok (.invokevirtual 95, 3) := by decide +kernel
theorem dX3_entry_81 : decode cX3_entry 81 = .ok (.goto 18, 3) := by decide +kernel
theorem dX3_entry_84 : decode cX3_entry 84 = .ok (.aload_n 0, 1) := by decide +kernel
theorem dX3_entry_85 : decode cX3_entry 85 = .ok (.getfield 12, 3) := by decide +kernel
theorem dX3_entry_88 : decode cX3_entry 88 = .ok (.iload 4, 2) := by decide +kernel
theorem dX3_entry_90 : decode cX3_entry 90 = .ok (.iload 6, 2) := by decide +kernel
theorem dX3_entry_92 : decode cX3_entry 92 = .ok (.aload_n 0, 1) := by decide +kernel
theorem dX3_entry_93 : decode cX3_entry 93 = .ok (.getfield 18, 3) := by decide +kernel
theorem dX3_entry_96 : decode cX3_entry 96 = .ok (.invokevirtual 98, 3) := by decide +kernel
theorem dX3_entry_99 : decode cX3_entry 99 = .ok (.return_, 1) := by decide +kernel
theorem dX11_init_0 : decode cX11_init 0 = .ok (.aload_n 0, 1) := by decide +kernel
theorem dX11_init_1 : decode cX11_init 1 = .ok (.invokespecial 1, 3) := by decide +kernel
theorem dX11_init_4 : decode cX11_init 4 = .ok (.aload_n 0, 1) := by decide +kernel
theorem dX11_init_5 : decode cX11_init 5 = .ok (.new 7, 3) := by decide +kernel
theorem dX11_init_8 : decode cX11_init 8 = .ok (.dup, 1) := by decide +kernel
theorem dX11_init_9 : decode cX11_init 9 = .ok (.sipush 400, 3) := by decide +kernel
theorem dX11_init_12 : decode cX11_init 12 = .ok (.invokespecial 11, 3) := by decide +kernel
theorem dX11_init_15 : decode cX11_init 15 = .ok (.putfield 14, 3) := by decide +kernel
theorem dX11_init_18 : decode cX11_init 18 = .ok (.aload_n 0, 1) := by decide +kernel
theorem dX11_init_19 : decode cX11_init 19 = .ok (.new 7, 3) := by decide +kernel
theorem dX11_init_22 : decode cX11_init 22 = .ok (.dup, 1) := by decide +kernel
theorem dX11_init_23 : decode cX11_init 23 = .ok (.ldc 18, 2) := by decide +kernel
theorem dX11_init_25 : decode cX11_init 25 = .ok (.invokespecial 11, 3) := by decide +kernel
theorem dX11_init_28 : decode cX11_init 28 = .ok (.putfield 19, 3) := by decide +kernel
theorem dX11_init_31 : decode cX11_init 31 = .ok (.aload_n 0, 1) := by decide +kernel
theorem dX11_init_32 : decode cX11_init 32 = .ok (.new 7, 3) := by decide +kernel
theorem dX11_init_35 : decode cX11_init 35 = .ok (.dup, 1) := by decide +kernel
theorem dX11_init_36 : decode cX11_init 36 = .ok (.ldc 18, 2) := by decide +kernel
theorem dX11_init_38 : decode cX11_init 38 = .ok (.invokespecial 11, 3) := by decide +kernel
theorem dX11_init_41 : decode cX11_init 41 = .ok (.putfield 22, 3) := by decide +kernel
theorem dX11_init_44 : decode cX11_init 44 = .ok (.aload_n 0, 1) := by decide +kernel
theorem dX11_init_45 : decode cX11_init 45 = .ok (.bipush 40, 2) := by decide +kernel
theorem dX11_init_47 : decode cX11_init 47 = .ok (.anewarray 25, 3) := by decide +kernel
theorem dX11_init_50 : decode cX11_init 50 = .ok (.putfield 27, 3) := by decide +kernel
theorem dX11_init_53 : decode cX11_init 53 = .ok (.aload_n 0, 1) := by decide +kernel
theorem dX11_init_54 : decode cX11_init 54 = .ok (.new 25, 3) := by decide +kernel
theorem dX11_init_57 : decode cX11_init 57 = .ok (.dup, 1) := by decide +kernel
theorem dX11_init_58 : decode cX11_init 58 = .ok (.invokespecial 31, 3) := by decide +kernel
theorem dX11_init_61 : decode cX11_init 61 = .ok (.putfield 32, 3) := by decide +kernel
theorem dX11_init_64 : decode cX11_init 64 = .ok (.aload_n 0, 1) := by decide +kernel
theorem dX11_init_65 : decode cX11_init 65 = .ok (.new 25, 3) := by decide +kernel
theorem dX11_init_68 : decode cX11_init 68 = .ok (.dup, 1) := by decide +kernel
theorem dX11_init_69 : decode cX11_init 69 = .ok (.invokespecial 31, 3) := by decide +kernel
theorem dX11_init_72 : decode cX11_init 72 = .ok (.putfield 36, 3) := by decide +kernel
theorem dX11_init_75 : decode cX11_init 75 = .ok (.aload_n 0, 1) := by decide +kernel
theorem dX11_init_76 : decode cX11_init 76 = .ok (.new 39, 3) := by decide +kernel
theorem dX11_init_79 : decode cX11_init 79 = .ok (.dup, 1) := by decide +kernel
theorem dX11_init_80 : decode cX11_init 80 = .ok (.invokespecial 41, 3) := by decide +kernel
theorem dX11_init_83 : decode cX11_init 83 = .ok (.putfield 42, 3) := by decide +kernel
theorem dX11_init_86 : decode cX11_init 86 = .ok (.aload_n 0, 1) := by decide +kernel
theorem dX11_init_87 : decode cX11_init 87 = .ok (.new 46, 3) := by decide +kernel
theorem dX11_init_90 : decode cX11_init 90 = .ok (.dup, 1) := by decide +kernel
theorem dX11_init_91 : decode cX11_init 91 = .ok (.invokespecial 48, 3) := by decide +kernel
theorem dX11_init_94 : decode cX11_init 94 = .ok (.putfield 49, 3) := by decide +kernel
theorem dX11_init_97 : decode cX11_init 97 = .ok (.aload_n 0, 1) := by decide +kernel
theorem dX11_init_98 : decode cX11_init 98 = .ok (.new 53, 3) := by decide +kernel
theorem dX11_init_101 : decode cX11_init 101 = .ok (.dup, 1) := by decide +kernel
theorem dX11_init_102 : decode cX11_init 102 = .ok (.invokespecial 55, 3) := by decide +kernel
theorem dX11_init_105 : decode cX11_init 105 = .ok (.putfield 56, 3) := by decide +kernel
theorem dX11_init_108 : decode cX11_init 108 = .ok (.aload_n 0, 1) := by decide +kernel
theorem dX11_init_109 : decode cX11_init 109 = .ok (.new 60, 3) := by decide +kernel
theorem dX11_init_112 : decode cX11_init 112 = .ok (.dup, 1) := by decide +kernel
theorem dX11_init_113 : decode cX11_init 113 = .ok (.invokespecial 62, 3) := by decide +kernel
theorem dX11_init_116 : decode cX11_init 116 = .ok (.putfield 63, 3) := by decide +kernel
theorem dX11_init_119 : decode cX11_init 119 = .ok (.aload_n 0, 1) := by decide +kernel
theorem dX11_init_120 : decode cX11_init 120 = .ok (.new 67, 3) := by decide +kernel
theorem dX11_init_123 : decode cX11_init 123 = .ok (.dup, 1) := by decide +kernel
theorem dX11_init_124 : decode cX11_init 124 = .ok (.invokespecial 69, 3) := by decide +kernel
theorem dX11_init_127 : decode cX11_init 127 = .ok (.putfield 70, 3) := by decide +kernel
theorem dX11_init_130 : decode cX11_init 130 = .ok (.aload_n 0, 1) := by decide +kernel
theorem dX11_init_131 : decode cX11_init 131 = .ok (.new 74, 3) := by decide +kernel
theorem dX11_init_134 : decode cX11_init 134 = .ok (.dup, 1) := by decide +kernel
theorem dX11_init_135 : decode cX11_init 135 = .ok (.invokespecial 76, 3) := by decide +kernel
theorem dX11_init_138 : decode cX11_init 138 = .ok (.putfield 77, 3) := by decide +kernel
theorem dX11_init_141 : decode cX11_init 141 = .ok (.aload_n 0, 1) := by decide +kernel
theorem dX11_init_142 : decode cX11_init 142 = .ok (.new 81, 3) := by decide +kernel
theorem dX11_init_145 : decode cX11_init 145 = .ok (.dup, 1) := by decide +kernel
theorem dX11_init_146 : decode cX11_init 146 = .ok (.invokespecial 83, 3) := by decide +kernel
theorem dX11_init_149 : decode cX11_init 149 = .ok (.putfield 84, 3) := by decide +kernel
theorem dX11_init_152 : decode cX11_init 152 = .ok (.aload_n 0, 1) := by decide +kernel
theorem dX11_init_153 : decode cX11_init 153 = .ok (.new 88, 3) := by decide +kernel
theorem dX11_init_156 : decode cX11_init 156 = .ok (.dup, 1) := by decide +kernel
theorem dX11_init_157 : decode cX11_init 157 = .ok (.invokespecial 90, 3) := by decide +kernel
theorem dX11_init_160 : decode cX11_init 160 = .ok (.putfield 91, 3) := by decide +kernel
theorem dX11_init_163 : decode cX11_init 163 = .ok (.iconst 0, 1) := by decide +kernel
theorem dX11_init_164 : decode cX11_init 164 = .ok (.istore_n 1, 1) := by decide +kernel
theorem dX11_init_165 : decode cX11_init 165 = .ok (.iload_n 1, 1) := by decide +kernel
theorem dX11_init_166 : decode cX11_init 166 = .ok (.aload_n 0, 1) := by decide +kernel
theorem dX11_init_167 : decode cX11_init 167 = .ok (.getfield 27, 3) := by decide +kernel
theorem dX11_init_170 : decode cX11_init 170 = .ok (.arraylength, 1) := by decide +kernel
theorem dX11_init_171 : decode cX11_init 171 = .ok (.if_icmp .ge 22, 3) := by decide +kernel
theorem dX11_init_174 : decode cX11_init 174 = .ok (.aload_n 0, 1) := by decide +kernel
theorem dX11_init_175 : decode cX11_init 175 = .ok (.getfield 27, 3) := by decide +kernel
theorem dX11_init_178 : decode cX11_init 178 = .ok (.iload_n 1, 1) := by decide +kernel
theorem dX11_init_179 : decode cX11_init 179 = .ok (.new 25, 3) := by decide +kernel
theorem dX11_init_182 : decode cX11_init 182 = .ok (.dup, 1) := by decide +kernel
theorem dX11_init_183 : decode cX11_init 183 = .ok (.invokespecial 31, 3) := by decide +kernel
theorem dX11_init_186 : decode cX11_init 186 = .ok (.aastore, 1) := by decide +kernel
theorem dX11_init_187 : decode cX11_init 187 = .ok (.iinc 1 1, 3) := by decide +kernel
theorem dX11_init_190 : decode cX11_init 190 = .ok (.goto (-25), 3) := by decide +kernel
theorem dX11_init_193 : decode cX11_init 193 = .ok (.aload_n 0, 1) := by decide +kernel
theorem dX11_init_194 : decode cX11_init 194 = .ok (.getfield 22, 3) := by decide +kernel
theorem dX11_init_197 : decode cX11_init 197 = .ok (.invokestatic 95, 3) := by decide +kernel
theorem dX11_init_200 : decode cX11_init 200 = .ok (.aload_n 0, 1) := by decide +kernel
theorem dX11_init_201 : decode cX11_init 201 = .ok (.getfield 42, 3) := by decide +kernel
theorem dX11_init_204 : decode cX11_init 204 = .ok (.aload_n 0, 1) := by decide +kernel
theorem dX11_init_205 : decode cX11_init 205 = .ok (.getfield 22, 3) := by decide +kernel
theorem dX11_init_208 : decode cX11_init 208 = .ok (.iconst 0, 1) := by decide +kernel
theorem dX11_init_209 : decode cX11_init 209 = .ok (.invokevirtual 101, 3) := by decide +kernel
theorem dX11_init_212 : decode cX11_init 212 = .ok (.pop, 1) := by decide +kernel
theorem dX11_init_213 : decode cX11_init 213 = .ok (.aload_n 0, 1) := by decide +kernel
theorem dX11_init_214 : decode cX11_init 214 = .ok (.getfield 36, 3) := by decide +kernel
theorem dX11_init_217 : decode cX11_init 217 = .ok (.aload_n 0, 1) := by decide +kernel
theorem dX11_init_218 : decode cX11_init 218 = .ok (.getfield 42, 3) := by decide +kernel
theorem dX11_init_221 : decode cX11_init 221 = .ok (.invokevirtual 105, 3) := by decide +kernel
theorem dX11_init_224 : decode cX11_init 224 = .ok (.iconst 0, 1) := by decide +kernel
theorem dX11_init_225 : decode cX11_init 225 = .ok (.invokevirtual 109, 3) := by decide +kernel
theorem dX11_init_228 : decode cX11_init 228 = .ok (.return_, 1) := by decide +kernel
theorem dX11_write_0 : decode cX11_write 0 = .ok (.iload_n 1, 1) := by decide +kernel
theorem dX11_write_1 : decode cX11_write 1 = .ok (.iconst 1, 1) := by decide +kernel
theorem dX11_write_2 : decode cX11_write 2 = .ok (.if_icmp .lt 17, 3) := by decide +kernel
theorem dX11_write_5 : decode cX11_write 5 = .ok (.iload_n 1, 1) := by decide +kernel
theorem dX11_write_6 : decode cX11_write 6 = .ok (.bipush 8, 2) := by decide +kernel
theorem dX11_write_8 : decode cX11_write 8 = .ok (.if_icmp .gt 11, 3) := by decide +kernel
theorem dX11_write_11 : decode cX11_write 11 = .ok (.iload_n 1, 1) := by decide +kernel
theorem dX11_write_12 : decode cX11_write 12 = .ok (.lload_n 2, 1) := by decide +kernel
theorem dX11_write_13 : decode cX11_write 13 = .ok (.invokestatic 113, 3) := by decide +kernel
theorem dX11_write_16 : decode cX11_write 16 = .ok (.ifCond .ne 11, 3) := by decide +kernel
theorem dX11_write_19 : decode cX11_write 19 = .ok (.new 117, 3) := by decide +kernel
theorem dX11_write_22 : decode cX11_write 22 = .ok (.dup, 1) := by decide +kernel
theorem dX11_write_23 : decode cX11_write 23 = .ok (.invokespecial 119, 3) := by decide +kernel
theorem dX11_write_26 : decode cX11_write 26 = .ok (.athrow, 1) := by decide +kernel
theorem dX11_write_27 : decode cX11_write 27 = .ok (.aload_n 0, 1) := by decide +kernel
theorem dX11_write_28 : decode cX11_write 28 = .ok (.getfield 14, 3) := by decide +kernel
theorem dX11_write_31 : decode cX11_write 31 = .ok (.invokevirtual 120, 3) := by decide +kernel
theorem dX11_write_34 : decode cX11_write 34 = .ok (.iload_n 1, 1) := by decide +kernel
theorem dX11_write_35 : decode cX11_write 35 = .ok (.iadd, 1) := by decide +kernel
theorem dX11_write_36 : decode cX11_write 36 = .ok (.sipush 400, 3) := by decide +kernel
theorem dX11_write_39 : decode cX11_write 39 = .ok (.if_icmp .le 11, 3) := by decide +kernel
theorem dX11_write_42 : decode cX11_write 42 = .ok (.new 124, 3) := by decide +kernel
theorem dX11_write_45 : decode cX11_write 45 = .ok (.dup, 1) := by decide +kernel
theorem dX11_write_46 : decode cX11_write 46 = .ok (.invokespecial 126, 3) := by decide +kernel
theorem dX11_write_49 : decode cX11_write 49 = .ok (.athrow, 1) := by decide +kernel
theorem dX11_write_50 : decode cX11_write 50 = .ok (.iload_n 1, 1) := by decide +kernel
theorem dX11_write_51 : decode cX11_write 51 = .ok (.iconst 1, 1) := by decide +kernel
theorem dX11_write_52 : decode cX11_write 52 = .ok (.isub, 1) := by decide +kernel
theorem dX11_write_53 : decode cX11_write 53 = .ok (.istore 4, 2) := by decide +kernel
theorem dX11_write_55 : decode cX11_write 55 = .ok (.iload 4, 2) := by decide +kernel
theorem dX11_write_57 : decode cX11_write 57 = .ok (.ifCond .lt 22, 3) := by decide +kernel
theorem dX11_write_60 : decode cX11_write 60 = .ok (.aload_n 0, 1) := by decide +kernel
theorem dX11_write_61 : decode cX11_write 61 = .ok (.getfield 14, 3) := by decide +kernel
theorem dX11_write_64 : decode cX11_write 64 = .ok (.lload_n 2, 1) := by decide +kernel
theorem dX11_write_65 : decode cX11_write 65 = .ok (.iload 4, 2) := by decide +kernel
theorem dX11_write_67 : decode cX11_write 67 = .ok (.invokestatic 127, 3) := by decide +kernel
theorem dX11_write_70 : decode cX11_write 70 = .ok (.invokevirtual 131, 3) := by decide +kernel
theorem dX11_write_73 : decode cX11_write 73 = .ok (.iinc 4 (-1), 3) := by decide +kernel
theorem dX11_write_76 : decode cX11_write 76 = .ok (.goto (-21), 3) := by decide +kernel
theorem dX11_write_79 : decode cX11_write 79 = .ok (.aload_n 0, 1) := by decide +kernel
theorem dX11_write_80 : decode cX11_write 80 = .ok (.getfield 14, 3) := by decide +kernel
theorem dX11_write_83 : decode cX11_write 83 = .ok (.invokevirtual 120, 3) := by decide +kernel
theorem dX11_write_86 : decode cX11_write 86 = .ok (.ireturn, 1) := by decide +kernel
theorem dX11_wipe_0 : decode cX11_wipe 0 = .ok (.aload_n 0, 1) := by decide +kernel
theorem dX11_wipe_1 : decode cX11_wipe 1 = .ok (.getfield 14, 3) := by decide +kernel
theorem dX11_wipe_4 : decode cX11_wipe 4 = .ok (.invokevirtual 120, 3) := by decide +kernel
theorem dX11_wipe_7 : decode cX11_wipe 7 = .ok (.istore_n 1, 1) := by decide +kernel
theorem dX11_wipe_8 : decode cX11_wipe 8 = .ok (.aload_n 0, 1) := by decide +kernel
theorem dX11_wipe_9 : decode cX11_wipe 9 = .ok (.getfield 14, 3) := by decide +kernel
theorem dX11_wipe_12 : decode cX11_wipe 12 = .ok (.invokevirtual 134, 3) := by decide +kernel
theorem dX11_wipe_15 : decode cX11_wipe 15 = .ok (.iload_n 1, 1) := by decide +kernel
theorem dX11_wipe_16 : decode cX11_wipe 16 = .ok (.ireturn, 1) := by decide +kernel
theorem dX11_paper_0 : decode cX11_paper 0 = .ok (.iload_n 1, 1) := by decide +kernel
theorem dX11_paper_1 : decode cX11_paper 1 = .ok (.ifCond .lt 14, 3) := by decide +kernel
theorem dX11_paper_4 : decode cX11_paper 4 = .ok (.iload_n 1, 1) := by decide +kernel
theorem dX11_paper_5 : decode cX11_paper 5 = .ok (.aload_n 0, 1) := by decide +kernel
theorem dX11_paper_6 : decode cX11_paper 6 = .ok (.getfield 19, 3) := by decide +kernel
theorem dX11_paper_9 : decode cX11_paper 9 = .ok (.invokevirtual 120, 3) := by decide +kernel
theorem dX11_paper_12 : decode cX11_paper 12 = .ok (.if_icmp .lt 11, 3) := by decide +kernel
theorem dX11_paper_15 : decode cX11_paper 15 = .ok (.new 137, 3) := by decide +kernel
theorem dX11_paper_18 : decode cX11_paper 18 = .ok (.dup, 1) := by decide +kernel
theorem dX11_paper_19 : decode cX11_paper 19 = .ok (.invokespecial 139, 3) := by decide +kernel
theorem dX11_paper_22 : decode cX11_paper 22 = .ok (.athrow, 1) := by decide +kernel
theorem dX11_paper_23 : decode cX11_paper 23 = .ok (.iload_n 2, 1) := by decide +kernel
theorem dX11_paper_24 : decode cX11_paper 24 = .ok (.iconst 1, 1) := by decide +kernel
theorem dX11_paper_25 : decode cX11_paper 25 = .ok (.if_icmp .lt 22, 3) := by decide +kernel
theorem dX11_paper_28 : decode cX11_paper 28 = .ok (.iload_n 2, 1) := by decide +kernel
theorem dX11_paper_29 : decode cX11_paper 29 = .ok (.bipush 7, 2) := by decide +kernel
theorem dX11_paper_31 : decode cX11_paper 31 = .ok (.if_icmp .gt 16, 3) := by decide +kernel
theorem dX11_paper_34 : decode cX11_paper 34 = .ok (.iload_n 2, 1) := by decide +kernel
theorem dX11_paper_35 : decode cX11_paper 35 = .ok (.aload_n 0, 1) := by decide +kernel
theorem dX11_paper_36 : decode cX11_paper 36 = .ok (.getfield 19, 3) := by decide +kernel
theorem dX11_paper_39 : decode cX11_paper 39 = .ok (.invokevirtual 120, 3) := by decide +kernel
theorem dX11_paper_42 : decode cX11_paper 42 = .ok (.iload_n 1, 1) := by decide +kernel
theorem dX11_paper_43 : decode cX11_paper 43 = .ok (.isub, 1) := by decide +kernel
theorem dX11_paper_44 : decode cX11_paper 44 = .ok (.if_icmp .le 11, 3) := by decide +kernel
theorem dX11_paper_47 : decode cX11_paper 47 = .ok (.new 117, 3) := by decide +kernel
theorem dX11_paper_50 : decode cX11_paper 50 = .ok (.dup, 1) := by decide +kernel
theorem dX11_paper_51 : decode cX11_paper 51 = .ok (.invokespecial 119, 3) := by decide +kernel
theorem dX11_paper_54 : decode cX11_paper 54 = .ok (.athrow, 1) := by decide +kernel
theorem dX11_paper_55 : decode cX11_paper 55 = .ok (.lconst 0, 1) := by decide +kernel
theorem dX11_paper_56 : decode cX11_paper 56 = .ok (.lstore_n 3, 1) := by decide +kernel
theorem dX11_paper_57 : decode cX11_paper 57 = .ok (.iconst 0, 1) := by decide +kernel
theorem dX11_paper_58 : decode cX11_paper 58 = .ok (.istore 5, 2) := by decide +kernel
theorem dX11_paper_60 : decode cX11_paper 60 = .ok (.iload 5, 2) := by decide +kernel
theorem dX11_paper_62 : decode cX11_paper 62 = .ok (.iload_n 2, 1) := by decide +kernel
theorem dX11_paper_63 : decode cX11_paper 63 = .ok (.if_icmp .ge 28, 3) := by decide +kernel
theorem dX11_paper_66 : decode cX11_paper 66 = .ok (.lload_n 3, 1) := by decide +kernel
theorem dX11_paper_67 : decode cX11_paper 67 = .ok (.ldc2_w 140, 3) := by decide +kernel
theorem dX11_paper_70 : decode cX11_paper 70 = .ok (.lmul, 1) := by decide +kernel
theorem dX11_paper_71 : decode cX11_paper 71 = .ok (.aload_n 0, 1) := by decide +kernel
theorem dX11_paper_72 : decode cX11_paper 72 = .ok (.getfield 19, 3) := by decide +kernel
theorem dX11_paper_75 : decode cX11_paper 75 = .ok (.iload_n 1, 1) := by decide +kernel
theorem dX11_paper_76 : decode cX11_paper 76 = .ok (.iload 5, 2) := by decide +kernel
theorem dX11_paper_78 : decode cX11_paper 78 = .ok (.iadd, 1) := by decide +kernel
theorem dX11_paper_79 : decode cX11_paper 79 = .ok (.invokevirtual 142, 3) := by decide +kernel
theorem dX11_paper_82 : decode cX11_paper 82 = .ok (.i2l, 1) := by decide +kernel
theorem dX11_paper_83 : decode cX11_paper 83 = .ok (.ladd, 1) := by decide +kernel
theorem dX11_paper_84 : decode cX11_paper 84 = .ok (.lstore_n 3, 1) := by decide +kernel
theorem dX11_paper_85 : decode cX11_paper 85 = .ok (.iinc 5 1, 3) := by decide +kernel
theorem dX11_paper_88 : decode cX11_paper 88 = .ok (.goto (-28), 3) := by decide +kernel
theorem dX11_paper_91 : decode cX11_paper 91 = .ok (.lload_n 3, 1) := by decide +kernel
theorem dX11_paper_92 : decode cX11_paper 92 = .ok (.lreturn, 1) := by decide +kernel
theorem dX11_read_0 : decode cX11_read 0 = .ok (.aload_n 0, 1) := by decide +kernel
theorem dX11_read_1 : decode cX11_read 1 = .ok (.getfield 150, 3) := by decide +kernel
theorem dX11_read_4 : decode cX11_read 4 = .ok (.bipush 40, 2) := by decide +kernel
theorem dX11_read_6 : decode cX11_read 6 = .ok (.if_icmp .lt 11, 3) := by decide +kernel
theorem dX11_read_9 : decode cX11_read 9 = .ok (.new 124, 3) := by decide +kernel
theorem dX11_read_12 : decode cX11_read 12 = .ok (.dup, 1) := by decide +kernel
theorem dX11_read_13 : decode cX11_read 13 = .ok (.invokespecial 126, 3) := by decide +kernel
theorem dX11_read_16 : decode cX11_read 16 = .ok (.athrow, 1) := by decide +kernel
theorem dX11_read_17 : decode cX11_read 17 = .ok (.aload_n 0, 1) := by decide +kernel
theorem dX11_read_18 : decode cX11_read 18 = .ok (.getfield 42, 3) := by decide +kernel
theorem dX11_read_21 : decode cX11_read 21 = .ok (.aload_n 0, 1) := by decide +kernel
theorem dX11_read_22 : decode cX11_read 22 = .ok (.getfield 14, 3) := by decide +kernel
theorem dX11_read_25 : decode cX11_read 25 = .ok (.aload_n 0, 1) := by decide +kernel
theorem dX11_read_26 : decode cX11_read 26 = .ok (.getfield 146, 3) := by decide +kernel
theorem dX11_read_29 : decode cX11_read 29 = .ok (.invokevirtual 101, 3) := by decide +kernel
theorem dX11_read_32 : decode cX11_read 32 = .ok (.istore_n 1, 1) := by decide +kernel
theorem dX11_read_33 : decode cX11_read 33 = .ok (.aload_n 0, 1) := by decide +kernel
theorem dX11_read_34 : decode cX11_read 34 = .ok (.getfield 14, 3) := by decide +kernel
theorem dX11_read_37 : decode cX11_read 37 = .ok (.invokevirtual 134, 3) := by decide +kernel
theorem dX11_read_40 : decode cX11_read 40 = .ok (.iload_n 1, 1) := by decide +kernel
theorem dX11_read_41 : decode cX11_read 41 = .ok (.iconst (-1), 1) := by decide +kernel
theorem dX11_read_42 : decode cX11_read 42 = .ok (.if_icmp .eq 8, 3) := by decide +kernel
theorem dX11_read_45 : decode cX11_read 45 = .ok (.bipush (-2), 2) := by decide +kernel
theorem dX11_read_47 : decode cX11_read 47 = .ok (.iload_n 1, 1) := by decide +kernel
theorem dX11_read_48 : decode cX11_read 48 = .ok (.isub, 1) := by decide +kernel
theorem dX11_read_49 : decode cX11_read 49 = .ok (.ireturn, 1) := by decide +kernel
theorem dX11_read_50 : decode cX11_read 50 = .ok (.aload_n 0, 1) := by decide +kernel
theorem dX11_read_51 : decode cX11_read 51 = .ok (.aload_n 0, 1) := by decide +kernel
theorem dX11_read_52 : decode cX11_read 52 = .ok (.getfield 42, 3) := by decide +kernel
theorem dX11_read_55 : decode cX11_read 55 = .ok (.invokevirtual 105, 3) := by decide +kernel
theorem dX11_read_58 : decode cX11_read 58 = .ok (.invokevirtual 153, 3) := by decide +kernel
theorem dX11_read_61 : decode cX11_read 61 = .ok (.ireturn, 1) := by decide +kernel
theorem dX11_print_0 : decode cX11_print 0 = .ok (.aload_n 0, 1) := by decide +kernel
theorem dX11_print_1 : decode cX11_print 1 = .ok (.iload_n 1, 1) := by decide +kernel
theorem dX11_print_2 : decode cX11_print 2 = .ok (.invokevirtual 157, 3) := by decide +kernel
theorem dX11_print_5 : decode cX11_print 5 = .ok (.astore_n 3, 1) := by decide +kernel
theorem dX11_print_6 : decode cX11_print 6 = .ok (.iload_n 2, 1) := by decide +kernel
theorem dX11_print_7 : decode cX11_print 7 = .ok (.ifCond .lt 8, 3) := by decide +kernel
theorem dX11_print_10 : decode cX11_print 10 = .ok (.iload_n 2, 1) := by decide +kernel
theorem dX11_print_11 : decode cX11_print 11 = .ok (.iconst 2, 1) := by decide +kernel
theorem dX11_print_12 : decode cX11_print 12 = .ok (.if_icmp .le 11, 3) := by decide +kernel
theorem dX11_print_15 : decode cX11_print 15 = .ok (.new 117, 3) := by decide +kernel
theorem dX11_print_18 : decode cX11_print 18 = .ok (.dup, 1) := by decide +kernel
theorem dX11_print_19 : decode cX11_print 19 = .ok (.invokespecial 119, 3) := by decide +kernel
theorem dX11_print_22 : decode cX11_print 22 = .ok (.athrow, 1) := by decide +kernel
theorem dX11_print_23 : decode cX11_print 23 = .ok (.aload_n 0, 1) := by decide +kernel
theorem dX11_print_24 : decode cX11_print 24 = .ok (.getfield 19, 3) := by decide +kernel
theorem dX11_print_27 : decode cX11_print 27 = .ok (.invokevirtual 134, 3) := by decide +kernel
theorem dX11_print_30 : decode cX11_print 30 = .ok (.aload_n 3, 1) := by decide +kernel
theorem dX11_print_31 : decode cX11_print 31 = .ok (.iconst 0, 1) := by decide +kernel
theorem dX11_print_32 : decode cX11_print 32 = .ok (.iload_n 2, 1) := by decide +kernel
theorem dX11_print_33 : decode cX11_print 33 = .ok (.iconst 0, 1) := by decide +kernel
theorem dX11_print_34 : decode cX11_print 34 = .ok (.aload_n 0, 1) := by decide +kernel
theorem dX11_print_35 : decode cX11_print 35 = .ok (.getfield 19, 3) := by decide +kernel
theorem dX11_print_38 : decode cX11_print 38 = .ok (.invokestatic 161, 3) := by decide +kernel
theorem dX11_print_41 : decode cX11_print 41 = .ok (.aload_n 0, 1) := by decide +kernel
theorem dX11_print_42 : decode cX11_print 42 = .ok (.getfield 19, 3) := by decide +kernel
theorem dX11_print_45 : decode cX11_print 45 = .ok (.invokevirtual 120, 3) := by decide +kernel
theorem dX11_print_48 : decode cX11_print 48 = .ok (.ireturn, 1) := by decide +kernel
theorem dX11_node_0 : decode cX11_node 0 = .ok (.aload_n 0, 1) := by decide +kernel
theorem dX11_node_1 : decode cX11_node 1 = .ok (.iload_n 1, 1) := by decide +kernel
theorem dX11_node_2 : decode cX11_node 2 = .ok (.iload_n 2, 1) := by decide +kernel
theorem dX11_node_3 : decode cX11_node 3 = .ok (.invokevirtual 165, 3) := by decide +kernel
theorem dX11_node_6 : decode cX11_node 6 = .ok (.astore 4, 2) := by decide +kernel
theorem dX11_node_8 : decode cX11_node 8 = .ok (.iload_n 3, 1) := by decide +kernel
theorem dX11_node_9 : decode cX11_node 9 = .ok (.ifCond .lt 9, 3) := by decide +kernel
theorem dX11_node_12 : decode cX11_node 12 = .ok (.iload_n 3, 1) := by decide +kernel
theorem dX11_node_13 : decode cX11_node 13 = .ok (.bipush 9, 2) := by decide +kernel
theorem dX11_node_15 : decode cX11_node 15 = .ok (.if_icmp .le 11, 3) := by decide +kernel
theorem dX11_node_18 : decode cX11_node 18 = .ok (.new 117, 3) := by decide +kernel
theorem dX11_node_21 : decode cX11_node 21 = .ok (.dup, 1) := by decide +kernel
theorem dX11_node_22 : decode cX11_node 22 = .ok (.invokespecial 119, 3) := by decide +kernel
theorem dX11_node_25 : decode cX11_node 25 = .ok (.athrow, 1) := by decide +kernel
theorem dX11_node_26 : decode cX11_node 26 = .ok (.aload 4, 2) := by decide +kernel
theorem dX11_node_28 : decode cX11_node 28 = .ok (.iload_n 2, 1) := by decide +kernel
theorem dX11_node_29 : decode cX11_node 29 = .ok (.iload_n 3, 1) := by decide +kernel
theorem dX11_node_30 : decode cX11_node 30 = .ok (.invokevirtual 169, 3) := by decide +kernel
theorem dX11_node_33 : decode cX11_node 33 = .ok (.ireturn, 1) := by decide +kernel
theorem dX11_tell_0 : decode cX11_tell 0 = .ok (.aload_n 0, 1) := by decide +kernel
theorem dX11_tell_1 : decode cX11_tell 1 = .ok (.iload_n 1, 1) := by decide +kernel
theorem dX11_tell_2 : decode cX11_tell 2 = .ok (.iload_n 2, 1) := by decide +kernel
theorem dX11_tell_3 : decode cX11_tell 3 = .ok (.invokevirtual 165, 3) := by decide +kernel
theorem dX11_tell_6 : decode cX11_tell 6 = .ok (.astore 4, 2) := by decide +kernel
theorem dX11_tell_8 : decode cX11_tell 8 = .ok (.iload_n 3, 1) := by decide +kernel
theorem dX11_tell_9 : decode cX11_tell 9 = .ok (.ifCond .lt 8, 3) := by decide +kernel
theorem dX11_tell_12 : decode cX11_tell 12 = .ok (.iload_n 3, 1) := by decide +kernel
theorem dX11_tell_13 : decode cX11_tell 13 = .ok (.iconst 3, 1) := by decide +kernel
theorem dX11_tell_14 : decode cX11_tell 14 = .ok (.if_icmp .le 11, 3) := by decide +kernel
theorem dX11_tell_17 : decode cX11_tell 17 = .ok (.new 117, 3) := by decide +kernel
theorem dX11_tell_20 : decode cX11_tell 20 = .ok (.dup, 1) := by decide +kernel
theorem dX11_tell_21 : decode cX11_tell 21 = .ok (.invokespecial 119, 3) := by decide +kernel
theorem dX11_tell_24 : decode cX11_tell 24 = .ok (.athrow, 1) := by decide +kernel
theorem dX11_tell_25 : decode cX11_tell 25 = .ok (.aload 4, 2) := by decide +kernel
theorem dX11_tell_27 : decode cX11_tell 27 = .ok (.iload_n 2, 1) := by decide +kernel
theorem dX11_tell_28 : decode cX11_tell 28 = .ok (.iload_n 3, 1) := by decide +kernel
theorem dX11_tell_29 : decode cX11_tell 29 = .ok (.invokestatic 173, 3) := by decide +kernel
theorem dX11_tell_32 : decode cX11_tell 32 = .ok (.ifCond .ne 11, 3) := by decide +kernel
theorem dX11_tell_35 : decode cX11_tell 35 = .ok (.new 124, 3) := by decide +kernel
theorem dX11_tell_38 : decode cX11_tell 38 = .ok (.dup, 1) := by decide +kernel
theorem dX11_tell_39 : decode cX11_tell 39 = .ok (.invokespecial 126, 3) := by decide +kernel
theorem dX11_tell_42 : decode cX11_tell 42 = .ok (.athrow, 1) := by decide +kernel
theorem dX11_tell_43 : decode cX11_tell 43 = .ok (.aload_n 0, 1) := by decide +kernel
theorem dX11_tell_44 : decode cX11_tell 44 = .ok (.getfield 19, 3) := by decide +kernel
theorem dX11_tell_47 : decode cX11_tell 47 = .ok (.invokevirtual 134, 3) := by decide +kernel
theorem dX11_tell_50 : decode cX11_tell 50 = .ok (.iload_n 3, 1) := by decide +kernel
theorem dX11_tell_51 : decode cX11_tell 51 = .ok (.iconst 2, 1) := by decide +kernel
theorem dX11_tell_52 : decode cX11_tell 52 = .ok (.if_icmp .ge 16, 3) := by decide +kernel
theorem dX11_tell_55 : decode cX11_tell 55 = .ok (.aload 4, 2) := by decide +kernel
theorem dX11_tell_57 : decode cX11_tell 57 = .ok (.iload_n 2, 1) := by decide +kernel
theorem dX11_tell_58 : decode cX11_tell 58 = .ok (.aload_n 0, 1) := by decide +kernel
theorem dX11_tell_59 : decode cX11_tell 59 = .ok (.getfield 19, 3) := by decide +kernel
theorem dX11_tell_62 : decode cX11_tell 62 = .ok (.invokevirtual 177, 3) := by decide +kernel
theorem dX11_tell_65 : decode cX11_tell 65 = .ok (.goto 31, 3) := by decide +kernel
theorem dX11_tell_68 : decode cX11_tell 68 = .ok (.iload_n 3, 1) := by decide +kernel
theorem dX11_tell_69 : decode cX11_tell 69 = .ok (.iconst 2, 1) := by decide +kernel
theorem dX11_tell_70 : decode cX11_tell 70 = .ok (.if_icmp .ne 16, 3) := by decide +kernel
theorem dX11_tell_73 : decode cX11_tell 73 = .ok (.aload 4, 2) := by decide +kernel
theorem dX11_tell_75 : decode cX11_tell 75 = .ok (.iload_n 2, 1) := by decide +kernel
theorem dX11_tell_76 : decode cX11_tell 76 = .ok (.aload_n 0, 1) := by decide +kernel
theorem dX11_tell_77 : decode cX11_tell 77 = .ok (.getfield 19, 3) := by decide +kernel
theorem dX11_tell_80 : decode cX11_tell 80 = .ok (.invokevirtual 181, 3) := by decide +kernel
theorem dX11_tell_83 : decode cX11_tell 83 = .ok (.goto 13, 3) := by decide +kernel
theorem dX11_tell_86 : decode cX11_tell 86 = .ok (.aload 4, 2) := by decide +kernel
theorem dX11_tell_88 : decode cX11_tell 88 = .ok (.iload_n 2, 1) := by decide +kernel
theorem dX11_tell_89 : decode cX11_tell 89 = .ok (.aload_n 0, 1) := by decide +kernel
theorem dX11_tell_90 : decode cX11_tell 90 = .ok (.getfield 19, 3) := by decide +kernel
theorem dX11_tell_93 : decode cX11_tell 93 = .ok (.invokevirtual 184, 3) := by decide +kernel
theorem dX11_tell_96 : decode cX11_tell 96 = .ok (.aload_n 0, 1) := by decide +kernel
theorem dX11_tell_97 : decode cX11_tell 97 = .ok (.getfield 19, 3) := by decide +kernel
theorem dX11_tell_100 : decode cX11_tell 100 = .ok (.invokevirtual 120, 3) := by decide +kernel
theorem dX11_tell_103 : decode cX11_tell 103 = .ok (.ireturn, 1) := by decide +kernel
theorem dX11_equal_0 : decode cX11_equal 0 = .ok (.aload_n 0, 1) := by decide +kernel
theorem dX11_equal_1 : decode cX11_equal 1 = .ok (.iload_n 1, 1) := by decide +kernel
theorem dX11_equal_2 : decode cX11_equal 2 = .ok (.invokevirtual 157, 3) := by decide +kernel
theorem dX11_equal_5 : decode cX11_equal 5 = .ok (.astore_n 3, 1) := by decide +kernel
theorem dX11_equal_6 : decode cX11_equal 6 = .ok (.aload_n 0, 1) := by decide +kernel
theorem dX11_equal_7 : decode cX11_equal 7 = .ok (.iload_n 2, 1) := by decide +kernel
theorem dX11_equal_8 : decode cX11_equal 8 = .ok (.invokevirtual 157, 3) := by decide +kernel
theorem dX11_equal_11 : decode cX11_equal 11 = .ok (.astore 4, 2) := by decide +kernel
theorem dX11_equal_13 : decode cX11_equal 13 = .ok (.aload_n 3, 1) := by decide +kernel
theorem dX11_equal_14 : decode cX11_equal 14 = .ok (.iconst 0, 1) := by decide +kernel
theorem dX11_equal_15 : decode cX11_equal 15 = .ok (.aload 4, 2) := by decide +kernel
theorem dX11_equal_17 : decode cX11_equal 17 = .ok (.iconst 0, 1) := by decide +kernel
theorem dX11_equal_18 : decode cX11_equal 18 = .ok (.iconst 0, 1) := by decide +kernel
theorem dX11_equal_19 : decode cX11_equal 19 = .ok (.invokevirtual 187, 3) := by decide +kernel
theorem dX11_equal_22 : decode cX11_equal 22 = .ok (.ireturn, 1) := by decide +kernel
theorem dX11_digest_0 : decode cX11_digest 0 = .ok (.aload_n 0, 1) := by decide +kernel
theorem dX11_digest_1 : decode cX11_digest 1 = .ok (.iload_n 1, 1) := by decide +kernel
theorem dX11_digest_2 : decode cX11_digest 2 = .ok (.iload_n 2, 1) := by decide +kernel
theorem dX11_digest_3 : decode cX11_digest 3 = .ok (.invokevirtual 165, 3) := by decide +kernel
theorem dX11_digest_6 : decode cX11_digest 6 = .ok (.astore_n 3, 1) := by decide +kernel
theorem dX11_digest_7 : decode cX11_digest 7 = .ok (.aload_n 0, 1) := by decide +kernel
theorem dX11_digest_8 : decode cX11_digest 8 = .ok (.getfield 22, 3) := by decide +kernel
theorem dX11_digest_11 : decode cX11_digest 11 = .ok (.invokevirtual 134, 3) := by decide +kernel
theorem dX11_digest_14 : decode cX11_digest 14 = .ok (.aload_n 3, 1) := by decide +kernel
theorem dX11_digest_15 : decode cX11_digest 15 = .ok (.iload_n 2, 1) := by decide +kernel
theorem dX11_digest_16 : decode cX11_digest 16 = .ok (.iconst 1, 1) := by decide +kernel
theorem dX11_digest_17 : decode cX11_digest 17 = .ok (.iconst 0, 1) := by decide +kernel
theorem dX11_digest_18 : decode cX11_digest 18 = .ok (.aload_n 0, 1) := by decide +kernel
theorem dX11_digest_19 : decode cX11_digest 19 = .ok (.getfield 22, 3) := by decide +kernel
theorem dX11_digest_22 : decode cX11_digest 22 = .ok (.invokestatic 161, 3) := by decide +kernel
theorem dX11_digest_25 : decode cX11_digest 25 = .ok (.aload_n 0, 1) := by decide +kernel
theorem dX11_digest_26 : decode cX11_digest 26 = .ok (.getfield 22, 3) := by decide +kernel
theorem dX11_digest_29 : decode cX11_digest 29 = .ok (.invokevirtual 199, 3) := by decide +kernel
theorem dX11_digest_32 : decode cX11_digest 32 = .ok (.ireturn, 1) := by decide +kernel
theorem dX11_take_0 : decode cX11_take 0 = .ok (.aload_n 0, 1) := by decide +kernel
theorem dX11_take_1 : decode cX11_take 1 = .ok (.iload_n 1, 1) := by decide +kernel
theorem dX11_take_2 : decode cX11_take 2 = .ok (.iload_n 2, 1) := by decide +kernel
theorem dX11_take_3 : decode cX11_take 3 = .ok (.invokevirtual 165, 3) := by decide +kernel
theorem dX11_take_6 : decode cX11_take 6 = .ok (.astore_n 3, 1) := by decide +kernel
theorem dX11_take_7 : decode cX11_take 7 = .ok (.aload_n 0, 1) := by decide +kernel
theorem dX11_take_8 : decode cX11_take 8 = .ok (.getfield 32, 3) := by decide +kernel
theorem dX11_take_11 : decode cX11_take 11 = .ok (.aload_n 3, 1) := by decide +kernel
theorem dX11_take_12 : decode cX11_take 12 = .ok (.iload_n 2, 1) := by decide +kernel
theorem dX11_take_13 : decode cX11_take 13 = .ok (.invokevirtual 109, 3) := by decide +kernel
theorem dX11_take_16 : decode cX11_take 16 = .ok (.aload_n 0, 1) := by decide +kernel
theorem dX11_take_17 : decode cX11_take 17 = .ok (.aload_n 0, 1) := by decide +kernel
theorem dX11_take_18 : decode cX11_take 18 = .ok (.getfield 32, 3) := by decide +kernel
theorem dX11_take_21 : decode cX11_take 21 = .ok (.invokevirtual 153, 3) := by decide +kernel
theorem dX11_take_24 : decode cX11_take 24 = .ok (.ireturn, 1) := by decide +kernel
theorem dX11_sorted_0 : decode cX11_sorted 0 = .ok (.aload_n 0, 1) := by decide +kernel
theorem dX11_sorted_1 : decode cX11_sorted 1 = .ok (.iload_n 1, 1) := by decide +kernel
theorem dX11_sorted_2 : decode cX11_sorted 2 = .ok (.invokevirtual 157, 3) := by decide +kernel
theorem dX11_sorted_5 : decode cX11_sorted 5 = .ok (.astore_n 2, 1) := by decide +kernel
theorem dX11_sorted_6 : decode cX11_sorted 6 = .ok (.aload_n 0, 1) := by decide +kernel
theorem dX11_sorted_7 : decode cX11_sorted 7 = .ok (.getfield 32, 3) := by decide +kernel
theorem dX11_sorted_10 : decode cX11_sorted 10 = .ok (.invokevirtual 202, 3) := by decide +kernel
theorem dX11_sorted_13 : decode cX11_sorted 13 = .ok (.aload_n 0, 1) := by decide +kernel
theorem dX11_sorted_14 : decode cX11_sorted 14 = .ok (.getfield 32, 3) := by decide +kernel
theorem dX11_sorted_17 : decode cX11_sorted 17 = .ok (.aload_n 2, 1) := by decide +kernel
theorem dX11_sorted_18 : decode cX11_sorted 18 = .ok (.iconst 0, 1) := by decide +kernel
theorem dX11_sorted_19 : decode cX11_sorted 19 = .ok (.iconst 0, 1) := by decide +kernel
theorem dX11_sorted_20 : decode cX11_sorted 20 = .ok (.invokevirtual 203, 3) := by decide +kernel
theorem dX11_sorted_23 : decode cX11_sorted 23 = .ok (.aload_n 0, 1) := by decide +kernel
theorem dX11_sorted_24 : decode cX11_sorted 24 = .ok (.aload_n 0, 1) := by decide +kernel
theorem dX11_sorted_25 : decode cX11_sorted 25 = .ok (.getfield 32, 3) := by decide +kernel
theorem dX11_sorted_28 : decode cX11_sorted 28 = .ok (.invokevirtual 153, 3) := by decide +kernel
theorem dX11_sorted_31 : decode cX11_sorted 31 = .ok (.ireturn, 1) := by decide +kernel
theorem dX11_undo_0 : decode cX11_undo 0 = .ok (.aload_n 0, 1) := by decide +kernel
theorem dX11_undo_1 : decode cX11_undo 1 = .ok (.getfield 150, 3) := by decide +kernel
theorem dX11_undo_4 : decode cX11_undo 4 = .ok (.iconst 1, 1) := by decide +kernel
theorem dX11_undo_5 : decode cX11_undo 5 = .ok (.if_icmp .ge 11, 3) := by decide +kernel
theorem dX11_undo_8 : decode cX11_undo 8 = .ok (.new 124, 3) := by decide +kernel
theorem dX11_undo_11 : decode cX11_undo 11 = .ok (.dup, 1) := by decide +kernel
theorem dX11_undo_12 : decode cX11_undo 12 = .ok (.invokespecial 126, 3) := by decide +kernel
theorem dX11_undo_15 : decode cX11_undo 15 = .ok (.athrow, 1) := by decide +kernel
theorem dX11_undo_16 : decode cX11_undo 16 = .ok (.aload_n 0, 1) := by decide +kernel
theorem dX11_undo_17 : decode cX11_undo 17 = .ok (.dup, 1) := by decide +kernel
theorem dX11_undo_18 : decode cX11_undo 18 = .ok (.getfield 150, 3) := by decide +kernel
theorem dX11_undo_21 : decode cX11_undo 21 = .ok (.iconst 1, 1) := by decide +kernel
theorem dX11_undo_22 : decode cX11_undo 22 = .ok (.isub, 1) := by decide +kernel
theorem dX11_undo_23 : decode cX11_undo 23 = .ok (.putfield 150, 3) := by decide +kernel
theorem dX11_undo_26 : decode cX11_undo 26 = .ok (.aload_n 0, 1) := by decide +kernel
theorem dX11_undo_27 : decode cX11_undo 27 = .ok (.getfield 150, 3) := by decide +kernel
theorem dX11_undo_30 : decode cX11_undo 30 = .ok (.ireturn, 1) := by decide +kernel
theorem dX11_select_0 : decode cX11_select 0 = .ok (.aload_n 0, 1) := by decide +kernel
theorem dX11_select_1 : decode cX11_select 1 = .ok (.iload_n 1, 1) := by decide +kernel
theorem dX11_select_2 : decode cX11_select 2 = .ok (.invokevirtual 157, 3) := by decide +kernel
theorem dX11_select_5 : decode cX11_select 5 = .ok (.astore_n 2, 1) := by decide +kernel
theorem dX11_select_6 : decode cX11_select 6 = .ok (.aload_n 0, 1) := by decide +kernel
theorem dX11_select_7 : decode cX11_select 7 = .ok (.invokevirtual 216, 3) := by decide +kernel
theorem dX11_select_10 : decode cX11_select 10 = .ok (.aload_n 0, 1) := by decide +kernel
theorem dX11_select_11 : decode cX11_select 11 = .ok (.getfield 14, 3) := by decide +kernel
theorem dX11_select_14 : decode cX11_select 14 = .ok (.invokevirtual 134, 3) := by decide +kernel
theorem dX11_select_17 : decode cX11_select 17 = .ok (.aload_n 0, 1) := by decide +kernel
theorem dX11_select_18 : decode cX11_select 18 = .ok (.getfield 56, 3) := by decide +kernel
theorem dX11_select_21 : decode cX11_select 21 = .ok (.aload_n 2, 1) := by decide +kernel
theorem dX11_select_22 : decode cX11_select 22 = .ok (.aload_n 0, 1) := by decide +kernel
theorem dX11_select_23 : decode cX11_select 23 = .ok (.getfield 49, 3) := by decide +kernel
theorem dX11_select_26 : decode cX11_select 26 = .ok (.invokevirtual 219, 3) := by decide +kernel
theorem dX11_select_29 : decode cX11_select 29 = .ok (.aload_n 0, 1) := by decide +kernel
theorem dX11_select_30 : decode cX11_select 30 = .ok (.getfield 56, 3) := by decide +kernel
theorem dX11_select_33 : decode cX11_select 33 = .ok (.invokevirtual 223, 3) := by decide +kernel
theorem dX11_select_36 : decode cX11_select 36 = .ok (.ireturn, 1) := by decide +kernel
theorem dX11_find_0 : decode cX11_find 0 = .ok (.iload_n 1, 1) := by decide +kernel
theorem dX11_find_1 : decode cX11_find 1 = .ok (.ifCond .lt 14, 3) := by decide +kernel
theorem dX11_find_4 : decode cX11_find 4 = .ok (.iload_n 1, 1) := by decide +kernel
theorem dX11_find_5 : decode cX11_find 5 = .ok (.aload_n 0, 1) := by decide +kernel
theorem dX11_find_6 : decode cX11_find 6 = .ok (.getfield 56, 3) := by decide +kernel
theorem dX11_find_9 : decode cX11_find 9 = .ok (.invokevirtual 223, 3) := by decide +kernel
theorem dX11_find_12 : decode cX11_find 12 = .ok (.if_icmp .lt 11, 3) := by decide +kernel
theorem dX11_find_15 : decode cX11_find 15 = .ok (.new 137, 3) := by decide +kernel
theorem dX11_find_18 : decode cX11_find 18 = .ok (.dup, 1) := by decide +kernel
theorem dX11_find_19 : decode cX11_find 19 = .ok (.invokespecial 139, 3) := by decide +kernel
theorem dX11_find_22 : decode cX11_find 22 = .ok (.athrow, 1) := by decide +kernel
theorem dX11_find_23 : decode cX11_find 23 = .ok (.aload_n 0, 1) := by decide +kernel
theorem dX11_find_24 : decode cX11_find 24 = .ok (.getfield 56, 3) := by decide +kernel
theorem dX11_find_27 : decode cX11_find 27 = .ok (.iload_n 1, 1) := by decide +kernel
theorem dX11_find_28 : decode cX11_find 28 = .ok (.invokevirtual 225, 3) := by decide +kernel
theorem dX11_find_31 : decode cX11_find 31 = .ok (.ireturn, 1) := by decide +kernel
theorem dX11_lay_0 : decode cX11_lay 0 = .ok (.aload_n 0, 1) := by decide +kernel
theorem dX11_lay_1 : decode cX11_lay 1 = .ok (.iload_n 1, 1) := by decide +kernel
theorem dX11_lay_2 : decode cX11_lay 2 = .ok (.invokevirtual 157, 3) := by decide +kernel
theorem dX11_lay_5 : decode cX11_lay 5 = .ok (.astore_n 3, 1) := by decide +kernel
theorem dX11_lay_6 : decode cX11_lay 6 = .ok (.aload_n 0, 1) := by decide +kernel
theorem dX11_lay_7 : decode cX11_lay 7 = .ok (.iload_n 2, 1) := by decide +kernel
theorem dX11_lay_8 : decode cX11_lay 8 = .ok (.invokevirtual 157, 3) := by decide +kernel
theorem dX11_lay_11 : decode cX11_lay 11 = .ok (.astore 4, 2) := by decide +kernel
theorem dX11_lay_13 : decode cX11_lay 13 = .ok (.aload 4, 2) := by decide +kernel
theorem dX11_lay_15 : decode cX11_lay 15 = .ok (.iconst 0, 1) := by decide +kernel
theorem dX11_lay_16 : decode cX11_lay 16 = .ok (.iconst 4, 1) := by decide +kernel
theorem dX11_lay_17 : decode cX11_lay 17 = .ok (.invokevirtual 191, 3) := by decide +kernel
theorem dX11_lay_20 : decode cX11_lay 20 = .ok (.ifCond .ne 5, 3) := by decide +kernel
theorem dX11_lay_23 : decode cX11_lay 23 = .ok (.iconst (-1), 1) := by decide +kernel
theorem dX11_lay_24 : decode cX11_lay 24 = .ok (.ireturn, 1) := by decide +kernel
theorem dX11_lay_25 : decode cX11_lay 25 = .ok (.aload_n 0, 1) := by decide +kernel
theorem dX11_lay_26 : decode cX11_lay 26 = .ok (.getfield 70, 3) := by decide +kernel
theorem dX11_lay_29 : decode cX11_lay 29 = .ok (.aload_n 3, 1) := by decide +kernel
theorem dX11_lay_30 : decode cX11_lay 30 = .ok (.iconst 0, 1) := by decide +kernel
theorem dX11_lay_31 : decode cX11_lay 31 = .ok (.invokevirtual 226, 3) := by decide +kernel
theorem dX11_lay_34 : decode cX11_lay 34 = .ok (.aload_n 0, 1) := by decide +kernel
theorem dX11_lay_35 : decode cX11_lay 35 = .ok (.getfield 70, 3) := by decide +kernel
theorem dX11_lay_38 : decode cX11_lay 38 = .ok (.aload 4, 2) := by decide +kernel
theorem dX11_lay_40 : decode cX11_lay 40 = .ok (.invokevirtual 242, 3) := by decide +kernel
theorem dX11_lay_43 : decode cX11_lay 43 = .ok (.istore 5, 2) := by decide +kernel
theorem dX11_lay_45 : decode cX11_lay 45 = .ok (.iload 5, 2) := by decide +kernel
theorem dX11_lay_47 : decode cX11_lay 47 = .ok (.iconst (-1), 1) := by decide +kernel
theorem dX11_lay_48 : decode cX11_lay 48 = .ok (.if_icmp .eq 9, 3) := by decide +kernel
theorem dX11_lay_51 : decode cX11_lay 51 = .ok (.bipush (-2), 2) := by decide +kernel
theorem dX11_lay_53 : decode cX11_lay 53 = .ok (.iload 5, 2) := by decide +kernel
theorem dX11_lay_55 : decode cX11_lay 55 = .ok (.isub, 1) := by decide +kernel
theorem dX11_lay_56 : decode cX11_lay 56 = .ok (.ireturn, 1) := by decide +kernel
theorem dX11_lay_57 : decode cX11_lay 57 = .ok (.aload_n 0, 1) := by decide +kernel
theorem dX11_lay_58 : decode cX11_lay 58 = .ok (.aload_n 0, 1) := by decide +kernel
theorem dX11_lay_59 : decode cX11_lay 59 = .ok (.getfield 70, 3) := by decide +kernel
theorem dX11_lay_62 : decode cX11_lay 62 = .ok (.invokevirtual 234, 3) := by decide +kernel
theorem dX11_lay_65 : decode cX11_lay 65 = .ok (.invokevirtual 153, 3) := by decide +kernel
theorem dX11_lay_68 : decode cX11_lay 68 = .ok (.ireturn, 1) := by decide +kernel
theorem dX11_patch_0 : decode cX11_patch 0 = .ok (.aload_n 0, 1) := by decide +kernel
theorem dX11_patch_1 : decode cX11_patch 1 = .ok (.iload_n 1, 1) := by decide +kernel
theorem dX11_patch_2 : decode cX11_patch 2 = .ok (.invokevirtual 157, 3) := by decide +kernel
theorem dX11_patch_5 : decode cX11_patch 5 = .ok (.astore_n 3, 1) := by decide +kernel
theorem dX11_patch_6 : decode cX11_patch 6 = .ok (.aload_n 0, 1) := by decide +kernel
theorem dX11_patch_7 : decode cX11_patch 7 = .ok (.iload_n 2, 1) := by decide +kernel
theorem dX11_patch_8 : decode cX11_patch 8 = .ok (.invokevirtual 157, 3) := by decide +kernel
theorem dX11_patch_11 : decode cX11_patch 11 = .ok (.astore 4, 2) := by decide +kernel
theorem dX11_patch_13 : decode cX11_patch 13 = .ok (.aload_n 0, 1) := by decide +kernel
theorem dX11_patch_14 : decode cX11_patch 14 = .ok (.getfield 63, 3) := by decide +kernel
theorem dX11_patch_17 : decode cX11_patch 17 = .ok (.aload_n 3, 1) := by decide +kernel
theorem dX11_patch_18 : decode cX11_patch 18 = .ok (.aload 4, 2) := by decide +kernel
theorem dX11_patch_20 : decode cX11_patch 20 = .ok (.aload_n 0, 1) := by decide +kernel
theorem dX11_patch_21 : decode cX11_patch 21 = .ok (.getfield 32, 3) := by decide +kernel
theorem dX11_patch_24 : decode cX11_patch 24 = .ok (.invokevirtual 245, 3) := by decide +kernel
theorem dX11_patch_27 : decode cX11_patch 27 = .ok (.aload_n 0, 1) := by decide +kernel
theorem dX11_patch_28 : decode cX11_patch 28 = .ok (.aload_n 0, 1) := by decide +kernel
theorem dX11_patch_29 : decode cX11_patch 29 = .ok (.getfield 32, 3) := by decide +kernel
theorem dX11_patch_32 : decode cX11_patch 32 = .ok (.invokevirtual 153, 3) := by decide +kernel
theorem dX11_patch_35 : decode cX11_patch 35 = .ok (.ireturn, 1) := by decide +kernel
theorem dX11_turn_0 : decode cX11_turn 0 = .ok (.aload_n 0, 1) := by decide +kernel
theorem dX11_turn_1 : decode cX11_turn 1 = .ok (.iload_n 1, 1) := by decide +kernel
theorem dX11_turn_2 : decode cX11_turn 2 = .ok (.invokevirtual 157, 3) := by decide +kernel
theorem dX11_turn_5 : decode cX11_turn 5 = .ok (.astore_n 3, 1) := by decide +kernel
theorem dX11_turn_6 : decode cX11_turn 6 = .ok (.aload_n 0, 1) := by decide +kernel
theorem dX11_turn_7 : decode cX11_turn 7 = .ok (.iload_n 2, 1) := by decide +kernel
theorem dX11_turn_8 : decode cX11_turn 8 = .ok (.invokevirtual 157, 3) := by decide +kernel
theorem dX11_turn_11 : decode cX11_turn 11 = .ok (.astore 4, 2) := by decide +kernel
theorem dX11_turn_13 : decode cX11_turn 13 = .ok (.aload 4, 2) := by decide +kernel
theorem dX11_turn_15 : decode cX11_turn 15 = .ok (.iconst 0, 1) := by decide +kernel
theorem dX11_turn_16 : decode cX11_turn 16 = .ok (.iconst 4, 1) := by decide +kernel
theorem dX11_turn_17 : decode cX11_turn 17 = .ok (.invokevirtual 191, 3) := by decide +kernel
theorem dX11_turn_20 : decode cX11_turn 20 = .ok (.ifCond .ne 11, 3) := by decide +kernel
theorem dX11_turn_23 : decode cX11_turn 23 = .ok (.new 124, 3) := by decide +kernel
theorem dX11_turn_26 : decode cX11_turn 26 = .ok (.dup, 1) := by decide +kernel
theorem dX11_turn_27 : decode cX11_turn 27 = .ok (.invokespecial 126, 3) := by decide +kernel
theorem dX11_turn_30 : decode cX11_turn 30 = .ok (.athrow, 1) := by decide +kernel
theorem dX11_turn_31 : decode cX11_turn 31 = .ok (.aload_n 0, 1) := by decide +kernel
theorem dX11_turn_32 : decode cX11_turn 32 = .ok (.getfield 70, 3) := by decide +kernel
theorem dX11_turn_35 : decode cX11_turn 35 = .ok (.aload_n 3, 1) := by decide +kernel
theorem dX11_turn_36 : decode cX11_turn 36 = .ok (.iconst 1, 1) := by decide +kernel
theorem dX11_turn_37 : decode cX11_turn 37 = .ok (.invokevirtual 226, 3) := by decide +kernel
theorem dX11_turn_40 : decode cX11_turn 40 = .ok (.aload_n 0, 1) := by decide +kernel
theorem dX11_turn_41 : decode cX11_turn 41 = .ok (.getfield 70, 3) := by decide +kernel
theorem dX11_turn_44 : decode cX11_turn 44 = .ok (.aload 4, 2) := by decide +kernel
theorem dX11_turn_46 : decode cX11_turn 46 = .ok (.invokevirtual 242, 3) := by decide +kernel
theorem dX11_turn_49 : decode cX11_turn 49 = .ok (.iconst (-1), 1) := by decide +kernel
theorem dX11_turn_50 : decode cX11_turn 50 = .ok (.if_icmp .eq 11, 3) := by decide +kernel
theorem dX11_turn_53 : decode cX11_turn 53 = .ok (.new 124, 3) := by decide +kernel
theorem dX11_turn_56 : decode cX11_turn 56 = .ok (.dup, 1) := by decide +kernel
theorem dX11_turn_57 : decode cX11_turn 57 = .ok (.invokespecial 126, 3) := by decide +kernel
theorem dX11_turn_60 : decode cX11_turn 60 = .ok (.athrow, 1) := by decide +kernel
theorem dX11_turn_61 : decode cX11_turn 61 = .ok (.aload_n 0, 1) := by decide +kernel
theorem dX11_turn_62 : decode cX11_turn 62 = .ok (.aload_n 0, 1) := by decide +kernel
theorem dX11_turn_63 : decode cX11_turn 63 = .ok (.getfield 70, 3) := by decide +kernel
theorem dX11_turn_66 : decode cX11_turn 66 = .ok (.invokevirtual 249, 3) := by decide +kernel
theorem dX11_turn_69 : decode cX11_turn 69 = .ok (.invokevirtual 153, 3) := by decide +kernel
theorem dX11_turn_72 : decode cX11_turn 72 = .ok (.ireturn, 1) := by decide +kernel
theorem dX11_join_0 : decode cX11_join 0 = .ok (.aload_n 0, 1) := by decide +kernel
theorem dX11_join_1 : decode cX11_join 1 = .ok (.iload_n 1, 1) := by decide +kernel
theorem dX11_join_2 : decode cX11_join 2 = .ok (.invokevirtual 157, 3) := by decide +kernel
theorem dX11_join_5 : decode cX11_join 5 = .ok (.astore 4, 2) := by decide +kernel
theorem dX11_join_7 : decode cX11_join 7 = .ok (.aload_n 0, 1) := by decide +kernel
theorem dX11_join_8 : decode cX11_join 8 = .ok (.iload_n 2, 1) := by decide +kernel
theorem dX11_join_9 : decode cX11_join 9 = .ok (.invokevirtual 157, 3) := by decide +kernel
theorem dX11_join_12 : decode cX11_join 12 = .ok (.astore 5, 2) := by decide +kernel
theorem dX11_join_14 : decode cX11_join 14 = .ok (.aload_n 0, 1) := by decide +kernel
theorem dX11_join_15 : decode cX11_join 15 = .ok (.iload_n 3, 1) := by decide +kernel
theorem dX11_join_16 : decode cX11_join 16 = .ok (.invokevirtual 157, 3) := by decide +kernel
theorem dX11_join_19 : decode cX11_join 19 = .ok (.astore 6, 2) := by decide +kernel
theorem dX11_join_21 : decode cX11_join 21 = .ok (.aload_n 0, 1) := by decide +kernel
theorem dX11_join_22 : decode cX11_join 22 = .ok (.getfield 77, 3) := by decide +kernel
theorem dX11_join_25 : decode cX11_join 25 = .ok (.aload 4, 2) := by decide +kernel
theorem dX11_join_27 : decode cX11_join 27 = .ok (.aload 5, 2) := by decide +kernel
theorem dX11_join_29 : decode cX11_join 29 = .ok (.aload 6, 2) := by decide +kernel
theorem dX11_join_31 : decode cX11_join 31 = .ok (.invokevirtual 252, 3) := by decide +kernel
theorem dX11_join_34 : decode cX11_join 34 = .ok (.ifCond .ne 5, 3) := by decide +kernel
theorem dX11_join_37 : decode cX11_join 37 = .ok (.iconst (-1), 1) := by decide +kernel
theorem dX11_join_38 : decode cX11_join 38 = .ok (.ireturn, 1) := by decide +kernel
theorem dX11_join_39 : decode cX11_join 39 = .ok (.aload_n 0, 1) := by decide +kernel
theorem dX11_join_40 : decode cX11_join 40 = .ok (.aload_n 0, 1) := by decide +kernel
theorem dX11_join_41 : decode cX11_join 41 = .ok (.getfield 77, 3) := by decide +kernel
theorem dX11_join_44 : decode cX11_join 44 = .ok (.invokevirtual 256, 3) := by decide +kernel
theorem dX11_join_47 : decode cX11_join 47 = .ok (.invokevirtual 153, 3) := by decide +kernel
theorem dX11_join_50 : decode cX11_join 50 = .ok (.istore 7, 2) := by decide +kernel
theorem dX11_join_52 : decode cX11_join 52 = .ok (.aload_n 0, 1) := by decide +kernel
theorem dX11_join_53 : decode cX11_join 53 = .ok (.getfield 77, 3) := by decide +kernel
theorem dX11_join_56 : decode cX11_join 56 = .ok (.invokevirtual 257, 3) := by decide +kernel
theorem dX11_join_59 : decode cX11_join 59 = .ok (.iload 7, 2) := by decide +kernel
theorem dX11_join_61 : decode cX11_join 61 = .ok (.ireturn, 1) := by decide +kernel
theorem dX11_quarrels_0 : decode cX11_quarrels 0 = .ok (.aload_n 0, 1) := by decide +kernel
theorem dX11_quarrels_1 : decode cX11_quarrels 1 = .ok (.getfield 77, 3) := by decide +kernel
theorem dX11_quarrels_4 : decode cX11_quarrels 4 = .ok (.invokevirtual 260, 3) := by decide +kernel
theorem dX11_quarrels_7 : decode cX11_quarrels 7 = .ok (.ireturn, 1) := by decide +kernel
theorem dX11_standard_0 : decode cX11_standard 0 = .ok (.aload_n 0, 1) := by decide +kernel
theorem dX11_standard_1 : decode cX11_standard 1 = .ok (.aload_n 0, 1) := by decide +kernel
theorem dX11_standard_2 : decode cX11_standard 2 = .ok (.getfield 36, 3) := by decide +kernel
theorem dX11_standard_5 : decode cX11_standard 5 = .ok (.invokevirtual 153, 3) := by decide +kernel
theorem dX11_standard_8 : decode cX11_standard 8 = .ok (.ireturn, 1) := by decide +kernel
theorem dX11_check_0 : decode cX11_check 0 = .ok (.aload_n 0, 1) := by decide +kernel
theorem dX11_check_1 : decode cX11_check 1 = .ok (.iload_n 1, 1) := by decide +kernel
theorem dX11_check_2 : decode cX11_check 2 = .ok (.invokevirtual 157, 3) := by decide +kernel
theorem dX11_check_5 : decode cX11_check 5 = .ok (.astore_n 3, 1) := by decide +kernel
theorem dX11_check_6 : decode cX11_check 6 = .ok (.aload_n 0, 1) := by decide +kernel
theorem dX11_check_7 : decode cX11_check 7 = .ok (.iload_n 2, 1) := by decide +kernel
theorem dX11_check_8 : decode cX11_check 8 = .ok (.invokevirtual 157, 3) := by decide +kernel
theorem dX11_check_11 : decode cX11_check 11 = .ok (.astore 4, 2) := by decide +kernel
theorem dX11_check_13 : decode cX11_check 13 = .ok (.aload_n 0, 1) := by decide +kernel
theorem dX11_check_14 : decode cX11_check 14 = .ok (.getfield 84, 3) := by decide +kernel
theorem dX11_check_17 : decode cX11_check 17 = .ok (.aload_n 0, 1) := by decide +kernel
theorem dX11_check_18 : decode cX11_check 18 = .ok (.getfield 36, 3) := by decide +kernel
theorem dX11_check_21 : decode cX11_check 21 = .ok (.aload_n 3, 1) := by decide +kernel
theorem dX11_check_22 : decode cX11_check 22 = .ok (.invokevirtual 262, 3) := by decide +kernel
theorem dX11_check_25 : decode cX11_check 25 = .ok (.ifCond .eq 16, 3) := by decide +kernel
theorem dX11_check_28 : decode cX11_check 28 = .ok (.aload_n 0, 1) := by decide +kernel
theorem dX11_check_29 : decode cX11_check 29 = .ok (.getfield 84, 3) := by decide +kernel
theorem dX11_check_32 : decode cX11_check 32 = .ok (.aload_n 3, 1) := by decide +kernel
theorem dX11_check_33 : decode cX11_check 33 = .ok (.aload 4, 2) := by decide +kernel
theorem dX11_check_35 : decode cX11_check 35 = .ok (.invokevirtual 266, 3) := by decide +kernel
theorem dX11_check_38 : decode cX11_check 38 = .ok (.ifCond .ne 11, 3) := by decide +kernel
theorem dX11_check_41 : decode cX11_check 41 = .ok (.new 124, 3) := by decide +kernel
theorem dX11_check_44 : decode cX11_check 44 = .ok (.dup, 1) := by decide +kernel
theorem dX11_check_45 : decode cX11_check 45 = .ok (.invokespecial 126, 3) := by decide +kernel
theorem dX11_check_48 : decode cX11_check 48 = .ok (.athrow, 1) := by decide +kernel
theorem dX11_check_49 : decode cX11_check 49 = .ok (.aload_n 0, 1) := by decide +kernel
theorem dX11_check_50 : decode cX11_check 50 = .ok (.getfield 84, 3) := by decide +kernel
theorem dX11_check_53 : decode cX11_check 53 = .ok (.invokevirtual 269, 3) := by decide +kernel
theorem dX11_check_56 : decode cX11_check 56 = .ok (.ireturn, 1) := by decide +kernel
theorem dX11_grow_0 : decode cX11_grow 0 = .ok (.iload_n 1, 1) := by decide +kernel
theorem dX11_grow_1 : decode cX11_grow 1 = .ok (.ifCond .lt 20, 3) := by decide +kernel
theorem dX11_grow_4 : decode cX11_grow 4 = .ok (.iload_n 1, 1) := by decide +kernel
theorem dX11_grow_5 : decode cX11_grow 5 = .ok (.ldc_w 290, 3) := by decide +kernel
theorem dX11_grow_8 : decode cX11_grow 8 = .ok (.if_icmp .ge 13, 3) := by decide +kernel
theorem dX11_grow_11 : decode cX11_grow 11 = .ok (.iload_n 2, 1) := by decide +kernel
theorem dX11_grow_12 : decode cX11_grow 12 = .ok (.iconst 1, 1) := by decide +kernel
theorem dX11_grow_13 : decode cX11_grow 13 = .ok (.if_icmp .lt 8, 3) := by decide +kernel
theorem dX11_grow_16 : decode cX11_grow 16 = .ok (.iload_n 2, 1) := by decide +kernel
theorem dX11_grow_17 : decode cX11_grow 17 = .ok (.iconst 3, 1) := by decide +kernel
theorem dX11_grow_18 : decode cX11_grow 18 = .ok (.if_icmp .le 11, 3) := by decide +kernel
theorem dX11_grow_21 : decode cX11_grow 21 = .ok (.new 117, 3) := by decide +kernel
theorem dX11_grow_24 : decode cX11_grow 24 = .ok (.dup, 1) := by decide +kernel
theorem dX11_grow_25 : decode cX11_grow 25 = .ok (.invokespecial 119, 3) := by decide +kernel
theorem dX11_grow_28 : decode cX11_grow 28 = .ok (.athrow, 1) := by decide +kernel
theorem dX11_grow_29 : decode cX11_grow 29 = .ok (.aload_n 0, 1) := by decide +kernel
theorem dX11_grow_30 : decode cX11_grow 30 = .ok (.getfield 91, 3) := by decide +kernel
theorem dX11_grow_33 : decode cX11_grow 33 = .ok (.iload_n 1, 1) := by decide +kernel
theorem dX11_grow_34 : decode cX11_grow 34 = .ok (.invokevirtual 291, 3) := by decide +kernel
theorem dX11_grow_37 : decode cX11_grow 37 = .ok (.aload_n 0, 1) := by decide +kernel
theorem dX11_grow_38 : decode cX11_grow 38 = .ok (.getfield 91, 3) := by decide +kernel
theorem dX11_grow_41 : decode cX11_grow 41 = .ok (.iconst 0, 1) := by decide +kernel
theorem dX11_grow_42 : decode cX11_grow 42 = .ok (.iload_n 2, 1) := by decide +kernel
theorem dX11_grow_43 : decode cX11_grow 43 = .ok (.invokevirtual 293, 3) := by decide +kernel
theorem dX11_grow_46 : decode cX11_grow 46 = .ok (.pop, 1) := by decide +kernel
theorem dX11_grow_47 : decode cX11_grow 47 = .ok (.aload_n 0, 1) := by decide +kernel
theorem dX11_grow_48 : decode cX11_grow 48 = .ok (.aload_n 0, 1) := by decide +kernel
theorem dX11_grow_49 : decode cX11_grow 49 = .ok (.getfield 91, 3) := by decide +kernel
theorem dX11_grow_52 : decode cX11_grow 52 = .ok (.invokevirtual 296, 3) := by decide +kernel
theorem dX11_grow_55 : decode cX11_grow 55 = .ok (.invokevirtual 153, 3) := by decide +kernel
theorem dX11_grow_58 : decode cX11_grow 58 = .ok (.ireturn, 1) := by decide +kernel
theorem dX11_vary_0 : decode cX11_vary 0 = .ok (.aload_n 0, 1) := by decide +kernel
theorem dX11_vary_1 : decode cX11_vary 1 = .ok (.iload_n 1, 1) := by decide +kernel
theorem dX11_vary_2 : decode cX11_vary 2 = .ok (.invokevirtual 157, 3) := by decide +kernel
theorem dX11_vary_5 : decode cX11_vary 5 = .ok (.astore_n 3, 1) := by decide +kernel
theorem dX11_vary_6 : decode cX11_vary 6 = .ok (.iload_n 2, 1) := by decide +kernel
theorem dX11_vary_7 : decode cX11_vary 7 = .ok (.ifCond .lt 10, 3) := by decide +kernel
theorem dX11_vary_10 : decode cX11_vary 10 = .ok (.iload_n 2, 1) := by decide +kernel
theorem dX11_vary_11 : decode cX11_vary 11 = .ok (.ldc_w 290, 3) := by decide +kernel
theorem dX11_vary_14 : decode cX11_vary 14 = .ok (.if_icmp .lt 11, 3) := by decide +kernel
theorem dX11_vary_17 : decode cX11_vary 17 = .ok (.new 117, 3) := by decide +kernel
theorem dX11_vary_20 : decode cX11_vary 20 = .ok (.dup, 1) := by decide +kernel
theorem dX11_vary_21 : decode cX11_vary 21 = .ok (.invokespecial 119, 3) := by decide +kernel
theorem dX11_vary_24 : decode cX11_vary 24 = .ok (.athrow, 1) := by decide +kernel
theorem dX11_vary_25 : decode cX11_vary 25 = .ok (.aload_n 0, 1) := by decide +kernel
theorem dX11_vary_26 : decode cX11_vary 26 = .ok (.getfield 91, 3) := by decide +kernel
theorem dX11_vary_29 : decode cX11_vary 29 = .ok (.iload_n 2, 1) := by decide +kernel
theorem dX11_vary_30 : decode cX11_vary 30 = .ok (.invokevirtual 291, 3) := by decide +kernel
theorem dX11_vary_33 : decode cX11_vary 33 = .ok (.aload_n 0, 1) := by decide +kernel
theorem dX11_vary_34 : decode cX11_vary 34 = .ok (.getfield 91, 3) := by decide +kernel
theorem dX11_vary_37 : decode cX11_vary 37 = .ok (.aload_n 3, 1) := by decide +kernel
theorem dX11_vary_38 : decode cX11_vary 38 = .ok (.invokevirtual 297, 3) := by decide +kernel
theorem dX11_vary_41 : decode cX11_vary 41 = .ok (.invokevirtual 298, 3) := by decide +kernel
theorem dX11_vary_44 : decode cX11_vary 44 = .ok (.istore 4, 2) := by decide +kernel
theorem dX11_vary_46 : decode cX11_vary 46 = .ok (.aload_n 0, 1) := by decide +kernel
theorem dX11_vary_47 : decode cX11_vary 47 = .ok (.getfield 91, 3) := by decide +kernel
theorem dX11_vary_50 : decode cX11_vary 50 = .ok (.iconst 2, 1) := by decide +kernel
theorem dX11_vary_51 : decode cX11_vary 51 = .ok (.iconst 2, 1) := by decide +kernel
theorem dX11_vary_52 : decode cX11_vary 52 = .ok (.invokevirtual 293, 3) := by decide +kernel
theorem dX11_vary_55 : decode cX11_vary 55 = .ok (.pop, 1) := by decide +kernel
theorem dX11_vary_56 : decode cX11_vary 56 = .ok (.aload_n 0, 1) := by decide +kernel
theorem dX11_vary_57 : decode cX11_vary 57 = .ok (.getfield 32, 3) := by decide +kernel
theorem dX11_vary_60 : decode cX11_vary 60 = .ok (.aload_n 3, 1) := by decide +kernel
theorem dX11_vary_61 : decode cX11_vary 61 = .ok (.iconst 0, 1) := by decide +kernel
theorem dX11_vary_62 : decode cX11_vary 62 = .ok (.invokevirtual 109, 3) := by decide +kernel
theorem dX11_vary_65 : decode cX11_vary 65 = .ok (.aload_n 0, 1) := by decide +kernel
theorem dX11_vary_66 : decode cX11_vary 66 = .ok (.getfield 32, 3) := by decide +kernel
theorem dX11_vary_69 : decode cX11_vary 69 = .ok (.iload 4, 2) := by decide +kernel
theorem dX11_vary_71 : decode cX11_vary 71 = .ok (.aload_n 0, 1) := by decide +kernel
theorem dX11_vary_72 : decode cX11_vary 72 = .ok (.getfield 91, 3) := by decide +kernel
theorem dX11_vary_75 : decode cX11_vary 75 = .ok (.invokevirtual 296, 3) := by decide +kernel
theorem dX11_vary_78 : decode cX11_vary 78 = .ok (.iconst 0, 1) := by decide +kernel
theorem dX11_vary_79 : decode cX11_vary 79 = .ok (.invokevirtual 301, 3) := by decide +kernel
theorem dX11_vary_82 : decode cX11_vary 82 = .ok (.aload_n 0, 1) := by decide +kernel
theorem dX11_vary_83 : decode cX11_vary 83 = .ok (.aload_n 0, 1) := by decide +kernel
theorem dX11_vary_84 : decode cX11_vary 84 = .ok (.getfield 32, 3) := by decide +kernel
theorem dX11_vary_87 : decode cX11_vary 87 = .ok (.invokevirtual 153, 3) := by decide +kernel
theorem dX11_vary_90 : decode cX11_vary 90 = .ok (.ireturn, 1) := by decide +kernel
theorem dX11_sum_0 : decode cX11_sum 0 = .ok (.iload_n 1, 1) := by decide +kernel
theorem dX11_sum_1 : decode cX11_sum 1 = .ok (.ifCond .lt 9, 3) := by decide +kernel
theorem dX11_sum_4 : decode cX11_sum 4 = .ok (.iload_n 1, 1) := by decide +kernel
theorem dX11_sum_5 : decode cX11_sum 5 = .ok (.bipush 6, 2) := by decide +kernel
theorem dX11_sum_7 : decode cX11_sum 7 = .ok (.if_icmp .le 11, 3) := by decide +kernel
theorem dX11_sum_10 : decode cX11_sum 10 = .ok (.new 117, 3) := by decide +kernel
theorem dX11_sum_13 : decode cX11_sum 13 = .ok (.dup, 1) := by decide +kernel
theorem dX11_sum_14 : decode cX11_sum 14 = .ok (.invokespecial 119, 3) := by decide +kernel
theorem dX11_sum_17 : decode cX11_sum 17 = .ok (.athrow, 1) := by decide +kernel
theorem dX11_sum_18 : decode cX11_sum 18 = .ok (.iload_n 1, 1) := by decide +kernel
theorem dX11_sum_19 : decode cX11_sum 19 = .ok (.tableswitch 79 0 5 #[37, 42, 50, 58, 63, 71], 37) := by decide +kernel
theorem dX11_sum_56 : decode cX11_sum 56 = .ok (.aload_n 0, 1) := by decide +kernel
theorem dX11_sum_57 : decode cX11_sum 57 = .ok (.getfield 150, 3) := by decide +kernel
theorem dX11_sum_60 : decode cX11_sum 60 = .ok (.ireturn, 1) := by decide +kernel
theorem dX11_sum_61 : decode cX11_sum 61 = .ok (.aload_n 0, 1) := by decide +kernel
theorem dX11_sum_62 : decode cX11_sum 62 = .ok (.getfield 14, 3) := by decide +kernel
theorem dX11_sum_65 : decode cX11_sum 65 = .ok (.invokevirtual 120, 3) := by decide +kernel
theorem dX11_sum_68 : decode cX11_sum 68 = .ok (.ireturn, 1) := by decide +kernel
theorem dX11_sum_69 : decode cX11_sum 69 = .ok (.aload_n 0, 1) := by decide +kernel
theorem dX11_sum_70 : decode cX11_sum 70 = .ok (.getfield 19, 3) := by decide +kernel
theorem dX11_sum_73 : decode cX11_sum 73 = .ok (.invokevirtual 120, 3) := by decide +kernel
theorem dX11_sum_76 : decode cX11_sum 76 = .ok (.ireturn, 1) := by decide +kernel
theorem dX11_sum_77 : decode cX11_sum 77 = .ok (.aload_n 0, 1) := by decide +kernel
theorem dX11_sum_78 : decode cX11_sum 78 = .ok (.getfield 146, 3) := by decide +kernel
theorem dX11_sum_81 : decode cX11_sum 81 = .ok (.ireturn, 1) := by decide +kernel
theorem dX11_sum_82 : decode cX11_sum 82 = .ok (.aload_n 0, 1) := by decide +kernel
theorem dX11_sum_83 : decode cX11_sum 83 = .ok (.getfield 56, 3) := by decide +kernel
theorem dX11_sum_86 : decode cX11_sum 86 = .ok (.invokevirtual 223, 3) := by decide +kernel
theorem dX11_sum_89 : decode cX11_sum 89 = .ok (.ireturn, 1) := by decide +kernel
theorem dX11_sum_90 : decode cX11_sum 90 = .ok (.aload_n 0, 1) := by decide +kernel
theorem dX11_sum_91 : decode cX11_sum 91 = .ok (.getfield 84, 3) := by decide +kernel
theorem dX11_sum_94 : decode cX11_sum 94 = .ok (.invokevirtual 269, 3) := by decide +kernel
theorem dX11_sum_97 : decode cX11_sum 97 = .ok (.ireturn, 1) := by decide +kernel
theorem dX11_sum_98 : decode cX11_sum 98 = .ok (.aload_n 0, 1) := by decide +kernel
theorem dX11_sum_99 : decode cX11_sum 99 = .ok (.invokevirtual 305, 3) := by decide +kernel
theorem dX11_sum_102 : decode cX11_sum 102 = .ok (.ireturn, 1) := by decide +kernel
theorem dX11_isSound_0 : decode cX11_isSound 0 = .ok (.aload_n 0, 1) := by decide +kernel
theorem dX11_isSound_1 : decode cX11_isSound 1 = .ok (.iload_n 1, 1) := by decide +kernel
theorem dX11_isSound_2 : decode cX11_isSound 2 = .ok (.invokevirtual 157, 3) := by decide +kernel
theorem dX11_isSound_5 : decode cX11_isSound 5 = .ok (.astore_n 2, 1) := by decide +kernel
theorem dX11_isSound_6 : decode cX11_isSound 6 = .ok (.aload_n 2, 1) := by decide +kernel
theorem dX11_isSound_7 : decode cX11_isSound 7 = .ok (.invokevirtual 308, 3) := by decide +kernel
theorem dX11_isSound_10 : decode cX11_isSound 10 = .ok (.ifCond .eq 14, 3) := by decide +kernel
theorem dX11_isSound_13 : decode cX11_isSound 13 = .ok (.aload_n 2, 1) := by decide +kernel
theorem dX11_isSound_14 : decode cX11_isSound 14 = .ok (.invokevirtual 312, 3) := by decide +kernel
theorem dX11_isSound_17 : decode cX11_isSound 17 = .ok (.ifCond .eq 7, 3) := by decide +kernel
theorem dX11_isSound_20 : decode cX11_isSound 20 = .ok (.iconst 1, 1) := by decide +kernel
theorem dX11_isSound_21 : decode cX11_isSound 21 = .ok (.goto 4, 3) := by decide +kernel
theorem dX11_isSound_24 : decode cX11_isSound 24 = .ok (.iconst 0, 1) := by decide +kernel
theorem dX11_isSound_25 : decode cX11_isSound 25 = .ok (.istore_n 3, 1) := by decide +kernel
theorem dX11_isSound_26 : decode cX11_isSound 26 = .ok (.iconst 0, 1) := by decide +kernel
theorem dX11_isSound_27 : decode cX11_isSound 27 = .ok (.istore 4, 2) := by decide +kernel
theorem dX11_isSound_29 : decode cX11_isSound 29 = .ok (.iload 4, 2) := by decide +kernel
theorem dX11_isSound_31 : decode cX11_isSound 31 = .ok (.iconst 2, 1) := by decide +kernel
theorem dX11_isSound_32 : decode cX11_isSound 32 = .ok (.if_icmp .gt 71, 3) := by decide +kernel
theorem dX11_isSound_35 : decode cX11_isSound 35 = .ok (.iload_n 3, 1) := by decide +kernel
theorem dX11_isSound_36 : decode cX11_isSound 36 = .ok (.ifCond .eq 67, 3) := by decide +kernel
theorem dX11_isSound_39 : decode cX11_isSound 39 = .ok (.aload_n 0, 1) := by decide +kernel
theorem dX11_isSound_40 : decode cX11_isSound 40 = .ok (.getfield 22, 3) := by decide +kernel
theorem dX11_isSound_43 : decode cX11_isSound 43 = .ok (.invokevirtual 134, 3) := by decide +kernel
theorem dX11_isSound_46 : decode cX11_isSound 46 = .ok (.aload_n 2, 1) := by decide +kernel
theorem dX11_isSound_47 : decode cX11_isSound 47 = .ok (.iconst 0, 1) := by decide +kernel
theorem dX11_isSound_48 : decode cX11_isSound 48 = .ok (.iload 4, 2) := by decide +kernel
theorem dX11_isSound_50 : decode cX11_isSound 50 = .ok (.iconst 0, 1) := by decide +kernel
theorem dX11_isSound_51 : decode cX11_isSound 51 = .ok (.aload_n 0, 1) := by decide +kernel
theorem dX11_isSound_52 : decode cX11_isSound 52 = .ok (.getfield 22, 3) := by decide +kernel
theorem dX11_isSound_55 : decode cX11_isSound 55 = .ok (.invokestatic 161, 3) := by decide +kernel
theorem dX11_isSound_58 : decode cX11_isSound 58 = .ok (.aload_n 0, 1) := by decide +kernel
theorem dX11_isSound_59 : decode cX11_isSound 59 = .ok (.getfield 42, 3) := by decide +kernel
theorem dX11_isSound_62 : decode cX11_isSound 62 = .ok (.aload_n 0, 1) := by decide +kernel
theorem dX11_isSound_63 : decode cX11_isSound 63 = .ok (.getfield 22, 3) := by decide +kernel
theorem dX11_isSound_66 : decode cX11_isSound 66 = .ok (.iconst 0, 1) := by decide +kernel
theorem dX11_isSound_67 : decode cX11_isSound 67 = .ok (.invokevirtual 101, 3) := by decide +kernel
theorem dX11_isSound_70 : decode cX11_isSound 70 = .ok (.iconst (-1), 1) := by decide +kernel
theorem dX11_isSound_71 : decode cX11_isSound 71 = .ok (.if_icmp .ne 24, 3) := by decide +kernel
theorem dX11_isSound_74 : decode cX11_isSound 74 = .ok (.aload_n 0, 1) := by decide +kernel
theorem dX11_isSound_75 : decode cX11_isSound 75 = .ok (.getfield 42, 3) := by decide +kernel
theorem dX11_isSound_78 : decode cX11_isSound 78 = .ok (.invokevirtual 105, 3) := by decide +kernel
theorem dX11_isSound_81 : decode cX11_isSound 81 = .ok (.iconst 0, 1) := by decide +kernel
theorem dX11_isSound_82 : decode cX11_isSound 82 = .ok (.aload_n 2, 1) := by decide +kernel
theorem dX11_isSound_83 : decode cX11_isSound 83 = .ok (.iconst 0, 1) := by decide +kernel
theorem dX11_isSound_84 : decode cX11_isSound 84 = .ok (.iconst 0, 1) := by decide +kernel
theorem dX11_isSound_85 : decode cX11_isSound 85 = .ok (.invokevirtual 187, 3) := by decide +kernel
theorem dX11_isSound_88 : decode cX11_isSound 88 = .ok (.ifCond .eq 7, 3) := by decide +kernel
theorem dX11_isSound_91 : decode cX11_isSound 91 = .ok (.iconst 1, 1) := by decide +kernel
theorem dX11_isSound_92 : decode cX11_isSound 92 = .ok (.goto 4, 3) := by decide +kernel
theorem dX11_isSound_95 : decode cX11_isSound 95 = .ok (.iconst 0, 1) := by decide +kernel
theorem dX11_isSound_96 : decode cX11_isSound 96 = .ok (.istore_n 3, 1) := by decide +kernel
theorem dX11_isSound_97 : decode cX11_isSound 97 = .ok (.iinc 4 1, 3) := by decide +kernel
theorem dX11_isSound_100 : decode cX11_isSound 100 = .ok (.goto (-71), 3) := by decide +kernel
theorem dX11_isSound_103 : decode cX11_isSound 103 = .ok (.iload_n 3, 1) := by decide +kernel
theorem dX11_isSound_104 : decode cX11_isSound 104 = .ok (.ireturn, 1) := by decide +kernel
theorem dX11_letterAt_0 : decode cX11_letterAt 0 = .ok (.lload_n 0, 1) := by decide +kernel
theorem dX11_letterAt_1 : decode cX11_letterAt 1 = .ok (.bipush 8, 2) := by decide +kernel
theorem dX11_letterAt_3 : decode cX11_letterAt 3 = .ok (.iload_n 2, 1) := by decide +kernel
theorem dX11_letterAt_4 : decode cX11_letterAt 4 = .ok (.imul, 1) := by decide +kernel
theorem dX11_letterAt_5 : decode cX11_letterAt 5 = .ok (.lushr, 1) := by decide +kernel
theorem dX11_letterAt_6 : decode cX11_letterAt 6 = .ok (.l2i, 1) := by decide +kernel
theorem dX11_letterAt_7 : decode cX11_letterAt 7 = .ok (.sipush 255, 3) := by decide +kernel
theorem dX11_letterAt_10 : decode cX11_letterAt 10 = .ok (.iand, 1) := by decide +kernel
theorem dX11_letterAt_11 : decode cX11_letterAt 11 = .ok (.ireturn, 1) := by decide +kernel
theorem dX11_areSigns_0 : decode cX11_areSigns 0 = .ok (.iload_n 0, 1) := by decide +kernel
theorem dX11_areSigns_1 : decode cX11_areSigns 1 = .ok (.bipush 8, 2) := by decide +kernel
theorem dX11_areSigns_3 : decode cX11_areSigns 3 = .ok (.if_icmp .ge 16, 3) := by decide +kernel
theorem dX11_areSigns_6 : decode cX11_areSigns 6 = .ok (.lload_n 1, 1) := by decide +kernel
theorem dX11_areSigns_7 : decode cX11_areSigns 7 = .ok (.bipush 8, 2) := by decide +kernel
theorem dX11_areSigns_9 : decode cX11_areSigns 9 = .ok (.iload_n 0, 1) := by decide +kernel
theorem dX11_areSigns_10 : decode cX11_areSigns 10 = .ok (.imul, 1) := by decide +kernel
theorem dX11_areSigns_11 : decode cX11_areSigns 11 = .ok (.lushr, 1) := by decide +kernel
theorem dX11_areSigns_12 : decode cX11_areSigns 12 = .ok (.lconst 0, 1) := by decide +kernel
theorem dX11_areSigns_13 : decode cX11_areSigns 13 = .ok (.lcmp, 1) := by decide +kernel
theorem dX11_areSigns_14 : decode cX11_areSigns 14 = .ok (.ifCond .eq 5, 3) := by decide +kernel
theorem dX11_areSigns_17 : decode cX11_areSigns 17 = .ok (.iconst 0, 1) := by decide +kernel
theorem dX11_areSigns_18 : decode cX11_areSigns 18 = .ok (.ireturn, 1) := by decide +kernel
theorem dX11_areSigns_19 : decode cX11_areSigns 19 = .ok (.iconst 0, 1) := by decide +kernel
theorem dX11_areSigns_20 : decode cX11_areSigns 20 = .ok (.istore_n 3, 1) := by decide +kernel
theorem dX11_areSigns_21 : decode cX11_areSigns 21 = .ok (.iload_n 3, 1) := by decide +kernel
theorem dX11_areSigns_22 : decode cX11_areSigns 22 = .ok (.iload_n 0, 1) := by decide +kernel
theorem dX11_areSigns_23 : decode cX11_areSigns 23 = .ok (.if_icmp .ge 39, 3) := by decide +kernel
theorem dX11_areSigns_26 : decode cX11_areSigns 26 = .ok (.lload_n 1, 1) := by decide +kernel
theorem dX11_areSigns_27 : decode cX11_areSigns 27 = .ok (.iload_n 3, 1) := by decide +kernel
theorem dX11_areSigns_28 : decode cX11_areSigns 28 = .ok (.invokestatic 127, 3) := by decide +kernel
theorem dX11_areSigns_31 : decode cX11_areSigns 31 = .ok (.istore 4, 2) := by decide +kernel
theorem dX11_areSigns_33 : decode cX11_areSigns 33 = .ok (.iload 4, 2) := by decide +kernel
theorem dX11_areSigns_35 : decode cX11_areSigns 35 = .ok (.bipush 10, 2) := by decide +kernel
theorem dX11_areSigns_37 : decode cX11_areSigns 37 = .ok (.if_icmp .eq 19, 3) := by decide +kernel
theorem dX11_areSigns_40 : decode cX11_areSigns 40 = .ok (.iload 4, 2) := by decide +kernel
theorem dX11_areSigns_42 : decode cX11_areSigns 42 = .ok (.bipush 32, 2) := by decide +kernel
theorem dX11_areSigns_44 : decode cX11_areSigns 44 = .ok (.if_icmp .lt 10, 3) := by decide +kernel
theorem dX11_areSigns_47 : decode cX11_areSigns 47 = .ok (.iload 4, 2) := by decide +kernel
theorem dX11_areSigns_49 : decode cX11_areSigns 49 = .ok (.bipush 126, 2) := by decide +kernel
theorem dX11_areSigns_51 : decode cX11_areSigns 51 = .ok (.if_icmp .le 5, 3) := by decide +kernel
theorem dX11_areSigns_54 : decode cX11_areSigns 54 = .ok (.iconst 0, 1) := by decide +kernel
theorem dX11_areSigns_55 : decode cX11_areSigns 55 = .ok (.ireturn, 1) := by decide +kernel
theorem dX11_areSigns_56 : decode cX11_areSigns 56 = .ok (.iinc 3 1, 3) := by decide +kernel
theorem dX11_areSigns_59 : decode cX11_areSigns 59 = .ok (.goto (-38), 3) := by decide +kernel
theorem dX11_areSigns_62 : decode cX11_areSigns 62 = .ok (.iconst 1, 1) := by decide +kernel
theorem dX11_areSigns_63 : decode cX11_areSigns 63 = .ok (.ireturn, 1) := by decide +kernel
theorem dX11_canTell_0 : decode cX11_canTell 0 = .ok (.iload_n 2, 1) := by decide +kernel
theorem dX11_canTell_1 : decode cX11_canTell 1 = .ok (.tableswitch 52 0 2 #[27, 34, 41], 27) := by decide +kernel
theorem dX11_canTell_28 : decode cX11_canTell 28 = .ok (.aload_n 0, 1) := by decide +kernel
theorem dX11_canTell_29 : decode cX11_canTell 29 = .ok (.iload_n 1, 1) := by decide +kernel
theorem dX11_canTell_30 : decode cX11_canTell 30 = .ok (.iconst 3, 1) := by decide +kernel
theorem dX11_canTell_31 : decode cX11_canTell 31 = .ok (.invokevirtual 191, 3) := by decide +kernel
theorem dX11_canTell_34 : decode cX11_canTell 34 = .ok (.ireturn, 1) := by decide +kernel
theorem dX11_canTell_35 : decode cX11_canTell 35 = .ok (.aload_n 0, 1) := by decide +kernel
theorem dX11_canTell_36 : decode cX11_canTell 36 = .ok (.iload_n 1, 1) := by decide +kernel
theorem dX11_canTell_37 : decode cX11_canTell 37 = .ok (.iconst 2, 1) := by decide +kernel
theorem dX11_canTell_38 : decode cX11_canTell 38 = .ok (.invokevirtual 191, 3) := by decide +kernel
theorem dX11_canTell_41 : decode cX11_canTell 41 = .ok (.ireturn, 1) := by decide +kernel
theorem dX11_canTell_42 : decode cX11_canTell 42 = .ok (.aload_n 0, 1) := by decide +kernel
theorem dX11_canTell_43 : decode cX11_canTell 43 = .ok (.aload_n 0, 1) := by decide +kernel
theorem dX11_canTell_44 : decode cX11_canTell 44 = .ok (.iload_n 1, 1) := by decide +kernel
theorem dX11_canTell_45 : decode cX11_canTell 45 = .ok (.invokevirtual 315, 3) := by decide +kernel
theorem dX11_canTell_48 : decode cX11_canTell 48 = .ok (.iconst 5, 1) := by decide +kernel
theorem dX11_canTell_49 : decode cX11_canTell 49 = .ok (.invokevirtual 191, 3) := by decide +kernel
theorem dX11_canTell_52 : decode cX11_canTell 52 = .ok (.ireturn, 1) := by decide +kernel
theorem dX11_canTell_53 : decode cX11_canTell 53 = .ok (.iconst 1, 1) := by decide +kernel
theorem dX11_canTell_54 : decode cX11_canTell 54 = .ok (.ireturn, 1) := by decide +kernel
theorem dX11_document_0 : decode cX11_document 0 = .ok (.iload_n 1, 1) := by decide +kernel
theorem dX11_document_1 : decode cX11_document 1 = .ok (.ifCond .lt 29, 3) := by decide +kernel
theorem dX11_document_4 : decode cX11_document 4 = .ok (.iload_n 1, 1) := by decide +kernel
theorem dX11_document_5 : decode cX11_document 5 = .ok (.aload_n 0, 1) := by decide +kernel
theorem dX11_document_6 : decode cX11_document 6 = .ok (.getfield 150, 3) := by decide +kernel
theorem dX11_document_9 : decode cX11_document 9 = .ok (.if_icmp .ge 21, 3) := by decide +kernel
theorem dX11_document_12 : decode cX11_document 12 = .ok (.iload_n 1, 1) := by decide +kernel
theorem dX11_document_13 : decode cX11_document 13 = .ok (.aload_n 0, 1) := by decide +kernel
theorem dX11_document_14 : decode cX11_document 14 = .ok (.getfield 27, 3) := by decide +kernel
theorem dX11_document_17 : decode cX11_document 17 = .ok (.arraylength, 1) := by decide +kernel
theorem dX11_document_18 : decode cX11_document 18 = .ok (.if_icmp .ge 12, 3) := by decide +kernel
theorem dX11_document_21 : decode cX11_document 21 = .ok (.aload_n 0, 1) := by decide +kernel
theorem dX11_document_22 : decode cX11_document 22 = .ok (.getfield 27, 3) := by decide +kernel
theorem dX11_document_25 : decode cX11_document 25 = .ok (.iload_n 1, 1) := by decide +kernel
theorem dX11_document_26 : decode cX11_document 26 = .ok (.aaload, 1) := by decide +kernel
theorem dX11_document_27 : decode cX11_document 27 = .ok (.goto 4, 3) := by decide +kernel
theorem dX11_document_30 : decode cX11_document 30 = .ok (.aconst_null, 1) := by decide +kernel
theorem dX11_document_31 : decode cX11_document 31 = .ok (.astore_n 2, 1) := by decide +kernel
theorem dX11_document_32 : decode cX11_document 32 = .ok (.aload_n 2, 1) := by decide +kernel
theorem dX11_document_33 : decode cX11_document 33 = .ok (.ifnonnull 11, 3) := by decide +kernel
theorem dX11_document_36 : decode cX11_document 36 = .ok (.new 137, 3) := by decide +kernel
theorem dX11_document_39 : decode cX11_document 39 = .ok (.dup, 1) := by decide +kernel
theorem dX11_document_40 : decode cX11_document 40 = .ok (.invokespecial 139, 3) := by decide +kernel
theorem dX11_document_43 : decode cX11_document 43 = .ok (.athrow, 1) := by decide +kernel
theorem dX11_document_44 : decode cX11_document 44 = .ok (.aload_n 2, 1) := by decide +kernel
theorem dX11_document_45 : decode cX11_document 45 = .ok (.areturn, 1) := by decide +kernel
theorem dX11_documentWith_0 : decode cX11_documentWith 0 = .ok (.aload_n 0, 1) := by decide +kernel
theorem dX11_documentWith_1 : decode cX11_documentWith 1 = .ok (.iload_n 1, 1) := by decide +kernel
theorem dX11_documentWith_2 : decode cX11_documentWith 2 = .ok (.invokevirtual 157, 3) := by decide +kernel
theorem dX11_documentWith_5 : decode cX11_documentWith 5 = .ok (.astore_n 3, 1) := by decide +kernel
theorem dX11_documentWith_6 : decode cX11_documentWith 6 = .ok (.aload_n 3, 1) := by decide +kernel
theorem dX11_documentWith_7 : decode cX11_documentWith 7 = .ok (.iload_n 2, 1) := by decide +kernel
theorem dX11_documentWith_8 : decode cX11_documentWith 8 = .ok (.invokevirtual 318, 3) := by decide +kernel
theorem dX11_documentWith_11 : decode cX11_documentWith 11 = .ok (.ifCond .ne 11, 3) := by decide +kernel
theorem dX11_documentWith_14 : decode cX11_documentWith 14 = .ok (.new 137, 3) := by decide +kernel
theorem dX11_documentWith_17 : decode cX11_documentWith 17 = .ok (.dup, 1) := by decide +kernel
theorem dX11_documentWith_18 : decode cX11_documentWith 18 = .ok (.invokespecial 139, 3) := by decide +kernel
theorem dX11_documentWith_21 : decode cX11_documentWith 21 = .ok (.athrow, 1) := by decide +kernel
theorem dX11_documentWith_22 : decode cX11_documentWith 22 = .ok (.aload_n 3, 1) := by decide +kernel
theorem dX11_documentWith_23 : decode cX11_documentWith 23 = .ok (.areturn, 1) := by decide +kernel
theorem dX11_loadPage_0 : decode cX11_loadPage 0 = .ok (.aload_n 0, 1) := by decide +kernel
theorem dX11_loadPage_1 : decode cX11_loadPage 1 = .ok (.getfield 49, 3) := by decide +kernel
theorem dX11_loadPage_4 : decode cX11_loadPage 4 = .ok (.aload_n 0, 1) := by decide +kernel
theorem dX11_loadPage_5 : decode cX11_loadPage 5 = .ok (.getfield 14, 3) := by decide +kernel
theorem dX11_loadPage_8 : decode cX11_loadPage 8 = .ok (.invokevirtual 322, 3) := by decide +kernel
theorem dX11_loadPage_11 : decode cX11_loadPage 11 = .ok (.ifCond .ne 11, 3) := by decide +kernel
theorem dX11_loadPage_14 : decode cX11_loadPage 14 = .ok (.new 124, 3) := by decide +kernel
theorem dX11_loadPage_17 : decode cX11_loadPage 17 = .ok (.dup, 1) := by decide +kernel
theorem dX11_loadPage_18 : decode cX11_loadPage 18 = .ok (.invokespecial 126, 3) := by decide +kernel
theorem dX11_loadPage_21 : decode cX11_loadPage 21 = .ok (.athrow, 1) := by decide +kernel
theorem dX11_loadPage_22 : decode cX11_loadPage 22 = .ok (.return_, 1) := by decide +kernel
theorem dX11_admit_0 : decode cX11_admit 0 = .ok (.aload_n 0, 1) := by decide +kernel
theorem dX11_admit_1 : decode cX11_admit 1 = .ok (.getfield 150, 3) := by decide +kernel
theorem dX11_admit_4 : decode cX11_admit 4 = .ok (.ifCond .lt 27, 3) := by decide +kernel
theorem dX11_admit_7 : decode cX11_admit 7 = .ok (.aload_n 0, 1) := by decide +kernel
theorem dX11_admit_8 : decode cX11_admit 8 = .ok (.getfield 150, 3) := by decide +kernel
theorem dX11_admit_11 : decode cX11_admit 11 = .ok (.aload_n 0, 1) := by decide +kernel
theorem dX11_admit_12 : decode cX11_admit 12 = .ok (.getfield 27, 3) := by decide +kernel
theorem dX11_admit_15 : decode cX11_admit 15 = .ok (.arraylength, 1) := by decide +kernel
theorem dX11_admit_16 : decode cX11_admit 16 = .ok (.if_icmp .ge 15, 3) := by decide +kernel
theorem dX11_admit_19 : decode cX11_admit 19 = .ok (.aload_n 0, 1) := by decide +kernel
theorem dX11_admit_20 : decode cX11_admit 20 = .ok (.getfield 27, 3) := by decide +kernel
theorem dX11_admit_23 : decode cX11_admit 23 = .ok (.aload_n 0, 1) := by decide +kernel
theorem dX11_admit_24 : decode cX11_admit 24 = .ok (.getfield 150, 3) := by decide +kernel
theorem dX11_admit_27 : decode cX11_admit 27 = .ok (.aaload, 1) := by decide +kernel
theorem dX11_admit_28 : decode cX11_admit 28 = .ok (.goto 4, 3) := by decide +kernel
theorem dX11_admit_31 : decode cX11_admit 31 = .ok (.aconst_null, 1) := by decide +kernel
theorem dX11_admit_32 : decode cX11_admit 32 = .ok (.astore_n 2, 1) := by decide +kernel
theorem dX11_admit_33 : decode cX11_admit 33 = .ok (.aload_n 2, 1) := by decide +kernel
theorem dX11_admit_34 : decode cX11_admit 34 = .ok (.ifnull 10, 3) := by decide +kernel
theorem dX11_admit_37 : decode cX11_admit 37 = .ok (.aload_n 1, 1) := by decide +kernel
theorem dX11_admit_38 : decode cX11_admit 38 = .ok (.invokevirtual 308, 3) := by decide +kernel
theorem dX11_admit_41 : decode cX11_admit 41 = .ok (.ifCond .ne 11, 3) := by decide +kernel
theorem dX11_admit_44 : decode cX11_admit 44 = .ok (.new 124, 3) := by decide +kernel
theorem dX11_admit_47 : decode cX11_admit 47 = .ok (.dup, 1) := by decide +kernel
theorem dX11_admit_48 : decode cX11_admit 48 = .ok (.invokespecial 126, 3) := by decide +kernel
theorem dX11_admit_51 : decode cX11_admit 51 = .ok (.athrow, 1) := by decide +kernel
theorem dX11_admit_52 : decode cX11_admit 52 = .ok (.aload_n 2, 1) := by decide +kernel
theorem dX11_admit_53 : decode cX11_admit 53 = .ok (.aload_n 1, 1) := by decide +kernel
theorem dX11_admit_54 : decode cX11_admit 54 = .ok (.iconst 0, 1) := by decide +kernel
theorem dX11_admit_55 : decode cX11_admit 55 = .ok (.invokevirtual 109, 3) := by decide +kernel
theorem dX11_admit_58 : decode cX11_admit 58 = .ok (.aload_n 0, 1) := by decide +kernel
theorem dX11_admit_59 : decode cX11_admit 59 = .ok (.dup, 1) := by decide +kernel
theorem dX11_admit_60 : decode cX11_admit 60 = .ok (.getfield 150, 3) := by decide +kernel
theorem dX11_admit_63 : decode cX11_admit 63 = .ok (.iconst 1, 1) := by decide +kernel
theorem dX11_admit_64 : decode cX11_admit 64 = .ok (.iadd, 1) := by decide +kernel
theorem dX11_admit_65 : decode cX11_admit 65 = .ok (.putfield 150, 3) := by decide +kernel
theorem dX11_admit_68 : decode cX11_admit 68 = .ok (.aload_n 0, 1) := by decide +kernel
theorem dX11_admit_69 : decode cX11_admit 69 = .ok (.getfield 150, 3) := by decide +kernel
theorem dX11_admit_72 : decode cX11_admit 72 = .ok (.iconst 1, 1) := by decide +kernel
theorem dX11_admit_73 : decode cX11_admit 73 = .ok (.isub, 1) := by decide +kernel
theorem dX11_admit_74 : decode cX11_admit 74 = .ok (.ireturn, 1) := by decide +kernel
theorem dX11_allNodes_0 : decode cX11_allNodes 0 = .ok (.iconst 0, 1) := by decide +kernel
theorem dX11_allNodes_1 : decode cX11_allNodes 1 = .ok (.istore_n 1, 1) := by decide +kernel
theorem dX11_allNodes_2 : decode cX11_allNodes 2 = .ok (.iconst 0, 1) := by decide +kernel
theorem dX11_allNodes_3 : decode cX11_allNodes 3 = .ok (.istore_n 2, 1) := by decide +kernel
theorem dX11_allNodes_4 : decode cX11_allNodes 4 = .ok (.iload_n 2, 1) := by decide +kernel
theorem dX11_allNodes_5 : decode cX11_allNodes 5 = .ok (.aload_n 0, 1) := by decide +kernel
theorem dX11_allNodes_6 : decode cX11_allNodes 6 = .ok (.getfield 150, 3) := by decide +kernel
theorem dX11_allNodes_9 : decode cX11_allNodes 9 = .ok (.if_icmp .ge 20, 3) := by decide +kernel
theorem dX11_allNodes_12 : decode cX11_allNodes 12 = .ok (.iload_n 1, 1) := by decide +kernel
theorem dX11_allNodes_13 : decode cX11_allNodes 13 = .ok (.aload_n 0, 1) := by decide +kernel
theorem dX11_allNodes_14 : decode cX11_allNodes 14 = .ok (.iload_n 2, 1) := by decide +kernel
theorem dX11_allNodes_15 : decode cX11_allNodes 15 = .ok (.invokevirtual 157, 3) := by decide +kernel
theorem dX11_allNodes_18 : decode cX11_allNodes 18 = .ok (.invokevirtual 297, 3) := by decide +kernel
theorem dX11_allNodes_21 : decode cX11_allNodes 21 = .ok (.iadd, 1) := by decide +kernel
theorem dX11_allNodes_22 : decode cX11_allNodes 22 = .ok (.istore_n 1, 1) := by decide +kernel
theorem dX11_allNodes_23 : decode cX11_allNodes 23 = .ok (.iinc 2 1, 3) := by decide +kernel
theorem dX11_allNodes_26 : decode cX11_allNodes 26 = .ok (.goto (-22), 3) := by decide +kernel
theorem dX11_allNodes_29 : decode cX11_allNodes 29 = .ok (.iload_n 1, 1) := by decide +kernel
theorem dX11_allNodes_30 : decode cX11_allNodes 30 = .ok (.ireturn, 1) := by decide +kernel
