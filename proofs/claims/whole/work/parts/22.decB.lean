theorem dX5_init_0 : decode cX5_init 0 = .ok (.aload_n 0, 1) := by decide +kernel
theorem dX5_init_1 : decode cX5_init 1 = .ok (.invokespecial 3, 3) := by decide +kernel
theorem dX5_init_4 : decode cX5_init 4 = .ok (.aload_n 0, 1) := by decide +kernel
theorem dX5_init_5 : decode cX5_init 5 = .ok (.new 9, 3) := by decide +kernel
theorem dX5_init_8 : decode cX5_init 8 = .ok (.dup, 1) := by decide +kernel
theorem dX5_init_9 : decode cX5_init 9 = .ok (.sipush 400, 3) := by decide +kernel
theorem dX5_init_12 : decode cX5_init 12 = .ok (.invokespecial 11, 3) := by decide +kernel
theorem dX5_init_15 : decode cX5_init 15 = .ok (.putfield 14, 3) := by decide +kernel
theorem dX5_init_18 : decode cX5_init 18 = .ok (.aload_n 0, 1) := by decide +kernel
theorem dX5_init_19 : decode cX5_init 19 = .ok (.sipush 10000, 3) := by decide +kernel
theorem dX5_init_22 : decode cX5_init 22 = .ok (.newarray .boolean, 2) := by decide +kernel
theorem dX5_init_24 : decode cX5_init 24 = .ok (.putfield 20, 3) := by decide +kernel
theorem dX5_init_27 : decode cX5_init 27 = .ok (.aload_n 0, 1) := by decide +kernel
theorem dX5_init_28 : decode cX5_init 28 = .ok (.sipush 10000, 3) := by decide +kernel
theorem dX5_init_31 : decode cX5_init 31 = .ok (.newarray .int, 2) := by decide +kernel
theorem dX5_init_33 : decode cX5_init 33 = .ok (.putfield 24, 3) := by decide +kernel
theorem dX5_init_36 : decode cX5_init 36 = .ok (.aload_n 0, 1) := by decide +kernel
theorem dX5_init_37 : decode cX5_init 37 = .ok (.bipush 100, 2) := by decide +kernel
theorem dX5_init_39 : decode cX5_init 39 = .ok (.newarray .int, 2) := by decide +kernel
theorem dX5_init_41 : decode cX5_init 41 = .ok (.putfield 28, 3) := by decide +kernel
theorem dX5_init_44 : decode cX5_init 44 = .ok (.aload_n 0, 1) := by decide +kernel
theorem dX5_init_45 : decode cX5_init 45 = .ok (.bipush 100, 2) := by decide +kernel
theorem dX5_init_47 : decode cX5_init 47 = .ok (.newarray .int, 2) := by decide +kernel
theorem dX5_init_49 : decode cX5_init 49 = .ok (.putfield 31, 3) := by decide +kernel
theorem dX5_init_52 : decode cX5_init 52 = .ok (.aload_n 0, 1) := by decide +kernel
theorem dX5_init_53 : decode cX5_init 53 = .ok (.new 34, 3) := by decide +kernel
theorem dX5_init_56 : decode cX5_init 56 = .ok (.dup, 1) := by decide +kernel
theorem dX5_init_57 : decode cX5_init 57 = .ok (.invokespecial 36, 3) := by decide +kernel
theorem dX5_init_60 : decode cX5_init 60 = .ok (.putfield 37, 3) := by decide +kernel
theorem dX5_init_63 : decode cX5_init 63 = .ok (.aload_n 0, 1) := by decide +kernel
theorem dX5_init_64 : decode cX5_init 64 = .ok (.aload_n 0, 1) := by decide +kernel
theorem dX5_init_65 : decode cX5_init 65 = .ok (.getfield 37, 3) := by decide +kernel
theorem dX5_init_68 : decode cX5_init 68 = .ok (.putfield 41, 3) := by decide +kernel
theorem dX5_init_71 : decode cX5_init 71 = .ok (.aload_n 0, 1) := by decide +kernel
theorem dX5_init_72 : decode cX5_init 72 = .ok (.aload_n 0, 1) := by decide +kernel
theorem dX5_init_73 : decode cX5_init 73 = .ok (.getfield 37, 3) := by decide +kernel
theorem dX5_init_76 : decode cX5_init 76 = .ok (.putfield 44, 3) := by decide +kernel
theorem dX5_init_79 : decode cX5_init 79 = .ok (.return_, 1) := by decide +kernel
theorem dX5_listTo_0 : decode cX5_listTo 0 = .ok (.aload_n 0, 1) := by decide +kernel
theorem dX5_listTo_1 : decode cX5_listTo 1 = .ok (.aload_n 1, 1) := by decide +kernel
theorem dX5_listTo_2 : decode cX5_listTo 2 = .ok (.putfield 41, 3) := by decide +kernel
theorem dX5_listTo_5 : decode cX5_listTo 5 = .ok (.aload_n 0, 1) := by decide +kernel
theorem dX5_listTo_6 : decode cX5_listTo 6 = .ok (.aload_n 2, 1) := by decide +kernel
theorem dX5_listTo_7 : decode cX5_listTo 7 = .ok (.putfield 44, 3) := by decide +kernel
theorem dX5_listTo_10 : decode cX5_listTo 10 = .ok (.aload_n 0, 1) := by decide +kernel
theorem dX5_listTo_11 : decode cX5_listTo 11 = .ok (.aload_n 3, 1) := by decide +kernel
theorem dX5_listTo_12 : decode cX5_listTo 12 = .ok (.putfield 37, 3) := by decide +kernel
theorem dX5_listTo_15 : decode cX5_listTo 15 = .ok (.aload_n 0, 1) := by decide +kernel
theorem dX5_listTo_16 : decode cX5_listTo 16 = .ok (.getfield 14, 3) := by decide +kernel
theorem dX5_listTo_19 : decode cX5_listTo 19 = .ok (.invokevirtual 47, 3) := by decide +kernel
theorem dX5_listTo_22 : decode cX5_listTo 22 = .ok (.aload_n 0, 1) := by decide +kernel
theorem dX5_listTo_23 : decode cX5_listTo 23 = .ok (.getfield 37, 3) := by decide +kernel
theorem dX5_listTo_26 : decode cX5_listTo 26 = .ok (.invokevirtual 50, 3) := by decide +kernel
theorem dX5_listTo_29 : decode cX5_listTo 29 = .ok (.aload_n 0, 1) := by decide +kernel
theorem dX5_listTo_30 : decode cX5_listTo 30 = .ok (.getfield 37, 3) := by decide +kernel
theorem dX5_listTo_33 : decode cX5_listTo 33 = .ok (.iconst 4, 1) := by decide +kernel
theorem dX5_listTo_34 : decode cX5_listTo 34 = .ok (.invokevirtual 51, 3) := by decide +kernel
theorem dX5_listTo_37 : decode cX5_listTo 37 = .ok (.istore 4, 2) := by decide +kernel
theorem dX5_listTo_39 : decode cX5_listTo 39 = .ok (.aload_n 0, 1) := by decide +kernel
theorem dX5_listTo_40 : decode cX5_listTo 40 = .ok (.iconst 0, 1) := by decide +kernel
theorem dX5_listTo_41 : decode cX5_listTo 41 = .ok (.iconst 0, 1) := by decide +kernel
theorem dX5_listTo_42 : decode cX5_listTo 42 = .ok (.iconst 0, 1) := by decide +kernel
theorem dX5_listTo_43 : decode cX5_listTo 43 = .ok (.invokevirtual 55, 3) := by decide +kernel
theorem dX5_listTo_46 : decode cX5_listTo 46 = .ok (.aload_n 0, 1) := by decide +kernel
theorem dX5_listTo_47 : decode cX5_listTo 47 = .ok (.getfield 37, 3) := by decide +kernel
theorem dX5_listTo_50 : decode cX5_listTo 50 = .ok (.iload 4, 2) := by decide +kernel
theorem dX5_listTo_52 : decode cX5_listTo 52 = .ok (.invokevirtual 59, 3) := by decide +kernel
theorem dX5_listTo_55 : decode cX5_listTo 55 = .ok (.return_, 1) := by decide +kernel
theorem dX5_between_0 : decode cX5_between 0 = .ok (.aload_n 0, 1) := by decide +kernel
theorem dX5_between_1 : decode cX5_between 1 = .ok (.getfield 41, 3) := by decide +kernel
theorem dX5_between_4 : decode cX5_between 4 = .ok (.iload_n 1, 1) := by decide +kernel
theorem dX5_between_5 : decode cX5_between 5 = .ok (.aload_n 0, 1) := by decide +kernel
theorem dX5_between_6 : decode cX5_between 6 = .ok (.getfield 44, 3) := by decide +kernel
theorem dX5_between_9 : decode cX5_between 9 = .ok (.iload_n 2, 1) := by decide +kernel
theorem dX5_between_10 : decode cX5_between 10 = .ok (.iconst 0, 1) := by decide +kernel
theorem dX5_between_11 : decode cX5_between 11 = .ok (.invokevirtual 62, 3) := by decide +kernel
theorem dX5_between_14 : decode cX5_between 14 = .ok (.ifCond .ne 9, 3) := by decide +kernel
theorem dX5_between_17 : decode cX5_between 17 = .ok (.iload_n 3, 1) := by decide +kernel
theorem dX5_between_18 : decode cX5_between 18 = .ok (.bipush 12, 2) := by decide +kernel
theorem dX5_between_20 : decode cX5_between 20 = .ok (.if_icmp .le 4, 3) := by decide +kernel
theorem dX5_between_23 : decode cX5_between 23 = .ok (.return_, 1) := by decide +kernel
theorem dX5_between_24 : decode cX5_between 24 = .ok (.aload_n 0, 1) := by decide +kernel
theorem dX5_between_25 : decode cX5_between 25 = .ok (.getfield 41, 3) := by decide +kernel
theorem dX5_between_28 : decode cX5_between 28 = .ok (.iload_n 1, 1) := by decide +kernel
theorem dX5_between_29 : decode cX5_between 29 = .ok (.iconst 5, 1) := by decide +kernel
theorem dX5_between_30 : decode cX5_between 30 = .ok (.invokevirtual 66, 3) := by decide +kernel
theorem dX5_between_33 : decode cX5_between 33 = .ok (.ifCond .eq 25, 3) := by decide +kernel
theorem dX5_between_36 : decode cX5_between 36 = .ok (.aload_n 0, 1) := by decide +kernel
theorem dX5_between_37 : decode cX5_between 37 = .ok (.getfield 44, 3) := by decide +kernel
theorem dX5_between_40 : decode cX5_between 40 = .ok (.iload_n 2, 1) := by decide +kernel
theorem dX5_between_41 : decode cX5_between 41 = .ok (.iconst 5, 1) := by decide +kernel
theorem dX5_between_42 : decode cX5_between 42 = .ok (.invokevirtual 66, 3) := by decide +kernel
theorem dX5_between_45 : decode cX5_between 45 = .ok (.ifCond .eq 13, 3) := by decide +kernel
theorem dX5_between_48 : decode cX5_between 48 = .ok (.aload_n 0, 1) := by decide +kernel
theorem dX5_between_49 : decode cX5_between 49 = .ok (.iload_n 1, 1) := by decide +kernel
theorem dX5_between_50 : decode cX5_between 50 = .ok (.iload_n 2, 1) := by decide +kernel
theorem dX5_between_51 : decode cX5_between 51 = .ok (.iload_n 3, 1) := by decide +kernel
theorem dX5_between_52 : decode cX5_between 52 = .ok (.invokevirtual 70, 3) := by decide +kernel
theorem dX5_between_55 : decode cX5_between 55 = .ok (.goto 54, 3) := by decide +kernel
theorem dX5_between_58 : decode cX5_between 58 = .ok (.aload_n 0, 1) := by decide +kernel
theorem dX5_between_59 : decode cX5_between 59 = .ok (.getfield 41, 3) := by decide +kernel
theorem dX5_between_62 : decode cX5_between 62 = .ok (.iload_n 1, 1) := by decide +kernel
theorem dX5_between_63 : decode cX5_between 63 = .ok (.iconst 4, 1) := by decide +kernel
theorem dX5_between_64 : decode cX5_between 64 = .ok (.invokevirtual 66, 3) := by decide +kernel
theorem dX5_between_67 : decode cX5_between 67 = .ok (.ifCond .eq 24, 3) := by decide +kernel
theorem dX5_between_70 : decode cX5_between 70 = .ok (.aload_n 0, 1) := by decide +kernel
theorem dX5_between_71 : decode cX5_between 71 = .ok (.getfield 44, 3) := by decide +kernel
theorem dX5_between_74 : decode cX5_between 74 = .ok (.iload_n 2, 1) := by decide +kernel
theorem dX5_between_75 : decode cX5_between 75 = .ok (.iconst 4, 1) := by decide +kernel
theorem dX5_between_76 : decode cX5_between 76 = .ok (.invokevirtual 66, 3) := by decide +kernel
theorem dX5_between_79 : decode cX5_between 79 = .ok (.ifCond .eq 12, 3) := by decide +kernel
theorem dX5_between_82 : decode cX5_between 82 = .ok (.aload_n 0, 1) := by decide +kernel
theorem dX5_between_83 : decode cX5_between 83 = .ok (.iload_n 1, 1) := by decide +kernel
theorem dX5_between_84 : decode cX5_between 84 = .ok (.iload_n 2, 1) := by decide +kernel
theorem dX5_between_85 : decode cX5_between 85 = .ok (.invokevirtual 73, 3) := by decide +kernel
theorem dX5_between_88 : decode cX5_between 88 = .ok (.goto 21, 3) := by decide +kernel
theorem dX5_between_91 : decode cX5_between 91 = .ok (.aload_n 0, 1) := by decide +kernel
theorem dX5_between_92 : decode cX5_between 92 = .ok (.getfield 37, 3) := by decide +kernel
theorem dX5_between_95 : decode cX5_between 95 = .ok (.ldc 77, 2) := by decide +kernel
theorem dX5_between_97 : decode cX5_between 97 = .ok (.aload_n 0, 1) := by decide +kernel
theorem dX5_between_98 : decode cX5_between 98 = .ok (.getfield 14, 3) := by decide +kernel
theorem dX5_between_101 : decode cX5_between 101 = .ok (.aload_n 0, 1) := by decide +kernel
theorem dX5_between_102 : decode cX5_between 102 = .ok (.getfield 44, 3) := by decide +kernel
theorem dX5_between_105 : decode cX5_between 105 = .ok (.iload_n 2, 1) := by decide +kernel
theorem dX5_between_106 : decode cX5_between 106 = .ok (.invokestatic 79, 3) := by decide +kernel
theorem dX5_between_109 : decode cX5_between 109 = .ok (.return_, 1) := by decide +kernel
theorem dX5_betweenMaps_0 : decode cX5_betweenMaps 0 = .ok (.aload_n 0, 1) := by decide +kernel
theorem dX5_betweenMaps_1 : decode cX5_betweenMaps 1 = .ok (.getfield 14, 3) := by decide +kernel
theorem dX5_betweenMaps_4 : decode cX5_betweenMaps 4 = .ok (.invokevirtual 82, 3) := by decide +kernel
theorem dX5_betweenMaps_7 : decode cX5_betweenMaps 7 = .ok (.istore 4, 2) := by decide +kernel
theorem dX5_betweenMaps_9 : decode cX5_betweenMaps 9 = .ok (.aload_n 0, 1) := by decide +kernel
theorem dX5_betweenMaps_10 : decode cX5_betweenMaps 10 = .ok (.getfield 41, 3) := by decide +kernel
theorem dX5_betweenMaps_13 : decode cX5_betweenMaps 13 = .ok (.iload_n 1, 1) := by decide +kernel
theorem dX5_betweenMaps_14 : decode cX5_betweenMaps 14 = .ok (.invokevirtual 86, 3) := by decide +kernel
theorem dX5_betweenMaps_17 : decode cX5_betweenMaps 17 = .ok (.istore 5, 2) := by decide +kernel
theorem dX5_betweenMaps_19 : decode cX5_betweenMaps 19 = .ok (.iconst 0, 1) := by decide +kernel
theorem dX5_betweenMaps_20 : decode cX5_betweenMaps 20 = .ok (.istore 6, 2) := by decide +kernel
theorem dX5_betweenMaps_22 : decode cX5_betweenMaps 22 = .ok (.iload 5, 2) := by decide +kernel
theorem dX5_betweenMaps_24 : decode cX5_betweenMaps 24 = .ok (.iconst (-1), 1) := by decide +kernel
theorem dX5_betweenMaps_25 : decode cX5_betweenMaps 25 = .ok (.if_icmp .eq 86, 3) := by decide +kernel
theorem dX5_betweenMaps_28 : decode cX5_betweenMaps 28 = .ok (.iload 6, 2) := by decide +kernel
theorem dX5_betweenMaps_30 : decode cX5_betweenMaps 30 = .ok (.bipush 100, 2) := by decide +kernel
theorem dX5_betweenMaps_32 : decode cX5_betweenMaps 32 = .ok (.if_icmp .ge 79, 3) := by decide +kernel
theorem dX5_betweenMaps_35 : decode cX5_betweenMaps 35 = .ok (.aload_n 0, 1) := by decide +kernel
theorem dX5_betweenMaps_36 : decode cX5_betweenMaps 36 = .ok (.getfield 44, 3) := by decide +kernel
theorem dX5_betweenMaps_39 : decode cX5_betweenMaps 39 = .ok (.iload_n 2, 1) := by decide +kernel
theorem dX5_betweenMaps_40 : decode cX5_betweenMaps 40 = .ok (.aload_n 0, 1) := by decide +kernel
theorem dX5_betweenMaps_41 : decode cX5_betweenMaps 41 = .ok (.getfield 41, 3) := by decide +kernel
theorem dX5_betweenMaps_44 : decode cX5_betweenMaps 44 = .ok (.iload 5, 2) := by decide +kernel
theorem dX5_betweenMaps_46 : decode cX5_betweenMaps 46 = .ok (.invokevirtual 89, 3) := by decide +kernel
theorem dX5_betweenMaps_49 : decode cX5_betweenMaps 49 = .ok (.iconst (-1), 1) := by decide +kernel
theorem dX5_betweenMaps_50 : decode cX5_betweenMaps 50 = .ok (.if_icmp .ne 43, 3) := by decide +kernel
theorem dX5_betweenMaps_53 : decode cX5_betweenMaps 53 = .ok (.aload_n 0, 1) := by decide +kernel
theorem dX5_betweenMaps_54 : decode cX5_betweenMaps 54 = .ok (.getfield 41, 3) := by decide +kernel
theorem dX5_betweenMaps_57 : decode cX5_betweenMaps 57 = .ok (.iload 5, 2) := by decide +kernel
theorem dX5_betweenMaps_59 : decode cX5_betweenMaps 59 = .ok (.aload_n 0, 1) := by decide +kernel
theorem dX5_betweenMaps_60 : decode cX5_betweenMaps 60 = .ok (.getfield 14, 3) := by decide +kernel
theorem dX5_betweenMaps_63 : decode cX5_betweenMaps 63 = .ok (.invokevirtual 93, 3) := by decide +kernel
theorem dX5_betweenMaps_66 : decode cX5_betweenMaps 66 = .ok (.aload_n 0, 1) := by decide +kernel
theorem dX5_betweenMaps_67 : decode cX5_betweenMaps 67 = .ok (.getfield 37, 3) := by decide +kernel
theorem dX5_betweenMaps_70 : decode cX5_betweenMaps 70 = .ok (.ldc 97, 2) := by decide +kernel
theorem dX5_betweenMaps_72 : decode cX5_betweenMaps 72 = .ok (.aload_n 0, 1) := by decide +kernel
theorem dX5_betweenMaps_73 : decode cX5_betweenMaps 73 = .ok (.getfield 14, 3) := by decide +kernel
theorem dX5_betweenMaps_76 : decode cX5_betweenMaps 76 = .ok (.aload_n 0, 1) := by decide +kernel
theorem dX5_betweenMaps_77 : decode cX5_betweenMaps 77 = .ok (.getfield 41, 3) := by decide +kernel
theorem dX5_betweenMaps_80 : decode cX5_betweenMaps 80 = .ok (.iconst (-1), 1) := by decide +kernel
theorem dX5_betweenMaps_81 : decode cX5_betweenMaps 81 = .ok (.invokestatic 79, 3) := by decide +kernel
theorem dX5_betweenMaps_84 : decode cX5_betweenMaps 84 = .ok (.aload_n 0, 1) := by decide +kernel
theorem dX5_betweenMaps_85 : decode cX5_betweenMaps 85 = .ok (.getfield 14, 3) := by decide +kernel
theorem dX5_betweenMaps_88 : decode cX5_betweenMaps 88 = .ok (.iload 4, 2) := by decide +kernel
theorem dX5_betweenMaps_90 : decode cX5_betweenMaps 90 = .ok (.invokevirtual 99, 3) := by decide +kernel
theorem dX5_betweenMaps_93 : decode cX5_betweenMaps 93 = .ok (.aload_n 0, 1) := by decide +kernel
theorem dX5_betweenMaps_94 : decode cX5_betweenMaps 94 = .ok (.getfield 41, 3) := by decide +kernel
theorem dX5_betweenMaps_97 : decode cX5_betweenMaps 97 = .ok (.iload_n 1, 1) := by decide +kernel
theorem dX5_betweenMaps_98 : decode cX5_betweenMaps 98 = .ok (.iload 5, 2) := by decide +kernel
theorem dX5_betweenMaps_100 : decode cX5_betweenMaps 100 = .ok (.invokevirtual 102, 3) := by decide +kernel
theorem dX5_betweenMaps_103 : decode cX5_betweenMaps 103 = .ok (.istore 5, 2) := by decide +kernel
theorem dX5_betweenMaps_105 : decode cX5_betweenMaps 105 = .ok (.iinc 6 1, 3) := by decide +kernel
theorem dX5_betweenMaps_108 : decode cX5_betweenMaps 108 = .ok (.goto (-86), 3) := by decide +kernel
theorem dX5_betweenMaps_111 : decode cX5_betweenMaps 111 = .ok (.aload_n 0, 1) := by decide +kernel
theorem dX5_betweenMaps_112 : decode cX5_betweenMaps 112 = .ok (.getfield 41, 3) := by decide +kernel
theorem dX5_betweenMaps_115 : decode cX5_betweenMaps 115 = .ok (.iload_n 1, 1) := by decide +kernel
theorem dX5_betweenMaps_116 : decode cX5_betweenMaps 116 = .ok (.invokevirtual 86, 3) := by decide +kernel
theorem dX5_betweenMaps_119 : decode cX5_betweenMaps 119 = .ok (.istore 5, 2) := by decide +kernel
theorem dX5_betweenMaps_121 : decode cX5_betweenMaps 121 = .ok (.iconst 0, 1) := by decide +kernel
theorem dX5_betweenMaps_122 : decode cX5_betweenMaps 122 = .ok (.istore 6, 2) := by decide +kernel
theorem dX5_betweenMaps_124 : decode cX5_betweenMaps 124 = .ok (.iload 5, 2) := by decide +kernel
theorem dX5_betweenMaps_126 : decode cX5_betweenMaps 126 = .ok (.iconst (-1), 1) := by decide +kernel
theorem dX5_betweenMaps_127 : decode cX5_betweenMaps 127 = .ok (.if_icmp .eq 83, 3) := by decide +kernel
theorem dX5_betweenMaps_130 : decode cX5_betweenMaps 130 = .ok (.iload 6, 2) := by decide +kernel
theorem dX5_betweenMaps_132 : decode cX5_betweenMaps 132 = .ok (.bipush 100, 2) := by decide +kernel
theorem dX5_betweenMaps_134 : decode cX5_betweenMaps 134 = .ok (.if_icmp .ge 76, 3) := by decide +kernel
theorem dX5_betweenMaps_137 : decode cX5_betweenMaps 137 = .ok (.aload_n 0, 1) := by decide +kernel
theorem dX5_betweenMaps_138 : decode cX5_betweenMaps 138 = .ok (.getfield 44, 3) := by decide +kernel
theorem dX5_betweenMaps_141 : decode cX5_betweenMaps 141 = .ok (.iload_n 2, 1) := by decide +kernel
theorem dX5_betweenMaps_142 : decode cX5_betweenMaps 142 = .ok (.aload_n 0, 1) := by decide +kernel
theorem dX5_betweenMaps_143 : decode cX5_betweenMaps 143 = .ok (.getfield 41, 3) := by decide +kernel
theorem dX5_betweenMaps_146 : decode cX5_betweenMaps 146 = .ok (.iload 5, 2) := by decide +kernel
theorem dX5_betweenMaps_148 : decode cX5_betweenMaps 148 = .ok (.invokevirtual 89, 3) := by decide +kernel
theorem dX5_betweenMaps_151 : decode cX5_betweenMaps 151 = .ok (.istore 7, 2) := by decide +kernel
theorem dX5_betweenMaps_153 : decode cX5_betweenMaps 153 = .ok (.iload 7, 2) := by decide +kernel
theorem dX5_betweenMaps_155 : decode cX5_betweenMaps 155 = .ok (.iconst (-1), 1) := by decide +kernel
theorem dX5_betweenMaps_156 : decode cX5_betweenMaps 156 = .ok (.if_icmp .eq 36, 3) := by decide +kernel
theorem dX5_betweenMaps_159 : decode cX5_betweenMaps 159 = .ok (.aload_n 0, 1) := by decide +kernel
theorem dX5_betweenMaps_160 : decode cX5_betweenMaps 160 = .ok (.getfield 41, 3) := by decide +kernel
theorem dX5_betweenMaps_163 : decode cX5_betweenMaps 163 = .ok (.iload 5, 2) := by decide +kernel
theorem dX5_betweenMaps_165 : decode cX5_betweenMaps 165 = .ok (.aload_n 0, 1) := by decide +kernel
theorem dX5_betweenMaps_166 : decode cX5_betweenMaps 166 = .ok (.getfield 14, 3) := by decide +kernel
theorem dX5_betweenMaps_169 : decode cX5_betweenMaps 169 = .ok (.invokevirtual 93, 3) := by decide +kernel
theorem dX5_betweenMaps_172 : decode cX5_betweenMaps 172 = .ok (.aload_n 0, 1) := by decide +kernel
theorem dX5_betweenMaps_173 : decode cX5_betweenMaps 173 = .ok (.iload 5, 2) := by decide +kernel
theorem dX5_betweenMaps_175 : decode cX5_betweenMaps 175 = .ok (.iload 7, 2) := by decide +kernel
theorem dX5_betweenMaps_177 : decode cX5_betweenMaps 177 = .ok (.iload_n 3, 1) := by decide +kernel
theorem dX5_betweenMaps_178 : decode cX5_betweenMaps 178 = .ok (.iconst 1, 1) := by decide +kernel
theorem dX5_betweenMaps_179 : decode cX5_betweenMaps 179 = .ok (.iadd, 1) := by decide +kernel
theorem dX5_betweenMaps_180 : decode cX5_betweenMaps 180 = .ok (.invokevirtual 55, 3) := by decide +kernel
theorem dX5_betweenMaps_183 : decode cX5_betweenMaps 183 = .ok (.aload_n 0, 1) := by decide +kernel
theorem dX5_betweenMaps_184 : decode cX5_betweenMaps 184 = .ok (.getfield 14, 3) := by decide +kernel
theorem dX5_betweenMaps_187 : decode cX5_betweenMaps 187 = .ok (.iload 4, 2) := by decide +kernel
theorem dX5_betweenMaps_189 : decode cX5_betweenMaps 189 = .ok (.invokevirtual 99, 3) := by decide +kernel
theorem dX5_betweenMaps_192 : decode cX5_betweenMaps 192 = .ok (.aload_n 0, 1) := by decide +kernel
theorem dX5_betweenMaps_193 : decode cX5_betweenMaps 193 = .ok (.getfield 41, 3) := by decide +kernel
theorem dX5_betweenMaps_196 : decode cX5_betweenMaps 196 = .ok (.iload_n 1, 1) := by decide +kernel
theorem dX5_betweenMaps_197 : decode cX5_betweenMaps 197 = .ok (.iload 5, 2) := by decide +kernel
theorem dX5_betweenMaps_199 : decode cX5_betweenMaps 199 = .ok (.invokevirtual 102, 3) := by decide +kernel
theorem dX5_betweenMaps_202 : decode cX5_betweenMaps 202 = .ok (.istore 5, 2) := by decide +kernel
theorem dX5_betweenMaps_204 : decode cX5_betweenMaps 204 = .ok (.iinc 6 1, 3) := by decide +kernel
theorem dX5_betweenMaps_207 : decode cX5_betweenMaps 207 = .ok (.goto (-83), 3) := by decide +kernel
theorem dX5_betweenMaps_210 : decode cX5_betweenMaps 210 = .ok (.aload_n 0, 1) := by decide +kernel
theorem dX5_betweenMaps_211 : decode cX5_betweenMaps 211 = .ok (.getfield 44, 3) := by decide +kernel
theorem dX5_betweenMaps_214 : decode cX5_betweenMaps 214 = .ok (.iload_n 2, 1) := by decide +kernel
theorem dX5_betweenMaps_215 : decode cX5_betweenMaps 215 = .ok (.invokevirtual 86, 3) := by decide +kernel
theorem dX5_betweenMaps_218 : decode cX5_betweenMaps 218 = .ok (.istore 5, 2) := by decide +kernel
theorem dX5_betweenMaps_220 : decode cX5_betweenMaps 220 = .ok (.iconst 0, 1) := by decide +kernel
theorem dX5_betweenMaps_221 : decode cX5_betweenMaps 221 = .ok (.istore 6, 2) := by decide +kernel
theorem dX5_betweenMaps_223 : decode cX5_betweenMaps 223 = .ok (.iload 5, 2) := by decide +kernel
theorem dX5_betweenMaps_225 : decode cX5_betweenMaps 225 = .ok (.iconst (-1), 1) := by decide +kernel
theorem dX5_betweenMaps_226 : decode cX5_betweenMaps 226 = .ok (.if_icmp .eq 87, 3) := by decide +kernel
theorem dX5_betweenMaps_229 : decode cX5_betweenMaps 229 = .ok (.iload 6, 2) := by decide +kernel
theorem dX5_betweenMaps_231 : decode cX5_betweenMaps 231 = .ok (.bipush 100, 2) := by decide +kernel
theorem dX5_betweenMaps_233 : decode cX5_betweenMaps 233 = .ok (.if_icmp .ge 80, 3) := by decide +kernel
theorem dX5_betweenMaps_236 : decode cX5_betweenMaps 236 = .ok (.aload_n 0, 1) := by decide +kernel
theorem dX5_betweenMaps_237 : decode cX5_betweenMaps 237 = .ok (.getfield 41, 3) := by decide +kernel
theorem dX5_betweenMaps_240 : decode cX5_betweenMaps 240 = .ok (.iload_n 1, 1) := by decide +kernel
theorem dX5_betweenMaps_241 : decode cX5_betweenMaps 241 = .ok (.aload_n 0, 1) := by decide +kernel
theorem dX5_betweenMaps_242 : decode cX5_betweenMaps 242 = .ok (.getfield 44, 3) := by decide +kernel
theorem dX5_betweenMaps_245 : decode cX5_betweenMaps 245 = .ok (.iload 5, 2) := by decide +kernel
theorem dX5_betweenMaps_247 : decode cX5_betweenMaps 247 = .ok (.invokevirtual 89, 3) := by decide +kernel
theorem dX5_betweenMaps_250 : decode cX5_betweenMaps 250 = .ok (.iconst (-1), 1) := by decide +kernel
theorem dX5_betweenMaps_251 : decode cX5_betweenMaps 251 = .ok (.if_icmp .ne 44, 3) := by decide +kernel
theorem dX5_betweenMaps_254 : decode cX5_betweenMaps 254 = .ok (.aload_n 0, 1) := by decide +kernel
theorem dX5_betweenMaps_255 : decode cX5_betweenMaps 255 = .ok (.getfield 44, 3) := by decide +kernel
theorem dX5_betweenMaps_258 : decode cX5_betweenMaps 258 = .ok (.iload 5, 2) := by decide +kernel
theorem dX5_betweenMaps_260 : decode cX5_betweenMaps 260 = .ok (.aload_n 0, 1) := by decide +kernel
theorem dX5_betweenMaps_261 : decode cX5_betweenMaps 261 = .ok (.getfield 14, 3) := by decide +kernel
theorem dX5_betweenMaps_264 : decode cX5_betweenMaps 264 = .ok (.invokevirtual 93, 3) := by decide +kernel
theorem dX5_betweenMaps_267 : decode cX5_betweenMaps 267 = .ok (.aload_n 0, 1) := by decide +kernel
theorem dX5_betweenMaps_268 : decode cX5_betweenMaps 268 = .ok (.getfield 37, 3) := by decide +kernel
theorem dX5_betweenMaps_271 : decode cX5_betweenMaps 271 = .ok (.ldc 106, 2) := by decide +kernel
theorem dX5_betweenMaps_273 : decode cX5_betweenMaps 273 = .ok (.aload_n 0, 1) := by decide +kernel
theorem dX5_betweenMaps_274 : decode cX5_betweenMaps 274 = .ok (.getfield 14, 3) := by decide +kernel
theorem dX5_betweenMaps_277 : decode cX5_betweenMaps 277 = .ok (.aload_n 0, 1) := by decide +kernel
theorem dX5_betweenMaps_278 : decode cX5_betweenMaps 278 = .ok (.getfield 44, 3) := by decide +kernel
theorem dX5_betweenMaps_281 : decode cX5_betweenMaps 281 = .ok (.iload 5, 2) := by decide +kernel
theorem dX5_betweenMaps_283 : decode cX5_betweenMaps 283 = .ok (.invokestatic 79, 3) := by decide +kernel
theorem dX5_betweenMaps_286 : decode cX5_betweenMaps 286 = .ok (.aload_n 0, 1) := by decide +kernel
theorem dX5_betweenMaps_287 : decode cX5_betweenMaps 287 = .ok (.getfield 14, 3) := by decide +kernel
theorem dX5_betweenMaps_290 : decode cX5_betweenMaps 290 = .ok (.iload 4, 2) := by decide +kernel
theorem dX5_betweenMaps_292 : decode cX5_betweenMaps 292 = .ok (.invokevirtual 99, 3) := by decide +kernel
theorem dX5_betweenMaps_295 : decode cX5_betweenMaps 295 = .ok (.aload_n 0, 1) := by decide +kernel
theorem dX5_betweenMaps_296 : decode cX5_betweenMaps 296 = .ok (.getfield 44, 3) := by decide +kernel
theorem dX5_betweenMaps_299 : decode cX5_betweenMaps 299 = .ok (.iload_n 2, 1) := by decide +kernel
theorem dX5_betweenMaps_300 : decode cX5_betweenMaps 300 = .ok (.iload 5, 2) := by decide +kernel
theorem dX5_betweenMaps_302 : decode cX5_betweenMaps 302 = .ok (.invokevirtual 102, 3) := by decide +kernel
theorem dX5_betweenMaps_305 : decode cX5_betweenMaps 305 = .ok (.istore 5, 2) := by decide +kernel
theorem dX5_betweenMaps_307 : decode cX5_betweenMaps 307 = .ok (.iinc 6 1, 3) := by decide +kernel
theorem dX5_betweenMaps_310 : decode cX5_betweenMaps 310 = .ok (.goto (-87), 3) := by decide +kernel
theorem dX5_betweenMaps_313 : decode cX5_betweenMaps 313 = .ok (.return_, 1) := by decide +kernel
theorem dX5_betweenRows_0 : decode cX5_betweenRows 0 = .ok (.aload_n 0, 1) := by decide +kernel
theorem dX5_betweenRows_1 : decode cX5_betweenRows 1 = .ok (.getfield 41, 3) := by decide +kernel
theorem dX5_betweenRows_4 : decode cX5_betweenRows 4 = .ok (.iload_n 1, 1) := by decide +kernel
theorem dX5_betweenRows_5 : decode cX5_betweenRows 5 = .ok (.aload_n 0, 1) := by decide +kernel
theorem dX5_betweenRows_6 : decode cX5_betweenRows 6 = .ok (.getfield 28, 3) := by decide +kernel
theorem dX5_betweenRows_9 : decode cX5_betweenRows 9 = .ok (.invokestatic 107, 3) := by decide +kernel
theorem dX5_betweenRows_12 : decode cX5_betweenRows 12 = .ok (.istore_n 3, 1) := by decide +kernel
theorem dX5_betweenRows_13 : decode cX5_betweenRows 13 = .ok (.aload_n 0, 1) := by decide +kernel
theorem dX5_betweenRows_14 : decode cX5_betweenRows 14 = .ok (.getfield 44, 3) := by decide +kernel
theorem dX5_betweenRows_17 : decode cX5_betweenRows 17 = .ok (.iload_n 2, 1) := by decide +kernel
theorem dX5_betweenRows_18 : decode cX5_betweenRows 18 = .ok (.aload_n 0, 1) := by decide +kernel
theorem dX5_betweenRows_19 : decode cX5_betweenRows 19 = .ok (.getfield 31, 3) := by decide +kernel
theorem dX5_betweenRows_22 : decode cX5_betweenRows 22 = .ok (.invokestatic 107, 3) := by decide +kernel
theorem dX5_betweenRows_25 : decode cX5_betweenRows 25 = .ok (.istore 4, 2) := by decide +kernel
theorem dX5_betweenRows_27 : decode cX5_betweenRows 27 = .ok (.aload_n 0, 1) := by decide +kernel
theorem dX5_betweenRows_28 : decode cX5_betweenRows 28 = .ok (.iload_n 3, 1) := by decide +kernel
theorem dX5_betweenRows_29 : decode cX5_betweenRows 29 = .ok (.iload 4, 2) := by decide +kernel
theorem dX5_betweenRows_31 : decode cX5_betweenRows 31 = .ok (.invokevirtual 111, 3) := by decide +kernel
theorem dX5_betweenRows_34 : decode cX5_betweenRows 34 = .ok (.aload_n 0, 1) := by decide +kernel
theorem dX5_betweenRows_35 : decode cX5_betweenRows 35 = .ok (.iload_n 3, 1) := by decide +kernel
theorem dX5_betweenRows_36 : decode cX5_betweenRows 36 = .ok (.iload 4, 2) := by decide +kernel
theorem dX5_betweenRows_38 : decode cX5_betweenRows 38 = .ok (.invokevirtual 114, 3) := by decide +kernel
theorem dX5_betweenRows_41 : decode cX5_betweenRows 41 = .ok (.aload_n 0, 1) := by decide +kernel
theorem dX5_betweenRows_42 : decode cX5_betweenRows 42 = .ok (.iload_n 3, 1) := by decide +kernel
theorem dX5_betweenRows_43 : decode cX5_betweenRows 43 = .ok (.iload 4, 2) := by decide +kernel
theorem dX5_betweenRows_45 : decode cX5_betweenRows 45 = .ok (.invokevirtual 117, 3) := by decide +kernel
theorem dX5_betweenRows_48 : decode cX5_betweenRows 48 = .ok (.aload_n 0, 1) := by decide +kernel
theorem dX5_betweenRows_49 : decode cX5_betweenRows 49 = .ok (.getfield 14, 3) := by decide +kernel
theorem dX5_betweenRows_52 : decode cX5_betweenRows 52 = .ok (.invokevirtual 82, 3) := by decide +kernel
theorem dX5_betweenRows_55 : decode cX5_betweenRows 55 = .ok (.istore 5, 2) := by decide +kernel
theorem dX5_betweenRows_57 : decode cX5_betweenRows 57 = .ok (.iload_n 3, 1) := by decide +kernel
theorem dX5_betweenRows_58 : decode cX5_betweenRows 58 = .ok (.iconst 1, 1) := by decide +kernel
theorem dX5_betweenRows_59 : decode cX5_betweenRows 59 = .ok (.isub, 1) := by decide +kernel
theorem dX5_betweenRows_60 : decode cX5_betweenRows 60 = .ok (.istore 6, 2) := by decide +kernel
theorem dX5_betweenRows_62 : decode cX5_betweenRows 62 = .ok (.iload 6, 2) := by decide +kernel
theorem dX5_betweenRows_64 : decode cX5_betweenRows 64 = .ok (.ifCond .lt 45, 3) := by decide +kernel
theorem dX5_betweenRows_67 : decode cX5_betweenRows 67 = .ok (.iload 6, 2) := by decide +kernel
theorem dX5_betweenRows_69 : decode cX5_betweenRows 69 = .ok (.bipush 100, 2) := by decide +kernel
theorem dX5_betweenRows_71 : decode cX5_betweenRows 71 = .ok (.if_icmp .ge 38, 3) := by decide +kernel
theorem dX5_betweenRows_74 : decode cX5_betweenRows 74 = .ok (.aload_n 0, 1) := by decide +kernel
theorem dX5_betweenRows_75 : decode cX5_betweenRows 75 = .ok (.getfield 28, 3) := by decide +kernel
theorem dX5_betweenRows_78 : decode cX5_betweenRows 78 = .ok (.iload 6, 2) := by decide +kernel
theorem dX5_betweenRows_80 : decode cX5_betweenRows 80 = .ok (.iaload, 1) := by decide +kernel
theorem dX5_betweenRows_81 : decode cX5_betweenRows 81 = .ok (.iconst (-1), 1) := by decide +kernel
theorem dX5_betweenRows_82 : decode cX5_betweenRows 82 = .ok (.if_icmp .eq 21, 3) := by decide +kernel
theorem dX5_betweenRows_85 : decode cX5_betweenRows 85 = .ok (.aload_n 0, 1) := by decide +kernel
theorem dX5_betweenRows_86 : decode cX5_betweenRows 86 = .ok (.ldc 97, 2) := by decide +kernel
theorem dX5_betweenRows_88 : decode cX5_betweenRows 88 = .ok (.iload 6, 2) := by decide +kernel
theorem dX5_betweenRows_90 : decode cX5_betweenRows 90 = .ok (.iconst (-1), 1) := by decide +kernel
theorem dX5_betweenRows_91 : decode cX5_betweenRows 91 = .ok (.invokevirtual 120, 3) := by decide +kernel
theorem dX5_betweenRows_94 : decode cX5_betweenRows 94 = .ok (.aload_n 0, 1) := by decide +kernel
theorem dX5_betweenRows_95 : decode cX5_betweenRows 95 = .ok (.getfield 14, 3) := by decide +kernel
theorem dX5_betweenRows_98 : decode cX5_betweenRows 98 = .ok (.iload 5, 2) := by decide +kernel
theorem dX5_betweenRows_100 : decode cX5_betweenRows 100 = .ok (.invokevirtual 99, 3) := by decide +kernel
theorem dX5_betweenRows_103 : decode cX5_betweenRows 103 = .ok (.iinc 6 (-1), 3) := by decide +kernel
theorem dX5_betweenRows_106 : decode cX5_betweenRows 106 = .ok (.goto (-44), 3) := by decide +kernel
theorem dX5_betweenRows_109 : decode cX5_betweenRows 109 = .ok (.iconst 0, 1) := by decide +kernel
theorem dX5_betweenRows_110 : decode cX5_betweenRows 110 = .ok (.istore 6, 2) := by decide +kernel
theorem dX5_betweenRows_112 : decode cX5_betweenRows 112 = .ok (.iload 6, 2) := by decide +kernel
theorem dX5_betweenRows_114 : decode cX5_betweenRows 114 = .ok (.iload 4, 2) := by decide +kernel
theorem dX5_betweenRows_116 : decode cX5_betweenRows 116 = .ok (.if_icmp .ge 51, 3) := by decide +kernel
theorem dX5_betweenRows_119 : decode cX5_betweenRows 119 = .ok (.iload 6, 2) := by decide +kernel
theorem dX5_betweenRows_121 : decode cX5_betweenRows 121 = .ok (.bipush 100, 2) := by decide +kernel
theorem dX5_betweenRows_123 : decode cX5_betweenRows 123 = .ok (.if_icmp .ge 44, 3) := by decide +kernel
theorem dX5_betweenRows_126 : decode cX5_betweenRows 126 = .ok (.aload_n 0, 1) := by decide +kernel
theorem dX5_betweenRows_127 : decode cX5_betweenRows 127 = .ok (.getfield 31, 3) := by decide +kernel
theorem dX5_betweenRows_130 : decode cX5_betweenRows 130 = .ok (.iload 6, 2) := by decide +kernel
theorem dX5_betweenRows_132 : decode cX5_betweenRows 132 = .ok (.iaload, 1) := by decide +kernel
theorem dX5_betweenRows_133 : decode cX5_betweenRows 133 = .ok (.iconst (-1), 1) := by decide +kernel
theorem dX5_betweenRows_134 : decode cX5_betweenRows 134 = .ok (.if_icmp .eq 27, 3) := by decide +kernel
theorem dX5_betweenRows_137 : decode cX5_betweenRows 137 = .ok (.aload_n 0, 1) := by decide +kernel
theorem dX5_betweenRows_138 : decode cX5_betweenRows 138 = .ok (.ldc 106, 2) := by decide +kernel
theorem dX5_betweenRows_140 : decode cX5_betweenRows 140 = .ok (.iload 6, 2) := by decide +kernel
theorem dX5_betweenRows_142 : decode cX5_betweenRows 142 = .ok (.aload_n 0, 1) := by decide +kernel
theorem dX5_betweenRows_143 : decode cX5_betweenRows 143 = .ok (.getfield 31, 3) := by decide +kernel
theorem dX5_betweenRows_146 : decode cX5_betweenRows 146 = .ok (.iload 6, 2) := by decide +kernel
theorem dX5_betweenRows_148 : decode cX5_betweenRows 148 = .ok (.iaload, 1) := by decide +kernel
theorem dX5_betweenRows_149 : decode cX5_betweenRows 149 = .ok (.invokevirtual 120, 3) := by decide +kernel
theorem dX5_betweenRows_152 : decode cX5_betweenRows 152 = .ok (.aload_n 0, 1) := by decide +kernel
theorem dX5_betweenRows_153 : decode cX5_betweenRows 153 = .ok (.getfield 14, 3) := by decide +kernel
theorem dX5_betweenRows_156 : decode cX5_betweenRows 156 = .ok (.iload 5, 2) := by decide +kernel
theorem dX5_betweenRows_158 : decode cX5_betweenRows 158 = .ok (.invokevirtual 99, 3) := by decide +kernel
theorem dX5_betweenRows_161 : decode cX5_betweenRows 161 = .ok (.iinc 6 1, 3) := by decide +kernel
theorem dX5_betweenRows_164 : decode cX5_betweenRows 164 = .ok (.goto (-52), 3) := by decide +kernel
theorem dX5_betweenRows_167 : decode cX5_betweenRows 167 = .ok (.return_, 1) := by decide +kernel
theorem dX5_addAtPlace_0 : decode cX5_addAtPlace 0 = .ok (.aload_n 0, 1) := by decide +kernel
theorem dX5_addAtPlace_1 : decode cX5_addAtPlace 1 = .ok (.getfield 14, 3) := by decide +kernel
theorem dX5_addAtPlace_4 : decode cX5_addAtPlace 4 = .ok (.bipush 47, 2) := by decide +kernel
theorem dX5_addAtPlace_6 : decode cX5_addAtPlace 6 = .ok (.invokevirtual 124, 3) := by decide +kernel
theorem dX5_addAtPlace_9 : decode cX5_addAtPlace 9 = .ok (.aload_n 0, 1) := by decide +kernel
theorem dX5_addAtPlace_10 : decode cX5_addAtPlace 10 = .ok (.getfield 14, 3) := by decide +kernel
theorem dX5_addAtPlace_13 : decode cX5_addAtPlace 13 = .ok (.iload_n 2, 1) := by decide +kernel
theorem dX5_addAtPlace_14 : decode cX5_addAtPlace 14 = .ok (.invokevirtual 126, 3) := by decide +kernel
theorem dX5_addAtPlace_17 : decode cX5_addAtPlace 17 = .ok (.aload_n 0, 1) := by decide +kernel
theorem dX5_addAtPlace_18 : decode cX5_addAtPlace 18 = .ok (.getfield 37, 3) := by decide +kernel
theorem dX5_addAtPlace_21 : decode cX5_addAtPlace 21 = .ok (.aload_n 1, 1) := by decide +kernel
theorem dX5_addAtPlace_22 : decode cX5_addAtPlace 22 = .ok (.aload_n 0, 1) := by decide +kernel
theorem dX5_addAtPlace_23 : decode cX5_addAtPlace 23 = .ok (.getfield 14, 3) := by decide +kernel
theorem dX5_addAtPlace_26 : decode cX5_addAtPlace 26 = .ok (.aload_n 0, 1) := by decide +kernel
theorem dX5_addAtPlace_27 : decode cX5_addAtPlace 27 = .ok (.getfield 44, 3) := by decide +kernel
theorem dX5_addAtPlace_30 : decode cX5_addAtPlace 30 = .ok (.iload_n 3, 1) := by decide +kernel
theorem dX5_addAtPlace_31 : decode cX5_addAtPlace 31 = .ok (.invokestatic 79, 3) := by decide +kernel
theorem dX5_addAtPlace_34 : decode cX5_addAtPlace 34 = .ok (.return_, 1) := by decide +kernel
theorem dX5_gather_0 : decode cX5_gather 0 = .ok (.iconst 0, 1) := by decide +kernel
theorem dX5_gather_1 : decode cX5_gather 1 = .ok (.istore_n 3, 1) := by decide +kernel
theorem dX5_gather_2 : decode cX5_gather 2 = .ok (.aload_n 0, 1) := by decide +kernel
theorem dX5_gather_3 : decode cX5_gather 3 = .ok (.iload_n 1, 1) := by decide +kernel
theorem dX5_gather_4 : decode cX5_gather 4 = .ok (.invokevirtual 86, 3) := by decide +kernel
theorem dX5_gather_7 : decode cX5_gather 7 = .ok (.istore 4, 2) := by decide +kernel
theorem dX5_gather_9 : decode cX5_gather 9 = .ok (.iload 4, 2) := by decide +kernel
theorem dX5_gather_11 : decode cX5_gather 11 = .ok (.iconst (-1), 1) := by decide +kernel
theorem dX5_gather_12 : decode cX5_gather 12 = .ok (.if_icmp .eq 29, 3) := by decide +kernel
theorem dX5_gather_15 : decode cX5_gather 15 = .ok (.iload_n 3, 1) := by decide +kernel
theorem dX5_gather_16 : decode cX5_gather 16 = .ok (.aload_n 2, 1) := by decide +kernel
theorem dX5_gather_17 : decode cX5_gather 17 = .ok (.arraylength, 1) := by decide +kernel
theorem dX5_gather_18 : decode cX5_gather 18 = .ok (.if_icmp .ge 23, 3) := by decide +kernel
theorem dX5_gather_21 : decode cX5_gather 21 = .ok (.aload_n 2, 1) := by decide +kernel
theorem dX5_gather_22 : decode cX5_gather 22 = .ok (.iload_n 3, 1) := by decide +kernel
theorem dX5_gather_23 : decode cX5_gather 23 = .ok (.iload 4, 2) := by decide +kernel
theorem dX5_gather_25 : decode cX5_gather 25 = .ok (.iastore, 1) := by decide +kernel
theorem dX5_gather_26 : decode cX5_gather 26 = .ok (.iinc 3 1, 3) := by decide +kernel
theorem dX5_gather_29 : decode cX5_gather 29 = .ok (.aload_n 0, 1) := by decide +kernel
theorem dX5_gather_30 : decode cX5_gather 30 = .ok (.iload_n 1, 1) := by decide +kernel
theorem dX5_gather_31 : decode cX5_gather 31 = .ok (.iload 4, 2) := by decide +kernel
theorem dX5_gather_33 : decode cX5_gather 33 = .ok (.invokevirtual 102, 3) := by decide +kernel
theorem dX5_gather_36 : decode cX5_gather 36 = .ok (.istore 4, 2) := by decide +kernel
theorem dX5_gather_38 : decode cX5_gather 38 = .ok (.goto (-29), 3) := by decide +kernel
theorem dX5_gather_41 : decode cX5_gather 41 = .ok (.iload_n 3, 1) := by decide +kernel
theorem dX5_gather_42 : decode cX5_gather 42 = .ok (.ireturn, 1) := by decide +kernel
theorem dX5_matchAll_0 : decode cX5_matchAll 0 = .ok (.iconst 0, 1) := by decide +kernel
theorem dX5_matchAll_1 : decode cX5_matchAll 1 = .ok (.istore_n 3, 1) := by decide +kernel
theorem dX5_matchAll_2 : decode cX5_matchAll 2 = .ok (.iload_n 3, 1) := by decide +kernel
theorem dX5_matchAll_3 : decode cX5_matchAll 3 = .ok (.iload_n 1, 1) := by decide +kernel
theorem dX5_matchAll_4 : decode cX5_matchAll 4 = .ok (.if_icmp .ge 74, 3) := by decide +kernel
theorem dX5_matchAll_7 : decode cX5_matchAll 7 = .ok (.iload_n 3, 1) := by decide +kernel
theorem dX5_matchAll_8 : decode cX5_matchAll 8 = .ok (.bipush 100, 2) := by decide +kernel
theorem dX5_matchAll_10 : decode cX5_matchAll 10 = .ok (.if_icmp .ge 68, 3) := by decide +kernel
theorem dX5_matchAll_13 : decode cX5_matchAll 13 = .ok (.iconst 0, 1) := by decide +kernel
theorem dX5_matchAll_14 : decode cX5_matchAll 14 = .ok (.istore 4, 2) := by decide +kernel
theorem dX5_matchAll_16 : decode cX5_matchAll 16 = .ok (.iload 4, 2) := by decide +kernel
theorem dX5_matchAll_18 : decode cX5_matchAll 18 = .ok (.iload_n 2, 1) := by decide +kernel
theorem dX5_matchAll_19 : decode cX5_matchAll 19 = .ok (.if_icmp .ge 53, 3) := by decide +kernel
theorem dX5_matchAll_22 : decode cX5_matchAll 22 = .ok (.iload 4, 2) := by decide +kernel
theorem dX5_matchAll_24 : decode cX5_matchAll 24 = .ok (.bipush 100, 2) := by decide +kernel
theorem dX5_matchAll_26 : decode cX5_matchAll 26 = .ok (.if_icmp .ge 46, 3) := by decide +kernel
theorem dX5_matchAll_29 : decode cX5_matchAll 29 = .ok (.aload_n 0, 1) := by decide +kernel
theorem dX5_matchAll_30 : decode cX5_matchAll 30 = .ok (.getfield 20, 3) := by decide +kernel
theorem dX5_matchAll_33 : decode cX5_matchAll 33 = .ok (.iload_n 3, 1) := by decide +kernel
theorem dX5_matchAll_34 : decode cX5_matchAll 34 = .ok (.bipush 100, 2) := by decide +kernel
theorem dX5_matchAll_36 : decode cX5_matchAll 36 = .ok (.imul, 1) := by decide +kernel
theorem dX5_matchAll_37 : decode cX5_matchAll 37 = .ok (.iload 4, 2) := by decide +kernel
theorem dX5_matchAll_39 : decode cX5_matchAll 39 = .ok (.iadd, 1) := by decide +kernel
theorem dX5_matchAll_40 : decode cX5_matchAll 40 = .ok (.aload_n 0, 1) := by decide +kernel
theorem dX5_matchAll_41 : decode cX5_matchAll 41 = .ok (.getfield 41, 3) := by decide +kernel
theorem dX5_matchAll_44 : decode cX5_matchAll 44 = .ok (.aload_n 0, 1) := by decide +kernel
theorem dX5_matchAll_45 : decode cX5_matchAll 45 = .ok (.getfield 28, 3) := by decide +kernel
theorem dX5_matchAll_48 : decode cX5_matchAll 48 = .ok (.iload_n 3, 1) := by decide +kernel
theorem dX5_matchAll_49 : decode cX5_matchAll 49 = .ok (.iaload, 1) := by decide +kernel
theorem dX5_matchAll_50 : decode cX5_matchAll 50 = .ok (.aload_n 0, 1) := by decide +kernel
theorem dX5_matchAll_51 : decode cX5_matchAll 51 = .ok (.getfield 44, 3) := by decide +kernel
theorem dX5_matchAll_54 : decode cX5_matchAll 54 = .ok (.aload_n 0, 1) := by decide +kernel
theorem dX5_matchAll_55 : decode cX5_matchAll 55 = .ok (.getfield 31, 3) := by decide +kernel
theorem dX5_matchAll_58 : decode cX5_matchAll 58 = .ok (.iload 4, 2) := by decide +kernel
theorem dX5_matchAll_60 : decode cX5_matchAll 60 = .ok (.iaload, 1) := by decide +kernel
theorem dX5_matchAll_61 : decode cX5_matchAll 61 = .ok (.iconst 0, 1) := by decide +kernel
theorem dX5_matchAll_62 : decode cX5_matchAll 62 = .ok (.invokevirtual 62, 3) := by decide +kernel
theorem dX5_matchAll_65 : decode cX5_matchAll 65 = .ok (.bastore, 1) := by decide +kernel
theorem dX5_matchAll_66 : decode cX5_matchAll 66 = .ok (.iinc 4 1, 3) := by decide +kernel
theorem dX5_matchAll_69 : decode cX5_matchAll 69 = .ok (.goto (-53), 3) := by decide +kernel
theorem dX5_matchAll_72 : decode cX5_matchAll 72 = .ok (.iinc 3 1, 3) := by decide +kernel
theorem dX5_matchAll_75 : decode cX5_matchAll 75 = .ok (.goto (-73), 3) := by decide +kernel
theorem dX5_matchAll_78 : decode cX5_matchAll 78 = .ok (.return_, 1) := by decide +kernel
theorem dX5_pairsFrom_0 : decode cX5_pairsFrom 0 = .ok (.iload_n 1, 1) := by decide +kernel
theorem dX5_pairsFrom_1 : decode cX5_pairsFrom 1 = .ok (.ifCond .lt 33, 3) := by decide +kernel
theorem dX5_pairsFrom_4 : decode cX5_pairsFrom 4 = .ok (.iload_n 1, 1) := by decide +kernel
theorem dX5_pairsFrom_5 : decode cX5_pairsFrom 5 = .ok (.bipush 100, 2) := by decide +kernel
theorem dX5_pairsFrom_7 : decode cX5_pairsFrom 7 = .ok (.if_icmp .ge 27, 3) := by decide +kernel
theorem dX5_pairsFrom_10 : decode cX5_pairsFrom 10 = .ok (.iload_n 2, 1) := by decide +kernel
theorem dX5_pairsFrom_11 : decode cX5_pairsFrom 11 = .ok (.ifCond .lt 23, 3) := by decide +kernel
theorem dX5_pairsFrom_14 : decode cX5_pairsFrom 14 = .ok (.iload_n 2, 1) := by decide +kernel
theorem dX5_pairsFrom_15 : decode cX5_pairsFrom 15 = .ok (.bipush 100, 2) := by decide +kernel
theorem dX5_pairsFrom_17 : decode cX5_pairsFrom 17 = .ok (.if_icmp .ge 17, 3) := by decide +kernel
theorem dX5_pairsFrom_20 : decode cX5_pairsFrom 20 = .ok (.aload_n 0, 1) := by decide +kernel
theorem dX5_pairsFrom_21 : decode cX5_pairsFrom 21 = .ok (.getfield 24, 3) := by decide +kernel
theorem dX5_pairsFrom_24 : decode cX5_pairsFrom 24 = .ok (.iload_n 1, 1) := by decide +kernel
theorem dX5_pairsFrom_25 : decode cX5_pairsFrom 25 = .ok (.bipush 100, 2) := by decide +kernel
theorem dX5_pairsFrom_27 : decode cX5_pairsFrom 27 = .ok (.imul, 1) := by decide +kernel
theorem dX5_pairsFrom_28 : decode cX5_pairsFrom 28 = .ok (.iload_n 2, 1) := by decide +kernel
theorem dX5_pairsFrom_29 : decode cX5_pairsFrom 29 = .ok (.iadd, 1) := by decide +kernel
theorem dX5_pairsFrom_30 : decode cX5_pairsFrom 30 = .ok (.iaload, 1) := by decide +kernel
theorem dX5_pairsFrom_31 : decode cX5_pairsFrom 31 = .ok (.goto 4, 3) := by decide +kernel
theorem dX5_pairsFrom_34 : decode cX5_pairsFrom 34 = .ok (.iconst 0, 1) := by decide +kernel
theorem dX5_pairsFrom_35 : decode cX5_pairsFrom 35 = .ok (.ireturn, 1) := by decide +kernel
theorem dX5_countPairs_0 : decode cX5_countPairs 0 = .ok (.iload_n 1, 1) := by decide +kernel
theorem dX5_countPairs_1 : decode cX5_countPairs 1 = .ok (.bipush 99, 2) := by decide +kernel
theorem dX5_countPairs_3 : decode cX5_countPairs 3 = .ok (.invokestatic 129, 3) := by decide +kernel
theorem dX5_countPairs_6 : decode cX5_countPairs 6 = .ok (.istore_n 3, 1) := by decide +kernel
theorem dX5_countPairs_7 : decode cX5_countPairs 7 = .ok (.iload_n 3, 1) := by decide +kernel
theorem dX5_countPairs_8 : decode cX5_countPairs 8 = .ok (.ifCond .lt 112, 3) := by decide +kernel
theorem dX5_countPairs_11 : decode cX5_countPairs 11 = .ok (.iload_n 2, 1) := by decide +kernel
theorem dX5_countPairs_12 : decode cX5_countPairs 12 = .ok (.bipush 99, 2) := by decide +kernel
theorem dX5_countPairs_14 : decode cX5_countPairs 14 = .ok (.invokestatic 129, 3) := by decide +kernel
theorem dX5_countPairs_17 : decode cX5_countPairs 17 = .ok (.istore 4, 2) := by decide +kernel
theorem dX5_countPairs_19 : decode cX5_countPairs 19 = .ok (.iload 4, 2) := by decide +kernel
theorem dX5_countPairs_21 : decode cX5_countPairs 21 = .ok (.ifCond .lt 93, 3) := by decide +kernel
theorem dX5_countPairs_24 : decode cX5_countPairs 24 = .ok (.aload_n 0, 1) := by decide +kernel
theorem dX5_countPairs_25 : decode cX5_countPairs 25 = .ok (.iload_n 3, 1) := by decide +kernel
theorem dX5_countPairs_26 : decode cX5_countPairs 26 = .ok (.iconst 1, 1) := by decide +kernel
theorem dX5_countPairs_27 : decode cX5_countPairs 27 = .ok (.iadd, 1) := by decide +kernel
theorem dX5_countPairs_28 : decode cX5_countPairs 28 = .ok (.iload 4, 2) := by decide +kernel
theorem dX5_countPairs_30 : decode cX5_countPairs 30 = .ok (.invokevirtual 134, 3) := by decide +kernel
theorem dX5_countPairs_33 : decode cX5_countPairs 33 = .ok (.aload_n 0, 1) := by decide +kernel
theorem dX5_countPairs_34 : decode cX5_countPairs 34 = .ok (.iload_n 3, 1) := by decide +kernel
theorem dX5_countPairs_35 : decode cX5_countPairs 35 = .ok (.iload 4, 2) := by decide +kernel
theorem dX5_countPairs_37 : decode cX5_countPairs 37 = .ok (.iconst 1, 1) := by decide +kernel
theorem dX5_countPairs_38 : decode cX5_countPairs 38 = .ok (.iadd, 1) := by decide +kernel
theorem dX5_countPairs_39 : decode cX5_countPairs 39 = .ok (.invokevirtual 134, 3) := by decide +kernel
theorem dX5_countPairs_42 : decode cX5_countPairs 42 = .ok (.invokestatic 137, 3) := by decide +kernel
theorem dX5_countPairs_45 : decode cX5_countPairs 45 = .ok (.istore 5, 2) := by decide +kernel
theorem dX5_countPairs_47 : decode cX5_countPairs 47 = .ok (.iload_n 3, 1) := by decide +kernel
theorem dX5_countPairs_48 : decode cX5_countPairs 48 = .ok (.iload_n 1, 1) := by decide +kernel
theorem dX5_countPairs_49 : decode cX5_countPairs 49 = .ok (.if_icmp .eq 9, 3) := by decide +kernel
theorem dX5_countPairs_52 : decode cX5_countPairs 52 = .ok (.iload 4, 2) := by decide +kernel
theorem dX5_countPairs_54 : decode cX5_countPairs 54 = .ok (.iload_n 2, 1) := by decide +kernel
theorem dX5_countPairs_55 : decode cX5_countPairs 55 = .ok (.if_icmp .ne 9, 3) := by decide +kernel
theorem dX5_countPairs_58 : decode cX5_countPairs 58 = .ok (.iconst 0, 1) := by decide +kernel
theorem dX5_countPairs_59 : decode cX5_countPairs 59 = .ok (.istore 5, 2) := by decide +kernel
theorem dX5_countPairs_61 : decode cX5_countPairs 61 = .ok (.goto 33, 3) := by decide +kernel
theorem dX5_countPairs_64 : decode cX5_countPairs 64 = .ok (.aload_n 0, 1) := by decide +kernel
theorem dX5_countPairs_65 : decode cX5_countPairs 65 = .ok (.getfield 20, 3) := by decide +kernel
theorem dX5_countPairs_68 : decode cX5_countPairs 68 = .ok (.iload_n 3, 1) := by decide +kernel
theorem dX5_countPairs_69 : decode cX5_countPairs 69 = .ok (.bipush 100, 2) := by decide +kernel
theorem dX5_countPairs_71 : decode cX5_countPairs 71 = .ok (.imul, 1) := by decide +kernel
theorem dX5_countPairs_72 : decode cX5_countPairs 72 = .ok (.iload 4, 2) := by decide +kernel
theorem dX5_countPairs_74 : decode cX5_countPairs 74 = .ok (.iadd, 1) := by decide +kernel
theorem dX5_countPairs_75 : decode cX5_countPairs 75 = .ok (.baload, 1) := by decide +kernel
theorem dX5_countPairs_76 : decode cX5_countPairs 76 = .ok (.ifCond .eq 18, 3) := by decide +kernel
theorem dX5_countPairs_79 : decode cX5_countPairs 79 = .ok (.aload_n 0, 1) := by decide +kernel
theorem dX5_countPairs_80 : decode cX5_countPairs 80 = .ok (.iload_n 3, 1) := by decide +kernel
theorem dX5_countPairs_81 : decode cX5_countPairs 81 = .ok (.iconst 1, 1) := by decide +kernel
theorem dX5_countPairs_82 : decode cX5_countPairs 82 = .ok (.iadd, 1) := by decide +kernel
theorem dX5_countPairs_83 : decode cX5_countPairs 83 = .ok (.iload 4, 2) := by decide +kernel
theorem dX5_countPairs_85 : decode cX5_countPairs 85 = .ok (.iconst 1, 1) := by decide +kernel
theorem dX5_countPairs_86 : decode cX5_countPairs 86 = .ok (.iadd, 1) := by decide +kernel
theorem dX5_countPairs_87 : decode cX5_countPairs 87 = .ok (.invokevirtual 134, 3) := by decide +kernel
theorem dX5_countPairs_90 : decode cX5_countPairs 90 = .ok (.iconst 1, 1) := by decide +kernel
theorem dX5_countPairs_91 : decode cX5_countPairs 91 = .ok (.iadd, 1) := by decide +kernel
theorem dX5_countPairs_92 : decode cX5_countPairs 92 = .ok (.istore 5, 2) := by decide +kernel
theorem dX5_countPairs_94 : decode cX5_countPairs 94 = .ok (.aload_n 0, 1) := by decide +kernel
theorem dX5_countPairs_95 : decode cX5_countPairs 95 = .ok (.getfield 24, 3) := by decide +kernel
theorem dX5_countPairs_98 : decode cX5_countPairs 98 = .ok (.iload_n 3, 1) := by decide +kernel
theorem dX5_countPairs_99 : decode cX5_countPairs 99 = .ok (.bipush 100, 2) := by decide +kernel
theorem dX5_countPairs_101 : decode cX5_countPairs 101 = .ok (.imul, 1) := by decide +kernel
theorem dX5_countPairs_102 : decode cX5_countPairs 102 = .ok (.iload 4, 2) := by decide +kernel
theorem dX5_countPairs_104 : decode cX5_countPairs 104 = .ok (.iadd, 1) := by decide +kernel
theorem dX5_countPairs_105 : decode cX5_countPairs 105 = .ok (.iload 5, 2) := by decide +kernel
theorem dX5_countPairs_107 : decode cX5_countPairs 107 = .ok (.iastore, 1) := by decide +kernel
theorem dX5_countPairs_108 : decode cX5_countPairs 108 = .ok (.iinc 4 (-1), 3) := by decide +kernel
theorem dX5_countPairs_111 : decode cX5_countPairs 111 = .ok (.goto (-92), 3) := by decide +kernel
theorem dX5_countPairs_114 : decode cX5_countPairs 114 = .ok (.iinc 3 (-1), 3) := by decide +kernel
theorem dX5_countPairs_117 : decode cX5_countPairs 117 = .ok (.goto (-110), 3) := by decide +kernel
theorem dX5_countPairs_120 : decode cX5_countPairs 120 = .ok (.return_, 1) := by decide +kernel
theorem dX5_markPairs_0 : decode cX5_markPairs 0 = .ok (.iconst 0, 1) := by decide +kernel
theorem dX5_markPairs_1 : decode cX5_markPairs 1 = .ok (.istore_n 3, 1) := by decide +kernel
theorem dX5_markPairs_2 : decode cX5_markPairs 2 = .ok (.iconst 0, 1) := by decide +kernel
theorem dX5_markPairs_3 : decode cX5_markPairs 3 = .ok (.istore 4, 2) := by decide +kernel
theorem dX5_markPairs_5 : decode cX5_markPairs 5 = .ok (.iconst 0, 1) := by decide +kernel
theorem dX5_markPairs_6 : decode cX5_markPairs 6 = .ok (.istore 5, 2) := by decide +kernel
theorem dX5_markPairs_8 : decode cX5_markPairs 8 = .ok (.iload 5, 2) := by decide +kernel
theorem dX5_markPairs_10 : decode cX5_markPairs 10 = .ok (.sipush 200, 3) := by decide +kernel
theorem dX5_markPairs_13 : decode cX5_markPairs 13 = .ok (.if_icmp .ge 100, 3) := by decide +kernel
theorem dX5_markPairs_16 : decode cX5_markPairs 16 = .ok (.iload_n 3, 1) := by decide +kernel
theorem dX5_markPairs_17 : decode cX5_markPairs 17 = .ok (.iload_n 1, 1) := by decide +kernel
theorem dX5_markPairs_18 : decode cX5_markPairs 18 = .ok (.if_icmp .ge 95, 3) := by decide +kernel
theorem dX5_markPairs_21 : decode cX5_markPairs 21 = .ok (.iload 4, 2) := by decide +kernel
theorem dX5_markPairs_23 : decode cX5_markPairs 23 = .ok (.iload_n 2, 1) := by decide +kernel
theorem dX5_markPairs_24 : decode cX5_markPairs 24 = .ok (.if_icmp .ge 89, 3) := by decide +kernel
theorem dX5_markPairs_27 : decode cX5_markPairs 27 = .ok (.iload_n 3, 1) := by decide +kernel
theorem dX5_markPairs_28 : decode cX5_markPairs 28 = .ok (.bipush 100, 2) := by decide +kernel
theorem dX5_markPairs_30 : decode cX5_markPairs 30 = .ok (.if_icmp .ge 83, 3) := by decide +kernel
theorem dX5_markPairs_33 : decode cX5_markPairs 33 = .ok (.iload 4, 2) := by decide +kernel
theorem dX5_markPairs_35 : decode cX5_markPairs 35 = .ok (.bipush 100, 2) := by decide +kernel
theorem dX5_markPairs_37 : decode cX5_markPairs 37 = .ok (.if_icmp .ge 76, 3) := by decide +kernel
theorem dX5_markPairs_40 : decode cX5_markPairs 40 = .ok (.aload_n 0, 1) := by decide +kernel
theorem dX5_markPairs_41 : decode cX5_markPairs 41 = .ok (.getfield 20, 3) := by decide +kernel
theorem dX5_markPairs_44 : decode cX5_markPairs 44 = .ok (.iload_n 3, 1) := by decide +kernel
theorem dX5_markPairs_45 : decode cX5_markPairs 45 = .ok (.bipush 100, 2) := by decide +kernel
theorem dX5_markPairs_47 : decode cX5_markPairs 47 = .ok (.imul, 1) := by decide +kernel
theorem dX5_markPairs_48 : decode cX5_markPairs 48 = .ok (.iload 4, 2) := by decide +kernel
theorem dX5_markPairs_50 : decode cX5_markPairs 50 = .ok (.iadd, 1) := by decide +kernel
theorem dX5_markPairs_51 : decode cX5_markPairs 51 = .ok (.baload, 1) := by decide +kernel
theorem dX5_markPairs_52 : decode cX5_markPairs 52 = .ok (.ifCond .eq 27, 3) := by decide +kernel
theorem dX5_markPairs_55 : decode cX5_markPairs 55 = .ok (.aload_n 0, 1) := by decide +kernel
theorem dX5_markPairs_56 : decode cX5_markPairs 56 = .ok (.getfield 28, 3) := by decide +kernel
theorem dX5_markPairs_59 : decode cX5_markPairs 59 = .ok (.iload_n 3, 1) := by decide +kernel
theorem dX5_markPairs_60 : decode cX5_markPairs 60 = .ok (.iconst (-1), 1) := by decide +kernel
theorem dX5_markPairs_61 : decode cX5_markPairs 61 = .ok (.iastore, 1) := by decide +kernel
theorem dX5_markPairs_62 : decode cX5_markPairs 62 = .ok (.aload_n 0, 1) := by decide +kernel
theorem dX5_markPairs_63 : decode cX5_markPairs 63 = .ok (.getfield 31, 3) := by decide +kernel
theorem dX5_markPairs_66 : decode cX5_markPairs 66 = .ok (.iload 4, 2) := by decide +kernel
theorem dX5_markPairs_68 : decode cX5_markPairs 68 = .ok (.iconst (-1), 1) := by decide +kernel
theorem dX5_markPairs_69 : decode cX5_markPairs 69 = .ok (.iastore, 1) := by decide +kernel
theorem dX5_markPairs_70 : decode cX5_markPairs 70 = .ok (.iinc 3 1, 3) := by decide +kernel
theorem dX5_markPairs_73 : decode cX5_markPairs 73 = .ok (.iinc 4 1, 3) := by decide +kernel
theorem dX5_markPairs_76 : decode cX5_markPairs 76 = .ok (.goto 31, 3) := by decide +kernel
theorem dX5_markPairs_79 : decode cX5_markPairs 79 = .ok (.aload_n 0, 1) := by decide +kernel
theorem dX5_markPairs_80 : decode cX5_markPairs 80 = .ok (.iload_n 3, 1) := by decide +kernel
theorem dX5_markPairs_81 : decode cX5_markPairs 81 = .ok (.iconst 1, 1) := by decide +kernel
theorem dX5_markPairs_82 : decode cX5_markPairs 82 = .ok (.iadd, 1) := by decide +kernel
theorem dX5_markPairs_83 : decode cX5_markPairs 83 = .ok (.iload 4, 2) := by decide +kernel
theorem dX5_markPairs_85 : decode cX5_markPairs 85 = .ok (.invokevirtual 134, 3) := by decide +kernel
theorem dX5_markPairs_88 : decode cX5_markPairs 88 = .ok (.aload_n 0, 1) := by decide +kernel
theorem dX5_markPairs_89 : decode cX5_markPairs 89 = .ok (.iload_n 3, 1) := by decide +kernel
theorem dX5_markPairs_90 : decode cX5_markPairs 90 = .ok (.iload 4, 2) := by decide +kernel
theorem dX5_markPairs_92 : decode cX5_markPairs 92 = .ok (.invokevirtual 134, 3) := by decide +kernel
theorem dX5_markPairs_95 : decode cX5_markPairs 95 = .ok (.if_icmp .ne 9, 3) := by decide +kernel
theorem dX5_markPairs_98 : decode cX5_markPairs 98 = .ok (.iinc 3 1, 3) := by decide +kernel
theorem dX5_markPairs_101 : decode cX5_markPairs 101 = .ok (.goto 6, 3) := by decide +kernel
theorem dX5_markPairs_104 : decode cX5_markPairs 104 = .ok (.iinc 4 1, 3) := by decide +kernel
theorem dX5_markPairs_107 : decode cX5_markPairs 107 = .ok (.iinc 5 1, 3) := by decide +kernel
theorem dX5_markPairs_110 : decode cX5_markPairs 110 = .ok (.goto (-102), 3) := by decide +kernel
theorem dX5_markPairs_113 : decode cX5_markPairs 113 = .ok (.return_, 1) := by decide +kernel
theorem dX5_add_0 : decode cX5_add 0 = .ok (.aload_n 0, 1) := by decide +kernel
theorem dX5_add_1 : decode cX5_add 1 = .ok (.iconst 5, 1) := by decide +kernel
theorem dX5_add_2 : decode cX5_add 2 = .ok (.invokevirtual 51, 3) := by decide +kernel
theorem dX5_add_5 : decode cX5_add 5 = .ok (.istore 5, 2) := by decide +kernel
theorem dX5_add_7 : decode cX5_add 7 = .ok (.aload_n 0, 1) := by decide +kernel
theorem dX5_add_8 : decode cX5_add 8 = .ok (.iconst 3, 1) := by decide +kernel
theorem dX5_add_9 : decode cX5_add 9 = .ok (.invokevirtual 51, 3) := by decide +kernel
theorem dX5_add_12 : decode cX5_add 12 = .ok (.istore 6, 2) := by decide +kernel
theorem dX5_add_14 : decode cX5_add 14 = .ok (.aload_n 0, 1) := by decide +kernel
theorem dX5_add_15 : decode cX5_add 15 = .ok (.iload 6, 2) := by decide +kernel
theorem dX5_add_17 : decode cX5_add 17 = .ok (.ldc 140, 2) := by decide +kernel
theorem dX5_add_19 : decode cX5_add 19 = .ok (.invokevirtual 142, 3) := by decide +kernel
theorem dX5_add_22 : decode cX5_add 22 = .ok (.iconst 0, 1) := by decide +kernel
theorem dX5_add_23 : decode cX5_add 23 = .ok (.istore 7, 2) := by decide +kernel
theorem dX5_add_25 : decode cX5_add 25 = .ok (.iload 7, 2) := by decide +kernel
theorem dX5_add_27 : decode cX5_add 27 = .ok (.aload_n 1, 1) := by decide +kernel
theorem dX5_add_28 : decode cX5_add 28 = .ok (.invokevirtual 146, 3) := by decide +kernel
theorem dX5_add_31 : decode cX5_add 31 = .ok (.if_icmp .ge 21, 3) := by decide +kernel
theorem dX5_add_34 : decode cX5_add 34 = .ok (.aload_n 0, 1) := by decide +kernel
theorem dX5_add_35 : decode cX5_add 35 = .ok (.iload 6, 2) := by decide +kernel
theorem dX5_add_37 : decode cX5_add 37 = .ok (.aload_n 1, 1) := by decide +kernel
theorem dX5_add_38 : decode cX5_add 38 = .ok (.iload 7, 2) := by decide +kernel
theorem dX5_add_40 : decode cX5_add 40 = .ok (.invokevirtual 149, 3) := by decide +kernel
theorem dX5_add_43 : decode cX5_add 43 = .ok (.invokevirtual 153, 3) := by decide +kernel
theorem dX5_add_46 : decode cX5_add 46 = .ok (.iinc 7 1, 3) := by decide +kernel
theorem dX5_add_49 : decode cX5_add 49 = .ok (.goto (-24), 3) := by decide +kernel
theorem dX5_add_52 : decode cX5_add 52 = .ok (.aload_n 0, 1) := by decide +kernel
theorem dX5_add_53 : decode cX5_add 53 = .ok (.iconst 3, 1) := by decide +kernel
theorem dX5_add_54 : decode cX5_add 54 = .ok (.invokevirtual 51, 3) := by decide +kernel
theorem dX5_add_57 : decode cX5_add 57 = .ok (.istore 7, 2) := by decide +kernel
theorem dX5_add_59 : decode cX5_add 59 = .ok (.aload_n 0, 1) := by decide +kernel
theorem dX5_add_60 : decode cX5_add 60 = .ok (.iload 7, 2) := by decide +kernel
theorem dX5_add_62 : decode cX5_add 62 = .ok (.ldc 156, 2) := by decide +kernel
theorem dX5_add_64 : decode cX5_add 64 = .ok (.invokevirtual 142, 3) := by decide +kernel
theorem dX5_add_67 : decode cX5_add 67 = .ok (.iconst 0, 1) := by decide +kernel
theorem dX5_add_68 : decode cX5_add 68 = .ok (.istore 8, 2) := by decide +kernel
theorem dX5_add_70 : decode cX5_add 70 = .ok (.iload 8, 2) := by decide +kernel
theorem dX5_add_72 : decode cX5_add 72 = .ok (.aload_n 2, 1) := by decide +kernel
theorem dX5_add_73 : decode cX5_add 73 = .ok (.invokevirtual 82, 3) := by decide +kernel
theorem dX5_add_76 : decode cX5_add 76 = .ok (.if_icmp .ge 21, 3) := by decide +kernel
theorem dX5_add_79 : decode cX5_add 79 = .ok (.aload_n 0, 1) := by decide +kernel
theorem dX5_add_80 : decode cX5_add 80 = .ok (.iload 7, 2) := by decide +kernel
theorem dX5_add_82 : decode cX5_add 82 = .ok (.aload_n 2, 1) := by decide +kernel
theorem dX5_add_83 : decode cX5_add 83 = .ok (.iload 8, 2) := by decide +kernel
theorem dX5_add_85 : decode cX5_add 85 = .ok (.invokevirtual 157, 3) := by decide +kernel
theorem dX5_add_88 : decode cX5_add 88 = .ok (.invokevirtual 153, 3) := by decide +kernel
theorem dX5_add_91 : decode cX5_add 91 = .ok (.iinc 8 1, 3) := by decide +kernel
theorem dX5_add_94 : decode cX5_add 94 = .ok (.goto (-24), 3) := by decide +kernel
theorem dX5_add_97 : decode cX5_add 97 = .ok (.iload 4, 2) := by decide +kernel
theorem dX5_add_99 : decode cX5_add 99 = .ok (.iconst (-1), 1) := by decide +kernel
theorem dX5_add_100 : decode cX5_add 100 = .ok (.if_icmp .eq 16, 3) := by decide +kernel
theorem dX5_add_103 : decode cX5_add 103 = .ok (.aload_n 0, 1) := by decide +kernel
theorem dX5_add_104 : decode cX5_add 104 = .ok (.aload_n 0, 1) := by decide +kernel
theorem dX5_add_105 : decode cX5_add 105 = .ok (.aload_n 3, 1) := by decide +kernel
theorem dX5_add_106 : decode cX5_add 106 = .ok (.iload 4, 2) := by decide +kernel
theorem dX5_add_108 : decode cX5_add 108 = .ok (.invokevirtual 160, 3) := by decide +kernel
theorem dX5_add_111 : decode cX5_add 111 = .ok (.ldc 164, 2) := by decide +kernel
theorem dX5_add_113 : decode cX5_add 113 = .ok (.invokevirtual 142, 3) := by decide +kernel
theorem dX5_add_116 : decode cX5_add 116 = .ok (.aload_n 0, 1) := by decide +kernel
theorem dX5_add_117 : decode cX5_add 117 = .ok (.iload 5, 2) := by decide +kernel
theorem dX5_add_119 : decode cX5_add 119 = .ok (.invokevirtual 59, 3) := by decide +kernel
theorem dX5_add_122 : decode cX5_add 122 = .ok (.return_, 1) := by decide +kernel
theorem dX6_init_0 : decode cX6_init 0 = .ok (.aload_n 0, 1) := by decide +kernel
theorem dX6_init_1 : decode cX6_init 1 = .ok (.invokespecial 3, 3) := by decide +kernel
theorem dX6_init_4 : decode cX6_init 4 = .ok (.aload_n 0, 1) := by decide +kernel
theorem dX6_init_5 : decode cX6_init 5 = .ok (.new 9, 3) := by decide +kernel
theorem dX6_init_8 : decode cX6_init 8 = .ok (.dup, 1) := by decide +kernel
theorem dX6_init_9 : decode cX6_init 9 = .ok (.invokespecial 11, 3) := by decide +kernel
theorem dX6_init_12 : decode cX6_init 12 = .ok (.putfield 12, 3) := by decide +kernel
theorem dX6_init_15 : decode cX6_init 15 = .ok (.aload_n 0, 1) := by decide +kernel
theorem dX6_init_16 : decode cX6_init 16 = .ok (.new 9, 3) := by decide +kernel
theorem dX6_init_19 : decode cX6_init 19 = .ok (.dup, 1) := by decide +kernel
theorem dX6_init_20 : decode cX6_init 20 = .ok (.invokespecial 11, 3) := by decide +kernel
theorem dX6_init_23 : decode cX6_init 23 = .ok (.putfield 18, 3) := by decide +kernel
theorem dX6_init_26 : decode cX6_init 26 = .ok (.aload_n 0, 1) := by decide +kernel
theorem dX6_init_27 : decode cX6_init 27 = .ok (.new 21, 3) := by decide +kernel
theorem dX6_init_30 : decode cX6_init 30 = .ok (.dup, 1) := by decide +kernel
theorem dX6_init_31 : decode cX6_init 31 = .ok (.bipush 12, 2) := by decide +kernel
theorem dX6_init_33 : decode cX6_init 33 = .ok (.invokespecial 23, 3) := by decide +kernel
theorem dX6_init_36 : decode cX6_init 36 = .ok (.putfield 26, 3) := by decide +kernel
theorem dX6_init_39 : decode cX6_init 39 = .ok (.aload_n 0, 1) := by decide +kernel
theorem dX6_init_40 : decode cX6_init 40 = .ok (.new 21, 3) := by decide +kernel
theorem dX6_init_43 : decode cX6_init 43 = .ok (.dup, 1) := by decide +kernel
theorem dX6_init_44 : decode cX6_init 44 = .ok (.bipush 40, 2) := by decide +kernel
theorem dX6_init_46 : decode cX6_init 46 = .ok (.invokespecial 23, 3) := by decide +kernel
theorem dX6_init_49 : decode cX6_init 49 = .ok (.putfield 30, 3) := by decide +kernel
theorem dX6_init_52 : decode cX6_init 52 = .ok (.aload_n 0, 1) := by decide +kernel
theorem dX6_init_53 : decode cX6_init 53 = .ok (.new 21, 3) := by decide +kernel
theorem dX6_init_56 : decode cX6_init 56 = .ok (.dup, 1) := by decide +kernel
theorem dX6_init_57 : decode cX6_init 57 = .ok (.bipush 24, 2) := by decide +kernel
theorem dX6_init_59 : decode cX6_init 59 = .ok (.invokespecial 23, 3) := by decide +kernel
theorem dX6_init_62 : decode cX6_init 62 = .ok (.putfield 33, 3) := by decide +kernel
theorem dX6_init_65 : decode cX6_init 65 = .ok (.aload_n 0, 1) := by decide +kernel
theorem dX6_init_66 : decode cX6_init 66 = .ok (.aload_n 0, 1) := by decide +kernel
theorem dX6_init_67 : decode cX6_init 67 = .ok (.getfield 26, 3) := by decide +kernel
theorem dX6_init_70 : decode cX6_init 70 = .ok (.putfield 36, 3) := by decide +kernel
theorem dX6_init_73 : decode cX6_init 73 = .ok (.return_, 1) := by decide +kernel
theorem dX6_result_0 : decode cX6_result 0 = .ok (.aload_n 0, 1) := by decide +kernel
theorem dX6_result_1 : decode cX6_result 1 = .ok (.getfield 12, 3) := by decide +kernel
theorem dX6_result_4 : decode cX6_result 4 = .ok (.areturn, 1) := by decide +kernel
theorem dX6_parse_0 : decode cX6_parse 0 = .ok (.aload_n 0, 1) := by decide +kernel
theorem dX6_parse_1 : decode cX6_parse 1 = .ok (.aload_n 1, 1) := by decide +kernel
theorem dX6_parse_2 : decode cX6_parse 2 = .ok (.putfield 36, 3) := by decide +kernel
theorem dX6_parse_5 : decode cX6_parse 5 = .ok (.aload_n 0, 1) := by decide +kernel
theorem dX6_parse_6 : decode cX6_parse 6 = .ok (.iload_n 2, 1) := by decide +kernel
theorem dX6_parse_7 : decode cX6_parse 7 = .ok (.putfield 39, 3) := by decide +kernel
theorem dX6_parse_10 : decode cX6_parse 10 = .ok (.aload_n 0, 1) := by decide +kernel
theorem dX6_parse_11 : decode cX6_parse 11 = .ok (.iconst 0, 1) := by decide +kernel
theorem dX6_parse_12 : decode cX6_parse 12 = .ok (.putfield 43, 3) := by decide +kernel
theorem dX6_parse_15 : decode cX6_parse 15 = .ok (.aload_n 0, 1) := by decide +kernel
theorem dX6_parse_16 : decode cX6_parse 16 = .ok (.iconst (-1), 1) := by decide +kernel
theorem dX6_parse_17 : decode cX6_parse 17 = .ok (.putfield 46, 3) := by decide +kernel
theorem dX6_parse_20 : decode cX6_parse 20 = .ok (.aload_n 0, 1) := by decide +kernel
theorem dX6_parse_21 : decode cX6_parse 21 = .ok (.iconst 0, 1) := by decide +kernel
theorem dX6_parse_22 : decode cX6_parse 22 = .ok (.putfield 49, 3) := by decide +kernel
theorem dX6_parse_25 : decode cX6_parse 25 = .ok (.aload_n 0, 1) := by decide +kernel
theorem dX6_parse_26 : decode cX6_parse 26 = .ok (.getfield 12, 3) := by decide +kernel
theorem dX6_parse_29 : decode cX6_parse 29 = .ok (.invokevirtual 52, 3) := by decide +kernel
theorem dX6_parse_32 : decode cX6_parse 32 = .ok (.aload_n 0, 1) := by decide +kernel
theorem dX6_parse_33 : decode cX6_parse 33 = .ok (.getfield 26, 3) := by decide +kernel
theorem dX6_parse_36 : decode cX6_parse 36 = .ok (.invokevirtual 55, 3) := by decide +kernel
theorem dX6_parse_39 : decode cX6_parse 39 = .ok (.aload_n 0, 1) := by decide +kernel
theorem dX6_parse_40 : decode cX6_parse 40 = .ok (.iconst 0, 1) := by decide +kernel
theorem dX6_parse_41 : decode cX6_parse 41 = .ok (.invokevirtual 56, 3) := by decide +kernel
theorem dX6_parse_44 : decode cX6_parse 44 = .ok (.pop, 1) := by decide +kernel
theorem dX6_parse_45 : decode cX6_parse 45 = .ok (.aload_n 0, 1) := by decide +kernel
theorem dX6_parse_46 : decode cX6_parse 46 = .ok (.invokevirtual 60, 3) := by decide +kernel
theorem dX6_parse_49 : decode cX6_parse 49 = .ok (.aload_n 0, 1) := by decide +kernel
theorem dX6_parse_50 : decode cX6_parse 50 = .ok (.invokevirtual 63, 3) := by decide +kernel
theorem dX6_parse_53 : decode cX6_parse 53 = .ok (.iconst (-1), 1) := by decide +kernel
theorem dX6_parse_54 : decode cX6_parse 54 = .ok (.if_icmp .eq 12, 3) := by decide +kernel
theorem dX6_parse_57 : decode cX6_parse 57 = .ok (.aload_n 0, 1) := by decide +kernel
theorem dX6_parse_58 : decode cX6_parse 58 = .ok (.aload_n 0, 1) := by decide +kernel
theorem dX6_parse_59 : decode cX6_parse 59 = .ok (.getfield 43, 3) := by decide +kernel
theorem dX6_parse_62 : decode cX6_parse 62 = .ok (.invokevirtual 67, 3) := by decide +kernel
theorem dX6_parse_65 : decode cX6_parse 65 = .ok (.pop, 1) := by decide +kernel
theorem dX6_parse_66 : decode cX6_parse 66 = .ok (.aload_n 0, 1) := by decide +kernel
theorem dX6_parse_67 : decode cX6_parse 67 = .ok (.getfield 46, 3) := by decide +kernel
theorem dX6_parse_70 : decode cX6_parse 70 = .ok (.ireturn, 1) := by decide +kernel
theorem dX6_here_0 : decode cX6_here 0 = .ok (.aload_n 0, 1) := by decide +kernel
theorem dX6_here_1 : decode cX6_here 1 = .ok (.getfield 36, 3) := by decide +kernel
theorem dX6_here_4 : decode cX6_here 4 = .ok (.aload_n 0, 1) := by decide +kernel
theorem dX6_here_5 : decode cX6_here 5 = .ok (.getfield 43, 3) := by decide +kernel
theorem dX6_here_8 : decode cX6_here 8 = .ok (.invokevirtual 70, 3) := by decide +kernel
theorem dX6_here_11 : decode cX6_here 11 = .ok (.ireturn, 1) := by decide +kernel
theorem dX6_fail_0 : decode cX6_fail 0 = .ok (.aload_n 0, 1) := by decide +kernel
theorem dX6_fail_1 : decode cX6_fail 1 = .ok (.getfield 46, 3) := by decide +kernel
theorem dX6_fail_4 : decode cX6_fail 4 = .ok (.iconst (-1), 1) := by decide +kernel
theorem dX6_fail_5 : decode cX6_fail 5 = .ok (.if_icmp .ne 8, 3) := by decide +kernel
theorem dX6_fail_8 : decode cX6_fail 8 = .ok (.aload_n 0, 1) := by decide +kernel
theorem dX6_fail_9 : decode cX6_fail 9 = .ok (.iload_n 1, 1) := by decide +kernel
theorem dX6_fail_10 : decode cX6_fail 10 = .ok (.putfield 46, 3) := by decide +kernel
theorem dX6_fail_13 : decode cX6_fail 13 = .ok (.iconst (-1), 1) := by decide +kernel
theorem dX6_fail_14 : decode cX6_fail 14 = .ok (.ireturn, 1) := by decide +kernel
theorem dX6_goesOn_0 : decode cX6_goesOn 0 = .ok (.aload_n 0, 1) := by decide +kernel
theorem dX6_goesOn_1 : decode cX6_goesOn 1 = .ok (.getfield 46, 3) := by decide +kernel
theorem dX6_goesOn_4 : decode cX6_goesOn 4 = .ok (.iconst (-1), 1) := by decide +kernel
theorem dX6_goesOn_5 : decode cX6_goesOn 5 = .ok (.if_icmp .ne 7, 3) := by decide +kernel
theorem dX6_goesOn_8 : decode cX6_goesOn 8 = .ok (.iconst 1, 1) := by decide +kernel
theorem dX6_goesOn_9 : decode cX6_goesOn 9 = .ok (.goto 4, 3) := by decide +kernel
theorem dX6_goesOn_12 : decode cX6_goesOn 12 = .ok (.iconst 0, 1) := by decide +kernel
theorem dX6_goesOn_13 : decode cX6_goesOn 13 = .ok (.ireturn, 1) := by decide +kernel
theorem dX6_skipBlanks_0 : decode cX6_skipBlanks 0 = .ok (.aload_n 0, 1) := by decide +kernel
theorem dX6_skipBlanks_1 : decode cX6_skipBlanks 1 = .ok (.getfield 43, 3) := by decide +kernel
theorem dX6_skipBlanks_4 : decode cX6_skipBlanks 4 = .ok (.aload_n 0, 1) := by decide +kernel
theorem dX6_skipBlanks_5 : decode cX6_skipBlanks 5 = .ok (.getfield 36, 3) := by decide +kernel
theorem dX6_skipBlanks_8 : decode cX6_skipBlanks 8 = .ok (.invokevirtual 73, 3) := by decide +kernel
theorem dX6_skipBlanks_11 : decode cX6_skipBlanks 11 = .ok (.if_icmp .ge 34, 3) := by decide +kernel
theorem dX6_skipBlanks_14 : decode cX6_skipBlanks 14 = .ok (.aload_n 0, 1) := by decide +kernel
theorem dX6_skipBlanks_15 : decode cX6_skipBlanks 15 = .ok (.invokevirtual 63, 3) := by decide +kernel
theorem dX6_skipBlanks_18 : decode cX6_skipBlanks 18 = .ok (.bipush 32, 2) := by decide +kernel
theorem dX6_skipBlanks_20 : decode cX6_skipBlanks 20 = .ok (.if_icmp .eq 12, 3) := by decide +kernel
theorem dX6_skipBlanks_23 : decode cX6_skipBlanks 23 = .ok (.aload_n 0, 1) := by decide +kernel
theorem dX6_skipBlanks_24 : decode cX6_skipBlanks 24 = .ok (.invokevirtual 63, 3) := by decide +kernel
theorem dX6_skipBlanks_27 : decode cX6_skipBlanks 27 = .ok (.bipush 10, 2) := by decide +kernel
theorem dX6_skipBlanks_29 : decode cX6_skipBlanks 29 = .ok (.if_icmp .ne 16, 3) := by decide +kernel
theorem dX6_skipBlanks_32 : decode cX6_skipBlanks 32 = .ok (.aload_n 0, 1) := by decide +kernel
theorem dX6_skipBlanks_33 : decode cX6_skipBlanks 33 = .ok (.dup, 1) := by decide +kernel
theorem dX6_skipBlanks_34 : decode cX6_skipBlanks 34 = .ok (.getfield 43, 3) := by decide +kernel
theorem dX6_skipBlanks_37 : decode cX6_skipBlanks 37 = .ok (.iconst 1, 1) := by decide +kernel
theorem dX6_skipBlanks_38 : decode cX6_skipBlanks 38 = .ok (.iadd, 1) := by decide +kernel
theorem dX6_skipBlanks_39 : decode cX6_skipBlanks 39 = .ok (.putfield 43, 3) := by decide +kernel
theorem dX6_skipBlanks_42 : decode cX6_skipBlanks 42 = .ok (.goto (-42), 3) := by decide +kernel
theorem dX6_skipBlanks_45 : decode cX6_skipBlanks 45 = .ok (.return_, 1) := by decide +kernel
theorem dX6_isFigure_0 : decode cX6_isFigure 0 = .ok (.iload_n 0, 1) := by decide +kernel
theorem dX6_isFigure_1 : decode cX6_isFigure 1 = .ok (.bipush 48, 2) := by decide +kernel
theorem dX6_isFigure_3 : decode cX6_isFigure 3 = .ok (.if_icmp .lt 13, 3) := by decide +kernel
theorem dX6_isFigure_6 : decode cX6_isFigure 6 = .ok (.iload_n 0, 1) := by decide +kernel
theorem dX6_isFigure_7 : decode cX6_isFigure 7 = .ok (.bipush 57, 2) := by decide +kernel
theorem dX6_isFigure_9 : decode cX6_isFigure 9 = .ok (.if_icmp .gt 7, 3) := by decide +kernel
theorem dX6_isFigure_12 : decode cX6_isFigure 12 = .ok (.iconst 1, 1) := by decide +kernel
theorem dX6_isFigure_13 : decode cX6_isFigure 13 = .ok (.goto 4, 3) := by decide +kernel
theorem dX6_isFigure_16 : decode cX6_isFigure 16 = .ok (.iconst 0, 1) := by decide +kernel
theorem dX6_isFigure_17 : decode cX6_isFigure 17 = .ok (.ireturn, 1) := by decide +kernel
theorem dX6_pass_0 : decode cX6_pass 0 = .ok (.aload_n 0, 1) := by decide +kernel
theorem dX6_pass_1 : decode cX6_pass 1 = .ok (.getfield 36, 3) := by decide +kernel
theorem dX6_pass_4 : decode cX6_pass 4 = .ok (.aload_n 0, 1) := by decide +kernel
theorem dX6_pass_5 : decode cX6_pass 5 = .ok (.getfield 43, 3) := by decide +kernel
theorem dX6_pass_8 : decode cX6_pass 8 = .ok (.invokevirtual 70, 3) := by decide +kernel
theorem dX6_pass_11 : decode cX6_pass 11 = .ok (.iload_n 1, 1) := by decide +kernel
theorem dX6_pass_12 : decode cX6_pass 12 = .ok (.if_icmp .ne 16, 3) := by decide +kernel
theorem dX6_pass_15 : decode cX6_pass 15 = .ok (.aload_n 0, 1) := by decide +kernel
theorem dX6_pass_16 : decode cX6_pass 16 = .ok (.dup, 1) := by decide +kernel
theorem dX6_pass_17 : decode cX6_pass 17 = .ok (.getfield 43, 3) := by decide +kernel
theorem dX6_pass_20 : decode cX6_pass 20 = .ok (.iconst 1, 1) := by decide +kernel
theorem dX6_pass_21 : decode cX6_pass 21 = .ok (.iadd, 1) := by decide +kernel
theorem dX6_pass_22 : decode cX6_pass 22 = .ok (.putfield 43, 3) := by decide +kernel
theorem dX6_pass_25 : decode cX6_pass 25 = .ok (.goto 12, 3) := by decide +kernel
theorem dX6_pass_28 : decode cX6_pass 28 = .ok (.aload_n 0, 1) := by decide +kernel
theorem dX6_pass_29 : decode cX6_pass 29 = .ok (.aload_n 0, 1) := by decide +kernel
theorem dX6_pass_30 : decode cX6_pass 30 = .ok (.getfield 43, 3) := by decide +kernel
theorem dX6_pass_33 : decode cX6_pass 33 = .ok (.invokevirtual 67, 3) := by decide +kernel
theorem dX6_pass_36 : decode cX6_pass 36 = .ok (.pop, 1) := by decide +kernel
theorem dX6_pass_37 : decode cX6_pass 37 = .ok (.return_, 1) := by decide +kernel
theorem dX6_begin_0 : decode cX6_begin 0 = .ok (.aload_n 0, 1) := by decide +kernel
theorem dX6_begin_1 : decode cX6_begin 1 = .ok (.getfield 12, 3) := by decide +kernel
theorem dX6_begin_4 : decode cX6_begin 4 = .ok (.iload_n 1, 1) := by decide +kernel
theorem dX6_begin_5 : decode cX6_begin 5 = .ok (.invokevirtual 76, 3) := by decide +kernel
theorem dX6_begin_8 : decode cX6_begin 8 = .ok (.istore_n 2, 1) := by decide +kernel
theorem dX6_begin_9 : decode cX6_begin 9 = .ok (.aload_n 0, 1) := by decide +kernel
theorem dX6_begin_10 : decode cX6_begin 10 = .ok (.getfield 12, 3) := by decide +kernel
theorem dX6_begin_13 : decode cX6_begin 13 = .ok (.iload_n 2, 1) := by decide +kernel
theorem dX6_begin_14 : decode cX6_begin 14 = .ok (.aload_n 0, 1) := by decide +kernel
theorem dX6_begin_15 : decode cX6_begin 15 = .ok (.getfield 26, 3) := by decide +kernel
theorem dX6_begin_18 : decode cX6_begin 18 = .ok (.invokevirtual 79, 3) := by decide +kernel
theorem dX6_begin_21 : decode cX6_begin 21 = .ok (.iload_n 2, 1) := by decide +kernel
theorem dX6_begin_22 : decode cX6_begin 22 = .ok (.ireturn, 1) := by decide +kernel
theorem dX6_value_0 : decode cX6_value 0 = .ok (.aload_n 0, 1) := by decide +kernel
theorem dX6_value_1 : decode cX6_value 1 = .ok (.invokevirtual 60, 3) := by decide +kernel
theorem dX6_value_4 : decode cX6_value 4 = .ok (.aload_n 0, 1) := by decide +kernel
theorem dX6_value_5 : decode cX6_value 5 = .ok (.invokevirtual 63, 3) := by decide +kernel
theorem dX6_value_8 : decode cX6_value 8 = .ok (.istore_n 2, 1) := by decide +kernel
theorem dX6_value_9 : decode cX6_value 9 = .ok (.iload_n 2, 1) := by decide +kernel
theorem dX6_value_10 : decode cX6_value 10 = .ok (.iconst (-1), 1) := by decide +kernel
theorem dX6_value_11 : decode cX6_value 11 = .ok (.if_icmp .eq 12, 3) := by decide +kernel
theorem dX6_value_14 : decode cX6_value 14 = .ok (.aload_n 0, 1) := by decide +kernel
theorem dX6_value_15 : decode cX6_value 15 = .ok (.getfield 49, 3) := by decide +kernel
theorem dX6_value_18 : decode cX6_value 18 = .ok (.bipush 100, 2) := by decide +kernel
theorem dX6_value_20 : decode cX6_value 20 = .ok (.if_icmp .lt 12, 3) := by decide +kernel
theorem dX6_value_23 : decode cX6_value 23 = .ok (.aload_n 0, 1) := by decide +kernel
theorem dX6_value_24 : decode cX6_value 24 = .ok (.aload_n 0, 1) := by decide +kernel
theorem dX6_value_25 : decode cX6_value 25 = .ok (.getfield 43, 3) := by decide +kernel
theorem dX6_value_28 : decode cX6_value 28 = .ok (.invokevirtual 67, 3) := by decide +kernel
theorem dX6_value_31 : decode cX6_value 31 = .ok (.ireturn, 1) := by decide +kernel
theorem dX6_value_32 : decode cX6_value 32 = .ok (.aload_n 0, 1) := by decide +kernel
theorem dX6_value_33 : decode cX6_value 33 = .ok (.dup, 1) := by decide +kernel
theorem dX6_value_34 : decode cX6_value 34 = .ok (.getfield 49, 3) := by decide +kernel
theorem dX6_value_37 : decode cX6_value 37 = .ok (.iconst 1, 1) := by decide +kernel
theorem dX6_value_38 : decode cX6_value 38 = .ok (.iadd, 1) := by decide +kernel
theorem dX6_value_39 : decode cX6_value 39 = .ok (.putfield 49, 3) := by decide +kernel
theorem dX6_value_42 : decode cX6_value 42 = .ok (.iload_n 2, 1) := by decide +kernel
theorem dX6_value_43 : decode cX6_value 43 = .ok (.bipush 91, 2) := by decide +kernel
theorem dX6_value_45 : decode cX6_value 45 = .ok (.if_icmp .eq 9, 3) := by decide +kernel
theorem dX6_value_48 : decode cX6_value 48 = .ok (.iload_n 2, 1) := by decide +kernel
theorem dX6_value_49 : decode cX6_value 49 = .ok (.bipush 123, 2) := by decide +kernel
theorem dX6_value_51 : decode cX6_value 51 = .ok (.if_icmp .ne 39, 3) := by decide +kernel
theorem dX6_value_54 : decode cX6_value 54 = .ok (.iload_n 1, 1) := by decide +kernel
theorem dX6_value_55 : decode cX6_value 55 = .ok (.bipush 12, 2) := by decide +kernel
theorem dX6_value_57 : decode cX6_value 57 = .ok (.if_icmp .lt 14, 3) := by decide +kernel
theorem dX6_value_60 : decode cX6_value 60 = .ok (.aload_n 0, 1) := by decide +kernel
theorem dX6_value_61 : decode cX6_value 61 = .ok (.aload_n 0, 1) := by decide +kernel
theorem dX6_value_62 : decode cX6_value 62 = .ok (.getfield 43, 3) := by decide +kernel
theorem dX6_value_65 : decode cX6_value 65 = .ok (.invokevirtual 67, 3) := by decide +kernel
theorem dX6_value_68 : decode cX6_value 68 = .ok (.goto 21, 3) := by decide +kernel
theorem dX6_value_71 : decode cX6_value 71 = .ok (.aload_n 0, 1) := by decide +kernel
theorem dX6_value_72 : decode cX6_value 72 = .ok (.iload_n 2, 1) := by decide +kernel
theorem dX6_value_73 : decode cX6_value 73 = .ok (.bipush 91, 2) := by decide +kernel
theorem dX6_value_75 : decode cX6_value 75 = .ok (.if_icmp .ne 7, 3) := by decide +kernel
theorem dX6_value_78 : decode cX6_value 78 = .ok (.iconst 4, 1) := by decide +kernel
theorem dX6_value_79 : decode cX6_value 79 = .ok (.goto 4, 3) := by decide +kernel
theorem dX6_value_82 : decode cX6_value 82 = .ok (.iconst 5, 1) := by decide +kernel
theorem dX6_value_83 : decode cX6_value 83 = .ok (.iload_n 1, 1) := by decide +kernel
theorem dX6_value_84 : decode cX6_value 84 = .ok (.iconst 1, 1) := by decide +kernel
theorem dX6_value_85 : decode cX6_value 85 = .ok (.iadd, 1) := by decide +kernel
theorem dX6_value_86 : decode cX6_value 86 = .ok (.invokevirtual 83, 3) := by decide +kernel
theorem dX6_value_89 : decode cX6_value 89 = .ok (.ireturn, 1) := by decide +kernel
theorem dX6_value_90 : decode cX6_value 90 = .ok (.iload_n 2, 1) := by decide +kernel
theorem dX6_value_91 : decode cX6_value 91 = .ok (.bipush 34, 2) := by decide +kernel
theorem dX6_value_93 : decode cX6_value 93 = .ok (.if_icmp .ne 8, 3) := by decide +kernel
theorem dX6_value_96 : decode cX6_value 96 = .ok (.aload_n 0, 1) := by decide +kernel
theorem dX6_value_97 : decode cX6_value 97 = .ok (.invokevirtual 87, 3) := by decide +kernel
theorem dX6_value_100 : decode cX6_value 100 = .ok (.ireturn, 1) := by decide +kernel
theorem dX6_value_101 : decode cX6_value 101 = .ok (.iload_n 2, 1) := by decide +kernel
theorem dX6_value_102 : decode cX6_value 102 = .ok (.bipush 45, 2) := by decide +kernel
theorem dX6_value_104 : decode cX6_value 104 = .ok (.if_icmp .eq 10, 3) := by decide +kernel
theorem dX6_value_107 : decode cX6_value 107 = .ok (.iload_n 2, 1) := by decide +kernel
theorem dX6_value_108 : decode cX6_value 108 = .ok (.invokestatic 90, 3) := by decide +kernel
theorem dX6_value_111 : decode cX6_value 111 = .ok (.ifCond .eq 10, 3) := by decide +kernel
theorem dX6_value_114 : decode cX6_value 114 = .ok (.aload_n 0, 1) := by decide +kernel
theorem dX6_value_115 : decode cX6_value 115 = .ok (.invokevirtual 94, 3) := by decide +kernel
theorem dX6_value_118 : decode cX6_value 118 = .ok (.goto 8, 3) := by decide +kernel
theorem dX6_value_121 : decode cX6_value 121 = .ok (.aload_n 0, 1) := by decide +kernel
theorem dX6_value_122 : decode cX6_value 122 = .ok (.iload_n 2, 1) := by decide +kernel
theorem dX6_value_123 : decode cX6_value 123 = .ok (.invokevirtual 97, 3) := by decide +kernel
theorem dX6_value_126 : decode cX6_value 126 = .ok (.ireturn, 1) := by decide +kernel
theorem dX6_constant_0 : decode cX6_constant 0 = .ok (.iload_n 1, 1) := by decide +kernel
theorem dX6_constant_1 : decode cX6_constant 1 = .ok (.bipush 110, 2) := by decide +kernel
theorem dX6_constant_3 : decode cX6_constant 3 = .ok (.if_icmp .ne 15, 3) := by decide +kernel
theorem dX6_constant_6 : decode cX6_constant 6 = .ok (.aload_n 0, 1) := by decide +kernel
theorem dX6_constant_7 : decode cX6_constant 7 = .ok (.ldc 100, 2) := by decide +kernel
theorem dX6_constant_9 : decode cX6_constant 9 = .ok (.invokevirtual 102, 3) := by decide +kernel
theorem dX6_constant_12 : decode cX6_constant 12 = .ok (.aload_n 0, 1) := by decide +kernel
theorem dX6_constant_13 : decode cX6_constant 13 = .ok (.iconst 0, 1) := by decide +kernel
theorem dX6_constant_14 : decode cX6_constant 14 = .ok (.invokevirtual 106, 3) := by decide +kernel
theorem dX6_constant_17 : decode cX6_constant 17 = .ok (.ireturn, 1) := by decide +kernel
theorem dX6_constant_18 : decode cX6_constant 18 = .ok (.iload_n 1, 1) := by decide +kernel
theorem dX6_constant_19 : decode cX6_constant 19 = .ok (.bipush 116, 2) := by decide +kernel
theorem dX6_constant_21 : decode cX6_constant 21 = .ok (.if_icmp .eq 18, 3) := by decide +kernel
theorem dX6_constant_24 : decode cX6_constant 24 = .ok (.iload_n 1, 1) := by decide +kernel
theorem dX6_constant_25 : decode cX6_constant 25 = .ok (.bipush 102, 2) := by decide +kernel
theorem dX6_constant_27 : decode cX6_constant 27 = .ok (.if_icmp .eq 12, 3) := by decide +kernel
theorem dX6_constant_30 : decode cX6_constant 30 = .ok (.aload_n 0, 1) := by decide +kernel
theorem dX6_constant_31 : decode cX6_constant 31 = .ok (.aload_n 0, 1) := by decide +kernel
theorem dX6_constant_32 : decode cX6_constant 32 = .ok (.getfield 43, 3) := by decide +kernel
theorem dX6_constant_35 : decode cX6_constant 35 = .ok (.invokevirtual 67, 3) := by decide +kernel
theorem dX6_constant_38 : decode cX6_constant 38 = .ok (.ireturn, 1) := by decide +kernel
theorem dX6_constant_39 : decode cX6_constant 39 = .ok (.aload_n 0, 1) := by decide +kernel
theorem dX6_constant_40 : decode cX6_constant 40 = .ok (.iload_n 1, 1) := by decide +kernel
theorem dX6_constant_41 : decode cX6_constant 41 = .ok (.bipush 116, 2) := by decide +kernel
theorem dX6_constant_43 : decode cX6_constant 43 = .ok (.if_icmp .ne 8, 3) := by decide +kernel
theorem dX6_constant_46 : decode cX6_constant 46 = .ok (.ldc 109, 2) := by decide +kernel
theorem dX6_constant_48 : decode cX6_constant 48 = .ok (.goto 5, 3) := by decide +kernel
theorem dX6_constant_51 : decode cX6_constant 51 = .ok (.ldc 111, 2) := by decide +kernel
theorem dX6_constant_53 : decode cX6_constant 53 = .ok (.invokevirtual 102, 3) := by decide +kernel
theorem dX6_constant_56 : decode cX6_constant 56 = .ok (.aload_n 0, 1) := by decide +kernel
theorem dX6_constant_57 : decode cX6_constant 57 = .ok (.getfield 12, 3) := by decide +kernel
theorem dX6_constant_60 : decode cX6_constant 60 = .ok (.iload_n 1, 1) := by decide +kernel
theorem dX6_constant_61 : decode cX6_constant 61 = .ok (.bipush 116, 2) := by decide +kernel
theorem dX6_constant_63 : decode cX6_constant 63 = .ok (.if_icmp .ne 7, 3) := by decide +kernel
theorem dX6_constant_66 : decode cX6_constant 66 = .ok (.iconst 1, 1) := by decide +kernel
theorem dX6_constant_67 : decode cX6_constant 67 = .ok (.goto 4, 3) := by decide +kernel
theorem dX6_constant_70 : decode cX6_constant 70 = .ok (.iconst 0, 1) := by decide +kernel
theorem dX6_constant_71 : decode cX6_constant 71 = .ok (.invokevirtual 113, 3) := by decide +kernel
theorem dX6_constant_74 : decode cX6_constant 74 = .ok (.istore_n 2, 1) := by decide +kernel
theorem dX6_constant_75 : decode cX6_constant 75 = .ok (.aload_n 0, 1) := by decide +kernel
theorem dX6_constant_76 : decode cX6_constant 76 = .ok (.getfield 12, 3) := by decide +kernel
theorem dX6_constant_79 : decode cX6_constant 79 = .ok (.iload_n 2, 1) := by decide +kernel
theorem dX6_constant_80 : decode cX6_constant 80 = .ok (.aload_n 0, 1) := by decide +kernel
theorem dX6_constant_81 : decode cX6_constant 81 = .ok (.getfield 26, 3) := by decide +kernel
theorem dX6_constant_84 : decode cX6_constant 84 = .ok (.invokevirtual 79, 3) := by decide +kernel
theorem dX6_constant_87 : decode cX6_constant 87 = .ok (.iload_n 2, 1) := by decide +kernel
theorem dX6_constant_88 : decode cX6_constant 88 = .ok (.ireturn, 1) := by decide +kernel
theorem dX6_passAll_0 : decode cX6_passAll 0 = .ok (.iconst 0, 1) := by decide +kernel
theorem dX6_passAll_1 : decode cX6_passAll 1 = .ok (.istore_n 2, 1) := by decide +kernel
theorem dX6_passAll_2 : decode cX6_passAll 2 = .ok (.iload_n 2, 1) := by decide +kernel
theorem dX6_passAll_3 : decode cX6_passAll 3 = .ok (.aload_n 1, 1) := by decide +kernel
theorem dX6_passAll_4 : decode cX6_passAll 4 = .ok (.invokevirtual 117, 3) := by decide +kernel
theorem dX6_passAll_7 : decode cX6_passAll 7 = .ok (.if_icmp .ge 25, 3) := by decide +kernel
theorem dX6_passAll_10 : decode cX6_passAll 10 = .ok (.aload_n 0, 1) := by decide +kernel
theorem dX6_passAll_11 : decode cX6_passAll 11 = .ok (.invokevirtual 120, 3) := by decide +kernel
theorem dX6_passAll_14 : decode cX6_passAll 14 = .ok (.ifCond .eq 18, 3) := by decide +kernel
theorem dX6_passAll_17 : decode cX6_passAll 17 = .ok (.aload_n 0, 1) := by decide +kernel
theorem dX6_passAll_18 : decode cX6_passAll 18 = .ok (.aload_n 1, 1) := by decide +kernel
theorem dX6_passAll_19 : decode cX6_passAll 19 = .ok (.iload_n 2, 1) := by decide +kernel
theorem dX6_passAll_20 : decode cX6_passAll 20 = .ok (.invokevirtual 124, 3) := by decide +kernel
theorem dX6_passAll_23 : decode cX6_passAll 23 = .ok (.invokevirtual 128, 3) := by decide +kernel
theorem dX6_passAll_26 : decode cX6_passAll 26 = .ok (.iinc 2 1, 3) := by decide +kernel
theorem dX6_passAll_29 : decode cX6_passAll 29 = .ok (.goto (-27), 3) := by decide +kernel
theorem dX6_passAll_32 : decode cX6_passAll 32 = .ok (.return_, 1) := by decide +kernel
theorem dX6_text_0 : decode cX6_text 0 = .ok (.aload_n 0, 1) := by decide +kernel
theorem dX6_text_1 : decode cX6_text 1 = .ok (.iconst 3, 1) := by decide +kernel
theorem dX6_text_2 : decode cX6_text 2 = .ok (.invokevirtual 106, 3) := by decide +kernel
theorem dX6_text_5 : decode cX6_text 5 = .ok (.istore_n 1, 1) := by decide +kernel
theorem dX6_text_6 : decode cX6_text 6 = .ok (.aload_n 0, 1) := by decide +kernel
theorem dX6_text_7 : decode cX6_text 7 = .ok (.aload_n 0, 1) := by decide +kernel
theorem dX6_text_8 : decode cX6_text 8 = .ok (.getfield 30, 3) := by decide +kernel
theorem dX6_text_11 : decode cX6_text 11 = .ok (.bipush 40, 2) := by decide +kernel
theorem dX6_text_13 : decode cX6_text 13 = .ok (.invokevirtual 131, 3) := by decide +kernel
theorem dX6_text_16 : decode cX6_text 16 = .ok (.iconst 0, 1) := by decide +kernel
theorem dX6_text_17 : decode cX6_text 17 = .ok (.istore_n 2, 1) := by decide +kernel
theorem dX6_text_18 : decode cX6_text 18 = .ok (.iload_n 2, 1) := by decide +kernel
theorem dX6_text_19 : decode cX6_text 19 = .ok (.aload_n 0, 1) := by decide +kernel
theorem dX6_text_20 : decode cX6_text 20 = .ok (.getfield 30, 3) := by decide +kernel
theorem dX6_text_23 : decode cX6_text 23 = .ok (.invokevirtual 73, 3) := by decide +kernel
theorem dX6_text_26 : decode cX6_text 26 = .ok (.if_icmp .ge 32, 3) := by decide +kernel
theorem dX6_text_29 : decode cX6_text 29 = .ok (.aload_n 0, 1) := by decide +kernel
theorem dX6_text_30 : decode cX6_text 30 = .ok (.invokevirtual 120, 3) := by decide +kernel
theorem dX6_text_33 : decode cX6_text 33 = .ok (.ifCond .eq 25, 3) := by decide +kernel
theorem dX6_text_36 : decode cX6_text 36 = .ok (.aload_n 0, 1) := by decide +kernel
theorem dX6_text_37 : decode cX6_text 37 = .ok (.getfield 12, 3) := by decide +kernel
theorem dX6_text_40 : decode cX6_text 40 = .ok (.iload_n 1, 1) := by decide +kernel
theorem dX6_text_41 : decode cX6_text 41 = .ok (.aload_n 0, 1) := by decide +kernel
theorem dX6_text_42 : decode cX6_text 42 = .ok (.getfield 30, 3) := by decide +kernel
theorem dX6_text_45 : decode cX6_text 45 = .ok (.iload_n 2, 1) := by decide +kernel
theorem dX6_text_46 : decode cX6_text 46 = .ok (.invokevirtual 70, 3) := by decide +kernel
theorem dX6_text_49 : decode cX6_text 49 = .ok (.invokevirtual 135, 3) := by decide +kernel
theorem dX6_text_52 : decode cX6_text 52 = .ok (.iinc 2 1, 3) := by decide +kernel
theorem dX6_text_55 : decode cX6_text 55 = .ok (.goto (-37), 3) := by decide +kernel
theorem dX6_text_58 : decode cX6_text 58 = .ok (.iload_n 1, 1) := by decide +kernel
theorem dX6_text_59 : decode cX6_text 59 = .ok (.ireturn, 1) := by decide +kernel
theorem dX6_readSigns_0 : decode cX6_readSigns 0 = .ok (.aload_n 1, 1) := by decide +kernel
theorem dX6_readSigns_1 : decode cX6_readSigns 1 = .ok (.invokevirtual 55, 3) := by decide +kernel
theorem dX6_readSigns_4 : decode cX6_readSigns 4 = .ok (.aload_n 0, 1) := by decide +kernel
theorem dX6_readSigns_5 : decode cX6_readSigns 5 = .ok (.bipush 34, 2) := by decide +kernel
theorem dX6_readSigns_7 : decode cX6_readSigns 7 = .ok (.invokevirtual 128, 3) := by decide +kernel
theorem dX6_readSigns_10 : decode cX6_readSigns 10 = .ok (.aload_n 0, 1) := by decide +kernel
theorem dX6_readSigns_11 : decode cX6_readSigns 11 = .ok (.getfield 43, 3) := by decide +kernel
theorem dX6_readSigns_14 : decode cX6_readSigns 14 = .ok (.aload_n 0, 1) := by decide +kernel
theorem dX6_readSigns_15 : decode cX6_readSigns 15 = .ok (.getfield 36, 3) := by decide +kernel
theorem dX6_readSigns_18 : decode cX6_readSigns 18 = .ok (.invokevirtual 73, 3) := by decide +kernel
theorem dX6_readSigns_21 : decode cX6_readSigns 21 = .ok (.if_icmp .ge 108, 3) := by decide +kernel
theorem dX6_readSigns_24 : decode cX6_readSigns 24 = .ok (.aload_n 0, 1) := by decide +kernel
theorem dX6_readSigns_25 : decode cX6_readSigns 25 = .ok (.invokevirtual 63, 3) := by decide +kernel
theorem dX6_readSigns_28 : decode cX6_readSigns 28 = .ok (.bipush 34, 2) := by decide +kernel
theorem dX6_readSigns_30 : decode cX6_readSigns 30 = .ok (.if_icmp .eq 99, 3) := by decide +kernel
theorem dX6_readSigns_33 : decode cX6_readSigns 33 = .ok (.aload_n 0, 1) := by decide +kernel
theorem dX6_readSigns_34 : decode cX6_readSigns 34 = .ok (.invokevirtual 120, 3) := by decide +kernel
theorem dX6_readSigns_37 : decode cX6_readSigns 37 = .ok (.ifCond .eq 92, 3) := by decide +kernel
theorem dX6_readSigns_40 : decode cX6_readSigns 40 = .ok (.aload_n 1, 1) := by decide +kernel
theorem dX6_readSigns_41 : decode cX6_readSigns 41 = .ok (.invokevirtual 73, 3) := by decide +kernel
theorem dX6_readSigns_44 : decode cX6_readSigns 44 = .ok (.iload_n 2, 1) := by decide +kernel
theorem dX6_readSigns_45 : decode cX6_readSigns 45 = .ok (.if_icmp .ge 12, 3) := by decide +kernel
theorem dX6_readSigns_48 : decode cX6_readSigns 48 = .ok (.aload_n 0, 1) := by decide +kernel
theorem dX6_readSigns_49 : decode cX6_readSigns 49 = .ok (.invokevirtual 63, 3) := by decide +kernel
theorem dX6_readSigns_52 : decode cX6_readSigns 52 = .ok (.bipush 32, 2) := by decide +kernel
theorem dX6_readSigns_54 : decode cX6_readSigns 54 = .ok (.if_icmp .ge 15, 3) := by decide +kernel
theorem dX6_readSigns_57 : decode cX6_readSigns 57 = .ok (.aload_n 0, 1) := by decide +kernel
theorem dX6_readSigns_58 : decode cX6_readSigns 58 = .ok (.aload_n 0, 1) := by decide +kernel
theorem dX6_readSigns_59 : decode cX6_readSigns 59 = .ok (.getfield 43, 3) := by decide +kernel
theorem dX6_readSigns_62 : decode cX6_readSigns 62 = .ok (.invokevirtual 67, 3) := by decide +kernel
theorem dX6_readSigns_65 : decode cX6_readSigns 65 = .ok (.pop, 1) := by decide +kernel
theorem dX6_readSigns_66 : decode cX6_readSigns 66 = .ok (.goto (-56), 3) := by decide +kernel
theorem dX6_readSigns_69 : decode cX6_readSigns 69 = .ok (.aload_n 0, 1) := by decide +kernel
theorem dX6_readSigns_70 : decode cX6_readSigns 70 = .ok (.invokevirtual 63, 3) := by decide +kernel
theorem dX6_readSigns_73 : decode cX6_readSigns 73 = .ok (.bipush 92, 2) := by decide +kernel
theorem dX6_readSigns_75 : decode cX6_readSigns 75 = .ok (.if_icmp .ne 33, 3) := by decide +kernel
theorem dX6_readSigns_78 : decode cX6_readSigns 78 = .ok (.aload_n 0, 1) := by decide +kernel
theorem dX6_readSigns_79 : decode cX6_readSigns 79 = .ok (.dup, 1) := by decide +kernel
theorem dX6_readSigns_80 : decode cX6_readSigns 80 = .ok (.getfield 43, 3) := by decide +kernel
theorem dX6_readSigns_83 : decode cX6_readSigns 83 = .ok (.iconst 1, 1) := by decide +kernel
theorem dX6_readSigns_84 : decode cX6_readSigns 84 = .ok (.iadd, 1) := by decide +kernel
theorem dX6_readSigns_85 : decode cX6_readSigns 85 = .ok (.putfield 43, 3) := by decide +kernel
theorem dX6_readSigns_88 : decode cX6_readSigns 88 = .ok (.aload_n 0, 1) := by decide +kernel
theorem dX6_readSigns_89 : decode cX6_readSigns 89 = .ok (.invokevirtual 139, 3) := by decide +kernel
theorem dX6_readSigns_92 : decode cX6_readSigns 92 = .ok (.istore_n 3, 1) := by decide +kernel
theorem dX6_readSigns_93 : decode cX6_readSigns 93 = .ok (.aload_n 0, 1) := by decide +kernel
theorem dX6_readSigns_94 : decode cX6_readSigns 94 = .ok (.invokevirtual 120, 3) := by decide +kernel
theorem dX6_readSigns_97 : decode cX6_readSigns 97 = .ok (.ifCond .eq 8, 3) := by decide +kernel
theorem dX6_readSigns_100 : decode cX6_readSigns 100 = .ok (.aload_n 1, 1) := by decide +kernel
theorem dX6_readSigns_101 : decode cX6_readSigns 101 = .ok (.iload_n 3, 1) := by decide +kernel
theorem dX6_readSigns_102 : decode cX6_readSigns 102 = .ok (.invokevirtual 142, 3) := by decide +kernel
theorem dX6_readSigns_105 : decode cX6_readSigns 105 = .ok (.goto (-95), 3) := by decide +kernel
theorem dX6_readSigns_108 : decode cX6_readSigns 108 = .ok (.aload_n 1, 1) := by decide +kernel
theorem dX6_readSigns_109 : decode cX6_readSigns 109 = .ok (.aload_n 0, 1) := by decide +kernel
theorem dX6_readSigns_110 : decode cX6_readSigns 110 = .ok (.invokevirtual 63, 3) := by decide +kernel
theorem dX6_readSigns_113 : decode cX6_readSigns 113 = .ok (.invokevirtual 142, 3) := by decide +kernel
theorem dX6_readSigns_116 : decode cX6_readSigns 116 = .ok (.aload_n 0, 1) := by decide +kernel
theorem dX6_readSigns_117 : decode cX6_readSigns 117 = .ok (.dup, 1) := by decide +kernel
theorem dX6_readSigns_118 : decode cX6_readSigns 118 = .ok (.getfield 43, 3) := by decide +kernel
theorem dX6_readSigns_121 : decode cX6_readSigns 121 = .ok (.iconst 1, 1) := by decide +kernel
theorem dX6_readSigns_122 : decode cX6_readSigns 122 = .ok (.iadd, 1) := by decide +kernel
theorem dX6_readSigns_123 : decode cX6_readSigns 123 = .ok (.putfield 43, 3) := by decide +kernel
theorem dX6_readSigns_126 : decode cX6_readSigns 126 = .ok (.goto (-116), 3) := by decide +kernel
theorem dX6_readSigns_129 : decode cX6_readSigns 129 = .ok (.aload_n 0, 1) := by decide +kernel
theorem dX6_readSigns_130 : decode cX6_readSigns 130 = .ok (.bipush 34, 2) := by decide +kernel
theorem dX6_readSigns_132 : decode cX6_readSigns 132 = .ok (.invokevirtual 128, 3) := by decide +kernel
theorem dX6_readSigns_135 : decode cX6_readSigns 135 = .ok (.return_, 1) := by decide +kernel
theorem dX6_escaped_0 : decode cX6_escaped 0 = .ok (.aload_n 0, 1) := by decide +kernel
theorem dX6_escaped_1 : decode cX6_escaped 1 = .ok (.invokevirtual 63, 3) := by decide +kernel
theorem dX6_escaped_4 : decode cX6_escaped 4 = .ok (.istore_n 1, 1) := by decide +kernel
theorem dX6_escaped_5 : decode cX6_escaped 5 = .ok (.aload_n 0, 1) := by decide +kernel
theorem dX6_escaped_6 : decode cX6_escaped 6 = .ok (.dup, 1) := by decide +kernel
theorem dX6_escaped_7 : decode cX6_escaped 7 = .ok (.getfield 43, 3) := by decide +kernel
theorem dX6_escaped_10 : decode cX6_escaped 10 = .ok (.iconst 1, 1) := by decide +kernel
theorem dX6_escaped_11 : decode cX6_escaped 11 = .ok (.iadd, 1) := by decide +kernel
theorem dX6_escaped_12 : decode cX6_escaped 12 = .ok (.putfield 43, 3) := by decide +kernel
theorem dX6_escaped_15 : decode cX6_escaped 15 = .ok (.iload_n 1, 1) := by decide +kernel
theorem dX6_escaped_16 : decode cX6_escaped 16 = .ok (.lookupswitch 128 #[(34, 84), (47, 84), (92, 84), (98, 86), (102, 89), (110, 92), (114, 95), (116, 98), (117, 101)], 84) := by decide +kernel
theorem dX6_escaped_100 : decode cX6_escaped 100 = .ok (.iload_n 1, 1) := by decide +kernel
theorem dX6_escaped_101 : decode cX6_escaped 101 = .ok (.ireturn, 1) := by decide +kernel
theorem dX6_escaped_102 : decode cX6_escaped 102 = .ok (.bipush 8, 2) := by decide +kernel
theorem dX6_escaped_104 : decode cX6_escaped 104 = .ok (.ireturn, 1) := by decide +kernel
theorem dX6_escaped_105 : decode cX6_escaped 105 = .ok (.bipush 12, 2) := by decide +kernel
theorem dX6_escaped_107 : decode cX6_escaped 107 = .ok (.ireturn, 1) := by decide +kernel
theorem dX6_escaped_108 : decode cX6_escaped 108 = .ok (.bipush 10, 2) := by decide +kernel
theorem dX6_escaped_110 : decode cX6_escaped 110 = .ok (.ireturn, 1) := by decide +kernel
theorem dX6_escaped_111 : decode cX6_escaped 111 = .ok (.bipush 13, 2) := by decide +kernel
theorem dX6_escaped_113 : decode cX6_escaped 113 = .ok (.ireturn, 1) := by decide +kernel
theorem dX6_escaped_114 : decode cX6_escaped 114 = .ok (.bipush 9, 2) := by decide +kernel
theorem dX6_escaped_116 : decode cX6_escaped 116 = .ok (.ireturn, 1) := by decide +kernel
theorem dX6_escaped_117 : decode cX6_escaped 117 = .ok (.aload_n 0, 1) := by decide +kernel
theorem dX6_escaped_118 : decode cX6_escaped 118 = .ok (.bipush 48, 2) := by decide +kernel
theorem dX6_escaped_120 : decode cX6_escaped 120 = .ok (.invokevirtual 128, 3) := by decide +kernel
theorem dX6_escaped_123 : decode cX6_escaped 123 = .ok (.aload_n 0, 1) := by decide +kernel
theorem dX6_escaped_124 : decode cX6_escaped 124 = .ok (.bipush 48, 2) := by decide +kernel
theorem dX6_escaped_126 : decode cX6_escaped 126 = .ok (.invokevirtual 128, 3) := by decide +kernel
theorem dX6_escaped_129 : decode cX6_escaped 129 = .ok (.aload_n 0, 1) := by decide +kernel
theorem dX6_escaped_130 : decode cX6_escaped 130 = .ok (.invokevirtual 144, 3) := by decide +kernel
theorem dX6_escaped_133 : decode cX6_escaped 133 = .ok (.istore_n 2, 1) := by decide +kernel
theorem dX6_escaped_134 : decode cX6_escaped 134 = .ok (.bipush 16, 2) := by decide +kernel
theorem dX6_escaped_136 : decode cX6_escaped 136 = .ok (.iload_n 2, 1) := by decide +kernel
theorem dX6_escaped_137 : decode cX6_escaped 137 = .ok (.imul, 1) := by decide +kernel
theorem dX6_escaped_138 : decode cX6_escaped 138 = .ok (.aload_n 0, 1) := by decide +kernel
theorem dX6_escaped_139 : decode cX6_escaped 139 = .ok (.invokevirtual 144, 3) := by decide +kernel
theorem dX6_escaped_142 : decode cX6_escaped 142 = .ok (.iadd, 1) := by decide +kernel
theorem dX6_escaped_143 : decode cX6_escaped 143 = .ok (.ireturn, 1) := by decide +kernel
theorem dX6_escaped_144 : decode cX6_escaped 144 = .ok (.aload_n 0, 1) := by decide +kernel
theorem dX6_escaped_145 : decode cX6_escaped 145 = .ok (.aload_n 0, 1) := by decide +kernel
theorem dX6_escaped_146 : decode cX6_escaped 146 = .ok (.getfield 43, 3) := by decide +kernel
theorem dX6_escaped_149 : decode cX6_escaped 149 = .ok (.iconst 1, 1) := by decide +kernel
theorem dX6_escaped_150 : decode cX6_escaped 150 = .ok (.isub, 1) := by decide +kernel
theorem dX6_escaped_151 : decode cX6_escaped 151 = .ok (.invokevirtual 67, 3) := by decide +kernel
theorem dX6_escaped_154 : decode cX6_escaped 154 = .ok (.ireturn, 1) := by decide +kernel
theorem dX6_hexFigure_0 : decode cX6_hexFigure 0 = .ok (.aload_n 0, 1) := by decide +kernel
theorem dX6_hexFigure_1 : decode cX6_hexFigure 1 = .ok (.getfield 36, 3) := by decide +kernel
theorem dX6_hexFigure_4 : decode cX6_hexFigure 4 = .ok (.aload_n 0, 1) := by decide +kernel
theorem dX6_hexFigure_5 : decode cX6_hexFigure 5 = .ok (.getfield 43, 3) := by decide +kernel
theorem dX6_hexFigure_8 : decode cX6_hexFigure 8 = .ok (.invokevirtual 70, 3) := by decide +kernel
theorem dX6_hexFigure_11 : decode cX6_hexFigure 11 = .ok (.istore_n 1, 1) := by decide +kernel
theorem dX6_hexFigure_12 : decode cX6_hexFigure 12 = .ok (.aload_n 0, 1) := by decide +kernel
theorem dX6_hexFigure_13 : decode cX6_hexFigure 13 = .ok (.invokevirtual 120, 3) := by decide +kernel
theorem dX6_hexFigure_16 : decode cX6_hexFigure 16 = .ok (.ifCond .eq 25, 3) := by decide +kernel
theorem dX6_hexFigure_19 : decode cX6_hexFigure 19 = .ok (.iload_n 1, 1) := by decide +kernel
theorem dX6_hexFigure_20 : decode cX6_hexFigure 20 = .ok (.invokestatic 90, 3) := by decide +kernel
theorem dX6_hexFigure_23 : decode cX6_hexFigure 23 = .ok (.ifCond .eq 18, 3) := by decide +kernel
theorem dX6_hexFigure_26 : decode cX6_hexFigure 26 = .ok (.aload_n 0, 1) := by decide +kernel
theorem dX6_hexFigure_27 : decode cX6_hexFigure 27 = .ok (.dup, 1) := by decide +kernel
theorem dX6_hexFigure_28 : decode cX6_hexFigure 28 = .ok (.getfield 43, 3) := by decide +kernel
theorem dX6_hexFigure_31 : decode cX6_hexFigure 31 = .ok (.iconst 1, 1) := by decide +kernel
theorem dX6_hexFigure_32 : decode cX6_hexFigure 32 = .ok (.iadd, 1) := by decide +kernel
theorem dX6_hexFigure_33 : decode cX6_hexFigure 33 = .ok (.putfield 43, 3) := by decide +kernel
theorem dX6_hexFigure_36 : decode cX6_hexFigure 36 = .ok (.iload_n 1, 1) := by decide +kernel
theorem dX6_hexFigure_37 : decode cX6_hexFigure 37 = .ok (.bipush 48, 2) := by decide +kernel
theorem dX6_hexFigure_39 : decode cX6_hexFigure 39 = .ok (.isub, 1) := by decide +kernel
theorem dX6_hexFigure_40 : decode cX6_hexFigure 40 = .ok (.ireturn, 1) := by decide +kernel
theorem dX6_hexFigure_41 : decode cX6_hexFigure 41 = .ok (.aload_n 0, 1) := by decide +kernel
theorem dX6_hexFigure_42 : decode cX6_hexFigure 42 = .ok (.invokevirtual 120, 3) := by decide +kernel
theorem dX6_hexFigure_45 : decode cX6_hexFigure 45 = .ok (.ifCond .eq 56, 3) := by decide +kernel
theorem dX6_hexFigure_48 : decode cX6_hexFigure 48 = .ok (.iload_n 1, 1) := by decide +kernel
theorem dX6_hexFigure_49 : decode cX6_hexFigure 49 = .ok (.bipush 97, 2) := by decide +kernel
theorem dX6_hexFigure_51 : decode cX6_hexFigure 51 = .ok (.if_icmp .lt 9, 3) := by decide +kernel
theorem dX6_hexFigure_54 : decode cX6_hexFigure 54 = .ok (.iload_n 1, 1) := by decide +kernel
theorem dX6_hexFigure_55 : decode cX6_hexFigure 55 = .ok (.bipush 102, 2) := by decide +kernel
theorem dX6_hexFigure_57 : decode cX6_hexFigure 57 = .ok (.if_icmp .le 15, 3) := by decide +kernel
theorem dX6_hexFigure_60 : decode cX6_hexFigure 60 = .ok (.iload_n 1, 1) := by decide +kernel
theorem dX6_hexFigure_61 : decode cX6_hexFigure 61 = .ok (.bipush 65, 2) := by decide +kernel
theorem dX6_hexFigure_63 : decode cX6_hexFigure 63 = .ok (.if_icmp .lt 38, 3) := by decide +kernel
theorem dX6_hexFigure_66 : decode cX6_hexFigure 66 = .ok (.iload_n 1, 1) := by decide +kernel
theorem dX6_hexFigure_67 : decode cX6_hexFigure 67 = .ok (.bipush 70, 2) := by decide +kernel
theorem dX6_hexFigure_69 : decode cX6_hexFigure 69 = .ok (.if_icmp .gt 32, 3) := by decide +kernel
theorem dX6_hexFigure_72 : decode cX6_hexFigure 72 = .ok (.aload_n 0, 1) := by decide +kernel
theorem dX6_hexFigure_73 : decode cX6_hexFigure 73 = .ok (.dup, 1) := by decide +kernel
theorem dX6_hexFigure_74 : decode cX6_hexFigure 74 = .ok (.getfield 43, 3) := by decide +kernel
theorem dX6_hexFigure_77 : decode cX6_hexFigure 77 = .ok (.iconst 1, 1) := by decide +kernel
theorem dX6_hexFigure_78 : decode cX6_hexFigure 78 = .ok (.iadd, 1) := by decide +kernel
theorem dX6_hexFigure_79 : decode cX6_hexFigure 79 = .ok (.putfield 43, 3) := by decide +kernel
theorem dX6_hexFigure_82 : decode cX6_hexFigure 82 = .ok (.iload_n 1, 1) := by decide +kernel
theorem dX6_hexFigure_83 : decode cX6_hexFigure 83 = .ok (.iload_n 1, 1) := by decide +kernel
theorem dX6_hexFigure_84 : decode cX6_hexFigure 84 = .ok (.bipush 97, 2) := by decide +kernel
theorem dX6_hexFigure_86 : decode cX6_hexFigure 86 = .ok (.if_icmp .lt 8, 3) := by decide +kernel
theorem dX6_hexFigure_89 : decode cX6_hexFigure 89 = .ok (.bipush 97, 2) := by decide +kernel
theorem dX6_hexFigure_91 : decode cX6_hexFigure 91 = .ok (.goto 5, 3) := by decide +kernel
theorem dX6_hexFigure_94 : decode cX6_hexFigure 94 = .ok (.bipush 65, 2) := by decide +kernel
theorem dX6_hexFigure_96 : decode cX6_hexFigure 96 = .ok (.isub, 1) := by decide +kernel
theorem dX6_hexFigure_97 : decode cX6_hexFigure 97 = .ok (.bipush 10, 2) := by decide +kernel
theorem dX6_hexFigure_99 : decode cX6_hexFigure 99 = .ok (.iadd, 1) := by decide +kernel
theorem dX6_hexFigure_100 : decode cX6_hexFigure 100 = .ok (.ireturn, 1) := by decide +kernel
theorem dX6_hexFigure_101 : decode cX6_hexFigure 101 = .ok (.aload_n 0, 1) := by decide +kernel
theorem dX6_hexFigure_102 : decode cX6_hexFigure 102 = .ok (.aload_n 0, 1) := by decide +kernel
theorem dX6_hexFigure_103 : decode cX6_hexFigure 103 = .ok (.getfield 43, 3) := by decide +kernel
theorem dX6_hexFigure_106 : decode cX6_hexFigure 106 = .ok (.invokevirtual 67, 3) := by decide +kernel
theorem dX6_hexFigure_109 : decode cX6_hexFigure 109 = .ok (.pop, 1) := by decide +kernel
theorem dX6_hexFigure_110 : decode cX6_hexFigure 110 = .ok (.iconst 0, 1) := by decide +kernel
theorem dX6_hexFigure_111 : decode cX6_hexFigure 111 = .ok (.ireturn, 1) := by decide +kernel
theorem dX6_number_0 : decode cX6_number 0 = .ok (.aload_n 0, 1) := by decide +kernel
theorem dX6_number_1 : decode cX6_number 1 = .ok (.getfield 43, 3) := by decide +kernel
theorem dX6_number_4 : decode cX6_number 4 = .ok (.istore_n 1, 1) := by decide +kernel
theorem dX6_number_5 : decode cX6_number 5 = .ok (.aload_n 0, 1) := by decide +kernel
theorem dX6_number_6 : decode cX6_number 6 = .ok (.getfield 33, 3) := by decide +kernel
theorem dX6_number_9 : decode cX6_number 9 = .ok (.invokevirtual 55, 3) := by decide +kernel
theorem dX6_number_12 : decode cX6_number 12 = .ok (.aload_n 0, 1) := by decide +kernel
theorem dX6_number_13 : decode cX6_number 13 = .ok (.invokevirtual 63, 3) := by decide +kernel
theorem dX6_number_16 : decode cX6_number 16 = .ok (.bipush 45, 2) := by decide +kernel
theorem dX6_number_18 : decode cX6_number 18 = .ok (.if_icmp .ne 7, 3) := by decide +kernel
theorem dX6_number_21 : decode cX6_number 21 = .ok (.iconst 1, 1) := by decide +kernel
theorem dX6_number_22 : decode cX6_number 22 = .ok (.goto 4, 3) := by decide +kernel
theorem dX6_number_25 : decode cX6_number 25 = .ok (.iconst 0, 1) := by decide +kernel
theorem dX6_number_26 : decode cX6_number 26 = .ok (.istore_n 2, 1) := by decide +kernel
theorem dX6_number_27 : decode cX6_number 27 = .ok (.iload_n 2, 1) := by decide +kernel
theorem dX6_number_28 : decode cX6_number 28 = .ok (.ifCond .eq 13, 3) := by decide +kernel
theorem dX6_number_31 : decode cX6_number 31 = .ok (.aload_n 0, 1) := by decide +kernel
theorem dX6_number_32 : decode cX6_number 32 = .ok (.dup, 1) := by decide +kernel
theorem dX6_number_33 : decode cX6_number 33 = .ok (.getfield 43, 3) := by decide +kernel
theorem dX6_number_36 : decode cX6_number 36 = .ok (.iconst 1, 1) := by decide +kernel
theorem dX6_number_37 : decode cX6_number 37 = .ok (.iadd, 1) := by decide +kernel
theorem dX6_number_38 : decode cX6_number 38 = .ok (.putfield 43, 3) := by decide +kernel
theorem dX6_number_41 : decode cX6_number 41 = .ok (.aload_n 0, 1) := by decide +kernel
theorem dX6_number_42 : decode cX6_number 42 = .ok (.invokevirtual 63, 3) := by decide +kernel
theorem dX6_number_45 : decode cX6_number 45 = .ok (.bipush 48, 2) := by decide +kernel
theorem dX6_number_47 : decode cX6_number 47 = .ok (.if_icmp .ne 10, 3) := by decide +kernel
theorem dX6_number_50 : decode cX6_number 50 = .ok (.aload_n 0, 1) := by decide +kernel
theorem dX6_number_51 : decode cX6_number 51 = .ok (.invokevirtual 147, 3) := by decide +kernel
theorem dX6_number_54 : decode cX6_number 54 = .ok (.goto 7, 3) := by decide +kernel
theorem dX6_number_57 : decode cX6_number 57 = .ok (.aload_n 0, 1) := by decide +kernel
theorem dX6_number_58 : decode cX6_number 58 = .ok (.invokevirtual 150, 3) := by decide +kernel
theorem dX6_number_61 : decode cX6_number 61 = .ok (.aload_n 0, 1) := by decide +kernel
theorem dX6_number_62 : decode cX6_number 62 = .ok (.getfield 33, 3) := by decide +kernel
theorem dX6_number_65 : decode cX6_number 65 = .ok (.invokevirtual 73, 3) := by decide +kernel
theorem dX6_number_68 : decode cX6_number 68 = .ok (.istore_n 3, 1) := by decide +kernel
theorem dX6_number_69 : decode cX6_number 69 = .ok (.aload_n 0, 1) := by decide +kernel
theorem dX6_number_70 : decode cX6_number 70 = .ok (.invokevirtual 63, 3) := by decide +kernel
theorem dX6_number_73 : decode cX6_number 73 = .ok (.bipush 46, 2) := by decide +kernel
theorem dX6_number_75 : decode cX6_number 75 = .ok (.if_icmp .ne 24, 3) := by decide +kernel
theorem dX6_number_78 : decode cX6_number 78 = .ok (.aload_n 0, 1) := by decide +kernel
theorem dX6_number_79 : decode cX6_number 79 = .ok (.invokevirtual 120, 3) := by decide +kernel
theorem dX6_number_82 : decode cX6_number 82 = .ok (.ifCond .eq 17, 3) := by decide +kernel
theorem dX6_number_85 : decode cX6_number 85 = .ok (.aload_n 0, 1) := by decide +kernel
theorem dX6_number_86 : decode cX6_number 86 = .ok (.dup, 1) := by decide +kernel
theorem dX6_number_87 : decode cX6_number 87 = .ok (.getfield 43, 3) := by decide +kernel
theorem dX6_number_90 : decode cX6_number 90 = .ok (.iconst 1, 1) := by decide +kernel
theorem dX6_number_91 : decode cX6_number 91 = .ok (.iadd, 1) := by decide +kernel
theorem dX6_number_92 : decode cX6_number 92 = .ok (.putfield 43, 3) := by decide +kernel
theorem dX6_number_95 : decode cX6_number 95 = .ok (.aload_n 0, 1) := by decide +kernel
theorem dX6_number_96 : decode cX6_number 96 = .ok (.invokevirtual 150, 3) := by decide +kernel
theorem dX6_number_99 : decode cX6_number 99 = .ok (.iload_n 3, 1) := by decide +kernel
theorem dX6_number_100 : decode cX6_number 100 = .ok (.aload_n 0, 1) := by decide +kernel
theorem dX6_number_101 : decode cX6_number 101 = .ok (.getfield 33, 3) := by decide +kernel
theorem dX6_number_104 : decode cX6_number 104 = .ok (.invokevirtual 73, 3) := by decide +kernel
theorem dX6_number_107 : decode cX6_number 107 = .ok (.isub, 1) := by decide +kernel
theorem dX6_number_108 : decode cX6_number 108 = .ok (.istore 4, 2) := by decide +kernel
theorem dX6_number_110 : decode cX6_number 110 = .ok (.aload_n 0, 1) := by decide +kernel
theorem dX6_number_111 : decode cX6_number 111 = .ok (.invokevirtual 63, 3) := by decide +kernel
theorem dX6_number_114 : decode cX6_number 114 = .ok (.bipush 101, 2) := by decide +kernel
theorem dX6_number_116 : decode cX6_number 116 = .ok (.if_icmp .eq 12, 3) := by decide +kernel
theorem dX6_number_119 : decode cX6_number 119 = .ok (.aload_n 0, 1) := by decide +kernel
theorem dX6_number_120 : decode cX6_number 120 = .ok (.invokevirtual 63, 3) := by decide +kernel
theorem dX6_number_123 : decode cX6_number 123 = .ok (.bipush 69, 2) := by decide +kernel
theorem dX6_number_125 : decode cX6_number 125 = .ok (.if_icmp .ne 19, 3) := by decide +kernel
theorem dX6_number_128 : decode cX6_number 128 = .ok (.aload_n 0, 1) := by decide +kernel
theorem dX6_number_129 : decode cX6_number 129 = .ok (.invokevirtual 120, 3) := by decide +kernel
theorem dX6_number_132 : decode cX6_number 132 = .ok (.ifCond .eq 12, 3) := by decide +kernel
theorem dX6_number_135 : decode cX6_number 135 = .ok (.iload 4, 2) := by decide +kernel
theorem dX6_number_137 : decode cX6_number 137 = .ok (.aload_n 0, 1) := by decide +kernel
theorem dX6_number_138 : decode cX6_number 138 = .ok (.invokevirtual 153, 3) := by decide +kernel
theorem dX6_number_141 : decode cX6_number 141 = .ok (.iadd, 1) := by decide +kernel
theorem dX6_number_142 : decode cX6_number 142 = .ok (.istore 4, 2) := by decide +kernel
theorem dX6_number_144 : decode cX6_number 144 = .ok (.aload_n 0, 1) := by decide +kernel
theorem dX6_number_145 : decode cX6_number 145 = .ok (.iconst 2, 1) := by decide +kernel
theorem dX6_number_146 : decode cX6_number 146 = .ok (.invokevirtual 106, 3) := by decide +kernel
theorem dX6_number_149 : decode cX6_number 149 = .ok (.istore 5, 2) := by decide +kernel
theorem dX6_number_151 : decode cX6_number 151 = .ok (.aload_n 0, 1) := by decide +kernel
theorem dX6_number_152 : decode cX6_number 152 = .ok (.invokevirtual 120, 3) := by decide +kernel
theorem dX6_number_155 : decode cX6_number 155 = .ok (.ifCond .eq 28, 3) := by decide +kernel
theorem dX6_number_158 : decode cX6_number 158 = .ok (.aload_n 0, 1) := by decide +kernel
theorem dX6_number_159 : decode cX6_number 159 = .ok (.getfield 12, 3) := by decide +kernel
theorem dX6_number_162 : decode cX6_number 162 = .ok (.iload 5, 2) := by decide +kernel
theorem dX6_number_164 : decode cX6_number 164 = .ok (.iload_n 2, 1) := by decide +kernel
theorem dX6_number_165 : decode cX6_number 165 = .ok (.aload_n 0, 1) := by decide +kernel
theorem dX6_number_166 : decode cX6_number 166 = .ok (.getfield 33, 3) := by decide +kernel
theorem dX6_number_169 : decode cX6_number 169 = .ok (.iload 4, 2) := by decide +kernel
theorem dX6_number_171 : decode cX6_number 171 = .ok (.invokevirtual 156, 3) := by decide +kernel
theorem dX6_number_174 : decode cX6_number 174 = .ok (.ifCond .ne 9, 3) := by decide +kernel
theorem dX6_number_177 : decode cX6_number 177 = .ok (.aload_n 0, 1) := by decide +kernel
theorem dX6_number_178 : decode cX6_number 178 = .ok (.iload_n 1, 1) := by decide +kernel
theorem dX6_number_179 : decode cX6_number 179 = .ok (.invokevirtual 67, 3) := by decide +kernel
theorem dX6_number_182 : decode cX6_number 182 = .ok (.pop, 1) := by decide +kernel
theorem dX6_number_183 : decode cX6_number 183 = .ok (.iload 5, 2) := by decide +kernel
theorem dX6_number_185 : decode cX6_number 185 = .ok (.ireturn, 1) := by decide +kernel
theorem dX6_readFigure_0 : decode cX6_readFigure 0 = .ok (.aload_n 0, 1) := by decide +kernel
theorem dX6_readFigure_1 : decode cX6_readFigure 1 = .ok (.getfield 33, 3) := by decide +kernel
theorem dX6_readFigure_4 : decode cX6_readFigure 4 = .ok (.invokevirtual 73, 3) := by decide +kernel
theorem dX6_readFigure_7 : decode cX6_readFigure 7 = .ok (.bipush 24, 2) := by decide +kernel
theorem dX6_readFigure_9 : decode cX6_readFigure 9 = .ok (.if_icmp .lt 13, 3) := by decide +kernel
theorem dX6_readFigure_12 : decode cX6_readFigure 12 = .ok (.aload_n 0, 1) := by decide +kernel
theorem dX6_readFigure_13 : decode cX6_readFigure 13 = .ok (.aload_n 0, 1) := by decide +kernel
theorem dX6_readFigure_14 : decode cX6_readFigure 14 = .ok (.getfield 43, 3) := by decide +kernel
theorem dX6_readFigure_17 : decode cX6_readFigure 17 = .ok (.invokevirtual 67, 3) := by decide +kernel
theorem dX6_readFigure_20 : decode cX6_readFigure 20 = .ok (.pop, 1) := by decide +kernel
theorem dX6_readFigure_21 : decode cX6_readFigure 21 = .ok (.return_, 1) := by decide +kernel
theorem dX6_readFigure_22 : decode cX6_readFigure 22 = .ok (.aload_n 0, 1) := by decide +kernel
theorem dX6_readFigure_23 : decode cX6_readFigure 23 = .ok (.getfield 33, 3) := by decide +kernel
theorem dX6_readFigure_26 : decode cX6_readFigure 26 = .ok (.aload_n 0, 1) := by decide +kernel
theorem dX6_readFigure_27 : decode cX6_readFigure 27 = .ok (.invokevirtual 63, 3) := by decide +kernel
theorem dX6_readFigure_30 : decode cX6_readFigure 30 = .ok (.invokevirtual 142, 3) := by decide +kernel
theorem dX6_readFigure_33 : decode cX6_readFigure 33 = .ok (.aload_n 0, 1) := by decide +kernel
theorem dX6_readFigure_34 : decode cX6_readFigure 34 = .ok (.dup, 1) := by decide +kernel
theorem dX6_readFigure_35 : decode cX6_readFigure 35 = .ok (.getfield 43, 3) := by decide +kernel
theorem dX6_readFigure_38 : decode cX6_readFigure 38 = .ok (.iconst 1, 1) := by decide +kernel
theorem dX6_readFigure_39 : decode cX6_readFigure 39 = .ok (.iadd, 1) := by decide +kernel
theorem dX6_readFigure_40 : decode cX6_readFigure 40 = .ok (.putfield 43, 3) := by decide +kernel
theorem dX6_readFigure_43 : decode cX6_readFigure 43 = .ok (.return_, 1) := by decide +kernel
theorem dX6_readFigures_0 : decode cX6_readFigures 0 = .ok (.aload_n 0, 1) := by decide +kernel
theorem dX6_readFigures_1 : decode cX6_readFigures 1 = .ok (.invokevirtual 63, 3) := by decide +kernel
theorem dX6_readFigures_4 : decode cX6_readFigures 4 = .ok (.invokestatic 90, 3) := by decide +kernel
theorem dX6_readFigures_7 : decode cX6_readFigures 7 = .ok (.ifCond .ne 12, 3) := by decide +kernel
theorem dX6_readFigures_10 : decode cX6_readFigures 10 = .ok (.aload_n 0, 1) := by decide +kernel
theorem dX6_readFigures_11 : decode cX6_readFigures 11 = .ok (.aload_n 0, 1) := by decide +kernel
theorem dX6_readFigures_12 : decode cX6_readFigures 12 = .ok (.getfield 43, 3) := by decide +kernel
theorem dX6_readFigures_15 : decode cX6_readFigures 15 = .ok (.invokevirtual 67, 3) := by decide +kernel
theorem dX6_readFigures_18 : decode cX6_readFigures 18 = .ok (.pop, 1) := by decide +kernel
theorem dX6_readFigures_19 : decode cX6_readFigures 19 = .ok (.aload_n 0, 1) := by decide +kernel
theorem dX6_readFigures_20 : decode cX6_readFigures 20 = .ok (.getfield 43, 3) := by decide +kernel
theorem dX6_readFigures_23 : decode cX6_readFigures 23 = .ok (.aload_n 0, 1) := by decide +kernel
theorem dX6_readFigures_24 : decode cX6_readFigures 24 = .ok (.getfield 36, 3) := by decide +kernel
theorem dX6_readFigures_27 : decode cX6_readFigures 27 = .ok (.invokevirtual 73, 3) := by decide +kernel
theorem dX6_readFigures_30 : decode cX6_readFigures 30 = .ok (.if_icmp .ge 27, 3) := by decide +kernel
theorem dX6_readFigures_33 : decode cX6_readFigures 33 = .ok (.aload_n 0, 1) := by decide +kernel
theorem dX6_readFigures_34 : decode cX6_readFigures 34 = .ok (.invokevirtual 63, 3) := by decide +kernel
theorem dX6_readFigures_37 : decode cX6_readFigures 37 = .ok (.invokestatic 90, 3) := by decide +kernel
theorem dX6_readFigures_40 : decode cX6_readFigures 40 = .ok (.ifCond .eq 17, 3) := by decide +kernel
theorem dX6_readFigures_43 : decode cX6_readFigures 43 = .ok (.aload_n 0, 1) := by decide +kernel
theorem dX6_readFigures_44 : decode cX6_readFigures 44 = .ok (.invokevirtual 120, 3) := by decide +kernel
theorem dX6_readFigures_47 : decode cX6_readFigures 47 = .ok (.ifCond .eq 10, 3) := by decide +kernel
theorem dX6_readFigures_50 : decode cX6_readFigures 50 = .ok (.aload_n 0, 1) := by decide +kernel
theorem dX6_readFigures_51 : decode cX6_readFigures 51 = .ok (.invokevirtual 147, 3) := by decide +kernel
theorem dX6_readFigures_54 : decode cX6_readFigures 54 = .ok (.goto (-35), 3) := by decide +kernel
theorem dX6_readFigures_57 : decode cX6_readFigures 57 = .ok (.return_, 1) := by decide +kernel
theorem dX6_exponent_0 : decode cX6_exponent 0 = .ok (.aload_n 0, 1) := by decide +kernel
theorem dX6_exponent_1 : decode cX6_exponent 1 = .ok (.dup, 1) := by decide +kernel
theorem dX6_exponent_2 : decode cX6_exponent 2 = .ok (.getfield 43, 3) := by decide +kernel
theorem dX6_exponent_5 : decode cX6_exponent 5 = .ok (.iconst 1, 1) := by decide +kernel
theorem dX6_exponent_6 : decode cX6_exponent 6 = .ok (.iadd, 1) := by decide +kernel
theorem dX6_exponent_7 : decode cX6_exponent 7 = .ok (.putfield 43, 3) := by decide +kernel
theorem dX6_exponent_10 : decode cX6_exponent 10 = .ok (.aload_n 0, 1) := by decide +kernel
theorem dX6_exponent_11 : decode cX6_exponent 11 = .ok (.invokevirtual 63, 3) := by decide +kernel
theorem dX6_exponent_14 : decode cX6_exponent 14 = .ok (.bipush 45, 2) := by decide +kernel
theorem dX6_exponent_16 : decode cX6_exponent 16 = .ok (.if_icmp .ne 7, 3) := by decide +kernel
theorem dX6_exponent_19 : decode cX6_exponent 19 = .ok (.iconst 1, 1) := by decide +kernel
theorem dX6_exponent_20 : decode cX6_exponent 20 = .ok (.goto 4, 3) := by decide +kernel
theorem dX6_exponent_23 : decode cX6_exponent 23 = .ok (.iconst 0, 1) := by decide +kernel
theorem dX6_exponent_24 : decode cX6_exponent 24 = .ok (.istore_n 1, 1) := by decide +kernel
theorem dX6_exponent_25 : decode cX6_exponent 25 = .ok (.iload_n 1, 1) := by decide +kernel
theorem dX6_exponent_26 : decode cX6_exponent 26 = .ok (.ifCond .ne 12, 3) := by decide +kernel
theorem dX6_exponent_29 : decode cX6_exponent 29 = .ok (.aload_n 0, 1) := by decide +kernel
theorem dX6_exponent_30 : decode cX6_exponent 30 = .ok (.invokevirtual 63, 3) := by decide +kernel
theorem dX6_exponent_33 : decode cX6_exponent 33 = .ok (.bipush 43, 2) := by decide +kernel
theorem dX6_exponent_35 : decode cX6_exponent 35 = .ok (.if_icmp .ne 13, 3) := by decide +kernel
theorem dX6_exponent_38 : decode cX6_exponent 38 = .ok (.aload_n 0, 1) := by decide +kernel
theorem dX6_exponent_39 : decode cX6_exponent 39 = .ok (.dup, 1) := by decide +kernel
theorem dX6_exponent_40 : decode cX6_exponent 40 = .ok (.getfield 43, 3) := by decide +kernel
theorem dX6_exponent_43 : decode cX6_exponent 43 = .ok (.iconst 1, 1) := by decide +kernel
theorem dX6_exponent_44 : decode cX6_exponent 44 = .ok (.iadd, 1) := by decide +kernel
theorem dX6_exponent_45 : decode cX6_exponent 45 = .ok (.putfield 43, 3) := by decide +kernel
theorem dX6_exponent_48 : decode cX6_exponent 48 = .ok (.aload_n 0, 1) := by decide +kernel
theorem dX6_exponent_49 : decode cX6_exponent 49 = .ok (.invokevirtual 63, 3) := by decide +kernel
theorem dX6_exponent_52 : decode cX6_exponent 52 = .ok (.invokestatic 90, 3) := by decide +kernel
theorem dX6_exponent_55 : decode cX6_exponent 55 = .ok (.ifCond .ne 14, 3) := by decide +kernel
theorem dX6_exponent_58 : decode cX6_exponent 58 = .ok (.aload_n 0, 1) := by decide +kernel
theorem dX6_exponent_59 : decode cX6_exponent 59 = .ok (.aload_n 0, 1) := by decide +kernel
theorem dX6_exponent_60 : decode cX6_exponent 60 = .ok (.getfield 43, 3) := by decide +kernel
theorem dX6_exponent_63 : decode cX6_exponent 63 = .ok (.invokevirtual 67, 3) := by decide +kernel
theorem dX6_exponent_66 : decode cX6_exponent 66 = .ok (.pop, 1) := by decide +kernel
theorem dX6_exponent_67 : decode cX6_exponent 67 = .ok (.iconst 0, 1) := by decide +kernel
theorem dX6_exponent_68 : decode cX6_exponent 68 = .ok (.ireturn, 1) := by decide +kernel
theorem dX6_exponent_69 : decode cX6_exponent 69 = .ok (.aload_n 0, 1) := by decide +kernel
theorem dX6_exponent_70 : decode cX6_exponent 70 = .ok (.invokevirtual 63, 3) := by decide +kernel
theorem dX6_exponent_73 : decode cX6_exponent 73 = .ok (.bipush 48, 2) := by decide +kernel
theorem dX6_exponent_75 : decode cX6_exponent 75 = .ok (.isub, 1) := by decide +kernel
theorem dX6_exponent_76 : decode cX6_exponent 76 = .ok (.istore_n 2, 1) := by decide +kernel
theorem dX6_exponent_77 : decode cX6_exponent 77 = .ok (.aload_n 0, 1) := by decide +kernel
theorem dX6_exponent_78 : decode cX6_exponent 78 = .ok (.dup, 1) := by decide +kernel
theorem dX6_exponent_79 : decode cX6_exponent 79 = .ok (.getfield 43, 3) := by decide +kernel
theorem dX6_exponent_82 : decode cX6_exponent 82 = .ok (.iconst 1, 1) := by decide +kernel
theorem dX6_exponent_83 : decode cX6_exponent 83 = .ok (.iadd, 1) := by decide +kernel
theorem dX6_exponent_84 : decode cX6_exponent 84 = .ok (.putfield 43, 3) := by decide +kernel
theorem dX6_exponent_87 : decode cX6_exponent 87 = .ok (.aload_n 0, 1) := by decide +kernel
theorem dX6_exponent_88 : decode cX6_exponent 88 = .ok (.invokevirtual 63, 3) := by decide +kernel
theorem dX6_exponent_91 : decode cX6_exponent 91 = .ok (.invokestatic 90, 3) := by decide +kernel
theorem dX6_exponent_94 : decode cX6_exponent 94 = .ok (.ifCond .eq 26, 3) := by decide +kernel
theorem dX6_exponent_97 : decode cX6_exponent 97 = .ok (.iload_n 2, 1) := by decide +kernel
theorem dX6_exponent_98 : decode cX6_exponent 98 = .ok (.bipush 10, 2) := by decide +kernel
theorem dX6_exponent_100 : decode cX6_exponent 100 = .ok (.imul, 1) := by decide +kernel
theorem dX6_exponent_101 : decode cX6_exponent 101 = .ok (.aload_n 0, 1) := by decide +kernel
theorem dX6_exponent_102 : decode cX6_exponent 102 = .ok (.invokevirtual 63, 3) := by decide +kernel
theorem dX6_exponent_105 : decode cX6_exponent 105 = .ok (.iadd, 1) := by decide +kernel
theorem dX6_exponent_106 : decode cX6_exponent 106 = .ok (.bipush 48, 2) := by decide +kernel
theorem dX6_exponent_108 : decode cX6_exponent 108 = .ok (.isub, 1) := by decide +kernel
theorem dX6_exponent_109 : decode cX6_exponent 109 = .ok (.istore_n 2, 1) := by decide +kernel
theorem dX6_exponent_110 : decode cX6_exponent 110 = .ok (.aload_n 0, 1) := by decide +kernel
theorem dX6_exponent_111 : decode cX6_exponent 111 = .ok (.dup, 1) := by decide +kernel
theorem dX6_exponent_112 : decode cX6_exponent 112 = .ok (.getfield 43, 3) := by decide +kernel
theorem dX6_exponent_115 : decode cX6_exponent 115 = .ok (.iconst 1, 1) := by decide +kernel
theorem dX6_exponent_116 : decode cX6_exponent 116 = .ok (.iadd, 1) := by decide +kernel
theorem dX6_exponent_117 : decode cX6_exponent 117 = .ok (.putfield 43, 3) := by decide +kernel
theorem dX6_exponent_120 : decode cX6_exponent 120 = .ok (.iload_n 1, 1) := by decide +kernel
theorem dX6_exponent_121 : decode cX6_exponent 121 = .ok (.ifCond .eq 8, 3) := by decide +kernel
theorem dX6_exponent_124 : decode cX6_exponent 124 = .ok (.iload_n 2, 1) := by decide +kernel
theorem dX6_exponent_125 : decode cX6_exponent 125 = .ok (.ineg, 1) := by decide +kernel
theorem dX6_exponent_126 : decode cX6_exponent 126 = .ok (.goto 4, 3) := by decide +kernel
theorem dX6_exponent_129 : decode cX6_exponent 129 = .ok (.iload_n 2, 1) := by decide +kernel
theorem dX6_exponent_130 : decode cX6_exponent 130 = .ok (.ireturn, 1) := by decide +kernel
theorem dX6_group_0 : decode cX6_group 0 = .ok (.aload_n 0, 1) := by decide +kernel
theorem dX6_group_1 : decode cX6_group 1 = .ok (.iload_n 1, 1) := by decide +kernel
theorem dX6_group_2 : decode cX6_group 2 = .ok (.invokevirtual 106, 3) := by decide +kernel
theorem dX6_group_5 : decode cX6_group 5 = .ok (.istore_n 3, 1) := by decide +kernel
theorem dX6_group_6 : decode cX6_group 6 = .ok (.iload_n 1, 1) := by decide +kernel
theorem dX6_group_7 : decode cX6_group 7 = .ok (.iconst 4, 1) := by decide +kernel
theorem dX6_group_8 : decode cX6_group 8 = .ok (.if_icmp .ne 8, 3) := by decide +kernel
theorem dX6_group_11 : decode cX6_group 11 = .ok (.bipush 93, 2) := by decide +kernel
theorem dX6_group_13 : decode cX6_group 13 = .ok (.goto 5, 3) := by decide +kernel
theorem dX6_group_16 : decode cX6_group 16 = .ok (.bipush 125, 2) := by decide +kernel
theorem dX6_group_18 : decode cX6_group 18 = .ok (.istore 4, 2) := by decide +kernel
theorem dX6_group_20 : decode cX6_group 20 = .ok (.aload_n 0, 1) := by decide +kernel
theorem dX6_group_21 : decode cX6_group 21 = .ok (.dup, 1) := by decide +kernel
theorem dX6_group_22 : decode cX6_group 22 = .ok (.getfield 43, 3) := by decide +kernel
theorem dX6_group_25 : decode cX6_group 25 = .ok (.iconst 1, 1) := by decide +kernel
theorem dX6_group_26 : decode cX6_group 26 = .ok (.iadd, 1) := by decide +kernel
theorem dX6_group_27 : decode cX6_group 27 = .ok (.putfield 43, 3) := by decide +kernel
theorem dX6_group_30 : decode cX6_group 30 = .ok (.aload_n 0, 1) := by decide +kernel
theorem dX6_group_31 : decode cX6_group 31 = .ok (.invokevirtual 60, 3) := by decide +kernel
theorem dX6_group_34 : decode cX6_group 34 = .ok (.aload_n 0, 1) := by decide +kernel
theorem dX6_group_35 : decode cX6_group 35 = .ok (.invokevirtual 63, 3) := by decide +kernel
theorem dX6_group_38 : decode cX6_group 38 = .ok (.iload 4, 2) := by decide +kernel
theorem dX6_group_40 : decode cX6_group 40 = .ok (.if_icmp .ne 7, 3) := by decide +kernel
theorem dX6_group_43 : decode cX6_group 43 = .ok (.iconst 1, 1) := by decide +kernel
theorem dX6_group_44 : decode cX6_group 44 = .ok (.goto 4, 3) := by decide +kernel
theorem dX6_group_47 : decode cX6_group 47 = .ok (.iconst 0, 1) := by decide +kernel
theorem dX6_group_48 : decode cX6_group 48 = .ok (.istore 5, 2) := by decide +kernel
theorem dX6_group_50 : decode cX6_group 50 = .ok (.iconst 0, 1) := by decide +kernel
theorem dX6_group_51 : decode cX6_group 51 = .ok (.istore 6, 2) := by decide +kernel
theorem dX6_group_53 : decode cX6_group 53 = .ok (.iload 6, 2) := by decide +kernel
theorem dX6_group_55 : decode cX6_group 55 = .ok (.bipush 100, 2) := by decide +kernel
theorem dX6_group_57 : decode cX6_group 57 = .ok (.if_icmp .gt 79, 3) := by decide +kernel
theorem dX6_group_60 : decode cX6_group 60 = .ok (.iload 5, 2) := by decide +kernel
theorem dX6_group_62 : decode cX6_group 62 = .ok (.ifCond .ne 74, 3) := by decide +kernel
theorem dX6_group_65 : decode cX6_group 65 = .ok (.aload_n 0, 1) := by decide +kernel
theorem dX6_group_66 : decode cX6_group 66 = .ok (.invokevirtual 120, 3) := by decide +kernel
theorem dX6_group_69 : decode cX6_group 69 = .ok (.ifCond .eq 67, 3) := by decide +kernel
theorem dX6_group_72 : decode cX6_group 72 = .ok (.iload_n 1, 1) := by decide +kernel
theorem dX6_group_73 : decode cX6_group 73 = .ok (.iconst 4, 1) := by decide +kernel
theorem dX6_group_74 : decode cX6_group 74 = .ok (.if_icmp .ne 19, 3) := by decide +kernel
theorem dX6_group_77 : decode cX6_group 77 = .ok (.aload_n 0, 1) := by decide +kernel
theorem dX6_group_78 : decode cX6_group 78 = .ok (.getfield 26, 3) := by decide +kernel
theorem dX6_group_81 : decode cX6_group 81 = .ok (.invokevirtual 55, 3) := by decide +kernel
theorem dX6_group_84 : decode cX6_group 84 = .ok (.aload_n 0, 1) := by decide +kernel
theorem dX6_group_85 : decode cX6_group 85 = .ok (.iload_n 2, 1) := by decide +kernel
theorem dX6_group_86 : decode cX6_group 86 = .ok (.invokevirtual 56, 3) := by decide +kernel
theorem dX6_group_89 : decode cX6_group 89 = .ok (.pop, 1) := by decide +kernel
theorem dX6_group_90 : decode cX6_group 90 = .ok (.goto 9, 3) := by decide +kernel
theorem dX6_group_93 : decode cX6_group 93 = .ok (.aload_n 0, 1) := by decide +kernel
theorem dX6_group_94 : decode cX6_group 94 = .ok (.iload_n 3, 1) := by decide +kernel
theorem dX6_group_95 : decode cX6_group 95 = .ok (.iload_n 2, 1) := by decide +kernel
theorem dX6_group_96 : decode cX6_group 96 = .ok (.invokevirtual 160, 3) := by decide +kernel
theorem dX6_group_99 : decode cX6_group 99 = .ok (.aload_n 0, 1) := by decide +kernel
theorem dX6_group_100 : decode cX6_group 100 = .ok (.invokevirtual 60, 3) := by decide +kernel
theorem dX6_group_103 : decode cX6_group 103 = .ok (.aload_n 0, 1) := by decide +kernel
theorem dX6_group_104 : decode cX6_group 104 = .ok (.invokevirtual 63, 3) := by decide +kernel
theorem dX6_group_107 : decode cX6_group 107 = .ok (.iload 4, 2) := by decide +kernel
theorem dX6_group_109 : decode cX6_group 109 = .ok (.if_icmp .ne 7, 3) := by decide +kernel
theorem dX6_group_112 : decode cX6_group 112 = .ok (.iconst 1, 1) := by decide +kernel
theorem dX6_group_113 : decode cX6_group 113 = .ok (.goto 4, 3) := by decide +kernel
theorem dX6_group_116 : decode cX6_group 116 = .ok (.iconst 0, 1) := by decide +kernel
theorem dX6_group_117 : decode cX6_group 117 = .ok (.istore 5, 2) := by decide +kernel
theorem dX6_group_119 : decode cX6_group 119 = .ok (.iload 5, 2) := by decide +kernel
theorem dX6_group_121 : decode cX6_group 121 = .ok (.ifCond .ne 9, 3) := by decide +kernel
theorem dX6_group_124 : decode cX6_group 124 = .ok (.aload_n 0, 1) := by decide +kernel
theorem dX6_group_125 : decode cX6_group 125 = .ok (.bipush 44, 2) := by decide +kernel
theorem dX6_group_127 : decode cX6_group 127 = .ok (.invokevirtual 128, 3) := by decide +kernel
theorem dX6_group_130 : decode cX6_group 130 = .ok (.iinc 6 1, 3) := by decide +kernel
theorem dX6_group_133 : decode cX6_group 133 = .ok (.goto (-80), 3) := by decide +kernel
theorem dX6_group_136 : decode cX6_group 136 = .ok (.aload_n 0, 1) := by decide +kernel
theorem dX6_group_137 : decode cX6_group 137 = .ok (.iload 4, 2) := by decide +kernel
theorem dX6_group_139 : decode cX6_group 139 = .ok (.invokevirtual 128, 3) := by decide +kernel
theorem dX6_group_142 : decode cX6_group 142 = .ok (.aload_n 0, 1) := by decide +kernel
theorem dX6_group_143 : decode cX6_group 143 = .ok (.getfield 12, 3) := by decide +kernel
theorem dX6_group_146 : decode cX6_group 146 = .ok (.iload_n 3, 1) := by decide +kernel
theorem dX6_group_147 : decode cX6_group 147 = .ok (.invokevirtual 163, 3) := by decide +kernel
theorem dX6_group_150 : decode cX6_group 150 = .ok (.iload_n 3, 1) := by decide +kernel
theorem dX6_group_151 : decode cX6_group 151 = .ok (.ireturn, 1) := by decide +kernel
theorem dX6_entry_0 : decode cX6_entry 0 = .ok (.aload_n 0, 1) := by decide +kernel
theorem dX6_entry_1 : decode cX6_entry 1 = .ok (.invokevirtual 60, 3) := by decide +kernel
theorem dX6_entry_4 : decode cX6_entry 4 = .ok (.aload_n 0, 1) := by decide +kernel
theorem dX6_entry_5 : decode cX6_entry 5 = .ok (.aload_n 0, 1) := by decide +kernel
theorem dX6_entry_6 : decode cX6_entry 6 = .ok (.getfield 26, 3) := by decide +kernel
theorem dX6_entry_9 : decode cX6_entry 9 = .ok (.bipush 12, 2) := by decide +kernel
theorem dX6_entry_11 : decode cX6_entry 11 = .ok (.invokevirtual 131, 3) := by decide +kernel
theorem dX6_entry_14 : decode cX6_entry 14 = .ok (.aload_n 0, 1) := by decide +kernel
theorem dX6_entry_15 : decode cX6_entry 15 = .ok (.getfield 12, 3) := by decide +kernel
theorem dX6_entry_18 : decode cX6_entry 18 = .ok (.iload_n 1, 1) := by decide +kernel
theorem dX6_entry_19 : decode cX6_entry 19 = .ok (.invokevirtual 163, 3) := by decide +kernel
theorem dX6_entry_22 : decode cX6_entry 22 = .ok (.aload_n 0, 1) := by decide +kernel
theorem dX6_entry_23 : decode cX6_entry 23 = .ok (.getfield 12, 3) := by decide +kernel
theorem dX6_entry_26 : decode cX6_entry 26 = .ok (.iload_n 1, 1) := by decide +kernel
theorem dX6_entry_27 : decode cX6_entry 27 = .ok (.aload_n 0, 1) := by decide +kernel
theorem dX6_entry_28 : decode cX6_entry 28 = .ok (.getfield 26, 3) := by decide +kernel
theorem dX6_entry_31 : decode cX6_entry 31 = .ok (.invokevirtual 166, 3) := by decide +kernel
theorem dX6_entry_34 : decode cX6_entry 34 = .ok (.istore_n 3, 1) := by decide +kernel
theorem dX6_entry_35 : decode cX6_entry 35 = .ok (.aload_n 0, 1) := by decide +kernel
theorem dX6_entry_36 : decode cX6_entry 36 = .ok (.invokevirtual 120, 3) := by decide +kernel
theorem dX6_entry_39 : decode cX6_entry 39 = .ok (.ifCond .eq 26, 3) := by decide +kernel
theorem dX6_entry_42 : decode cX6_entry 42 = .ok (.iload_n 3, 1) := by decide +kernel
theorem dX6_entry_43 : decode cX6_entry 43 = .ok (.iconst (-1), 1) := by decide +kernel
theorem dX6_entry_44 : decode cX6_entry 44 = .ok (.if_icmp .eq 21, 3) := by decide +kernel
theorem dX6_entry_47 : decode cX6_entry 47 = .ok (.aload_n 0, 1) := by decide +kernel
theorem dX6_entry_48 : decode cX6_entry 48 = .ok (.getfield 39, 3) := by decide +kernel
theorem dX6_entry_51 : decode cX6_entry 51 = .ok (.ifCond .ne 14, 3) := by decide +kernel
theorem dX6_entry_54 : decode cX6_entry 54 = .ok (.aload_n 0, 1) := by decide +kernel
theorem dX6_entry_55 : decode cX6_entry 55 = .ok (.aload_n 0, 1) := by decide +kernel
theorem dX6_entry_56 : decode cX6_entry 56 = .ok (.getfield 43, 3) := by decide +kernel
theorem dX6_entry_59 : decode cX6_entry 59 = .ok (.iconst 1, 1) := by decide +kernel
theorem dX6_entry_60 : decode cX6_entry 60 = .ok (.isub, 1) := by decide +kernel
theorem dX6_entry_61 : decode cX6_entry 61 = .ok (.invokevirtual 67, 3) := by decide +kernel
theorem dX6_entry_64 : decode cX6_entry 64 = .ok (.pop, 1) := by decide +kernel
theorem dX6_entry_65 : decode cX6_entry 65 = .ok (.aload_n 0, 1) := by decide +kernel
theorem dX6_entry_66 : decode cX6_entry 66 = .ok (.invokevirtual 60, 3) := by decide +kernel
theorem dX6_entry_69 : decode cX6_entry 69 = .ok (.aload_n 0, 1) := by decide +kernel
theorem dX6_entry_70 : decode cX6_entry 70 = .ok (.bipush 58, 2) := by decide +kernel
theorem dX6_entry_72 : decode cX6_entry 72 = .ok (.invokevirtual 128, 3) := by decide +kernel
theorem dX6_entry_75 : decode cX6_entry 75 = .ok (.aload_n 0, 1) := by decide +kernel
theorem dX6_entry_76 : decode cX6_entry 76 = .ok (.invokevirtual 120, 3) := by decide +kernel
theorem dX6_entry_79 : decode cX6_entry 79 = .ok (.ifCond .ne 4, 3) := by decide +kernel
theorem dX6_entry_82 : decode cX6_entry 82 = .ok (.return_, 1) := by decide +kernel
theorem dX6_entry_83 : decode cX6_entry 83 = .ok (.aload_n 0, 1) := by decide +kernel
theorem dX6_entry_84 : decode cX6_entry 84 = .ok (.iload_n 2, 1) := by decide +kernel
theorem dX6_entry_85 : decode cX6_entry 85 = .ok (.invokevirtual 56, 3) := by decide +kernel
theorem dX6_entry_88 : decode cX6_entry 88 = .ok (.istore 4, 2) := by decide +kernel
theorem dX6_entry_90 : decode cX6_entry 90 = .ok (.aload_n 0, 1) := by decide +kernel
theorem dX6_entry_91 : decode cX6_entry 91 = .ok (.invokevirtual 120, 3) := by decide +kernel
theorem dX6_entry_94 : decode cX6_entry 94 = .ok (.ifCond .eq 28, 3) := by decide +kernel
theorem dX6_entry_97 : decode cX6_entry 97 = .ok (.iload_n 3, 1) := by decide +kernel
theorem dX6_entry_98 : decode cX6_entry 98 = .ok (.iconst (-1), 1) := by decide +kernel
theorem dX6_entry_99 : decode cX6_entry 99 = .ok (.if_icmp .eq 23, 3) := by decide +kernel
theorem dX6_entry_102 : decode cX6_entry 102 = .ok (.aload_n 0, 1) := by decide +kernel
theorem dX6_entry_103 : decode cX6_entry 103 = .ok (.getfield 39, 3) := by decide +kernel
theorem dX6_entry_106 : decode cX6_entry 106 = .ok (.iconst 1, 1) := by decide +kernel
theorem dX6_entry_107 : decode cX6_entry 107 = .ok (.if_icmp .ne 15, 3) := by decide +kernel
theorem dX6_entry_110 : decode cX6_entry 110 = .ok (.aload_n 0, 1) := by decide +kernel
theorem dX6_entry_111 : decode cX6_entry 111 = .ok (.getfield 12, 3) := by decide +kernel
theorem dX6_entry_114 : decode cX6_entry 114 = .ok (.iload 4, 2) := by decide +kernel
theorem dX6_entry_116 : decode cX6_entry 116 = .ok (.invokevirtual 170, 3) := by decide +kernel
theorem dX6_entry_119 : decode cX6_entry 119 = .ok (.goto 29, 3) := by decide +kernel
theorem dX6_entry_122 : decode cX6_entry 122 = .ok (.aload_n 0, 1) := by decide +kernel
theorem dX6_entry_123 : decode cX6_entry 123 = .ok (.invokevirtual 120, 3) := by decide +kernel
theorem dX6_entry_126 : decode cX6_entry 126 = .ok (.ifCond .eq 22, 3) := by decide +kernel
theorem dX6_entry_129 : decode cX6_entry 129 = .ok (.iload_n 3, 1) := by decide +kernel
theorem dX6_entry_130 : decode cX6_entry 130 = .ok (.iconst (-1), 1) := by decide +kernel
theorem dX6_entry_131 : decode cX6_entry 131 = .ok (.if_icmp .eq 17, 3) := by decide +kernel
theorem dX6_entry_134 : decode cX6_entry 134 = .ok (.aload_n 0, 1) := by decide +kernel
theorem dX6_entry_135 : decode cX6_entry 135 = .ok (.getfield 12, 3) := by decide +kernel
theorem dX6_entry_138 : decode cX6_entry 138 = .ok (.iload_n 3, 1) := by decide +kernel
theorem dX6_entry_139 : decode cX6_entry 139 = .ok (.iload 4, 2) := by decide +kernel
theorem dX6_entry_141 : decode cX6_entry 141 = .ok (.aload_n 0, 1) := by decide +kernel
theorem dX6_entry_142 : decode cX6_entry 142 = .ok (.getfield 18, 3) := by decide +kernel
theorem dX6_entry_145 : decode cX6_entry 145 = .ok (.invokevirtual 173, 3) := by decide +kernel
theorem dX6_entry_148 : decode cX6_entry 148 = .ok (.return_, 1) := by decide +kernel
theorem dX7_init_0 : decode cX7_init 0 = .ok (.aload_n 0, 1) := by decide +kernel
theorem dX7_init_1 : decode cX7_init 1 = .ok (.invokespecial 3, 3) := by decide +kernel
theorem dX7_init_4 : decode cX7_init 4 = .ok (.aload_n 0, 1) := by decide +kernel
theorem dX7_init_5 : decode cX7_init 5 = .ok (.new 9, 3) := by decide +kernel
theorem dX7_init_8 : decode cX7_init 8 = .ok (.dup, 1) := by decide +kernel
theorem dX7_init_9 : decode cX7_init 9 = .ok (.sipush 400, 3) := by decide +kernel
theorem dX7_init_12 : decode cX7_init 12 = .ok (.invokespecial 11, 3) := by decide +kernel
theorem dX7_init_15 : decode cX7_init 15 = .ok (.putfield 14, 3) := by decide +kernel
theorem dX7_init_18 : decode cX7_init 18 = .ok (.aload_n 0, 1) := by decide +kernel
theorem dX7_init_19 : decode cX7_init 19 = .ok (.new 9, 3) := by decide +kernel
theorem dX7_init_22 : decode cX7_init 22 = .ok (.dup, 1) := by decide +kernel
theorem dX7_init_23 : decode cX7_init 23 = .ok (.sipush 400, 3) := by decide +kernel
theorem dX7_init_26 : decode cX7_init 26 = .ok (.invokespecial 11, 3) := by decide +kernel
theorem dX7_init_29 : decode cX7_init 29 = .ok (.putfield 20, 3) := by decide +kernel
theorem dX7_init_32 : decode cX7_init 32 = .ok (.aload_n 0, 1) := by decide +kernel
theorem dX7_init_33 : decode cX7_init 33 = .ok (.sipush 400, 3) := by decide +kernel
theorem dX7_init_36 : decode cX7_init 36 = .ok (.newarray .int, 2) := by decide +kernel
theorem dX7_init_38 : decode cX7_init 38 = .ok (.putfield 23, 3) := by decide +kernel
theorem dX7_init_41 : decode cX7_init 41 = .ok (.return_, 1) := by decide +kernel
theorem dX7_steps_0 : decode cX7_steps 0 = .ok (.aload_n 0, 1) := by decide +kernel
theorem dX7_steps_1 : decode cX7_steps 1 = .ok (.getfield 27, 3) := by decide +kernel
theorem dX7_steps_4 : decode cX7_steps 4 = .ok (.ireturn, 1) := by decide +kernel
theorem dX7_load_0 : decode cX7_load 0 = .ok (.aload_n 0, 1) := by decide +kernel
theorem dX7_load_1 : decode cX7_load 1 = .ok (.getfield 14, 3) := by decide +kernel
theorem dX7_load_4 : decode cX7_load 4 = .ok (.invokevirtual 31, 3) := by decide +kernel
theorem dX7_load_7 : decode cX7_load 7 = .ok (.aload_n 0, 1) := by decide +kernel
theorem dX7_load_8 : decode cX7_load 8 = .ok (.getfield 14, 3) := by decide +kernel
theorem dX7_load_11 : decode cX7_load 11 = .ok (.aload_n 1, 1) := by decide +kernel
theorem dX7_load_12 : decode cX7_load 12 = .ok (.iconst 0, 1) := by decide +kernel
theorem dX7_load_13 : decode cX7_load 13 = .ok (.aload_n 1, 1) := by decide +kernel
theorem dX7_load_14 : decode cX7_load 14 = .ok (.invokevirtual 34, 3) := by decide +kernel
theorem dX7_load_17 : decode cX7_load 17 = .ok (.invokevirtual 38, 3) := by decide +kernel
theorem dX7_load_20 : decode cX7_load 20 = .ok (.aload_n 0, 1) := by decide +kernel
theorem dX7_load_21 : decode cX7_load 21 = .ok (.invokevirtual 42, 3) := by decide +kernel
theorem dX7_load_24 : decode cX7_load 24 = .ok (.ireturn, 1) := by decide +kernel
theorem dX7_loadText_0 : decode cX7_loadText 0 = .ok (.aload_n 0, 1) := by decide +kernel
theorem dX7_loadText_1 : decode cX7_loadText 1 = .ok (.getfield 14, 3) := by decide +kernel
theorem dX7_loadText_4 : decode cX7_loadText 4 = .ok (.invokevirtual 31, 3) := by decide +kernel
theorem dX7_loadText_7 : decode cX7_loadText 7 = .ok (.aload_n 1, 1) := by decide +kernel
theorem dX7_loadText_8 : decode cX7_loadText 8 = .ok (.iload_n 2, 1) := by decide +kernel
theorem dX7_loadText_9 : decode cX7_loadText 9 = .ok (.aload_n 0, 1) := by decide +kernel
theorem dX7_loadText_10 : decode cX7_loadText 10 = .ok (.getfield 14, 3) := by decide +kernel
theorem dX7_loadText_13 : decode cX7_loadText 13 = .ok (.invokevirtual 46, 3) := by decide +kernel
theorem dX7_loadText_16 : decode cX7_loadText 16 = .ok (.aload_n 1, 1) := by decide +kernel
theorem dX7_loadText_17 : decode cX7_loadText 17 = .ok (.iload_n 2, 1) := by decide +kernel
theorem dX7_loadText_18 : decode cX7_loadText 18 = .ok (.iconst 3, 1) := by decide +kernel
theorem dX7_loadText_19 : decode cX7_loadText 19 = .ok (.invokevirtual 52, 3) := by decide +kernel
theorem dX7_loadText_22 : decode cX7_loadText 22 = .ok (.ifCond .eq 14, 3) := by decide +kernel
theorem dX7_loadText_25 : decode cX7_loadText 25 = .ok (.aload_n 0, 1) := by decide +kernel
theorem dX7_loadText_26 : decode cX7_loadText 26 = .ok (.invokevirtual 42, 3) := by decide +kernel
theorem dX7_loadText_29 : decode cX7_loadText 29 = .ok (.ifCond .eq 7, 3) := by decide +kernel
theorem dX7_loadText_32 : decode cX7_loadText 32 = .ok (.iconst 1, 1) := by decide +kernel
theorem dX7_loadText_33 : decode cX7_loadText 33 = .ok (.goto 4, 3) := by decide +kernel
theorem dX7_loadText_36 : decode cX7_loadText 36 = .ok (.iconst 0, 1) := by decide +kernel
theorem dX7_loadText_37 : decode cX7_loadText 37 = .ok (.ireturn, 1) := by decide +kernel
theorem dX7_divide_0 : decode cX7_divide 0 = .ok (.aload_n 0, 1) := by decide +kernel
theorem dX7_divide_1 : decode cX7_divide 1 = .ok (.iconst 0, 1) := by decide +kernel
theorem dX7_divide_2 : decode cX7_divide 2 = .ok (.putfield 27, 3) := by decide +kernel
theorem dX7_divide_5 : decode cX7_divide 5 = .ok (.aload_n 0, 1) := by decide +kernel
theorem dX7_divide_6 : decode cX7_divide 6 = .ok (.getfield 14, 3) := by decide +kernel
theorem dX7_divide_9 : decode cX7_divide 9 = .ok (.invokevirtual 34, 3) := by decide +kernel
theorem dX7_divide_12 : decode cX7_divide 12 = .ok (.ifCond .eq 16, 3) := by decide +kernel
theorem dX7_divide_15 : decode cX7_divide 15 = .ok (.aload_n 0, 1) := by decide +kernel
theorem dX7_divide_16 : decode cX7_divide 16 = .ok (.getfield 14, 3) := by decide +kernel
theorem dX7_divide_19 : decode cX7_divide 19 = .ok (.iconst 0, 1) := by decide +kernel
theorem dX7_divide_20 : decode cX7_divide 20 = .ok (.invokevirtual 56, 3) := by decide +kernel
theorem dX7_divide_23 : decode cX7_divide 23 = .ok (.bipush 47, 2) := by decide +kernel
theorem dX7_divide_25 : decode cX7_divide 25 = .ok (.if_icmp .ne 7, 3) := by decide +kernel
theorem dX7_divide_28 : decode cX7_divide 28 = .ok (.iconst 1, 1) := by decide +kernel
theorem dX7_divide_29 : decode cX7_divide 29 = .ok (.goto 4, 3) := by decide +kernel
theorem dX7_divide_32 : decode cX7_divide 32 = .ok (.iconst 0, 1) := by decide +kernel
theorem dX7_divide_33 : decode cX7_divide 33 = .ok (.istore_n 1, 1) := by decide +kernel
theorem dX7_divide_34 : decode cX7_divide 34 = .ok (.iconst 0, 1) := by decide +kernel
theorem dX7_divide_35 : decode cX7_divide 35 = .ok (.istore_n 2, 1) := by decide +kernel
theorem dX7_divide_36 : decode cX7_divide 36 = .ok (.iload_n 2, 1) := by decide +kernel
theorem dX7_divide_37 : decode cX7_divide 37 = .ok (.aload_n 0, 1) := by decide +kernel
theorem dX7_divide_38 : decode cX7_divide 38 = .ok (.getfield 14, 3) := by decide +kernel
theorem dX7_divide_41 : decode cX7_divide 41 = .ok (.invokevirtual 34, 3) := by decide +kernel
theorem dX7_divide_44 : decode cX7_divide 44 = .ok (.if_icmp .ge 112, 3) := by decide +kernel
theorem dX7_divide_47 : decode cX7_divide 47 = .ok (.iload_n 1, 1) := by decide +kernel
theorem dX7_divide_48 : decode cX7_divide 48 = .ok (.ifCond .eq 108, 3) := by decide +kernel
theorem dX7_divide_51 : decode cX7_divide 51 = .ok (.aload_n 0, 1) := by decide +kernel
theorem dX7_divide_52 : decode cX7_divide 52 = .ok (.getfield 14, 3) := by decide +kernel
theorem dX7_divide_55 : decode cX7_divide 55 = .ok (.iload_n 2, 1) := by decide +kernel
theorem dX7_divide_56 : decode cX7_divide 56 = .ok (.iconst 1, 1) := by decide +kernel
theorem dX7_divide_57 : decode cX7_divide 57 = .ok (.iadd, 1) := by decide +kernel
theorem dX7_divide_58 : decode cX7_divide 58 = .ok (.invokevirtual 56, 3) := by decide +kernel
theorem dX7_divide_61 : decode cX7_divide 61 = .ok (.istore_n 3, 1) := by decide +kernel
theorem dX7_divide_62 : decode cX7_divide 62 = .ok (.aload_n 0, 1) := by decide +kernel
theorem dX7_divide_63 : decode cX7_divide 63 = .ok (.getfield 14, 3) := by decide +kernel
theorem dX7_divide_66 : decode cX7_divide 66 = .ok (.iload_n 2, 1) := by decide +kernel
theorem dX7_divide_67 : decode cX7_divide 67 = .ok (.invokevirtual 56, 3) := by decide +kernel
theorem dX7_divide_70 : decode cX7_divide 70 = .ok (.bipush 126, 2) := by decide +kernel
theorem dX7_divide_72 : decode cX7_divide 72 = .ok (.if_icmp .ne 24, 3) := by decide +kernel
theorem dX7_divide_75 : decode cX7_divide 75 = .ok (.iload_n 3, 1) := by decide +kernel
theorem dX7_divide_76 : decode cX7_divide 76 = .ok (.bipush 48, 2) := by decide +kernel
theorem dX7_divide_78 : decode cX7_divide 78 = .ok (.if_icmp .eq 9, 3) := by decide +kernel
theorem dX7_divide_81 : decode cX7_divide 81 = .ok (.iload_n 3, 1) := by decide +kernel
theorem dX7_divide_82 : decode cX7_divide 82 = .ok (.bipush 49, 2) := by decide +kernel
theorem dX7_divide_84 : decode cX7_divide 84 = .ok (.if_icmp .ne 7, 3) := by decide +kernel
theorem dX7_divide_87 : decode cX7_divide 87 = .ok (.iconst 1, 1) := by decide +kernel
theorem dX7_divide_88 : decode cX7_divide 88 = .ok (.goto 4, 3) := by decide +kernel
theorem dX7_divide_91 : decode cX7_divide 91 = .ok (.iconst 0, 1) := by decide +kernel
theorem dX7_divide_92 : decode cX7_divide 92 = .ok (.istore_n 1, 1) := by decide +kernel
theorem dX7_divide_93 : decode cX7_divide 93 = .ok (.goto 57, 3) := by decide +kernel
theorem dX7_divide_96 : decode cX7_divide 96 = .ok (.aload_n 0, 1) := by decide +kernel
theorem dX7_divide_97 : decode cX7_divide 97 = .ok (.getfield 14, 3) := by decide +kernel
theorem dX7_divide_100 : decode cX7_divide 100 = .ok (.iload_n 2, 1) := by decide +kernel
theorem dX7_divide_101 : decode cX7_divide 101 = .ok (.invokevirtual 56, 3) := by decide +kernel
theorem dX7_divide_104 : decode cX7_divide 104 = .ok (.bipush 47, 2) := by decide +kernel
theorem dX7_divide_106 : decode cX7_divide 106 = .ok (.if_icmp .ne 44, 3) := by decide +kernel
theorem dX7_divide_109 : decode cX7_divide 109 = .ok (.aload_n 0, 1) := by decide +kernel
theorem dX7_divide_110 : decode cX7_divide 110 = .ok (.getfield 27, 3) := by decide +kernel
theorem dX7_divide_113 : decode cX7_divide 113 = .ok (.ifCond .lt 37, 3) := by decide +kernel
theorem dX7_divide_116 : decode cX7_divide 116 = .ok (.aload_n 0, 1) := by decide +kernel
theorem dX7_divide_117 : decode cX7_divide 117 = .ok (.getfield 27, 3) := by decide +kernel
theorem dX7_divide_120 : decode cX7_divide 120 = .ok (.aload_n 0, 1) := by decide +kernel
theorem dX7_divide_121 : decode cX7_divide 121 = .ok (.getfield 23, 3) := by decide +kernel
theorem dX7_divide_124 : decode cX7_divide 124 = .ok (.arraylength, 1) := by decide +kernel
theorem dX7_divide_125 : decode cX7_divide 125 = .ok (.if_icmp .ge 25, 3) := by decide +kernel
theorem dX7_divide_128 : decode cX7_divide 128 = .ok (.aload_n 0, 1) := by decide +kernel
theorem dX7_divide_129 : decode cX7_divide 129 = .ok (.getfield 23, 3) := by decide +kernel
theorem dX7_divide_132 : decode cX7_divide 132 = .ok (.aload_n 0, 1) := by decide +kernel
theorem dX7_divide_133 : decode cX7_divide 133 = .ok (.getfield 27, 3) := by decide +kernel
theorem dX7_divide_136 : decode cX7_divide 136 = .ok (.iload_n 2, 1) := by decide +kernel
theorem dX7_divide_137 : decode cX7_divide 137 = .ok (.iconst 1, 1) := by decide +kernel
theorem dX7_divide_138 : decode cX7_divide 138 = .ok (.iadd, 1) := by decide +kernel
theorem dX7_divide_139 : decode cX7_divide 139 = .ok (.iastore, 1) := by decide +kernel
theorem dX7_divide_140 : decode cX7_divide 140 = .ok (.aload_n 0, 1) := by decide +kernel
theorem dX7_divide_141 : decode cX7_divide 141 = .ok (.dup, 1) := by decide +kernel
theorem dX7_divide_142 : decode cX7_divide 142 = .ok (.getfield 27, 3) := by decide +kernel
theorem dX7_divide_145 : decode cX7_divide 145 = .ok (.iconst 1, 1) := by decide +kernel
theorem dX7_divide_146 : decode cX7_divide 146 = .ok (.iadd, 1) := by decide +kernel
theorem dX7_divide_147 : decode cX7_divide 147 = .ok (.putfield 27, 3) := by decide +kernel
theorem dX7_divide_150 : decode cX7_divide 150 = .ok (.iinc 2 1, 3) := by decide +kernel
theorem dX7_divide_153 : decode cX7_divide 153 = .ok (.goto (-117), 3) := by decide +kernel
theorem dX7_divide_156 : decode cX7_divide 156 = .ok (.iload_n 1, 1) := by decide +kernel
theorem dX7_divide_157 : decode cX7_divide 157 = .ok (.ireturn, 1) := by decide +kernel
theorem dX7_startOf_0 : decode cX7_startOf 0 = .ok (.iload_n 1, 1) := by decide +kernel
theorem dX7_startOf_1 : decode cX7_startOf 1 = .ok (.ifCond .lt 29, 3) := by decide +kernel
theorem dX7_startOf_4 : decode cX7_startOf 4 = .ok (.iload_n 1, 1) := by decide +kernel
theorem dX7_startOf_5 : decode cX7_startOf 5 = .ok (.aload_n 0, 1) := by decide +kernel
theorem dX7_startOf_6 : decode cX7_startOf 6 = .ok (.getfield 27, 3) := by decide +kernel
theorem dX7_startOf_9 : decode cX7_startOf 9 = .ok (.if_icmp .ge 21, 3) := by decide +kernel
theorem dX7_startOf_12 : decode cX7_startOf 12 = .ok (.iload_n 1, 1) := by decide +kernel
theorem dX7_startOf_13 : decode cX7_startOf 13 = .ok (.aload_n 0, 1) := by decide +kernel
theorem dX7_startOf_14 : decode cX7_startOf 14 = .ok (.getfield 23, 3) := by decide +kernel
theorem dX7_startOf_17 : decode cX7_startOf 17 = .ok (.arraylength, 1) := by decide +kernel
theorem dX7_startOf_18 : decode cX7_startOf 18 = .ok (.if_icmp .ge 12, 3) := by decide +kernel
theorem dX7_startOf_21 : decode cX7_startOf 21 = .ok (.aload_n 0, 1) := by decide +kernel
theorem dX7_startOf_22 : decode cX7_startOf 22 = .ok (.getfield 23, 3) := by decide +kernel
theorem dX7_startOf_25 : decode cX7_startOf 25 = .ok (.iload_n 1, 1) := by decide +kernel
theorem dX7_startOf_26 : decode cX7_startOf 26 = .ok (.iaload, 1) := by decide +kernel
theorem dX7_startOf_27 : decode cX7_startOf 27 = .ok (.goto 12, 3) := by decide +kernel
theorem dX7_startOf_30 : decode cX7_startOf 30 = .ok (.aload_n 0, 1) := by decide +kernel
theorem dX7_startOf_31 : decode cX7_startOf 31 = .ok (.getfield 14, 3) := by decide +kernel
theorem dX7_startOf_34 : decode cX7_startOf 34 = .ok (.invokevirtual 34, 3) := by decide +kernel
theorem dX7_startOf_37 : decode cX7_startOf 37 = .ok (.iconst 1, 1) := by decide +kernel
theorem dX7_startOf_38 : decode cX7_startOf 38 = .ok (.iadd, 1) := by decide +kernel
theorem dX7_startOf_39 : decode cX7_startOf 39 = .ok (.ireturn, 1) := by decide +kernel
theorem dX7_wordTo_0 : decode cX7_wordTo 0 = .ok (.aload_n 2, 1) := by decide +kernel
theorem dX7_wordTo_1 : decode cX7_wordTo 1 = .ok (.invokevirtual 31, 3) := by decide +kernel
theorem dX7_wordTo_4 : decode cX7_wordTo 4 = .ok (.aload_n 0, 1) := by decide +kernel
theorem dX7_wordTo_5 : decode cX7_wordTo 5 = .ok (.iload_n 1, 1) := by decide +kernel
theorem dX7_wordTo_6 : decode cX7_wordTo 6 = .ok (.iconst 1, 1) := by decide +kernel
theorem dX7_wordTo_7 : decode cX7_wordTo 7 = .ok (.iadd, 1) := by decide +kernel
theorem dX7_wordTo_8 : decode cX7_wordTo 8 = .ok (.invokevirtual 60, 3) := by decide +kernel
theorem dX7_wordTo_11 : decode cX7_wordTo 11 = .ok (.iconst 1, 1) := by decide +kernel
theorem dX7_wordTo_12 : decode cX7_wordTo 12 = .ok (.isub, 1) := by decide +kernel
theorem dX7_wordTo_13 : decode cX7_wordTo 13 = .ok (.istore_n 3, 1) := by decide +kernel
theorem dX7_wordTo_14 : decode cX7_wordTo 14 = .ok (.aload_n 0, 1) := by decide +kernel
theorem dX7_wordTo_15 : decode cX7_wordTo 15 = .ok (.iload_n 1, 1) := by decide +kernel
theorem dX7_wordTo_16 : decode cX7_wordTo 16 = .ok (.invokevirtual 60, 3) := by decide +kernel
theorem dX7_wordTo_19 : decode cX7_wordTo 19 = .ok (.istore 4, 2) := by decide +kernel
theorem dX7_wordTo_21 : decode cX7_wordTo 21 = .ok (.iload 4, 2) := by decide +kernel
theorem dX7_wordTo_23 : decode cX7_wordTo 23 = .ok (.iload_n 3, 1) := by decide +kernel
theorem dX7_wordTo_24 : decode cX7_wordTo 24 = .ok (.if_icmp .ge 67, 3) := by decide +kernel
theorem dX7_wordTo_27 : decode cX7_wordTo 27 = .ok (.aload_n 0, 1) := by decide +kernel
theorem dX7_wordTo_28 : decode cX7_wordTo 28 = .ok (.getfield 14, 3) := by decide +kernel
theorem dX7_wordTo_31 : decode cX7_wordTo 31 = .ok (.iload 4, 2) := by decide +kernel
theorem dX7_wordTo_33 : decode cX7_wordTo 33 = .ok (.invokevirtual 56, 3) := by decide +kernel
theorem dX7_wordTo_36 : decode cX7_wordTo 36 = .ok (.bipush 126, 2) := by decide +kernel
theorem dX7_wordTo_38 : decode cX7_wordTo 38 = .ok (.if_icmp .ne 34, 3) := by decide +kernel
theorem dX7_wordTo_41 : decode cX7_wordTo 41 = .ok (.iinc 4 1, 3) := by decide +kernel
theorem dX7_wordTo_44 : decode cX7_wordTo 44 = .ok (.aload_n 2, 1) := by decide +kernel
theorem dX7_wordTo_45 : decode cX7_wordTo 45 = .ok (.aload_n 0, 1) := by decide +kernel
theorem dX7_wordTo_46 : decode cX7_wordTo 46 = .ok (.getfield 14, 3) := by decide +kernel
theorem dX7_wordTo_49 : decode cX7_wordTo 49 = .ok (.iload 4, 2) := by decide +kernel
theorem dX7_wordTo_51 : decode cX7_wordTo 51 = .ok (.invokevirtual 56, 3) := by decide +kernel
theorem dX7_wordTo_54 : decode cX7_wordTo 54 = .ok (.bipush 48, 2) := by decide +kernel
theorem dX7_wordTo_56 : decode cX7_wordTo 56 = .ok (.if_icmp .ne 8, 3) := by decide +kernel
theorem dX7_wordTo_59 : decode cX7_wordTo 59 = .ok (.bipush 126, 2) := by decide +kernel
theorem dX7_wordTo_61 : decode cX7_wordTo 61 = .ok (.goto 5, 3) := by decide +kernel
theorem dX7_wordTo_64 : decode cX7_wordTo 64 = .ok (.bipush 47, 2) := by decide +kernel
theorem dX7_wordTo_66 : decode cX7_wordTo 66 = .ok (.invokevirtual 63, 3) := by decide +kernel
theorem dX7_wordTo_69 : decode cX7_wordTo 69 = .ok (.goto 16, 3) := by decide +kernel
theorem dX7_wordTo_72 : decode cX7_wordTo 72 = .ok (.aload_n 2, 1) := by decide +kernel
theorem dX7_wordTo_73 : decode cX7_wordTo 73 = .ok (.aload_n 0, 1) := by decide +kernel
theorem dX7_wordTo_74 : decode cX7_wordTo 74 = .ok (.getfield 14, 3) := by decide +kernel
theorem dX7_wordTo_77 : decode cX7_wordTo 77 = .ok (.iload 4, 2) := by decide +kernel
theorem dX7_wordTo_79 : decode cX7_wordTo 79 = .ok (.invokevirtual 56, 3) := by decide +kernel
theorem dX7_wordTo_82 : decode cX7_wordTo 82 = .ok (.invokevirtual 63, 3) := by decide +kernel
theorem dX7_wordTo_85 : decode cX7_wordTo 85 = .ok (.iinc 4 1, 3) := by decide +kernel
theorem dX7_wordTo_88 : decode cX7_wordTo 88 = .ok (.goto (-67), 3) := by decide +kernel
theorem dX7_wordTo_91 : decode cX7_wordTo 91 = .ok (.return_, 1) := by decide +kernel
theorem dX7_textTo_0 : decode cX7_textTo 0 = .ok (.aload_n 1, 1) := by decide +kernel
theorem dX7_textTo_1 : decode cX7_textTo 1 = .ok (.invokevirtual 31, 3) := by decide +kernel
theorem dX7_textTo_4 : decode cX7_textTo 4 = .ok (.aload_n 1, 1) := by decide +kernel
theorem dX7_textTo_5 : decode cX7_textTo 5 = .ok (.aload_n 0, 1) := by decide +kernel
theorem dX7_textTo_6 : decode cX7_textTo 6 = .ok (.getfield 14, 3) := by decide +kernel
theorem dX7_textTo_9 : decode cX7_textTo 9 = .ok (.iconst 0, 1) := by decide +kernel
theorem dX7_textTo_10 : decode cX7_textTo 10 = .ok (.aload_n 0, 1) := by decide +kernel
theorem dX7_textTo_11 : decode cX7_textTo 11 = .ok (.getfield 14, 3) := by decide +kernel
theorem dX7_textTo_14 : decode cX7_textTo 14 = .ok (.invokevirtual 34, 3) := by decide +kernel
theorem dX7_textTo_17 : decode cX7_textTo 17 = .ok (.invokevirtual 38, 3) := by decide +kernel
theorem dX7_textTo_20 : decode cX7_textTo 20 = .ok (.return_, 1) := by decide +kernel
theorem dX7_textWithPlace_0 : decode cX7_textWithPlace 0 = .ok (.aload_n 2, 1) := by decide +kernel
theorem dX7_textWithPlace_1 : decode cX7_textWithPlace 1 = .ok (.invokevirtual 31, 3) := by decide +kernel
theorem dX7_textWithPlace_4 : decode cX7_textWithPlace 4 = .ok (.aload_n 2, 1) := by decide +kernel
theorem dX7_textWithPlace_5 : decode cX7_textWithPlace 5 = .ok (.aload_n 0, 1) := by decide +kernel
theorem dX7_textWithPlace_6 : decode cX7_textWithPlace 6 = .ok (.getfield 14, 3) := by decide +kernel
theorem dX7_textWithPlace_9 : decode cX7_textWithPlace 9 = .ok (.iconst 0, 1) := by decide +kernel
theorem dX7_textWithPlace_10 : decode cX7_textWithPlace 10 = .ok (.aload_n 0, 1) := by decide +kernel
theorem dX7_textWithPlace_11 : decode cX7_textWithPlace 11 = .ok (.aload_n 0, 1) := by decide +kernel
theorem dX7_textWithPlace_12 : decode cX7_textWithPlace 12 = .ok (.getfield 27, 3) := by decide +kernel
theorem dX7_textWithPlace_15 : decode cX7_textWithPlace 15 = .ok (.iconst 1, 1) := by decide +kernel
theorem dX7_textWithPlace_16 : decode cX7_textWithPlace 16 = .ok (.isub, 1) := by decide +kernel
theorem dX7_textWithPlace_17 : decode cX7_textWithPlace 17 = .ok (.invokevirtual 60, 3) := by decide +kernel
theorem dX7_textWithPlace_20 : decode cX7_textWithPlace 20 = .ok (.invokevirtual 38, 3) := by decide +kernel
theorem dX7_textWithPlace_23 : decode cX7_textWithPlace 23 = .ok (.aload_n 2, 1) := by decide +kernel
theorem dX7_textWithPlace_24 : decode cX7_textWithPlace 24 = .ok (.iload_n 1, 1) := by decide +kernel
theorem dX7_textWithPlace_25 : decode cX7_textWithPlace 25 = .ok (.invokevirtual 66, 3) := by decide +kernel
theorem dX7_textWithPlace_28 : decode cX7_textWithPlace 28 = .ok (.return_, 1) := by decide +kernel
theorem dX7_leadsTo_0 : decode cX7_leadsTo 0 = .ok (.iconst 0, 1) := by decide +kernel
theorem dX7_leadsTo_1 : decode cX7_leadsTo 1 = .ok (.istore_n 3, 1) := by decide +kernel
theorem dX7_leadsTo_2 : decode cX7_leadsTo 2 = .ok (.iconst 0, 1) := by decide +kernel
theorem dX7_leadsTo_3 : decode cX7_leadsTo 3 = .ok (.istore 4, 2) := by decide +kernel
theorem dX7_leadsTo_5 : decode cX7_leadsTo 5 = .ok (.iload 4, 2) := by decide +kernel
theorem dX7_leadsTo_7 : decode cX7_leadsTo 7 = .ok (.iload_n 2, 1) := by decide +kernel
theorem dX7_leadsTo_8 : decode cX7_leadsTo 8 = .ok (.if_icmp .ge 68, 3) := by decide +kernel
theorem dX7_leadsTo_11 : decode cX7_leadsTo 11 = .ok (.iload 4, 2) := by decide +kernel
theorem dX7_leadsTo_13 : decode cX7_leadsTo 13 = .ok (.aload_n 0, 1) := by decide +kernel
theorem dX7_leadsTo_14 : decode cX7_leadsTo 14 = .ok (.getfield 27, 3) := by decide +kernel
theorem dX7_leadsTo_17 : decode cX7_leadsTo 17 = .ok (.if_icmp .ge 59, 3) := by decide +kernel
theorem dX7_leadsTo_20 : decode cX7_leadsTo 20 = .ok (.iload_n 3, 1) := by decide +kernel
theorem dX7_leadsTo_21 : decode cX7_leadsTo 21 = .ok (.iconst (-1), 1) := by decide +kernel
theorem dX7_leadsTo_22 : decode cX7_leadsTo 22 = .ok (.if_icmp .eq 54, 3) := by decide +kernel
theorem dX7_leadsTo_25 : decode cX7_leadsTo 25 = .ok (.aload_n 0, 1) := by decide +kernel
theorem dX7_leadsTo_26 : decode cX7_leadsTo 26 = .ok (.iload 4, 2) := by decide +kernel
theorem dX7_leadsTo_28 : decode cX7_leadsTo 28 = .ok (.aload_n 0, 1) := by decide +kernel
theorem dX7_leadsTo_29 : decode cX7_leadsTo 29 = .ok (.getfield 20, 3) := by decide +kernel
theorem dX7_leadsTo_32 : decode cX7_leadsTo 32 = .ok (.invokevirtual 69, 3) := by decide +kernel
theorem dX7_leadsTo_35 : decode cX7_leadsTo 35 = .ok (.aload_n 1, 1) := by decide +kernel
theorem dX7_leadsTo_36 : decode cX7_leadsTo 36 = .ok (.iload_n 3, 1) := by decide +kernel
theorem dX7_leadsTo_37 : decode cX7_leadsTo 37 = .ok (.iconst 4, 1) := by decide +kernel
theorem dX7_leadsTo_38 : decode cX7_leadsTo 38 = .ok (.invokevirtual 52, 3) := by decide +kernel
theorem dX7_leadsTo_41 : decode cX7_leadsTo 41 = .ok (.ifCond .eq 19, 3) := by decide +kernel
theorem dX7_leadsTo_44 : decode cX7_leadsTo 44 = .ok (.aload_n 1, 1) := by decide +kernel
theorem dX7_leadsTo_45 : decode cX7_leadsTo 45 = .ok (.iload_n 3, 1) := by decide +kernel
theorem dX7_leadsTo_46 : decode cX7_leadsTo 46 = .ok (.aload_n 0, 1) := by decide +kernel
theorem dX7_leadsTo_47 : decode cX7_leadsTo 47 = .ok (.getfield 20, 3) := by decide +kernel
theorem dX7_leadsTo_50 : decode cX7_leadsTo 50 = .ok (.iconst 0, 1) := by decide +kernel
theorem dX7_leadsTo_51 : decode cX7_leadsTo 51 = .ok (.invokestatic 72, 3) := by decide +kernel
theorem dX7_leadsTo_54 : decode cX7_leadsTo 54 = .ok (.invokevirtual 76, 3) := by decide +kernel
theorem dX7_leadsTo_57 : decode cX7_leadsTo 57 = .ok (.goto 12, 3) := by decide +kernel
theorem dX7_leadsTo_60 : decode cX7_leadsTo 60 = .ok (.aload_n 1, 1) := by decide +kernel
theorem dX7_leadsTo_61 : decode cX7_leadsTo 61 = .ok (.iload_n 3, 1) := by decide +kernel
theorem dX7_leadsTo_62 : decode cX7_leadsTo 62 = .ok (.aload_n 0, 1) := by decide +kernel
theorem dX7_leadsTo_63 : decode cX7_leadsTo 63 = .ok (.getfield 20, 3) := by decide +kernel
theorem dX7_leadsTo_66 : decode cX7_leadsTo 66 = .ok (.invokevirtual 80, 3) := by decide +kernel
theorem dX7_leadsTo_69 : decode cX7_leadsTo 69 = .ok (.istore_n 3, 1) := by decide +kernel
theorem dX7_leadsTo_70 : decode cX7_leadsTo 70 = .ok (.iinc 4 1, 3) := by decide +kernel
theorem dX7_leadsTo_73 : decode cX7_leadsTo 73 = .ok (.goto (-68), 3) := by decide +kernel
theorem dX7_leadsTo_76 : decode cX7_leadsTo 76 = .ok (.iload_n 3, 1) := by decide +kernel
theorem dX7_leadsTo_77 : decode cX7_leadsTo 77 = .ok (.ireturn, 1) := by decide +kernel
theorem dX7_placeIn_0 : decode cX7_placeIn 0 = .ok (.aload_n 0, 1) := by decide +kernel
theorem dX7_placeIn_1 : decode cX7_placeIn 1 = .ok (.invokevirtual 34, 3) := by decide +kernel
theorem dX7_placeIn_4 : decode cX7_placeIn 4 = .ok (.iload_n 1, 1) := by decide +kernel
theorem dX7_placeIn_5 : decode cX7_placeIn 5 = .ok (.isub, 1) := by decide +kernel
theorem dX7_placeIn_6 : decode cX7_placeIn 6 = .ok (.istore_n 2, 1) := by decide +kernel
theorem dX7_placeIn_7 : decode cX7_placeIn 7 = .ok (.iload_n 2, 1) := by decide +kernel
theorem dX7_placeIn_8 : decode cX7_placeIn 8 = .ok (.iconst 1, 1) := by decide +kernel
theorem dX7_placeIn_9 : decode cX7_placeIn 9 = .ok (.if_icmp .lt 23, 3) := by decide +kernel
theorem dX7_placeIn_12 : decode cX7_placeIn 12 = .ok (.iload_n 2, 1) := by decide +kernel
theorem dX7_placeIn_13 : decode cX7_placeIn 13 = .ok (.iconst 3, 1) := by decide +kernel
theorem dX7_placeIn_14 : decode cX7_placeIn 14 = .ok (.if_icmp .gt 18, 3) := by decide +kernel
theorem dX7_placeIn_17 : decode cX7_placeIn 17 = .ok (.iload_n 2, 1) := by decide +kernel
theorem dX7_placeIn_18 : decode cX7_placeIn 18 = .ok (.iconst 1, 1) := by decide +kernel
theorem dX7_placeIn_19 : decode cX7_placeIn 19 = .ok (.if_icmp .le 15, 3) := by decide +kernel
theorem dX7_placeIn_22 : decode cX7_placeIn 22 = .ok (.aload_n 0, 1) := by decide +kernel
theorem dX7_placeIn_23 : decode cX7_placeIn 23 = .ok (.iload_n 1, 1) := by decide +kernel
theorem dX7_placeIn_24 : decode cX7_placeIn 24 = .ok (.invokevirtual 56, 3) := by decide +kernel
theorem dX7_placeIn_27 : decode cX7_placeIn 27 = .ok (.bipush 48, 2) := by decide +kernel
theorem dX7_placeIn_29 : decode cX7_placeIn 29 = .ok (.if_icmp .ne 5, 3) := by decide +kernel
theorem dX7_placeIn_32 : decode cX7_placeIn 32 = .ok (.iconst (-1), 1) := by decide +kernel
theorem dX7_placeIn_33 : decode cX7_placeIn 33 = .ok (.ireturn, 1) := by decide +kernel
theorem dX7_placeIn_34 : decode cX7_placeIn 34 = .ok (.iconst 0, 1) := by decide +kernel
theorem dX7_placeIn_35 : decode cX7_placeIn 35 = .ok (.istore_n 3, 1) := by decide +kernel
theorem dX7_placeIn_36 : decode cX7_placeIn 36 = .ok (.iload_n 1, 1) := by decide +kernel
theorem dX7_placeIn_37 : decode cX7_placeIn 37 = .ok (.istore 4, 2) := by decide +kernel
theorem dX7_placeIn_39 : decode cX7_placeIn 39 = .ok (.iload 4, 2) := by decide +kernel
theorem dX7_placeIn_41 : decode cX7_placeIn 41 = .ok (.aload_n 0, 1) := by decide +kernel
theorem dX7_placeIn_42 : decode cX7_placeIn 42 = .ok (.invokevirtual 34, 3) := by decide +kernel
theorem dX7_placeIn_45 : decode cX7_placeIn 45 = .ok (.if_icmp .ge 44, 3) := by decide +kernel
theorem dX7_placeIn_48 : decode cX7_placeIn 48 = .ok (.aload_n 0, 1) := by decide +kernel
theorem dX7_placeIn_49 : decode cX7_placeIn 49 = .ok (.iload 4, 2) := by decide +kernel
theorem dX7_placeIn_51 : decode cX7_placeIn 51 = .ok (.invokevirtual 56, 3) := by decide +kernel
theorem dX7_placeIn_54 : decode cX7_placeIn 54 = .ok (.istore 5, 2) := by decide +kernel
theorem dX7_placeIn_56 : decode cX7_placeIn 56 = .ok (.iload 5, 2) := by decide +kernel
theorem dX7_placeIn_58 : decode cX7_placeIn 58 = .ok (.bipush 48, 2) := by decide +kernel
theorem dX7_placeIn_60 : decode cX7_placeIn 60 = .ok (.if_icmp .lt 10, 3) := by decide +kernel
theorem dX7_placeIn_63 : decode cX7_placeIn 63 = .ok (.iload 5, 2) := by decide +kernel
theorem dX7_placeIn_65 : decode cX7_placeIn 65 = .ok (.bipush 57, 2) := by decide +kernel
theorem dX7_placeIn_67 : decode cX7_placeIn 67 = .ok (.if_icmp .le 5, 3) := by decide +kernel
theorem dX7_placeIn_70 : decode cX7_placeIn 70 = .ok (.iconst (-1), 1) := by decide +kernel
theorem dX7_placeIn_71 : decode cX7_placeIn 71 = .ok (.ireturn, 1) := by decide +kernel
theorem dX7_placeIn_72 : decode cX7_placeIn 72 = .ok (.iload_n 3, 1) := by decide +kernel
theorem dX7_placeIn_73 : decode cX7_placeIn 73 = .ok (.bipush 10, 2) := by decide +kernel
theorem dX7_placeIn_75 : decode cX7_placeIn 75 = .ok (.imul, 1) := by decide +kernel
theorem dX7_placeIn_76 : decode cX7_placeIn 76 = .ok (.iload 5, 2) := by decide +kernel
theorem dX7_placeIn_78 : decode cX7_placeIn 78 = .ok (.iadd, 1) := by decide +kernel
theorem dX7_placeIn_79 : decode cX7_placeIn 79 = .ok (.bipush 48, 2) := by decide +kernel
theorem dX7_placeIn_81 : decode cX7_placeIn 81 = .ok (.isub, 1) := by decide +kernel
theorem dX7_placeIn_82 : decode cX7_placeIn 82 = .ok (.istore_n 3, 1) := by decide +kernel
theorem dX7_placeIn_83 : decode cX7_placeIn 83 = .ok (.iinc 4 1, 3) := by decide +kernel
theorem dX7_placeIn_86 : decode cX7_placeIn 86 = .ok (.goto (-47), 3) := by decide +kernel
theorem dX7_placeIn_89 : decode cX7_placeIn 89 = .ok (.iload_n 3, 1) := by decide +kernel
theorem dX7_placeIn_90 : decode cX7_placeIn 90 = .ok (.ireturn, 1) := by decide +kernel
theorem dX8_value_0 : decode cX8_value 0 = .ok (.aload_n 0, 1) := by decide +kernel
theorem dX8_value_1 : decode cX8_value 1 = .ok (.iload_n 1, 1) := by decide +kernel
theorem dX8_value_2 : decode cX8_value 2 = .ok (.invokevirtual 9, 3) := by decide +kernel
theorem dX8_value_5 : decode cX8_value 5 = .ok (.tableswitch 84 0 3 #[31, 41, 64, 74], 31) := by decide +kernel
theorem dX8_value_36 : decode cX8_value 36 = .ok (.aload 4, 2) := by decide +kernel
theorem dX8_value_38 : decode cX8_value 38 = .ok (.ldc 15, 2) := by decide +kernel
theorem dX8_value_40 : decode cX8_value 40 = .ok (.invokevirtual 17, 3) := by decide +kernel
theorem dX8_value_43 : decode cX8_value 43 = .ok (.goto 55, 3) := by decide +kernel
theorem dX8_value_46 : decode cX8_value 46 = .ok (.aload 4, 2) := by decide +kernel
theorem dX8_value_48 : decode cX8_value 48 = .ok (.aload_n 0, 1) := by decide +kernel
theorem dX8_value_49 : decode cX8_value 49 = .ok (.iload_n 1, 1) := by decide +kernel
theorem dX8_value_50 : decode cX8_value 50 = .ok (.invokevirtual 23, 3) := by decide +kernel
theorem dX8_value_53 : decode cX8_value 53 = .ok (.ifCond .eq 8, 3) := by decide +kernel
theorem dX8_value_56 : decode cX8_value 56 = .ok (.ldc 27, 2) := by decide +kernel
theorem dX8_value_58 : decode cX8_value 58 = .ok (.goto 5, 3) := by decide +kernel
theorem dX8_value_61 : decode cX8_value 61 = .ok (.ldc 29, 2) := by decide +kernel
theorem dX8_value_63 : decode cX8_value 63 = .ok (.invokevirtual 17, 3) := by decide +kernel
theorem dX8_value_66 : decode cX8_value 66 = .ok (.goto 32, 3) := by decide +kernel
theorem dX8_value_69 : decode cX8_value 69 = .ok (.aload_n 0, 1) := by decide +kernel
theorem dX8_value_70 : decode cX8_value 70 = .ok (.iload_n 1, 1) := by decide +kernel
theorem dX8_value_71 : decode cX8_value 71 = .ok (.aload 4, 2) := by decide +kernel
theorem dX8_value_73 : decode cX8_value 73 = .ok (.invokestatic 31, 3) := by decide +kernel
theorem dX8_value_76 : decode cX8_value 76 = .ok (.goto 22, 3) := by decide +kernel
theorem dX8_value_79 : decode cX8_value 79 = .ok (.aload_n 0, 1) := by decide +kernel
theorem dX8_value_80 : decode cX8_value 80 = .ok (.iload_n 1, 1) := by decide +kernel
theorem dX8_value_81 : decode cX8_value 81 = .ok (.aload 4, 2) := by decide +kernel
theorem dX8_value_83 : decode cX8_value 83 = .ok (.invokestatic 37, 3) := by decide +kernel
theorem dX8_value_86 : decode cX8_value 86 = .ok (.goto 12, 3) := by decide +kernel
theorem dX8_value_89 : decode cX8_value 89 = .ok (.aload_n 0, 1) := by decide +kernel
theorem dX8_value_90 : decode cX8_value 90 = .ok (.iload_n 1, 1) := by decide +kernel
theorem dX8_value_91 : decode cX8_value 91 = .ok (.iload_n 2, 1) := by decide +kernel
theorem dX8_value_92 : decode cX8_value 92 = .ok (.iload_n 3, 1) := by decide +kernel
theorem dX8_value_93 : decode cX8_value 93 = .ok (.aload 4, 2) := by decide +kernel
theorem dX8_value_95 : decode cX8_value 95 = .ok (.invokestatic 40, 3) := by decide +kernel
theorem dX8_value_98 : decode cX8_value 98 = .ok (.return_, 1) := by decide +kernel
theorem dX8_number_0 : decode cX8_number 0 = .ok (.aload_n 0, 1) := by decide +kernel
theorem dX8_number_1 : decode cX8_number 1 = .ok (.iload_n 1, 1) := by decide +kernel
theorem dX8_number_2 : decode cX8_number 2 = .ok (.aload_n 2, 1) := by decide +kernel
theorem dX8_number_3 : decode cX8_number 3 = .ok (.invokevirtual 44, 3) := by decide +kernel
theorem dX8_number_6 : decode cX8_number 6 = .ok (.aload_n 0, 1) := by decide +kernel
theorem dX8_number_7 : decode cX8_number 7 = .ok (.iload_n 1, 1) := by decide +kernel
theorem dX8_number_8 : decode cX8_number 8 = .ok (.invokevirtual 48, 3) := by decide +kernel
theorem dX8_number_11 : decode cX8_number 11 = .ok (.ifCond .eq 18, 3) := by decide +kernel
theorem dX8_number_14 : decode cX8_number 14 = .ok (.aload_n 2, 1) := by decide +kernel
theorem dX8_number_15 : decode cX8_number 15 = .ok (.bipush 101, 2) := by decide +kernel
theorem dX8_number_17 : decode cX8_number 17 = .ok (.invokevirtual 51, 3) := by decide +kernel
theorem dX8_number_20 : decode cX8_number 20 = .ok (.aload_n 2, 1) := by decide +kernel
theorem dX8_number_21 : decode cX8_number 21 = .ok (.aload_n 0, 1) := by decide +kernel
theorem dX8_number_22 : decode cX8_number 22 = .ok (.iload_n 1, 1) := by decide +kernel
theorem dX8_number_23 : decode cX8_number 23 = .ok (.invokevirtual 48, 3) := by decide +kernel
theorem dX8_number_26 : decode cX8_number 26 = .ok (.invokevirtual 55, 3) := by decide +kernel
theorem dX8_number_29 : decode cX8_number 29 = .ok (.return_, 1) := by decide +kernel
theorem dX8_text_0 : decode cX8_text 0 = .ok (.aload_n 2, 1) := by decide +kernel
theorem dX8_text_1 : decode cX8_text 1 = .ok (.bipush 34, 2) := by decide +kernel
theorem dX8_text_3 : decode cX8_text 3 = .ok (.invokevirtual 51, 3) := by decide +kernel
theorem dX8_text_6 : decode cX8_text 6 = .ok (.iconst 0, 1) := by decide +kernel
theorem dX8_text_7 : decode cX8_text 7 = .ok (.istore_n 3, 1) := by decide +kernel
theorem dX8_text_8 : decode cX8_text 8 = .ok (.iload_n 3, 1) := by decide +kernel
theorem dX8_text_9 : decode cX8_text 9 = .ok (.aload_n 0, 1) := by decide +kernel
theorem dX8_text_10 : decode cX8_text 10 = .ok (.iload_n 1, 1) := by decide +kernel
theorem dX8_text_11 : decode cX8_text 11 = .ok (.invokevirtual 58, 3) := by decide +kernel
theorem dX8_text_14 : decode cX8_text 14 = .ok (.if_icmp .ge 19, 3) := by decide +kernel
theorem dX8_text_17 : decode cX8_text 17 = .ok (.aload_n 2, 1) := by decide +kernel
theorem dX8_text_18 : decode cX8_text 18 = .ok (.aload_n 0, 1) := by decide +kernel
theorem dX8_text_19 : decode cX8_text 19 = .ok (.iload_n 1, 1) := by decide +kernel
theorem dX8_text_20 : decode cX8_text 20 = .ok (.iload_n 3, 1) := by decide +kernel
theorem dX8_text_21 : decode cX8_text 21 = .ok (.invokevirtual 61, 3) := by decide +kernel
theorem dX8_text_24 : decode cX8_text 24 = .ok (.invokevirtual 65, 3) := by decide +kernel
theorem dX8_text_27 : decode cX8_text 27 = .ok (.iinc 3 1, 3) := by decide +kernel
theorem dX8_text_30 : decode cX8_text 30 = .ok (.goto (-22), 3) := by decide +kernel
theorem dX8_text_33 : decode cX8_text 33 = .ok (.aload_n 2, 1) := by decide +kernel
theorem dX8_text_34 : decode cX8_text 34 = .ok (.bipush 34, 2) := by decide +kernel
theorem dX8_text_36 : decode cX8_text 36 = .ok (.invokevirtual 51, 3) := by decide +kernel
theorem dX8_text_39 : decode cX8_text 39 = .ok (.return_, 1) := by decide +kernel
theorem dX8_key_0 : decode cX8_key 0 = .ok (.aload_n 2, 1) := by decide +kernel
theorem dX8_key_1 : decode cX8_key 1 = .ok (.bipush 34, 2) := by decide +kernel
theorem dX8_key_3 : decode cX8_key 3 = .ok (.invokevirtual 51, 3) := by decide +kernel
theorem dX8_key_6 : decode cX8_key 6 = .ok (.iconst 0, 1) := by decide +kernel
theorem dX8_key_7 : decode cX8_key 7 = .ok (.istore_n 3, 1) := by decide +kernel
theorem dX8_key_8 : decode cX8_key 8 = .ok (.iload_n 3, 1) := by decide +kernel
theorem dX8_key_9 : decode cX8_key 9 = .ok (.aload_n 0, 1) := by decide +kernel
theorem dX8_key_10 : decode cX8_key 10 = .ok (.iload_n 1, 1) := by decide +kernel
theorem dX8_key_11 : decode cX8_key 11 = .ok (.invokevirtual 68, 3) := by decide +kernel
theorem dX8_key_14 : decode cX8_key 14 = .ok (.if_icmp .ge 19, 3) := by decide +kernel
theorem dX8_key_17 : decode cX8_key 17 = .ok (.aload_n 2, 1) := by decide +kernel
theorem dX8_key_18 : decode cX8_key 18 = .ok (.aload_n 0, 1) := by decide +kernel
theorem dX8_key_19 : decode cX8_key 19 = .ok (.iload_n 1, 1) := by decide +kernel
theorem dX8_key_20 : decode cX8_key 20 = .ok (.iload_n 3, 1) := by decide +kernel
theorem dX8_key_21 : decode cX8_key 21 = .ok (.invokevirtual 71, 3) := by decide +kernel
theorem dX8_key_24 : decode cX8_key 24 = .ok (.invokevirtual 65, 3) := by decide +kernel
theorem dX8_key_27 : decode cX8_key 27 = .ok (.iinc 3 1, 3) := by decide +kernel
theorem dX8_key_30 : decode cX8_key 30 = .ok (.goto (-22), 3) := by decide +kernel
theorem dX8_key_33 : decode cX8_key 33 = .ok (.aload_n 2, 1) := by decide +kernel
theorem dX8_key_34 : decode cX8_key 34 = .ok (.bipush 34, 2) := by decide +kernel
theorem dX8_key_36 : decode cX8_key 36 = .ok (.invokevirtual 51, 3) := by decide +kernel
theorem dX8_key_39 : decode cX8_key 39 = .ok (.return_, 1) := by decide +kernel
theorem dX8_group_0 : decode cX8_group 0 = .ok (.aload_n 0, 1) := by decide +kernel
theorem dX8_group_1 : decode cX8_group 1 = .ok (.iload_n 1, 1) := by decide +kernel
theorem dX8_group_2 : decode cX8_group 2 = .ok (.iconst 5, 1) := by decide +kernel
theorem dX8_group_3 : decode cX8_group 3 = .ok (.invokevirtual 74, 3) := by decide +kernel
theorem dX8_group_6 : decode cX8_group 6 = .ok (.istore 5, 2) := by decide +kernel
theorem dX8_group_8 : decode cX8_group 8 = .ok (.iload 5, 2) := by decide +kernel
theorem dX8_group_10 : decode cX8_group 10 = .ok (.ifCond .eq 12, 3) := by decide +kernel
theorem dX8_group_13 : decode cX8_group 13 = .ok (.iload_n 2, 1) := by decide +kernel
theorem dX8_group_14 : decode cX8_group 14 = .ok (.iconst 1, 1) := by decide +kernel
theorem dX8_group_15 : decode cX8_group 15 = .ok (.if_icmp .ne 7, 3) := by decide +kernel
theorem dX8_group_18 : decode cX8_group 18 = .ok (.iconst 1, 1) := by decide +kernel
theorem dX8_group_19 : decode cX8_group 19 = .ok (.goto 4, 3) := by decide +kernel
theorem dX8_group_22 : decode cX8_group 22 = .ok (.iconst 0, 1) := by decide +kernel
theorem dX8_group_23 : decode cX8_group 23 = .ok (.istore 6, 2) := by decide +kernel
theorem dX8_group_25 : decode cX8_group 25 = .ok (.iload_n 2, 1) := by decide +kernel
theorem dX8_group_26 : decode cX8_group 26 = .ok (.iconst 2, 1) := by decide +kernel
theorem dX8_group_27 : decode cX8_group 27 = .ok (.if_icmp .ne 16, 3) := by decide +kernel
theorem dX8_group_30 : decode cX8_group 30 = .ok (.aload_n 0, 1) := by decide +kernel
theorem dX8_group_31 : decode cX8_group 31 = .ok (.iload_n 1, 1) := by decide +kernel
theorem dX8_group_32 : decode cX8_group 32 = .ok (.invokevirtual 78, 3) := by decide +kernel
theorem dX8_group_35 : decode cX8_group 35 = .ok (.iconst (-1), 1) := by decide +kernel
theorem dX8_group_36 : decode cX8_group 36 = .ok (.if_icmp .eq 7, 3) := by decide +kernel
theorem dX8_group_39 : decode cX8_group 39 = .ok (.iconst 1, 1) := by decide +kernel
theorem dX8_group_40 : decode cX8_group 40 = .ok (.goto 4, 3) := by decide +kernel
theorem dX8_group_43 : decode cX8_group 43 = .ok (.iconst 0, 1) := by decide +kernel
theorem dX8_group_44 : decode cX8_group 44 = .ok (.istore 7, 2) := by decide +kernel
theorem dX8_group_46 : decode cX8_group 46 = .ok (.aload 4, 2) := by decide +kernel
theorem dX8_group_48 : decode cX8_group 48 = .ok (.iload 5, 2) := by decide +kernel
theorem dX8_group_50 : decode cX8_group 50 = .ok (.ifCond .eq 8, 3) := by decide +kernel
theorem dX8_group_53 : decode cX8_group 53 = .ok (.bipush 123, 2) := by decide +kernel
theorem dX8_group_55 : decode cX8_group 55 = .ok (.goto 5, 3) := by decide +kernel
theorem dX8_group_58 : decode cX8_group 58 = .ok (.bipush 91, 2) := by decide +kernel
theorem dX8_group_60 : decode cX8_group 60 = .ok (.invokevirtual 51, 3) := by decide +kernel
theorem dX8_group_63 : decode cX8_group 63 = .ok (.iload 6, 2) := by decide +kernel
theorem dX8_group_65 : decode cX8_group 65 = .ok (.ifCond .eq 12, 3) := by decide +kernel
theorem dX8_group_68 : decode cX8_group 68 = .ok (.aload_n 0, 1) := by decide +kernel
theorem dX8_group_69 : decode cX8_group 69 = .ok (.iload_n 1, 1) := by decide +kernel
theorem dX8_group_70 : decode cX8_group 70 = .ok (.iconst (-1), 1) := by decide +kernel
theorem dX8_group_71 : decode cX8_group 71 = .ok (.invokevirtual 81, 3) := by decide +kernel
theorem dX8_group_74 : decode cX8_group 74 = .ok (.goto 8, 3) := by decide +kernel
theorem dX8_group_77 : decode cX8_group 77 = .ok (.aload_n 0, 1) := by decide +kernel
theorem dX8_group_78 : decode cX8_group 78 = .ok (.iload_n 1, 1) := by decide +kernel
theorem dX8_group_79 : decode cX8_group 79 = .ok (.invokevirtual 78, 3) := by decide +kernel
theorem dX8_group_82 : decode cX8_group 82 = .ok (.istore 8, 2) := by decide +kernel
theorem dX8_group_84 : decode cX8_group 84 = .ok (.iconst 0, 1) := by decide +kernel
theorem dX8_group_85 : decode cX8_group 85 = .ok (.istore 9, 2) := by decide +kernel
theorem dX8_group_87 : decode cX8_group 87 = .ok (.iload 9, 2) := by decide +kernel
theorem dX8_group_89 : decode cX8_group 89 = .ok (.bipush 100, 2) := by decide +kernel
theorem dX8_group_91 : decode cX8_group 91 = .ok (.if_icmp .ge 112, 3) := by decide +kernel
theorem dX8_group_94 : decode cX8_group 94 = .ok (.iload 8, 2) := by decide +kernel
theorem dX8_group_96 : decode cX8_group 96 = .ok (.iconst (-1), 1) := by decide +kernel
theorem dX8_group_97 : decode cX8_group 97 = .ok (.if_icmp .eq 106, 3) := by decide +kernel
theorem dX8_group_100 : decode cX8_group 100 = .ok (.iload_n 3, 1) := by decide +kernel
theorem dX8_group_101 : decode cX8_group 101 = .ok (.bipush 12, 2) := by decide +kernel
theorem dX8_group_103 : decode cX8_group 103 = .ok (.if_icmp .gt 100, 3) := by decide +kernel
theorem dX8_group_106 : decode cX8_group 106 = .ok (.iload 9, 2) := by decide +kernel
theorem dX8_group_108 : decode cX8_group 108 = .ok (.ifCond .le 10, 3) := by decide +kernel
theorem dX8_group_111 : decode cX8_group 111 = .ok (.aload 4, 2) := by decide +kernel
theorem dX8_group_113 : decode cX8_group 113 = .ok (.bipush 44, 2) := by decide +kernel
theorem dX8_group_115 : decode cX8_group 115 = .ok (.invokevirtual 51, 3) := by decide +kernel
theorem dX8_group_118 : decode cX8_group 118 = .ok (.iload 7, 2) := by decide +kernel
theorem dX8_group_120 : decode cX8_group 120 = .ok (.ifCond .eq 11, 3) := by decide +kernel
theorem dX8_group_123 : decode cX8_group 123 = .ok (.iload_n 3, 1) := by decide +kernel
theorem dX8_group_124 : decode cX8_group 124 = .ok (.iconst 1, 1) := by decide +kernel
theorem dX8_group_125 : decode cX8_group 125 = .ok (.iadd, 1) := by decide +kernel
theorem dX8_group_126 : decode cX8_group 126 = .ok (.aload 4, 2) := by decide +kernel
theorem dX8_group_128 : decode cX8_group 128 = .ok (.invokestatic 84, 3) := by decide +kernel
theorem dX8_group_131 : decode cX8_group 131 = .ok (.iload 5, 2) := by decide +kernel
theorem dX8_group_133 : decode cX8_group 133 = .ok (.ifCond .eq 28, 3) := by decide +kernel
theorem dX8_group_136 : decode cX8_group 136 = .ok (.aload_n 0, 1) := by decide +kernel
theorem dX8_group_137 : decode cX8_group 137 = .ok (.iload 8, 2) := by decide +kernel
theorem dX8_group_139 : decode cX8_group 139 = .ok (.aload 4, 2) := by decide +kernel
theorem dX8_group_141 : decode cX8_group 141 = .ok (.invokestatic 87, 3) := by decide +kernel
theorem dX8_group_144 : decode cX8_group 144 = .ok (.aload 4, 2) := by decide +kernel
theorem dX8_group_146 : decode cX8_group 146 = .ok (.iload 7, 2) := by decide +kernel
theorem dX8_group_148 : decode cX8_group 148 = .ok (.ifCond .eq 8, 3) := by decide +kernel
theorem dX8_group_151 : decode cX8_group 151 = .ok (.ldc 90, 2) := by decide +kernel
theorem dX8_group_153 : decode cX8_group 153 = .ok (.goto 5, 3) := by decide +kernel
theorem dX8_group_156 : decode cX8_group 156 = .ok (.ldc 92, 2) := by decide +kernel
theorem dX8_group_158 : decode cX8_group 158 = .ok (.invokevirtual 17, 3) := by decide +kernel
theorem dX8_group_161 : decode cX8_group 161 = .ok (.aload_n 0, 1) := by decide +kernel
theorem dX8_group_162 : decode cX8_group 162 = .ok (.iload 8, 2) := by decide +kernel
theorem dX8_group_164 : decode cX8_group 164 = .ok (.iload_n 2, 1) := by decide +kernel
theorem dX8_group_165 : decode cX8_group 165 = .ok (.iload_n 3, 1) := by decide +kernel
theorem dX8_group_166 : decode cX8_group 166 = .ok (.iconst 1, 1) := by decide +kernel
theorem dX8_group_167 : decode cX8_group 167 = .ok (.iadd, 1) := by decide +kernel
theorem dX8_group_168 : decode cX8_group 168 = .ok (.aload 4, 2) := by decide +kernel
theorem dX8_group_170 : decode cX8_group 170 = .ok (.invokestatic 94, 3) := by decide +kernel
theorem dX8_group_173 : decode cX8_group 173 = .ok (.iload 6, 2) := by decide +kernel
theorem dX8_group_175 : decode cX8_group 175 = .ok (.ifCond .eq 13, 3) := by decide +kernel
theorem dX8_group_178 : decode cX8_group 178 = .ok (.aload_n 0, 1) := by decide +kernel
theorem dX8_group_179 : decode cX8_group 179 = .ok (.iload_n 1, 1) := by decide +kernel
theorem dX8_group_180 : decode cX8_group 180 = .ok (.iload 8, 2) := by decide +kernel
theorem dX8_group_182 : decode cX8_group 182 = .ok (.invokevirtual 81, 3) := by decide +kernel
theorem dX8_group_185 : decode cX8_group 185 = .ok (.goto 10, 3) := by decide +kernel
theorem dX8_group_188 : decode cX8_group 188 = .ok (.aload_n 0, 1) := by decide +kernel
theorem dX8_group_189 : decode cX8_group 189 = .ok (.iload_n 1, 1) := by decide +kernel
theorem dX8_group_190 : decode cX8_group 190 = .ok (.iload 8, 2) := by decide +kernel
theorem dX8_group_192 : decode cX8_group 192 = .ok (.invokevirtual 97, 3) := by decide +kernel
theorem dX8_group_195 : decode cX8_group 195 = .ok (.istore 8, 2) := by decide +kernel
theorem dX8_group_197 : decode cX8_group 197 = .ok (.iinc 9 1, 3) := by decide +kernel
theorem dX8_group_200 : decode cX8_group 200 = .ok (.goto (-113), 3) := by decide +kernel
theorem dX8_group_203 : decode cX8_group 203 = .ok (.iload 7, 2) := by decide +kernel
theorem dX8_group_205 : decode cX8_group 205 = .ok (.ifCond .eq 9, 3) := by decide +kernel
theorem dX8_group_208 : decode cX8_group 208 = .ok (.iload_n 3, 1) := by decide +kernel
theorem dX8_group_209 : decode cX8_group 209 = .ok (.aload 4, 2) := by decide +kernel
theorem dX8_group_211 : decode cX8_group 211 = .ok (.invokestatic 84, 3) := by decide +kernel
theorem dX8_group_214 : decode cX8_group 214 = .ok (.aload 4, 2) := by decide +kernel
theorem dX8_group_216 : decode cX8_group 216 = .ok (.iload 5, 2) := by decide +kernel
theorem dX8_group_218 : decode cX8_group 218 = .ok (.ifCond .eq 8, 3) := by decide +kernel
theorem dX8_group_221 : decode cX8_group 221 = .ok (.bipush 125, 2) := by decide +kernel
theorem dX8_group_223 : decode cX8_group 223 = .ok (.goto 5, 3) := by decide +kernel
theorem dX8_group_226 : decode cX8_group 226 = .ok (.bipush 93, 2) := by decide +kernel
theorem dX8_group_228 : decode cX8_group 228 = .ok (.invokevirtual 51, 3) := by decide +kernel
theorem dX8_group_231 : decode cX8_group 231 = .ok (.return_, 1) := by decide +kernel
theorem dX8_line_0 : decode cX8_line 0 = .ok (.aload_n 1, 1) := by decide +kernel
theorem dX8_line_1 : decode cX8_line 1 = .ok (.bipush 10, 2) := by decide +kernel
theorem dX8_line_3 : decode cX8_line 3 = .ok (.invokevirtual 51, 3) := by decide +kernel
theorem dX8_line_6 : decode cX8_line 6 = .ok (.iconst 0, 1) := by decide +kernel
theorem dX8_line_7 : decode cX8_line 7 = .ok (.istore_n 2, 1) := by decide +kernel
theorem dX8_line_8 : decode cX8_line 8 = .ok (.iload_n 2, 1) := by decide +kernel
theorem dX8_line_9 : decode cX8_line 9 = .ok (.iload_n 0, 1) := by decide +kernel
theorem dX8_line_10 : decode cX8_line 10 = .ok (.if_icmp .ge 15, 3) := by decide +kernel
theorem dX8_line_13 : decode cX8_line 13 = .ok (.aload_n 1, 1) := by decide +kernel
theorem dX8_line_14 : decode cX8_line 14 = .ok (.ldc 100, 2) := by decide +kernel
theorem dX8_line_16 : decode cX8_line 16 = .ok (.invokevirtual 17, 3) := by decide +kernel
theorem dX8_line_19 : decode cX8_line 19 = .ok (.iinc 2 1, 3) := by decide +kernel
theorem dX8_line_22 : decode cX8_line 22 = .ok (.goto (-14), 3) := by decide +kernel
theorem dX8_line_25 : decode cX8_line 25 = .ok (.return_, 1) := by decide +kernel
theorem dX8_standardTo_0 : decode cX8_standardTo 0 = .ok (.aload_n 0, 1) := by decide +kernel
theorem dX8_standardTo_1 : decode cX8_standardTo 1 = .ok (.invokevirtual 102, 3) := by decide +kernel
theorem dX8_standardTo_4 : decode cX8_standardTo 4 = .ok (.aload_n 0, 1) := by decide +kernel
theorem dX8_standardTo_5 : decode cX8_standardTo 5 = .ok (.ldc 105, 2) := by decide +kernel
theorem dX8_standardTo_7 : decode cX8_standardTo 7 = .ok (.invokevirtual 17, 3) := by decide +kernel
theorem dX8_standardTo_10 : decode cX8_standardTo 10 = .ok (.aload_n 0, 1) := by decide +kernel
theorem dX8_standardTo_11 : decode cX8_standardTo 11 = .ok (.ldc 107, 2) := by decide +kernel
theorem dX8_standardTo_13 : decode cX8_standardTo 13 = .ok (.invokevirtual 17, 3) := by decide +kernel
theorem dX8_standardTo_16 : decode cX8_standardTo 16 = .ok (.aload_n 0, 1) := by decide +kernel
theorem dX8_standardTo_17 : decode cX8_standardTo 17 = .ok (.ldc 109, 2) := by decide +kernel
theorem dX8_standardTo_19 : decode cX8_standardTo 19 = .ok (.invokevirtual 17, 3) := by decide +kernel
theorem dX8_standardTo_22 : decode cX8_standardTo 22 = .ok (.aload_n 0, 1) := by decide +kernel
theorem dX8_standardTo_23 : decode cX8_standardTo 23 = .ok (.ldc 111, 2) := by decide +kernel
theorem dX8_standardTo_25 : decode cX8_standardTo 25 = .ok (.invokevirtual 17, 3) := by decide +kernel
theorem dX8_standardTo_28 : decode cX8_standardTo 28 = .ok (.aload_n 0, 1) := by decide +kernel
theorem dX8_standardTo_29 : decode cX8_standardTo 29 = .ok (.ldc 113, 2) := by decide +kernel
theorem dX8_standardTo_31 : decode cX8_standardTo 31 = .ok (.invokevirtual 17, 3) := by decide +kernel
theorem dX8_standardTo_34 : decode cX8_standardTo 34 = .ok (.aload_n 0, 1) := by decide +kernel
theorem dX8_standardTo_35 : decode cX8_standardTo 35 = .ok (.ldc 115, 2) := by decide +kernel
theorem dX8_standardTo_37 : decode cX8_standardTo 37 = .ok (.invokevirtual 17, 3) := by decide +kernel
theorem dX8_standardTo_40 : decode cX8_standardTo 40 = .ok (.aload_n 0, 1) := by decide +kernel
theorem dX8_standardTo_41 : decode cX8_standardTo 41 = .ok (.ldc 117, 2) := by decide +kernel
theorem dX8_standardTo_43 : decode cX8_standardTo 43 = .ok (.invokevirtual 17, 3) := by decide +kernel
theorem dX8_standardTo_46 : decode cX8_standardTo 46 = .ok (.aload_n 0, 1) := by decide +kernel
theorem dX8_standardTo_47 : decode cX8_standardTo 47 = .ok (.ldc 119, 2) := by decide +kernel
theorem dX8_standardTo_49 : decode cX8_standardTo 49 = .ok (.invokevirtual 17, 3) := by decide +kernel
theorem dX8_standardTo_52 : decode cX8_standardTo 52 = .ok (.aload_n 0, 1) := by decide +kernel
theorem dX8_standardTo_53 : decode cX8_standardTo 53 = .ok (.ldc 121, 2) := by decide +kernel
theorem dX8_standardTo_55 : decode cX8_standardTo 55 = .ok (.invokevirtual 17, 3) := by decide +kernel
theorem dX8_standardTo_58 : decode cX8_standardTo 58 = .ok (.aload_n 0, 1) := by decide +kernel
theorem dX8_standardTo_59 : decode cX8_standardTo 59 = .ok (.ldc 123, 2) := by decide +kernel
theorem dX8_standardTo_61 : decode cX8_standardTo 61 = .ok (.invokevirtual 17, 3) := by decide +kernel
theorem dX8_standardTo_64 : decode cX8_standardTo 64 = .ok (.aload_n 0, 1) := by decide +kernel
theorem dX8_standardTo_65 : decode cX8_standardTo 65 = .ok (.ldc 125, 2) := by decide +kernel
theorem dX8_standardTo_67 : decode cX8_standardTo 67 = .ok (.invokevirtual 17, 3) := by decide +kernel
theorem dX8_standardTo_70 : decode cX8_standardTo 70 = .ok (.aload_n 0, 1) := by decide +kernel
theorem dX8_standardTo_71 : decode cX8_standardTo 71 = .ok (.ldc 127, 2) := by decide +kernel
theorem dX8_standardTo_73 : decode cX8_standardTo 73 = .ok (.invokevirtual 17, 3) := by decide +kernel
theorem dX8_standardTo_76 : decode cX8_standardTo 76 = .ok (.return_, 1) := by decide +kernel
