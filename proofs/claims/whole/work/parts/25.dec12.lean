theorem dX12_stepped_97 : decode cX12_stepped 97 = .ok (.invokestatic 18, 3) := by decide +kernel
theorem dX12_stepped_100 : decode cX12_stepped 100 = .ok (.ifCond .eq 14, 3) := by decide +kernel
theorem dX12_stepped_103 : decode cX12_stepped 103 = .ok (.aload_n 0, 1) := by decide +kernel
theorem dX12_stepped_104 : decode cX12_stepped 104 = .ok (.iload_n 1, 1) := by decide +kernel
theorem dX12_stepped_105 : decode cX12_stepped 105 = .ok (.iload_n 2, 1) := by decide +kernel
theorem dX12_stepped_106 : decode cX12_stepped 106 = .ok (.iload 5, 2) := by decide +kernel
theorem dX12_stepped_108 : decode cX12_stepped 108 = .ok (.invokevirtual 616, 3) := by decide +kernel
theorem dX12_stepped_111 : decode cX12_stepped 111 = .ok (.goto 4, 3) := by decide +kernel
theorem dX12_stepped_114 : decode cX12_stepped 114 = .ok (.iconst (-1), 1) := by decide +kernel
theorem dX12_stepped_115 : decode cX12_stepped 115 = .ok (.ireturn, 1) := by decide +kernel
theorem dX12_plain_0 : decode cX12_plain 0 = .ok (.iconst 0, 1) := by decide +kernel
theorem dX12_plain_1 : decode cX12_plain 1 = .ok (.istore_n 3, 1) := by decide +kernel
theorem dX12_plain_2 : decode cX12_plain 2 = .ok (.iconst 0, 1) := by decide +kernel
theorem dX12_plain_3 : decode cX12_plain 3 = .ok (.istore 4, 2) := by decide +kernel
theorem dX12_plain_5 : decode cX12_plain 5 = .ok (.iload 4, 2) := by decide +kernel
theorem dX12_plain_7 : decode cX12_plain 7 = .ok (.iload_n 2, 1) := by decide +kernel
theorem dX12_plain_8 : decode cX12_plain 8 = .ok (.if_icmp .ge 43, 3) := by decide +kernel
theorem dX12_plain_11 : decode cX12_plain 11 = .ok (.iload_n 3, 1) := by decide +kernel
theorem dX12_plain_12 : decode cX12_plain 12 = .ok (.iconst (-1), 1) := by decide +kernel
theorem dX12_plain_13 : decode cX12_plain 13 = .ok (.if_icmp .eq 38, 3) := by decide +kernel
theorem dX12_plain_16 : decode cX12_plain 16 = .ok (.aload_n 0, 1) := by decide +kernel
theorem dX12_plain_17 : decode cX12_plain 17 = .ok (.iload 4, 2) := by decide +kernel
theorem dX12_plain_19 : decode cX12_plain 19 = .ok (.invokevirtual 619, 3) := by decide +kernel
theorem dX12_plain_22 : decode cX12_plain 22 = .ok (.aload_n 0, 1) := by decide +kernel
theorem dX12_plain_23 : decode cX12_plain 23 = .ok (.aload_n 0, 1) := by decide +kernel
theorem dX12_plain_24 : decode cX12_plain 24 = .ok (.getfield 607, 3) := by decide +kernel
theorem dX12_plain_27 : decode cX12_plain 27 = .ok (.aload_n 0, 1) := by decide +kernel
theorem dX12_plain_28 : decode cX12_plain 28 = .ok (.getfield 610, 3) := by decide +kernel
theorem dX12_plain_31 : decode cX12_plain 31 = .ok (.invokevirtual 622, 3) := by decide +kernel
theorem dX12_plain_34 : decode cX12_plain 34 = .ok (.aload_n 0, 1) := by decide +kernel
theorem dX12_plain_35 : decode cX12_plain 35 = .ok (.iload_n 1, 1) := by decide +kernel
theorem dX12_plain_36 : decode cX12_plain 36 = .ok (.iload_n 3, 1) := by decide +kernel
theorem dX12_plain_37 : decode cX12_plain 37 = .ok (.iconst 0, 1) := by decide +kernel
theorem dX12_plain_38 : decode cX12_plain 38 = .ok (.invokevirtual 625, 3) := by decide +kernel
theorem dX12_plain_41 : decode cX12_plain 41 = .ok (.istore_n 3, 1) := by decide +kernel
theorem dX12_plain_42 : decode cX12_plain 42 = .ok (.aload_n 0, 1) := by decide +kernel
theorem dX12_plain_43 : decode cX12_plain 43 = .ok (.getfield 610, 3) := by decide +kernel
theorem dX12_plain_46 : decode cX12_plain 46 = .ok (.istore 4, 2) := by decide +kernel
theorem dX12_plain_48 : decode cX12_plain 48 = .ok (.goto (-43), 3) := by decide +kernel
theorem dX12_plain_51 : decode cX12_plain 51 = .ok (.iload_n 3, 1) := by decide +kernel
theorem dX12_plain_52 : decode cX12_plain 52 = .ok (.ireturn, 1) := by decide +kernel
theorem dX12_meets_0 : decode cX12_meets 0 = .ok (.aload_n 0, 1) := by decide +kernel
theorem dX12_meets_1 : decode cX12_meets 1 = .ok (.getfield 284, 3) := by decide +kernel
theorem dX12_meets_4 : decode cX12_meets 4 = .ok (.iload_n 1, 1) := by decide +kernel
theorem dX12_meets_5 : decode cX12_meets 5 = .ok (.baload, 1) := by decide +kernel
theorem dX12_meets_6 : decode cX12_meets 6 = .ok (.ifCond .ne 30, 3) := by decide +kernel
theorem dX12_meets_9 : decode cX12_meets 9 = .ok (.aload_n 0, 1) := by decide +kernel
theorem dX12_meets_10 : decode cX12_meets 10 = .ok (.getfield 284, 3) := by decide +kernel
theorem dX12_meets_13 : decode cX12_meets 13 = .ok (.iload_n 1, 1) := by decide +kernel
theorem dX12_meets_14 : decode cX12_meets 14 = .ok (.iconst 1, 1) := by decide +kernel
theorem dX12_meets_15 : decode cX12_meets 15 = .ok (.bastore, 1) := by decide +kernel
theorem dX12_meets_16 : decode cX12_meets 16 = .ok (.aload_n 0, 1) := by decide +kernel
theorem dX12_meets_17 : decode cX12_meets 17 = .ok (.getfield 281, 3) := by decide +kernel
theorem dX12_meets_20 : decode cX12_meets 20 = .ok (.aload_n 0, 1) := by decide +kernel
theorem dX12_meets_21 : decode cX12_meets 21 = .ok (.getfield 629, 3) := by decide +kernel
theorem dX12_meets_24 : decode cX12_meets 24 = .ok (.iload_n 1, 1) := by decide +kernel
theorem dX12_meets_25 : decode cX12_meets 25 = .ok (.iastore, 1) := by decide +kernel
theorem dX12_meets_26 : decode cX12_meets 26 = .ok (.aload_n 0, 1) := by decide +kernel
theorem dX12_meets_27 : decode cX12_meets 27 = .ok (.dup, 1) := by decide +kernel
theorem dX12_meets_28 : decode cX12_meets 28 = .ok (.getfield 629, 3) := by decide +kernel
theorem dX12_meets_31 : decode cX12_meets 31 = .ok (.iconst 1, 1) := by decide +kernel
theorem dX12_meets_32 : decode cX12_meets 32 = .ok (.iadd, 1) := by decide +kernel
theorem dX12_meets_33 : decode cX12_meets 33 = .ok (.putfield 629, 3) := by decide +kernel
theorem dX12_meets_36 : decode cX12_meets 36 = .ok (.return_, 1) := by decide +kernel
theorem dX12_isSo_0 : decode cX12_isSo 0 = .ok (.aload_n 0, 1) := by decide +kernel
theorem dX12_isSo_1 : decode cX12_isSo 1 = .ok (.iload_n 1, 1) := by decide +kernel
theorem dX12_isSo_2 : decode cX12_isSo 2 = .ok (.iload_n 2, 1) := by decide +kernel
theorem dX12_isSo_3 : decode cX12_isSo 3 = .ok (.invokevirtual 52, 3) := by decide +kernel
theorem dX12_isSo_6 : decode cX12_isSo 6 = .ok (.iconst 5, 1) := by decide +kernel
theorem dX12_isSo_7 : decode cX12_isSo 7 = .ok (.if_icmp .eq 5, 3) := by decide +kernel
theorem dX12_isSo_10 : decode cX12_isSo 10 = .ok (.iconst 0, 1) := by decide +kernel
theorem dX12_isSo_11 : decode cX12_isSo 11 = .ok (.ireturn, 1) := by decide +kernel
theorem dX12_isSo_12 : decode cX12_isSo 12 = .ok (.aload_n 0, 1) := by decide +kernel
theorem dX12_isSo_13 : decode cX12_isSo 13 = .ok (.aload_n 0, 1) := by decide +kernel
theorem dX12_isSo_14 : decode cX12_isSo 14 = .ok (.getfield 607, 3) := by decide +kernel
theorem dX12_isSo_17 : decode cX12_isSo 17 = .ok (.iconst 1, 1) := by decide +kernel
theorem dX12_isSo_18 : decode cX12_isSo 18 = .ok (.iadd, 1) := by decide +kernel
theorem dX12_isSo_19 : decode cX12_isSo 19 = .ok (.iload_n 3, 1) := by decide +kernel
theorem dX12_isSo_20 : decode cX12_isSo 20 = .ok (.invokevirtual 622, 3) := by decide +kernel
theorem dX12_isSo_23 : decode cX12_isSo 23 = .ok (.aload_n 0, 1) := by decide +kernel
theorem dX12_isSo_24 : decode cX12_isSo 24 = .ok (.iload_n 1, 1) := by decide +kernel
theorem dX12_isSo_25 : decode cX12_isSo 25 = .ok (.iload_n 2, 1) := by decide +kernel
theorem dX12_isSo_26 : decode cX12_isSo 26 = .ok (.invokevirtual 78, 3) := by decide +kernel
theorem dX12_isSo_29 : decode cX12_isSo 29 = .ok (.istore 4, 2) := by decide +kernel
theorem dX12_isSo_31 : decode cX12_isSo 31 = .ok (.iload 4, 2) := by decide +kernel
theorem dX12_isSo_33 : decode cX12_isSo 33 = .ok (.iconst (-1), 1) := by decide +kernel
theorem dX12_isSo_34 : decode cX12_isSo 34 = .ok (.if_icmp .ne 5, 3) := by decide +kernel
theorem dX12_isSo_37 : decode cX12_isSo 37 = .ok (.iconst 0, 1) := by decide +kernel
theorem dX12_isSo_38 : decode cX12_isSo 38 = .ok (.ireturn, 1) := by decide +kernel
theorem dX12_isSo_39 : decode cX12_isSo 39 = .ok (.aload_n 0, 1) := by decide +kernel
theorem dX12_isSo_40 : decode cX12_isSo 40 = .ok (.iload_n 3, 1) := by decide +kernel
theorem dX12_isSo_41 : decode cX12_isSo 41 = .ok (.iconst 1, 1) := by decide +kernel
theorem dX12_isSo_42 : decode cX12_isSo 42 = .ok (.iadd, 1) := by decide +kernel
theorem dX12_isSo_43 : decode cX12_isSo 43 = .ok (.aload_n 0, 1) := by decide +kernel
theorem dX12_isSo_44 : decode cX12_isSo 44 = .ok (.getfield 610, 3) := by decide +kernel
theorem dX12_isSo_47 : decode cX12_isSo 47 = .ok (.invokevirtual 622, 3) := by decide +kernel
theorem dX12_isSo_50 : decode cX12_isSo 50 = .ok (.aload_n 0, 1) := by decide +kernel
theorem dX12_isSo_51 : decode cX12_isSo 51 = .ok (.iconst 0, 1) := by decide +kernel
theorem dX12_isSo_52 : decode cX12_isSo 52 = .ok (.iload_n 1, 1) := by decide +kernel
theorem dX12_isSo_53 : decode cX12_isSo 53 = .ok (.iload 4, 2) := by decide +kernel
theorem dX12_isSo_55 : decode cX12_isSo 55 = .ok (.iconst 0, 1) := by decide +kernel
theorem dX12_isSo_56 : decode cX12_isSo 56 = .ok (.invokevirtual 574, 3) := by decide +kernel
theorem dX12_isSo_59 : decode cX12_isSo 59 = .ok (.aload_n 0, 1) := by decide +kernel
theorem dX12_isSo_60 : decode cX12_isSo 60 = .ok (.getfield 272, 3) := by decide +kernel
theorem dX12_isSo_63 : decode cX12_isSo 63 = .ok (.iconst 0, 1) := by decide +kernel
theorem dX12_isSo_64 : decode cX12_isSo 64 = .ok (.iaload, 1) := by decide +kernel
theorem dX12_isSo_65 : decode cX12_isSo 65 = .ok (.aload_n 0, 1) := by decide +kernel
theorem dX12_isSo_66 : decode cX12_isSo 66 = .ok (.getfield 66, 3) := by decide +kernel
theorem dX12_isSo_69 : decode cX12_isSo 69 = .ok (.if_icmp .ne 7, 3) := by decide +kernel
theorem dX12_isSo_72 : decode cX12_isSo 72 = .ok (.iconst 1, 1) := by decide +kernel
theorem dX12_isSo_73 : decode cX12_isSo 73 = .ok (.goto 4, 3) := by decide +kernel
theorem dX12_isSo_76 : decode cX12_isSo 76 = .ok (.iconst 0, 1) := by decide +kernel
theorem dX12_isSo_77 : decode cX12_isSo 77 = .ok (.istore 5, 2) := by decide +kernel
theorem dX12_isSo_79 : decode cX12_isSo 79 = .ok (.iconst 0, 1) := by decide +kernel
theorem dX12_isSo_80 : decode cX12_isSo 80 = .ok (.istore 6, 2) := by decide +kernel
theorem dX12_isSo_82 : decode cX12_isSo 82 = .ok (.iload 6, 2) := by decide +kernel
theorem dX12_isSo_84 : decode cX12_isSo 84 = .ok (.aload_n 0, 1) := by decide +kernel
theorem dX12_isSo_85 : decode cX12_isSo 85 = .ok (.getfield 66, 3) := by decide +kernel
theorem dX12_isSo_88 : decode cX12_isSo 88 = .ok (.if_icmp .ge 38, 3) := by decide +kernel
theorem dX12_isSo_91 : decode cX12_isSo 91 = .ok (.iload 5, 2) := by decide +kernel
theorem dX12_isSo_93 : decode cX12_isSo 93 = .ok (.ifCond .eq 33, 3) := by decide +kernel
theorem dX12_isSo_96 : decode cX12_isSo 96 = .ok (.aload_n 0, 1) := by decide +kernel
theorem dX12_isSo_97 : decode cX12_isSo 97 = .ok (.getfield 269, 3) := by decide +kernel
theorem dX12_isSo_100 : decode cX12_isSo 100 = .ok (.iload 6, 2) := by decide +kernel
theorem dX12_isSo_102 : decode cX12_isSo 102 = .ok (.iaload, 1) := by decide +kernel
theorem dX12_isSo_103 : decode cX12_isSo 103 = .ok (.aload_n 0, 1) := by decide +kernel
theorem dX12_isSo_104 : decode cX12_isSo 104 = .ok (.getfield 69, 3) := by decide +kernel
theorem dX12_isSo_107 : decode cX12_isSo 107 = .ok (.iload 6, 2) := by decide +kernel
theorem dX12_isSo_109 : decode cX12_isSo 109 = .ok (.iaload, 1) := by decide +kernel
theorem dX12_isSo_110 : decode cX12_isSo 110 = .ok (.if_icmp .ne 7, 3) := by decide +kernel
theorem dX12_isSo_113 : decode cX12_isSo 113 = .ok (.iconst 1, 1) := by decide +kernel
theorem dX12_isSo_114 : decode cX12_isSo 114 = .ok (.goto 4, 3) := by decide +kernel
theorem dX12_isSo_117 : decode cX12_isSo 117 = .ok (.iconst 0, 1) := by decide +kernel
theorem dX12_isSo_118 : decode cX12_isSo 118 = .ok (.istore 5, 2) := by decide +kernel
theorem dX12_isSo_120 : decode cX12_isSo 120 = .ok (.iinc 6 1, 3) := by decide +kernel
theorem dX12_isSo_123 : decode cX12_isSo 123 = .ok (.goto (-41), 3) := by decide +kernel
theorem dX12_isSo_126 : decode cX12_isSo 126 = .ok (.iload 5, 2) := by decide +kernel
theorem dX12_isSo_128 : decode cX12_isSo 128 = .ok (.ireturn, 1) := by decide +kernel
theorem dX12_selectsBy_0 : decode cX12_selectsBy 0 = .ok (.aload_n 0, 1) := by decide +kernel
theorem dX12_selectsBy_1 : decode cX12_selectsBy 1 = .ok (.getfield 610, 3) := by decide +kernel
theorem dX12_selectsBy_4 : decode cX12_selectsBy 4 = .ok (.aload_n 0, 1) := by decide +kernel
theorem dX12_selectsBy_5 : decode cX12_selectsBy 5 = .ok (.getfield 607, 3) := by decide +kernel
theorem dX12_selectsBy_8 : decode cX12_selectsBy 8 = .ok (.isub, 1) := by decide +kernel
theorem dX12_selectsBy_9 : decode cX12_selectsBy 9 = .ok (.istore_n 3, 1) := by decide +kernel
theorem dX12_selectsBy_10 : decode cX12_selectsBy 10 = .ok (.iload_n 3, 1) := by decide +kernel
theorem dX12_selectsBy_11 : decode cX12_selectsBy 11 = .ok (.iconst 2, 1) := by decide +kernel
theorem dX12_selectsBy_12 : decode cX12_selectsBy 12 = .ok (.if_icmp .ne 60, 3) := by decide +kernel
theorem dX12_selectsBy_15 : decode cX12_selectsBy 15 = .ok (.aload_n 0, 1) := by decide +kernel
theorem dX12_selectsBy_16 : decode cX12_selectsBy 16 = .ok (.getfield 275, 3) := by decide +kernel
theorem dX12_selectsBy_19 : decode cX12_selectsBy 19 = .ok (.aload_n 0, 1) := by decide +kernel
theorem dX12_selectsBy_20 : decode cX12_selectsBy 20 = .ok (.getfield 607, 3) := by decide +kernel
theorem dX12_selectsBy_23 : decode cX12_selectsBy 23 = .ok (.iaload, 1) := by decide +kernel
theorem dX12_selectsBy_24 : decode cX12_selectsBy 24 = .ok (.bipush 42, 2) := by decide +kernel
theorem dX12_selectsBy_26 : decode cX12_selectsBy 26 = .ok (.if_icmp .ne 46, 3) := by decide +kernel
theorem dX12_selectsBy_29 : decode cX12_selectsBy 29 = .ok (.aload_n 0, 1) := by decide +kernel
theorem dX12_selectsBy_30 : decode cX12_selectsBy 30 = .ok (.getfield 275, 3) := by decide +kernel
theorem dX12_selectsBy_33 : decode cX12_selectsBy 33 = .ok (.aload_n 0, 1) := by decide +kernel
theorem dX12_selectsBy_34 : decode cX12_selectsBy 34 = .ok (.getfield 607, 3) := by decide +kernel
theorem dX12_selectsBy_37 : decode cX12_selectsBy 37 = .ok (.iconst 1, 1) := by decide +kernel
theorem dX12_selectsBy_38 : decode cX12_selectsBy 38 = .ok (.iadd, 1) := by decide +kernel
theorem dX12_selectsBy_39 : decode cX12_selectsBy 39 = .ok (.iaload, 1) := by decide +kernel
theorem dX12_selectsBy_40 : decode cX12_selectsBy 40 = .ok (.bipush 42, 2) := by decide +kernel
theorem dX12_selectsBy_42 : decode cX12_selectsBy 42 = .ok (.if_icmp .ne 30, 3) := by decide +kernel
theorem dX12_selectsBy_45 : decode cX12_selectsBy 45 = .ok (.iload_n 2, 1) := by decide +kernel
theorem dX12_selectsBy_46 : decode cX12_selectsBy 46 = .ok (.istore 4, 2) := by decide +kernel
theorem dX12_selectsBy_48 : decode cX12_selectsBy 48 = .ok (.iload 4, 2) := by decide +kernel
theorem dX12_selectsBy_50 : decode cX12_selectsBy 50 = .ok (.aload_n 0, 1) := by decide +kernel
theorem dX12_selectsBy_51 : decode cX12_selectsBy 51 = .ok (.iload_n 1, 1) := by decide +kernel
theorem dX12_selectsBy_52 : decode cX12_selectsBy 52 = .ok (.iload_n 2, 1) := by decide +kernel
theorem dX12_selectsBy_53 : decode cX12_selectsBy 53 = .ok (.invokevirtual 49, 3) := by decide +kernel
theorem dX12_selectsBy_56 : decode cX12_selectsBy 56 = .ok (.if_icmp .ge 15, 3) := by decide +kernel
theorem dX12_selectsBy_59 : decode cX12_selectsBy 59 = .ok (.aload_n 0, 1) := by decide +kernel
theorem dX12_selectsBy_60 : decode cX12_selectsBy 60 = .ok (.iload 4, 2) := by decide +kernel
theorem dX12_selectsBy_62 : decode cX12_selectsBy 62 = .ok (.invokevirtual 632, 3) := by decide +kernel
theorem dX12_selectsBy_65 : decode cX12_selectsBy 65 = .ok (.iinc 4 1, 3) := by decide +kernel
theorem dX12_selectsBy_68 : decode cX12_selectsBy 68 = .ok (.goto (-20), 3) := by decide +kernel
theorem dX12_selectsBy_71 : decode cX12_selectsBy 71 = .ok (.return_, 1) := by decide +kernel
theorem dX12_selectsBy_72 : decode cX12_selectsBy 72 = .ok (.iload_n 3, 1) := by decide +kernel
theorem dX12_selectsBy_73 : decode cX12_selectsBy 73 = .ok (.iconst 1, 1) := by decide +kernel
theorem dX12_selectsBy_74 : decode cX12_selectsBy 74 = .ok (.if_icmp .ne 21, 3) := by decide +kernel
theorem dX12_selectsBy_77 : decode cX12_selectsBy 77 = .ok (.aload_n 0, 1) := by decide +kernel
theorem dX12_selectsBy_78 : decode cX12_selectsBy 78 = .ok (.getfield 275, 3) := by decide +kernel
theorem dX12_selectsBy_81 : decode cX12_selectsBy 81 = .ok (.aload_n 0, 1) := by decide +kernel
theorem dX12_selectsBy_82 : decode cX12_selectsBy 82 = .ok (.getfield 607, 3) := by decide +kernel
theorem dX12_selectsBy_85 : decode cX12_selectsBy 85 = .ok (.iaload, 1) := by decide +kernel
theorem dX12_selectsBy_86 : decode cX12_selectsBy 86 = .ok (.bipush 42, 2) := by decide +kernel
theorem dX12_selectsBy_88 : decode cX12_selectsBy 88 = .ok (.if_icmp .ne 7, 3) := by decide +kernel
theorem dX12_selectsBy_91 : decode cX12_selectsBy 91 = .ok (.iconst 1, 1) := by decide +kernel
theorem dX12_selectsBy_92 : decode cX12_selectsBy 92 = .ok (.goto 4, 3) := by decide +kernel
theorem dX12_selectsBy_95 : decode cX12_selectsBy 95 = .ok (.iconst 0, 1) := by decide +kernel
theorem dX12_selectsBy_96 : decode cX12_selectsBy 96 = .ok (.istore 4, 2) := by decide +kernel
theorem dX12_selectsBy_98 : decode cX12_selectsBy 98 = .ok (.iload 4, 2) := by decide +kernel
theorem dX12_selectsBy_100 : decode cX12_selectsBy 100 = .ok (.ifCond .ne 55, 3) := by decide +kernel
theorem dX12_selectsBy_103 : decode cX12_selectsBy 103 = .ok (.iload_n 3, 1) := by decide +kernel
theorem dX12_selectsBy_104 : decode cX12_selectsBy 104 = .ok (.ifCond .eq 17, 3) := by decide +kernel
theorem dX12_selectsBy_107 : decode cX12_selectsBy 107 = .ok (.aload_n 0, 1) := by decide +kernel
theorem dX12_selectsBy_108 : decode cX12_selectsBy 108 = .ok (.getfield 275, 3) := by decide +kernel
theorem dX12_selectsBy_111 : decode cX12_selectsBy 111 = .ok (.aload_n 0, 1) := by decide +kernel
theorem dX12_selectsBy_112 : decode cX12_selectsBy 112 = .ok (.getfield 607, 3) := by decide +kernel
theorem dX12_selectsBy_115 : decode cX12_selectsBy 115 = .ok (.iaload, 1) := by decide +kernel
theorem dX12_selectsBy_116 : decode cX12_selectsBy 116 = .ok (.bipush 63, 2) := by decide +kernel
theorem dX12_selectsBy_118 : decode cX12_selectsBy 118 = .ok (.if_icmp .eq 37, 3) := by decide +kernel
theorem dX12_selectsBy_121 : decode cX12_selectsBy 121 = .ok (.aload_n 0, 1) := by decide +kernel
theorem dX12_selectsBy_122 : decode cX12_selectsBy 122 = .ok (.aload_n 0, 1) := by decide +kernel
theorem dX12_selectsBy_123 : decode cX12_selectsBy 123 = .ok (.getfield 607, 3) := by decide +kernel
theorem dX12_selectsBy_126 : decode cX12_selectsBy 126 = .ok (.aload_n 0, 1) := by decide +kernel
theorem dX12_selectsBy_127 : decode cX12_selectsBy 127 = .ok (.getfield 610, 3) := by decide +kernel
theorem dX12_selectsBy_130 : decode cX12_selectsBy 130 = .ok (.invokevirtual 622, 3) := by decide +kernel
theorem dX12_selectsBy_133 : decode cX12_selectsBy 133 = .ok (.aload_n 0, 1) := by decide +kernel
theorem dX12_selectsBy_134 : decode cX12_selectsBy 134 = .ok (.iload_n 1, 1) := by decide +kernel
theorem dX12_selectsBy_135 : decode cX12_selectsBy 135 = .ok (.iload_n 2, 1) := by decide +kernel
theorem dX12_selectsBy_136 : decode cX12_selectsBy 136 = .ok (.iconst 1, 1) := by decide +kernel
theorem dX12_selectsBy_137 : decode cX12_selectsBy 137 = .ok (.invokevirtual 625, 3) := by decide +kernel
theorem dX12_selectsBy_140 : decode cX12_selectsBy 140 = .ok (.istore 5, 2) := by decide +kernel
theorem dX12_selectsBy_142 : decode cX12_selectsBy 142 = .ok (.iload 5, 2) := by decide +kernel
theorem dX12_selectsBy_144 : decode cX12_selectsBy 144 = .ok (.iconst (-1), 1) := by decide +kernel
theorem dX12_selectsBy_145 : decode cX12_selectsBy 145 = .ok (.if_icmp .eq 9, 3) := by decide +kernel
theorem dX12_selectsBy_148 : decode cX12_selectsBy 148 = .ok (.aload_n 0, 1) := by decide +kernel
theorem dX12_selectsBy_149 : decode cX12_selectsBy 149 = .ok (.iload 5, 2) := by decide +kernel
theorem dX12_selectsBy_151 : decode cX12_selectsBy 151 = .ok (.invokevirtual 632, 3) := by decide +kernel
theorem dX12_selectsBy_154 : decode cX12_selectsBy 154 = .ok (.return_, 1) := by decide +kernel
theorem dX12_selectsBy_155 : decode cX12_selectsBy 155 = .ok (.aload_n 0, 1) := by decide +kernel
theorem dX12_selectsBy_156 : decode cX12_selectsBy 156 = .ok (.getfield 607, 3) := by decide +kernel
theorem dX12_selectsBy_159 : decode cX12_selectsBy 159 = .ok (.istore 5, 2) := by decide +kernel
theorem dX12_selectsBy_161 : decode cX12_selectsBy 161 = .ok (.iload 5, 2) := by decide +kernel
theorem dX12_selectsBy_163 : decode cX12_selectsBy 163 = .ok (.aload_n 0, 1) := by decide +kernel
theorem dX12_selectsBy_164 : decode cX12_selectsBy 164 = .ok (.getfield 610, 3) := by decide +kernel
theorem dX12_selectsBy_167 : decode cX12_selectsBy 167 = .ok (.if_icmp .ge 21, 3) := by decide +kernel
theorem dX12_selectsBy_170 : decode cX12_selectsBy 170 = .ok (.aload_n 0, 1) := by decide +kernel
theorem dX12_selectsBy_171 : decode cX12_selectsBy 171 = .ok (.getfield 275, 3) := by decide +kernel
theorem dX12_selectsBy_174 : decode cX12_selectsBy 174 = .ok (.iload 5, 2) := by decide +kernel
theorem dX12_selectsBy_176 : decode cX12_selectsBy 176 = .ok (.iaload, 1) := by decide +kernel
theorem dX12_selectsBy_177 : decode cX12_selectsBy 177 = .ok (.bipush 61, 2) := by decide +kernel
theorem dX12_selectsBy_179 : decode cX12_selectsBy 179 = .ok (.if_icmp .eq 9, 3) := by decide +kernel
theorem dX12_selectsBy_182 : decode cX12_selectsBy 182 = .ok (.iinc 5 1, 3) := by decide +kernel
theorem dX12_selectsBy_185 : decode cX12_selectsBy 185 = .ok (.goto (-24), 3) := by decide +kernel
theorem dX12_selectsBy_188 : decode cX12_selectsBy 188 = .ok (.iload_n 2, 1) := by decide +kernel
theorem dX12_selectsBy_189 : decode cX12_selectsBy 189 = .ok (.iconst 1, 1) := by decide +kernel
theorem dX12_selectsBy_190 : decode cX12_selectsBy 190 = .ok (.iadd, 1) := by decide +kernel
theorem dX12_selectsBy_191 : decode cX12_selectsBy 191 = .ok (.istore 6, 2) := by decide +kernel
theorem dX12_selectsBy_193 : decode cX12_selectsBy 193 = .ok (.iconst 0, 1) := by decide +kernel
theorem dX12_selectsBy_194 : decode cX12_selectsBy 194 = .ok (.istore 7, 2) := by decide +kernel
theorem dX12_selectsBy_196 : decode cX12_selectsBy 196 = .ok (.iload 7, 2) := by decide +kernel
theorem dX12_selectsBy_198 : decode cX12_selectsBy 198 = .ok (.aload_n 0, 1) := by decide +kernel
theorem dX12_selectsBy_199 : decode cX12_selectsBy 199 = .ok (.iload_n 1, 1) := by decide +kernel
theorem dX12_selectsBy_200 : decode cX12_selectsBy 200 = .ok (.iload_n 2, 1) := by decide +kernel
theorem dX12_selectsBy_201 : decode cX12_selectsBy 201 = .ok (.iconst 3, 1) := by decide +kernel
theorem dX12_selectsBy_202 : decode cX12_selectsBy 202 = .ok (.invokevirtual 36, 3) := by decide +kernel
theorem dX12_selectsBy_205 : decode cX12_selectsBy 205 = .ok (.if_icmp .ge 50, 3) := by decide +kernel
theorem dX12_selectsBy_208 : decode cX12_selectsBy 208 = .ok (.iload 4, 2) := by decide +kernel
theorem dX12_selectsBy_210 : decode cX12_selectsBy 210 = .ok (.ifCond .ne 24, 3) := by decide +kernel
theorem dX12_selectsBy_213 : decode cX12_selectsBy 213 = .ok (.iload 5, 2) := by decide +kernel
theorem dX12_selectsBy_215 : decode cX12_selectsBy 215 = .ok (.aload_n 0, 1) := by decide +kernel
theorem dX12_selectsBy_216 : decode cX12_selectsBy 216 = .ok (.getfield 610, 3) := by decide +kernel
theorem dX12_selectsBy_219 : decode cX12_selectsBy 219 = .ok (.if_icmp .ge 21, 3) := by decide +kernel
theorem dX12_selectsBy_222 : decode cX12_selectsBy 222 = .ok (.aload_n 0, 1) := by decide +kernel
theorem dX12_selectsBy_223 : decode cX12_selectsBy 223 = .ok (.iload_n 1, 1) := by decide +kernel
theorem dX12_selectsBy_224 : decode cX12_selectsBy 224 = .ok (.iload 6, 2) := by decide +kernel
theorem dX12_selectsBy_226 : decode cX12_selectsBy 226 = .ok (.iload 5, 2) := by decide +kernel
theorem dX12_selectsBy_228 : decode cX12_selectsBy 228 = .ok (.invokevirtual 635, 3) := by decide +kernel
theorem dX12_selectsBy_231 : decode cX12_selectsBy 231 = .ok (.ifCond .eq 9, 3) := by decide +kernel
theorem dX12_selectsBy_234 : decode cX12_selectsBy 234 = .ok (.aload_n 0, 1) := by decide +kernel
theorem dX12_selectsBy_235 : decode cX12_selectsBy 235 = .ok (.iload 6, 2) := by decide +kernel
theorem dX12_selectsBy_237 : decode cX12_selectsBy 237 = .ok (.invokevirtual 632, 3) := by decide +kernel
theorem dX12_selectsBy_240 : decode cX12_selectsBy 240 = .ok (.aload_n 0, 1) := by decide +kernel
theorem dX12_selectsBy_241 : decode cX12_selectsBy 241 = .ok (.iload_n 1, 1) := by decide +kernel
theorem dX12_selectsBy_242 : decode cX12_selectsBy 242 = .ok (.iload 6, 2) := by decide +kernel
theorem dX12_selectsBy_244 : decode cX12_selectsBy 244 = .ok (.invokevirtual 49, 3) := by decide +kernel
theorem dX12_selectsBy_247 : decode cX12_selectsBy 247 = .ok (.istore 6, 2) := by decide +kernel
theorem dX12_selectsBy_249 : decode cX12_selectsBy 249 = .ok (.iinc 7 1, 3) := by decide +kernel
theorem dX12_selectsBy_252 : decode cX12_selectsBy 252 = .ok (.goto (-56), 3) := by decide +kernel
theorem dX12_selectsBy_255 : decode cX12_selectsBy 255 = .ok (.return_, 1) := by decide +kernel
theorem dX12_select_0 : decode cX12_select 0 = .ok (.aload_n 0, 1) := by decide +kernel
theorem dX12_select_1 : decode cX12_select 1 = .ok (.aload_n 0, 1) := by decide +kernel
theorem dX12_select_2 : decode cX12_select 2 = .ok (.iload_n 1, 1) := by decide +kernel
theorem dX12_select_3 : decode cX12_select 3 = .ok (.invokevirtual 22, 3) := by decide +kernel
theorem dX12_select_6 : decode cX12_select 6 = .ok (.iconst 1, 1) := by decide +kernel
theorem dX12_select_7 : decode cX12_select 7 = .ok (.invokevirtual 456, 3) := by decide +kernel
theorem dX12_select_10 : decode cX12_select 10 = .ok (.ifCond .eq 5, 3) := by decide +kernel
theorem dX12_select_13 : decode cX12_select 13 = .ok (.iconst 0, 1) := by decide +kernel
theorem dX12_select_14 : decode cX12_select 14 = .ok (.ireturn, 1) := by decide +kernel
theorem dX12_select_15 : decode cX12_select 15 = .ok (.aload_n 0, 1) := by decide +kernel
theorem dX12_select_16 : decode cX12_select 16 = .ok (.invokevirtual 638, 3) := by decide +kernel
theorem dX12_select_19 : decode cX12_select 19 = .ok (.aload_n 0, 1) := by decide +kernel
theorem dX12_select_20 : decode cX12_select 20 = .ok (.aload_n 0, 1) := by decide +kernel
theorem dX12_select_21 : decode cX12_select 21 = .ok (.invokevirtual 641, 3) := by decide +kernel
theorem dX12_select_24 : decode cX12_select 24 = .ok (.iconst 2, 1) := by decide +kernel
theorem dX12_select_25 : decode cX12_select 25 = .ok (.invokevirtual 456, 3) := by decide +kernel
theorem dX12_select_28 : decode cX12_select 28 = .ok (.ifCond .eq 5, 3) := by decide +kernel
theorem dX12_select_31 : decode cX12_select 31 = .ok (.iconst 0, 1) := by decide +kernel
theorem dX12_select_32 : decode cX12_select 32 = .ok (.ireturn, 1) := by decide +kernel
theorem dX12_select_33 : decode cX12_select 33 = .ok (.aload_n 0, 1) := by decide +kernel
theorem dX12_select_34 : decode cX12_select 34 = .ok (.iconst 0, 1) := by decide +kernel
theorem dX12_select_35 : decode cX12_select 35 = .ok (.putfield 460, 3) := by decide +kernel
theorem dX12_select_38 : decode cX12_select 38 = .ok (.aload_n 0, 1) := by decide +kernel
theorem dX12_select_39 : decode cX12_select 39 = .ok (.iconst 1, 1) := by decide +kernel
theorem dX12_select_40 : decode cX12_select 40 = .ok (.putfield 644, 3) := by decide +kernel
theorem dX12_select_43 : decode cX12_select 43 = .ok (.aload_n 0, 1) := by decide +kernel
theorem dX12_select_44 : decode cX12_select 44 = .ok (.getfield 278, 3) := by decide +kernel
theorem dX12_select_47 : decode cX12_select 47 = .ok (.iconst 0, 1) := by decide +kernel
theorem dX12_select_48 : decode cX12_select 48 = .ok (.iconst 0, 1) := by decide +kernel
theorem dX12_select_49 : decode cX12_select 49 = .ok (.iastore, 1) := by decide +kernel
theorem dX12_select_50 : decode cX12_select 50 = .ok (.iconst 0, 1) := by decide +kernel
theorem dX12_select_51 : decode cX12_select 51 = .ok (.istore_n 2, 1) := by decide +kernel
theorem dX12_select_52 : decode cX12_select 52 = .ok (.iload_n 2, 1) := by decide +kernel
theorem dX12_select_53 : decode cX12_select 53 = .ok (.aload_n 0, 1) := by decide +kernel
theorem dX12_select_54 : decode cX12_select 54 = .ok (.getfield 604, 3) := by decide +kernel
theorem dX12_select_57 : decode cX12_select 57 = .ok (.if_icmp .ge 105, 3) := by decide +kernel
theorem dX12_select_60 : decode cX12_select 60 = .ok (.aload_n 0, 1) := by decide +kernel
theorem dX12_select_61 : decode cX12_select 61 = .ok (.iload_n 2, 1) := by decide +kernel
theorem dX12_select_62 : decode cX12_select 62 = .ok (.invokevirtual 619, 3) := by decide +kernel
theorem dX12_select_65 : decode cX12_select 65 = .ok (.aload_n 0, 1) := by decide +kernel
theorem dX12_select_66 : decode cX12_select 66 = .ok (.iconst 0, 1) := by decide +kernel
theorem dX12_select_67 : decode cX12_select 67 = .ok (.putfield 629, 3) := by decide +kernel
theorem dX12_select_70 : decode cX12_select 70 = .ok (.iconst 0, 1) := by decide +kernel
theorem dX12_select_71 : decode cX12_select 71 = .ok (.istore_n 3, 1) := by decide +kernel
theorem dX12_select_72 : decode cX12_select 72 = .ok (.iload_n 3, 1) := by decide +kernel
theorem dX12_select_73 : decode cX12_select 73 = .ok (.bipush 101, 2) := by decide +kernel
theorem dX12_select_75 : decode cX12_select 75 = .ok (.if_icmp .ge 16, 3) := by decide +kernel
theorem dX12_select_78 : decode cX12_select 78 = .ok (.aload_n 0, 1) := by decide +kernel
theorem dX12_select_79 : decode cX12_select 79 = .ok (.getfield 284, 3) := by decide +kernel
theorem dX12_select_82 : decode cX12_select 82 = .ok (.iload_n 3, 1) := by decide +kernel
theorem dX12_select_83 : decode cX12_select 83 = .ok (.iconst 0, 1) := by decide +kernel
theorem dX12_select_84 : decode cX12_select 84 = .ok (.bastore, 1) := by decide +kernel
theorem dX12_select_85 : decode cX12_select 85 = .ok (.iinc 3 1, 3) := by decide +kernel
theorem dX12_select_88 : decode cX12_select 88 = .ok (.goto (-16), 3) := by decide +kernel
theorem dX12_select_91 : decode cX12_select 91 = .ok (.iconst 0, 1) := by decide +kernel
theorem dX12_select_92 : decode cX12_select 92 = .ok (.istore_n 3, 1) := by decide +kernel
theorem dX12_select_93 : decode cX12_select 93 = .ok (.iload_n 3, 1) := by decide +kernel
theorem dX12_select_94 : decode cX12_select 94 = .ok (.aload_n 0, 1) := by decide +kernel
theorem dX12_select_95 : decode cX12_select 95 = .ok (.getfield 644, 3) := by decide +kernel
theorem dX12_select_98 : decode cX12_select 98 = .ok (.if_icmp .ge 20, 3) := by decide +kernel
theorem dX12_select_101 : decode cX12_select 101 = .ok (.aload_n 0, 1) := by decide +kernel
theorem dX12_select_102 : decode cX12_select 102 = .ok (.iload_n 1, 1) := by decide +kernel
theorem dX12_select_103 : decode cX12_select 103 = .ok (.aload_n 0, 1) := by decide +kernel
theorem dX12_select_104 : decode cX12_select 104 = .ok (.getfield 278, 3) := by decide +kernel
theorem dX12_select_107 : decode cX12_select 107 = .ok (.iload_n 3, 1) := by decide +kernel
theorem dX12_select_108 : decode cX12_select 108 = .ok (.iaload, 1) := by decide +kernel
theorem dX12_select_109 : decode cX12_select 109 = .ok (.invokevirtual 647, 3) := by decide +kernel
theorem dX12_select_112 : decode cX12_select 112 = .ok (.iinc 3 1, 3) := by decide +kernel
theorem dX12_select_115 : decode cX12_select 115 = .ok (.goto (-22), 3) := by decide +kernel
theorem dX12_select_118 : decode cX12_select 118 = .ok (.aload_n 0, 1) := by decide +kernel
theorem dX12_select_119 : decode cX12_select 119 = .ok (.aload_n 0, 1) := by decide +kernel
theorem dX12_select_120 : decode cX12_select 120 = .ok (.getfield 629, 3) := by decide +kernel
theorem dX12_select_123 : decode cX12_select 123 = .ok (.putfield 644, 3) := by decide +kernel
theorem dX12_select_126 : decode cX12_select 126 = .ok (.iconst 0, 1) := by decide +kernel
theorem dX12_select_127 : decode cX12_select 127 = .ok (.istore_n 3, 1) := by decide +kernel
theorem dX12_select_128 : decode cX12_select 128 = .ok (.iload_n 3, 1) := by decide +kernel
theorem dX12_select_129 : decode cX12_select 129 = .ok (.aload_n 0, 1) := by decide +kernel
theorem dX12_select_130 : decode cX12_select 130 = .ok (.getfield 644, 3) := by decide +kernel
theorem dX12_select_133 : decode cX12_select 133 = .ok (.if_icmp .ge 21, 3) := by decide +kernel
theorem dX12_select_136 : decode cX12_select 136 = .ok (.aload_n 0, 1) := by decide +kernel
theorem dX12_select_137 : decode cX12_select 137 = .ok (.getfield 278, 3) := by decide +kernel
theorem dX12_select_140 : decode cX12_select 140 = .ok (.iload_n 3, 1) := by decide +kernel
theorem dX12_select_141 : decode cX12_select 141 = .ok (.aload_n 0, 1) := by decide +kernel
theorem dX12_select_142 : decode cX12_select 142 = .ok (.getfield 281, 3) := by decide +kernel
theorem dX12_select_145 : decode cX12_select 145 = .ok (.iload_n 3, 1) := by decide +kernel
theorem dX12_select_146 : decode cX12_select 146 = .ok (.iaload, 1) := by decide +kernel
theorem dX12_select_147 : decode cX12_select 147 = .ok (.iastore, 1) := by decide +kernel
theorem dX12_select_148 : decode cX12_select 148 = .ok (.iinc 3 1, 3) := by decide +kernel
theorem dX12_select_151 : decode cX12_select 151 = .ok (.goto (-23), 3) := by decide +kernel
theorem dX12_select_154 : decode cX12_select 154 = .ok (.aload_n 0, 1) := by decide +kernel
theorem dX12_select_155 : decode cX12_select 155 = .ok (.getfield 610, 3) := by decide +kernel
theorem dX12_select_158 : decode cX12_select 158 = .ok (.istore_n 2, 1) := by decide +kernel
theorem dX12_select_159 : decode cX12_select 159 = .ok (.goto (-107), 3) := by decide +kernel
theorem dX12_select_162 : decode cX12_select 162 = .ok (.aload_n 0, 1) := by decide +kernel
theorem dX12_select_163 : decode cX12_select 163 = .ok (.getfield 644, 3) := by decide +kernel
theorem dX12_select_166 : decode cX12_select 166 = .ok (.ireturn, 1) := by decide +kernel
theorem dX12_find_0 : decode cX12_find 0 = .ok (.aload_n 0, 1) := by decide +kernel
theorem dX12_find_1 : decode cX12_find 1 = .ok (.iload_n 1, 1) := by decide +kernel
theorem dX12_find_2 : decode cX12_find 2 = .ok (.iconst 0, 1) := by decide +kernel
theorem dX12_find_3 : decode cX12_find 3 = .ok (.aload_n 0, 1) := by decide +kernel
theorem dX12_find_4 : decode cX12_find 4 = .ok (.getfield 644, 3) := by decide +kernel
theorem dX12_find_7 : decode cX12_find 7 = .ok (.iconst 1, 1) := by decide +kernel
theorem dX12_find_8 : decode cX12_find 8 = .ok (.isub, 1) := by decide +kernel
theorem dX12_find_9 : decode cX12_find 9 = .ok (.invokestatic 18, 3) := by decide +kernel
theorem dX12_find_12 : decode cX12_find 12 = .ok (.iconst 1, 1) := by decide +kernel
theorem dX12_find_13 : decode cX12_find 13 = .ok (.invokevirtual 456, 3) := by decide +kernel
theorem dX12_find_16 : decode cX12_find 16 = .ok (.ifCond .eq 7, 3) := by decide +kernel
theorem dX12_find_19 : decode cX12_find 19 = .ok (.iconst 0, 1) := by decide +kernel
theorem dX12_find_20 : decode cX12_find 20 = .ok (.goto 9, 3) := by decide +kernel
theorem dX12_find_23 : decode cX12_find 23 = .ok (.aload_n 0, 1) := by decide +kernel
theorem dX12_find_24 : decode cX12_find 24 = .ok (.getfield 278, 3) := by decide +kernel
theorem dX12_find_27 : decode cX12_find 27 = .ok (.iload_n 1, 1) := by decide +kernel
theorem dX12_find_28 : decode cX12_find 28 = .ok (.iaload, 1) := by decide +kernel
theorem dX12_find_29 : decode cX12_find 29 = .ok (.ireturn, 1) := by decide +kernel
theorem dX12_brings_0 : decode cX12_brings 0 = .ok (.aload_n 0, 1) := by decide +kernel
theorem dX12_brings_1 : decode cX12_brings 1 = .ok (.getfield 26, 3) := by decide +kernel
theorem dX12_brings_4 : decode cX12_brings 4 = .ok (.iload_n 1, 1) := by decide +kernel
theorem dX12_brings_5 : decode cX12_brings 5 = .ok (.iaload, 1) := by decide +kernel
theorem dX12_brings_6 : decode cX12_brings 6 = .ok (.istore 5, 2) := by decide +kernel
theorem dX12_brings_8 : decode cX12_brings 8 = .ok (.aload_n 0, 1) := by decide +kernel
theorem dX12_brings_9 : decode cX12_brings 9 = .ok (.iload_n 1, 1) := by decide +kernel
theorem dX12_brings_10 : decode cX12_brings 10 = .ok (.iload_n 2, 1) := by decide +kernel
theorem dX12_brings_11 : decode cX12_brings 11 = .ok (.iload_n 3, 1) := by decide +kernel
theorem dX12_brings_12 : decode cX12_brings 12 = .ok (.aload_n 0, 1) := by decide +kernel
theorem dX12_brings_13 : decode cX12_brings 13 = .ok (.iload_n 2, 1) := by decide +kernel
theorem dX12_brings_14 : decode cX12_brings 14 = .ok (.iload_n 3, 1) := by decide +kernel
theorem dX12_brings_15 : decode cX12_brings 15 = .ok (.invokevirtual 49, 3) := by decide +kernel
theorem dX12_brings_18 : decode cX12_brings 18 = .ok (.invokevirtual 598, 3) := by decide +kernel
theorem dX12_brings_21 : decode cX12_brings 21 = .ok (.iload 5, 2) := by decide +kernel
theorem dX12_brings_23 : decode cX12_brings 23 = .ok (.bipush 100, 2) := by decide +kernel
theorem dX12_brings_25 : decode cX12_brings 25 = .ok (.if_icmp .ge 22, 3) := by decide +kernel
theorem dX12_brings_28 : decode cX12_brings 28 = .ok (.aload_n 0, 1) := by decide +kernel
theorem dX12_brings_29 : decode cX12_brings 29 = .ok (.iload_n 1, 1) := by decide +kernel
theorem dX12_brings_30 : decode cX12_brings 30 = .ok (.iload 5, 2) := by decide +kernel
theorem dX12_brings_32 : decode cX12_brings 32 = .ok (.invokevirtual 542, 3) := by decide +kernel
theorem dX12_brings_35 : decode cX12_brings 35 = .ok (.iload 4, 2) := by decide +kernel
theorem dX12_brings_37 : decode cX12_brings 37 = .ok (.ifCond .eq 10, 3) := by decide +kernel
theorem dX12_brings_40 : decode cX12_brings 40 = .ok (.aload_n 0, 1) := by decide +kernel
theorem dX12_brings_41 : decode cX12_brings 41 = .ok (.iload_n 1, 1) := by decide +kernel
theorem dX12_brings_42 : decode cX12_brings 42 = .ok (.iload 5, 2) := by decide +kernel
theorem dX12_brings_44 : decode cX12_brings 44 = .ok (.invokevirtual 650, 3) := by decide +kernel
theorem dX12_brings_47 : decode cX12_brings 47 = .ok (.return_, 1) := by decide +kernel
theorem dX12_wordOfKey_0 : decode cX12_wordOfKey 0 = .ok (.aload_n 0, 1) := by decide +kernel
theorem dX12_wordOfKey_1 : decode cX12_wordOfKey 1 = .ok (.aload_n 0, 1) := by decide +kernel
theorem dX12_wordOfKey_2 : decode cX12_wordOfKey 2 = .ok (.iload_n 1, 1) := by decide +kernel
theorem dX12_wordOfKey_3 : decode cX12_wordOfKey 3 = .ok (.iload_n 2, 1) := by decide +kernel
theorem dX12_wordOfKey_4 : decode cX12_wordOfKey 4 = .ok (.iconst 5, 1) := by decide +kernel
theorem dX12_wordOfKey_5 : decode cX12_wordOfKey 5 = .ok (.invokevirtual 36, 3) := by decide +kernel
theorem dX12_wordOfKey_8 : decode cX12_wordOfKey 8 = .ok (.putfield 66, 3) := by decide +kernel
theorem dX12_wordOfKey_11 : decode cX12_wordOfKey 11 = .ok (.iconst 0, 1) := by decide +kernel
theorem dX12_wordOfKey_12 : decode cX12_wordOfKey 12 = .ok (.istore_n 3, 1) := by decide +kernel
theorem dX12_wordOfKey_13 : decode cX12_wordOfKey 13 = .ok (.iload_n 3, 1) := by decide +kernel
theorem dX12_wordOfKey_14 : decode cX12_wordOfKey 14 = .ok (.aload_n 0, 1) := by decide +kernel
theorem dX12_wordOfKey_15 : decode cX12_wordOfKey 15 = .ok (.getfield 66, 3) := by decide +kernel
theorem dX12_wordOfKey_18 : decode cX12_wordOfKey 18 = .ok (.if_icmp .ge 25, 3) := by decide +kernel
theorem dX12_wordOfKey_21 : decode cX12_wordOfKey 21 = .ok (.aload_n 0, 1) := by decide +kernel
theorem dX12_wordOfKey_22 : decode cX12_wordOfKey 22 = .ok (.getfield 69, 3) := by decide +kernel
theorem dX12_wordOfKey_25 : decode cX12_wordOfKey 25 = .ok (.iload_n 3, 1) := by decide +kernel
theorem dX12_wordOfKey_26 : decode cX12_wordOfKey 26 = .ok (.aload_n 0, 1) := by decide +kernel
theorem dX12_wordOfKey_27 : decode cX12_wordOfKey 27 = .ok (.iload_n 1, 1) := by decide +kernel
theorem dX12_wordOfKey_28 : decode cX12_wordOfKey 28 = .ok (.iload_n 2, 1) := by decide +kernel
theorem dX12_wordOfKey_29 : decode cX12_wordOfKey 29 = .ok (.bipush 6, 2) := by decide +kernel
theorem dX12_wordOfKey_31 : decode cX12_wordOfKey 31 = .ok (.iload_n 3, 1) := by decide +kernel
theorem dX12_wordOfKey_32 : decode cX12_wordOfKey 32 = .ok (.iadd, 1) := by decide +kernel
theorem dX12_wordOfKey_33 : decode cX12_wordOfKey 33 = .ok (.invokevirtual 36, 3) := by decide +kernel
theorem dX12_wordOfKey_36 : decode cX12_wordOfKey 36 = .ok (.iastore, 1) := by decide +kernel
theorem dX12_wordOfKey_37 : decode cX12_wordOfKey 37 = .ok (.iinc 3 1, 3) := by decide +kernel
theorem dX12_wordOfKey_40 : decode cX12_wordOfKey 40 = .ok (.goto (-27), 3) := by decide +kernel
theorem dX12_wordOfKey_43 : decode cX12_wordOfKey 43 = .ok (.return_, 1) := by decide +kernel
theorem dX12_replaced_0 : decode cX12_replaced 0 = .ok (.aload_n 0, 1) := by decide +kernel
theorem dX12_replaced_1 : decode cX12_replaced 1 = .ok (.iload_n 2, 1) := by decide +kernel
theorem dX12_replaced_2 : decode cX12_replaced 2 = .ok (.iload_n 3, 1) := by decide +kernel
theorem dX12_replaced_3 : decode cX12_replaced 3 = .ok (.invokevirtual 653, 3) := by decide +kernel
theorem dX12_replaced_6 : decode cX12_replaced 6 = .ok (.aload_n 0, 1) := by decide +kernel
theorem dX12_replaced_7 : decode cX12_replaced 7 = .ok (.iload_n 1, 1) := by decide +kernel
theorem dX12_replaced_8 : decode cX12_replaced 8 = .ok (.invokevirtual 517, 3) := by decide +kernel
theorem dX12_replaced_11 : decode cX12_replaced 11 = .ok (.aload_n 0, 1) := by decide +kernel
theorem dX12_replaced_12 : decode cX12_replaced 12 = .ok (.iload_n 1, 1) := by decide +kernel
theorem dX12_replaced_13 : decode cX12_replaced 13 = .ok (.iload_n 2, 1) := by decide +kernel
theorem dX12_replaced_14 : decode cX12_replaced 14 = .ok (.iconst 0, 1) := by decide +kernel
theorem dX12_replaced_15 : decode cX12_replaced 15 = .ok (.iload_n 3, 1) := by decide +kernel
theorem dX12_replaced_16 : decode cX12_replaced 16 = .ok (.invokevirtual 598, 3) := by decide +kernel
theorem dX12_replaced_19 : decode cX12_replaced 19 = .ok (.aload_n 0, 1) := by decide +kernel
theorem dX12_replaced_20 : decode cX12_replaced 20 = .ok (.iload_n 1, 1) := by decide +kernel
theorem dX12_replaced_21 : decode cX12_replaced 21 = .ok (.iload 4, 2) := by decide +kernel
theorem dX12_replaced_23 : decode cX12_replaced 23 = .ok (.iload 5, 2) := by decide +kernel
theorem dX12_replaced_25 : decode cX12_replaced 25 = .ok (.aload_n 0, 1) := by decide +kernel
theorem dX12_replaced_26 : decode cX12_replaced 26 = .ok (.iload_n 2, 1) := by decide +kernel
theorem dX12_replaced_27 : decode cX12_replaced 27 = .ok (.iload_n 3, 1) := by decide +kernel
theorem dX12_replaced_28 : decode cX12_replaced 28 = .ok (.iconst 5, 1) := by decide +kernel
theorem dX12_replaced_29 : decode cX12_replaced 29 = .ok (.invokevirtual 36, 3) := by decide +kernel
theorem dX12_replaced_32 : decode cX12_replaced 32 = .ok (.ifCond .gt 23, 3) := by decide +kernel
theorem dX12_replaced_35 : decode cX12_replaced 35 = .ok (.iload_n 3, 1) := by decide +kernel
theorem dX12_replaced_36 : decode cX12_replaced 36 = .ok (.ifCond .le 23, 3) := by decide +kernel
theorem dX12_replaced_39 : decode cX12_replaced 39 = .ok (.aload_n 0, 1) := by decide +kernel
theorem dX12_replaced_40 : decode cX12_replaced 40 = .ok (.iload_n 2, 1) := by decide +kernel
theorem dX12_replaced_41 : decode cX12_replaced 41 = .ok (.aload_n 0, 1) := by decide +kernel
theorem dX12_replaced_42 : decode cX12_replaced 42 = .ok (.iload_n 2, 1) := by decide +kernel
theorem dX12_replaced_43 : decode cX12_replaced 43 = .ok (.iload_n 3, 1) := by decide +kernel
theorem dX12_replaced_44 : decode cX12_replaced 44 = .ok (.iconst 1, 1) := by decide +kernel
theorem dX12_replaced_45 : decode cX12_replaced 45 = .ok (.invokevirtual 36, 3) := by decide +kernel
theorem dX12_replaced_48 : decode cX12_replaced 48 = .ok (.invokevirtual 52, 3) := by decide +kernel
theorem dX12_replaced_51 : decode cX12_replaced 51 = .ok (.iconst 5, 1) := by decide +kernel
theorem dX12_replaced_52 : decode cX12_replaced 52 = .ok (.if_icmp .ne 7, 3) := by decide +kernel
theorem dX12_replaced_55 : decode cX12_replaced 55 = .ok (.iconst 1, 1) := by decide +kernel
theorem dX12_replaced_56 : decode cX12_replaced 56 = .ok (.goto 4, 3) := by decide +kernel
theorem dX12_replaced_59 : decode cX12_replaced 59 = .ok (.iconst 0, 1) := by decide +kernel
theorem dX12_replaced_60 : decode cX12_replaced 60 = .ok (.invokevirtual 656, 3) := by decide +kernel
theorem dX12_replaced_63 : decode cX12_replaced 63 = .ok (.aload_n 0, 1) := by decide +kernel
theorem dX12_replaced_64 : decode cX12_replaced 64 = .ok (.iload_n 1, 1) := by decide +kernel
theorem dX12_replaced_65 : decode cX12_replaced 65 = .ok (.iload_n 2, 1) := by decide +kernel
theorem dX12_replaced_66 : decode cX12_replaced 66 = .ok (.aload_n 0, 1) := by decide +kernel
theorem dX12_replaced_67 : decode cX12_replaced 67 = .ok (.iload_n 2, 1) := by decide +kernel
theorem dX12_replaced_68 : decode cX12_replaced 68 = .ok (.iload_n 3, 1) := by decide +kernel
theorem dX12_replaced_69 : decode cX12_replaced 69 = .ok (.invokevirtual 49, 3) := by decide +kernel
theorem dX12_replaced_72 : decode cX12_replaced 72 = .ok (.aload_n 0, 1) := by decide +kernel
theorem dX12_replaced_73 : decode cX12_replaced 73 = .ok (.getfield 26, 3) := by decide +kernel
theorem dX12_replaced_76 : decode cX12_replaced 76 = .ok (.iload_n 2, 1) := by decide +kernel
theorem dX12_replaced_77 : decode cX12_replaced 77 = .ok (.iaload, 1) := by decide +kernel
theorem dX12_replaced_78 : decode cX12_replaced 78 = .ok (.invokevirtual 598, 3) := by decide +kernel
theorem dX12_replaced_81 : decode cX12_replaced 81 = .ok (.return_, 1) := by decide +kernel
theorem dX12_taken_0 : decode cX12_taken 0 = .ok (.aload_n 0, 1) := by decide +kernel
theorem dX12_taken_1 : decode cX12_taken 1 = .ok (.iload_n 1, 1) := by decide +kernel
theorem dX12_taken_2 : decode cX12_taken 2 = .ok (.invokevirtual 517, 3) := by decide +kernel
theorem dX12_taken_5 : decode cX12_taken 5 = .ok (.aload_n 0, 1) := by decide +kernel
theorem dX12_taken_6 : decode cX12_taken 6 = .ok (.iload_n 1, 1) := by decide +kernel
theorem dX12_taken_7 : decode cX12_taken 7 = .ok (.iload_n 2, 1) := by decide +kernel
theorem dX12_taken_8 : decode cX12_taken 8 = .ok (.iconst 0, 1) := by decide +kernel
theorem dX12_taken_9 : decode cX12_taken 9 = .ok (.iload_n 3, 1) := by decide +kernel
theorem dX12_taken_10 : decode cX12_taken 10 = .ok (.invokevirtual 598, 3) := by decide +kernel
theorem dX12_taken_13 : decode cX12_taken 13 = .ok (.aload_n 0, 1) := by decide +kernel
theorem dX12_taken_14 : decode cX12_taken 14 = .ok (.iload_n 1, 1) := by decide +kernel
theorem dX12_taken_15 : decode cX12_taken 15 = .ok (.iload_n 2, 1) := by decide +kernel
theorem dX12_taken_16 : decode cX12_taken 16 = .ok (.aload_n 0, 1) := by decide +kernel
theorem dX12_taken_17 : decode cX12_taken 17 = .ok (.iload_n 2, 1) := by decide +kernel
theorem dX12_taken_18 : decode cX12_taken 18 = .ok (.iload_n 3, 1) := by decide +kernel
theorem dX12_taken_19 : decode cX12_taken 19 = .ok (.invokevirtual 49, 3) := by decide +kernel
theorem dX12_taken_22 : decode cX12_taken 22 = .ok (.aload_n 0, 1) := by decide +kernel
theorem dX12_taken_23 : decode cX12_taken 23 = .ok (.getfield 26, 3) := by decide +kernel
theorem dX12_taken_26 : decode cX12_taken 26 = .ok (.iload_n 2, 1) := by decide +kernel
theorem dX12_taken_27 : decode cX12_taken 27 = .ok (.iaload, 1) := by decide +kernel
theorem dX12_taken_28 : decode cX12_taken 28 = .ok (.invokevirtual 598, 3) := by decide +kernel
theorem dX12_taken_31 : decode cX12_taken 31 = .ok (.aload_n 0, 1) := by decide +kernel
theorem dX12_taken_32 : decode cX12_taken 32 = .ok (.getfield 7, 3) := by decide +kernel
theorem dX12_taken_35 : decode cX12_taken 35 = .ok (.iload_n 1, 1) := by decide +kernel
theorem dX12_taken_36 : decode cX12_taken 36 = .ok (.aload_n 0, 1) := by decide +kernel
theorem dX12_taken_37 : decode cX12_taken 37 = .ok (.iload_n 2, 1) := by decide +kernel
theorem dX12_taken_38 : decode cX12_taken 38 = .ok (.iload_n 3, 1) := by decide +kernel
theorem dX12_taken_39 : decode cX12_taken 39 = .ok (.iconst 1, 1) := by decide +kernel
theorem dX12_taken_40 : decode cX12_taken 40 = .ok (.invokevirtual 36, 3) := by decide +kernel
theorem dX12_taken_43 : decode cX12_taken 43 = .ok (.invokestatic 11, 3) := by decide +kernel
theorem dX12_taken_46 : decode cX12_taken 46 = .ok (.iconst 3, 1) := by decide +kernel
theorem dX12_taken_47 : decode cX12_taken 47 = .ok (.iadd, 1) := by decide +kernel
theorem dX12_taken_48 : decode cX12_taken 48 = .ok (.dup2, 1) := by decide +kernel
theorem dX12_taken_49 : decode cX12_taken 49 = .ok (.iaload, 1) := by decide +kernel
theorem dX12_taken_50 : decode cX12_taken 50 = .ok (.iconst 1, 1) := by decide +kernel
theorem dX12_taken_51 : decode cX12_taken 51 = .ok (.isub, 1) := by decide +kernel
theorem dX12_taken_52 : decode cX12_taken 52 = .ok (.iastore, 1) := by decide +kernel
theorem dX12_taken_53 : decode cX12_taken 53 = .ok (.return_, 1) := by decide +kernel
theorem dX12_lastStep_0 : decode cX12_lastStep 0 = .ok (.aload_n 0, 1) := by decide +kernel
theorem dX12_lastStep_1 : decode cX12_lastStep 1 = .ok (.getfield 604, 3) := by decide +kernel
theorem dX12_lastStep_4 : decode cX12_lastStep 4 = .ok (.iconst 1, 1) := by decide +kernel
theorem dX12_lastStep_5 : decode cX12_lastStep 5 = .ok (.isub, 1) := by decide +kernel
theorem dX12_lastStep_6 : decode cX12_lastStep 6 = .ok (.istore_n 1, 1) := by decide +kernel
theorem dX12_lastStep_7 : decode cX12_lastStep 7 = .ok (.aload_n 0, 1) := by decide +kernel
theorem dX12_lastStep_8 : decode cX12_lastStep 8 = .ok (.getfield 275, 3) := by decide +kernel
theorem dX12_lastStep_11 : decode cX12_lastStep 11 = .ok (.iload_n 1, 1) := by decide +kernel
theorem dX12_lastStep_12 : decode cX12_lastStep 12 = .ok (.iaload, 1) := by decide +kernel
theorem dX12_lastStep_13 : decode cX12_lastStep 13 = .ok (.bipush 47, 2) := by decide +kernel
theorem dX12_lastStep_15 : decode cX12_lastStep 15 = .ok (.if_icmp .eq 9, 3) := by decide +kernel
theorem dX12_lastStep_18 : decode cX12_lastStep 18 = .ok (.iinc 1 (-1), 3) := by decide +kernel
theorem dX12_lastStep_21 : decode cX12_lastStep 21 = .ok (.goto (-14), 3) := by decide +kernel
theorem dX12_lastStep_24 : decode cX12_lastStep 24 = .ok (.iload_n 1, 1) := by decide +kernel
theorem dX12_lastStep_25 : decode cX12_lastStep 25 = .ok (.ireturn, 1) := by decide +kernel
theorem dX12_canPut_0 : decode cX12_canPut 0 = .ok (.aload_n 0, 1) := by decide +kernel
theorem dX12_canPut_1 : decode cX12_canPut 1 = .ok (.getfield 604, 3) := by decide +kernel
theorem dX12_canPut_4 : decode cX12_canPut 4 = .ok (.ifCond .ne 23, 3) := by decide +kernel
theorem dX12_canPut_7 : decode cX12_canPut 7 = .ok (.aload_n 0, 1) := by decide +kernel
theorem dX12_canPut_8 : decode cX12_canPut 8 = .ok (.iload_n 1, 1) := by decide +kernel
theorem dX12_canPut_9 : decode cX12_canPut 9 = .ok (.invokevirtual 517, 3) := by decide +kernel
theorem dX12_canPut_12 : decode cX12_canPut 12 = .ok (.aload_n 0, 1) := by decide +kernel
theorem dX12_canPut_13 : decode cX12_canPut 13 = .ok (.iload_n 1, 1) := by decide +kernel
theorem dX12_canPut_14 : decode cX12_canPut 14 = .ok (.iload_n 3, 1) := by decide +kernel
theorem dX12_canPut_15 : decode cX12_canPut 15 = .ok (.iload 4, 2) := by decide +kernel
theorem dX12_canPut_17 : decode cX12_canPut 17 = .ok (.iconst 0, 1) := by decide +kernel
theorem dX12_canPut_18 : decode cX12_canPut 18 = .ok (.invokevirtual 656, 3) := by decide +kernel
theorem dX12_canPut_21 : decode cX12_canPut 21 = .ok (.aload_n 0, 1) := by decide +kernel
theorem dX12_canPut_22 : decode cX12_canPut 22 = .ok (.iload_n 1, 1) := by decide +kernel
theorem dX12_canPut_23 : decode cX12_canPut 23 = .ok (.invokevirtual 601, 3) := by decide +kernel
theorem dX12_canPut_26 : decode cX12_canPut 26 = .ok (.ireturn, 1) := by decide +kernel
theorem dX12_canPut_27 : decode cX12_canPut 27 = .ok (.aload_n 0, 1) := by decide +kernel
theorem dX12_canPut_28 : decode cX12_canPut 28 = .ok (.invokevirtual 660, 3) := by decide +kernel
theorem dX12_canPut_31 : decode cX12_canPut 31 = .ok (.istore 5, 2) := by decide +kernel
theorem dX12_canPut_33 : decode cX12_canPut 33 = .ok (.aload_n 0, 1) := by decide +kernel
theorem dX12_canPut_34 : decode cX12_canPut 34 = .ok (.iload_n 2, 1) := by decide +kernel
theorem dX12_canPut_35 : decode cX12_canPut 35 = .ok (.iload 5, 2) := by decide +kernel
theorem dX12_canPut_37 : decode cX12_canPut 37 = .ok (.invokevirtual 663, 3) := by decide +kernel
theorem dX12_canPut_40 : decode cX12_canPut 40 = .ok (.istore 6, 2) := by decide +kernel
theorem dX12_canPut_42 : decode cX12_canPut 42 = .ok (.iload 6, 2) := by decide +kernel
theorem dX12_canPut_44 : decode cX12_canPut 44 = .ok (.iconst (-1), 1) := by decide +kernel
theorem dX12_canPut_45 : decode cX12_canPut 45 = .ok (.if_icmp .eq 14, 3) := by decide +kernel
theorem dX12_canPut_48 : decode cX12_canPut 48 = .ok (.aload_n 0, 1) := by decide +kernel
theorem dX12_canPut_49 : decode cX12_canPut 49 = .ok (.iload_n 2, 1) := by decide +kernel
theorem dX12_canPut_50 : decode cX12_canPut 50 = .ok (.iload 6, 2) := by decide +kernel
theorem dX12_canPut_52 : decode cX12_canPut 52 = .ok (.invokevirtual 52, 3) := by decide +kernel
theorem dX12_canPut_55 : decode cX12_canPut 55 = .ok (.iconst 4, 1) := by decide +kernel
theorem dX12_canPut_56 : decode cX12_canPut 56 = .ok (.if_icmp .ge 5, 3) := by decide +kernel
theorem dX12_canPut_59 : decode cX12_canPut 59 = .ok (.iconst 0, 1) := by decide +kernel
theorem dX12_canPut_60 : decode cX12_canPut 60 = .ok (.ireturn, 1) := by decide +kernel
theorem dX12_canPut_61 : decode cX12_canPut 61 = .ok (.aload_n 0, 1) := by decide +kernel
theorem dX12_canPut_62 : decode cX12_canPut 62 = .ok (.iload 5, 2) := by decide +kernel
theorem dX12_canPut_64 : decode cX12_canPut 64 = .ok (.invokevirtual 619, 3) := by decide +kernel
theorem dX12_canPut_67 : decode cX12_canPut 67 = .ok (.aload_n 0, 1) := by decide +kernel
theorem dX12_canPut_68 : decode cX12_canPut 68 = .ok (.aload_n 0, 1) := by decide +kernel
theorem dX12_canPut_69 : decode cX12_canPut 69 = .ok (.getfield 607, 3) := by decide +kernel
theorem dX12_canPut_72 : decode cX12_canPut 72 = .ok (.aload_n 0, 1) := by decide +kernel
theorem dX12_canPut_73 : decode cX12_canPut 73 = .ok (.getfield 610, 3) := by decide +kernel
theorem dX12_canPut_76 : decode cX12_canPut 76 = .ok (.invokevirtual 622, 3) := by decide +kernel
theorem dX12_canPut_79 : decode cX12_canPut 79 = .ok (.aload_n 0, 1) := by decide +kernel
theorem dX12_canPut_80 : decode cX12_canPut 80 = .ok (.iload_n 2, 1) := by decide +kernel
theorem dX12_canPut_81 : decode cX12_canPut 81 = .ok (.iload 6, 2) := by decide +kernel
theorem dX12_canPut_83 : decode cX12_canPut 83 = .ok (.invokevirtual 52, 3) := by decide +kernel
theorem dX12_canPut_86 : decode cX12_canPut 86 = .ok (.iconst 5, 1) := by decide +kernel
theorem dX12_canPut_87 : decode cX12_canPut 87 = .ok (.if_icmp .ne 46, 3) := by decide +kernel
theorem dX12_canPut_90 : decode cX12_canPut 90 = .ok (.aload_n 0, 1) := by decide +kernel
theorem dX12_canPut_91 : decode cX12_canPut 91 = .ok (.iload_n 2, 1) := by decide +kernel
theorem dX12_canPut_92 : decode cX12_canPut 92 = .ok (.iload 6, 2) := by decide +kernel
theorem dX12_canPut_94 : decode cX12_canPut 94 = .ok (.invokevirtual 78, 3) := by decide +kernel
theorem dX12_canPut_97 : decode cX12_canPut 97 = .ok (.istore 7, 2) := by decide +kernel
theorem dX12_canPut_99 : decode cX12_canPut 99 = .ok (.iload 7, 2) := by decide +kernel
theorem dX12_canPut_101 : decode cX12_canPut 101 = .ok (.iconst (-1), 1) := by decide +kernel
theorem dX12_canPut_102 : decode cX12_canPut 102 = .ok (.if_icmp .eq 20, 3) := by decide +kernel
theorem dX12_canPut_105 : decode cX12_canPut 105 = .ok (.aload_n 0, 1) := by decide +kernel
theorem dX12_canPut_106 : decode cX12_canPut 106 = .ok (.iload_n 1, 1) := by decide +kernel
theorem dX12_canPut_107 : decode cX12_canPut 107 = .ok (.iload_n 2, 1) := by decide +kernel
theorem dX12_canPut_108 : decode cX12_canPut 108 = .ok (.iload 7, 2) := by decide +kernel
theorem dX12_canPut_110 : decode cX12_canPut 110 = .ok (.iload_n 3, 1) := by decide +kernel
theorem dX12_canPut_111 : decode cX12_canPut 111 = .ok (.iload 4, 2) := by decide +kernel
theorem dX12_canPut_113 : decode cX12_canPut 113 = .ok (.invokevirtual 666, 3) := by decide +kernel
theorem dX12_canPut_116 : decode cX12_canPut 116 = .ok (.aload_n 0, 1) := by decide +kernel
theorem dX12_canPut_117 : decode cX12_canPut 117 = .ok (.iload_n 1, 1) := by decide +kernel
theorem dX12_canPut_118 : decode cX12_canPut 118 = .ok (.invokevirtual 601, 3) := by decide +kernel
theorem dX12_canPut_121 : decode cX12_canPut 121 = .ok (.ireturn, 1) := by decide +kernel
theorem dX12_canPut_122 : decode cX12_canPut 122 = .ok (.aload_n 0, 1) := by decide +kernel
theorem dX12_canPut_123 : decode cX12_canPut 123 = .ok (.getfield 66, 3) := by decide +kernel
theorem dX12_canPut_126 : decode cX12_canPut 126 = .ok (.bipush 12, 2) := by decide +kernel
theorem dX12_canPut_128 : decode cX12_canPut 128 = .ok (.if_icmp .le 5, 3) := by decide +kernel
theorem dX12_canPut_131 : decode cX12_canPut 131 = .ok (.iconst 0, 1) := by decide +kernel
theorem dX12_canPut_132 : decode cX12_canPut 132 = .ok (.ireturn, 1) := by decide +kernel
theorem dX12_canPut_133 : decode cX12_canPut 133 = .ok (.aload_n 0, 1) := by decide +kernel
theorem dX12_canPut_134 : decode cX12_canPut 134 = .ok (.iload_n 2, 1) := by decide +kernel
theorem dX12_canPut_135 : decode cX12_canPut 135 = .ok (.iload 6, 2) := by decide +kernel
theorem dX12_canPut_137 : decode cX12_canPut 137 = .ok (.iconst 3, 1) := by decide +kernel
theorem dX12_canPut_138 : decode cX12_canPut 138 = .ok (.invokevirtual 36, 3) := by decide +kernel
theorem dX12_canPut_141 : decode cX12_canPut 141 = .ok (.istore 7, 2) := by decide +kernel
theorem dX12_canPut_143 : decode cX12_canPut 143 = .ok (.iload 7, 2) := by decide +kernel
theorem dX12_canPut_145 : decode cX12_canPut 145 = .ok (.istore 8, 2) := by decide +kernel
theorem dX12_canPut_147 : decode cX12_canPut 147 = .ok (.aload_n 0, 1) := by decide +kernel
theorem dX12_canPut_148 : decode cX12_canPut 148 = .ok (.iload_n 2, 1) := by decide +kernel
theorem dX12_canPut_149 : decode cX12_canPut 149 = .ok (.iload 6, 2) := by decide +kernel
theorem dX12_canPut_151 : decode cX12_canPut 151 = .ok (.invokevirtual 52, 3) := by decide +kernel
theorem dX12_canPut_154 : decode cX12_canPut 154 = .ok (.iconst 4, 1) := by decide +kernel
theorem dX12_canPut_155 : decode cX12_canPut 155 = .ok (.if_icmp .ne 42, 3) := by decide +kernel
theorem dX12_canPut_158 : decode cX12_canPut 158 = .ok (.aload_n 0, 1) := by decide +kernel
theorem dX12_canPut_159 : decode cX12_canPut 159 = .ok (.getfield 66, 3) := by decide +kernel
theorem dX12_canPut_162 : decode cX12_canPut 162 = .ok (.iconst 1, 1) := by decide +kernel
theorem dX12_canPut_163 : decode cX12_canPut 163 = .ok (.if_icmp .ne 14, 3) := by decide +kernel
theorem dX12_canPut_166 : decode cX12_canPut 166 = .ok (.aload_n 0, 1) := by decide +kernel
theorem dX12_canPut_167 : decode cX12_canPut 167 = .ok (.getfield 69, 3) := by decide +kernel
theorem dX12_canPut_170 : decode cX12_canPut 170 = .ok (.iconst 0, 1) := by decide +kernel
theorem dX12_canPut_171 : decode cX12_canPut 171 = .ok (.iaload, 1) := by decide +kernel
theorem dX12_canPut_172 : decode cX12_canPut 172 = .ok (.bipush 45, 2) := by decide +kernel
theorem dX12_canPut_174 : decode cX12_canPut 174 = .ok (.if_icmp .eq 23, 3) := by decide +kernel
theorem dX12_canPut_177 : decode cX12_canPut 177 = .ok (.aload_n 0, 1) := by decide +kernel
theorem dX12_canPut_178 : decode cX12_canPut 178 = .ok (.iconst 0, 1) := by decide +kernel
theorem dX12_canPut_179 : decode cX12_canPut 179 = .ok (.invokevirtual 613, 3) := by decide +kernel
theorem dX12_canPut_182 : decode cX12_canPut 182 = .ok (.istore 8, 2) := by decide +kernel
theorem dX12_canPut_184 : decode cX12_canPut 184 = .ok (.iload 8, 2) := by decide +kernel
theorem dX12_canPut_186 : decode cX12_canPut 186 = .ok (.iconst 0, 1) := by decide +kernel
theorem dX12_canPut_187 : decode cX12_canPut 187 = .ok (.iload 7, 2) := by decide +kernel
theorem dX12_canPut_189 : decode cX12_canPut 189 = .ok (.invokestatic 18, 3) := by decide +kernel
theorem dX12_canPut_192 : decode cX12_canPut 192 = .ok (.ifCond .ne 5, 3) := by decide +kernel
theorem dX12_canPut_195 : decode cX12_canPut 195 = .ok (.iconst 0, 1) := by decide +kernel
theorem dX12_canPut_196 : decode cX12_canPut 196 = .ok (.ireturn, 1) := by decide +kernel
theorem dX12_canPut_197 : decode cX12_canPut 197 = .ok (.aload_n 0, 1) := by decide +kernel
theorem dX12_canPut_198 : decode cX12_canPut 198 = .ok (.iload_n 2, 1) := by decide +kernel
theorem dX12_canPut_199 : decode cX12_canPut 199 = .ok (.iload 6, 2) := by decide +kernel
theorem dX12_canPut_201 : decode cX12_canPut 201 = .ok (.iload 8, 2) := by decide +kernel
theorem dX12_canPut_203 : decode cX12_canPut 203 = .ok (.invokevirtual 616, 3) := by decide +kernel
theorem dX12_canPut_206 : decode cX12_canPut 206 = .ok (.istore 9, 2) := by decide +kernel
theorem dX12_canPut_208 : decode cX12_canPut 208 = .ok (.aload_n 0, 1) := by decide +kernel
theorem dX12_canPut_209 : decode cX12_canPut 209 = .ok (.iload_n 1, 1) := by decide +kernel
theorem dX12_canPut_210 : decode cX12_canPut 210 = .ok (.invokevirtual 517, 3) := by decide +kernel
theorem dX12_canPut_213 : decode cX12_canPut 213 = .ok (.aload_n 0, 1) := by decide +kernel
theorem dX12_canPut_214 : decode cX12_canPut 214 = .ok (.iload_n 1, 1) := by decide +kernel
theorem dX12_canPut_215 : decode cX12_canPut 215 = .ok (.iload_n 2, 1) := by decide +kernel
theorem dX12_canPut_216 : decode cX12_canPut 216 = .ok (.iconst 0, 1) := by decide +kernel
theorem dX12_canPut_217 : decode cX12_canPut 217 = .ok (.iload 9, 2) := by decide +kernel
theorem dX12_canPut_219 : decode cX12_canPut 219 = .ok (.invokevirtual 598, 3) := by decide +kernel
theorem dX12_canPut_222 : decode cX12_canPut 222 = .ok (.aload_n 0, 1) := by decide +kernel
theorem dX12_canPut_223 : decode cX12_canPut 223 = .ok (.iload_n 1, 1) := by decide +kernel
theorem dX12_canPut_224 : decode cX12_canPut 224 = .ok (.iload_n 3, 1) := by decide +kernel
theorem dX12_canPut_225 : decode cX12_canPut 225 = .ok (.iload 4, 2) := by decide +kernel
theorem dX12_canPut_227 : decode cX12_canPut 227 = .ok (.aload_n 0, 1) := by decide +kernel
theorem dX12_canPut_228 : decode cX12_canPut 228 = .ok (.iload_n 2, 1) := by decide +kernel
theorem dX12_canPut_229 : decode cX12_canPut 229 = .ok (.iload 6, 2) := by decide +kernel
theorem dX12_canPut_231 : decode cX12_canPut 231 = .ok (.invokevirtual 52, 3) := by decide +kernel
theorem dX12_canPut_234 : decode cX12_canPut 234 = .ok (.iconst 5, 1) := by decide +kernel
theorem dX12_canPut_235 : decode cX12_canPut 235 = .ok (.if_icmp .ne 7, 3) := by decide +kernel
theorem dX12_canPut_238 : decode cX12_canPut 238 = .ok (.iconst 1, 1) := by decide +kernel
theorem dX12_canPut_239 : decode cX12_canPut 239 = .ok (.goto 4, 3) := by decide +kernel
theorem dX12_canPut_242 : decode cX12_canPut 242 = .ok (.iconst 0, 1) := by decide +kernel
theorem dX12_canPut_243 : decode cX12_canPut 243 = .ok (.invokevirtual 656, 3) := by decide +kernel
theorem dX12_canPut_246 : decode cX12_canPut 246 = .ok (.aload_n 0, 1) := by decide +kernel
theorem dX12_canPut_247 : decode cX12_canPut 247 = .ok (.iload_n 1, 1) := by decide +kernel
theorem dX12_canPut_248 : decode cX12_canPut 248 = .ok (.iload_n 2, 1) := by decide +kernel
theorem dX12_canPut_249 : decode cX12_canPut 249 = .ok (.iload 9, 2) := by decide +kernel
theorem dX12_canPut_251 : decode cX12_canPut 251 = .ok (.aload_n 0, 1) := by decide +kernel
theorem dX12_canPut_252 : decode cX12_canPut 252 = .ok (.getfield 26, 3) := by decide +kernel
theorem dX12_canPut_255 : decode cX12_canPut 255 = .ok (.iload_n 2, 1) := by decide +kernel
theorem dX12_canPut_256 : decode cX12_canPut 256 = .ok (.iaload, 1) := by decide +kernel
theorem dX12_canPut_257 : decode cX12_canPut 257 = .ok (.invokevirtual 598, 3) := by decide +kernel
theorem dX12_canPut_260 : decode cX12_canPut 260 = .ok (.aload_n 0, 1) := by decide +kernel
theorem dX12_canPut_261 : decode cX12_canPut 261 = .ok (.getfield 7, 3) := by decide +kernel
theorem dX12_canPut_264 : decode cX12_canPut 264 = .ok (.iload_n 1, 1) := by decide +kernel
theorem dX12_canPut_265 : decode cX12_canPut 265 = .ok (.iload 6, 2) := by decide +kernel
theorem dX12_canPut_267 : decode cX12_canPut 267 = .ok (.invokestatic 11, 3) := by decide +kernel
theorem dX12_canPut_270 : decode cX12_canPut 270 = .ok (.iconst 3, 1) := by decide +kernel
theorem dX12_canPut_271 : decode cX12_canPut 271 = .ok (.iadd, 1) := by decide +kernel
theorem dX12_canPut_272 : decode cX12_canPut 272 = .ok (.dup2, 1) := by decide +kernel
theorem dX12_canPut_273 : decode cX12_canPut 273 = .ok (.iaload, 1) := by decide +kernel
theorem dX12_canPut_274 : decode cX12_canPut 274 = .ok (.iconst 1, 1) := by decide +kernel
theorem dX12_canPut_275 : decode cX12_canPut 275 = .ok (.iadd, 1) := by decide +kernel
theorem dX12_canPut_276 : decode cX12_canPut 276 = .ok (.iastore, 1) := by decide +kernel
theorem dX12_canPut_277 : decode cX12_canPut 277 = .ok (.aload_n 0, 1) := by decide +kernel
theorem dX12_canPut_278 : decode cX12_canPut 278 = .ok (.iload_n 1, 1) := by decide +kernel
theorem dX12_canPut_279 : decode cX12_canPut 279 = .ok (.invokevirtual 601, 3) := by decide +kernel
theorem dX12_canPut_282 : decode cX12_canPut 282 = .ok (.ireturn, 1) := by decide +kernel
theorem dX12_canCut_0 : decode cX12_canCut 0 = .ok (.aload_n 0, 1) := by decide +kernel
theorem dX12_canCut_1 : decode cX12_canCut 1 = .ok (.getfield 604, 3) := by decide +kernel
theorem dX12_canCut_4 : decode cX12_canCut 4 = .ok (.ifCond .ne 5, 3) := by decide +kernel
theorem dX12_canCut_7 : decode cX12_canCut 7 = .ok (.iconst 0, 1) := by decide +kernel
theorem dX12_canCut_8 : decode cX12_canCut 8 = .ok (.ireturn, 1) := by decide +kernel
theorem dX12_canCut_9 : decode cX12_canCut 9 = .ok (.aload_n 0, 1) := by decide +kernel
theorem dX12_canCut_10 : decode cX12_canCut 10 = .ok (.iload_n 2, 1) := by decide +kernel
theorem dX12_canCut_11 : decode cX12_canCut 11 = .ok (.aload_n 0, 1) := by decide +kernel
theorem dX12_canCut_12 : decode cX12_canCut 12 = .ok (.getfield 604, 3) := by decide +kernel
theorem dX12_canCut_15 : decode cX12_canCut 15 = .ok (.invokevirtual 663, 3) := by decide +kernel
theorem dX12_canCut_18 : decode cX12_canCut 18 = .ok (.istore_n 3, 1) := by decide +kernel
theorem dX12_canCut_19 : decode cX12_canCut 19 = .ok (.iload_n 3, 1) := by decide +kernel
theorem dX12_canCut_20 : decode cX12_canCut 20 = .ok (.iconst (-1), 1) := by decide +kernel
theorem dX12_canCut_21 : decode cX12_canCut 21 = .ok (.if_icmp .ne 5, 3) := by decide +kernel
theorem dX12_canCut_24 : decode cX12_canCut 24 = .ok (.iconst 0, 1) := by decide +kernel
theorem dX12_canCut_25 : decode cX12_canCut 25 = .ok (.ireturn, 1) := by decide +kernel
theorem dX12_canCut_26 : decode cX12_canCut 26 = .ok (.aload_n 0, 1) := by decide +kernel
theorem dX12_canCut_27 : decode cX12_canCut 27 = .ok (.iload_n 1, 1) := by decide +kernel
theorem dX12_canCut_28 : decode cX12_canCut 28 = .ok (.iload_n 2, 1) := by decide +kernel
theorem dX12_canCut_29 : decode cX12_canCut 29 = .ok (.iload_n 3, 1) := by decide +kernel
theorem dX12_canCut_30 : decode cX12_canCut 30 = .ok (.invokevirtual 670, 3) := by decide +kernel
theorem dX12_canCut_33 : decode cX12_canCut 33 = .ok (.aload_n 0, 1) := by decide +kernel
theorem dX12_canCut_34 : decode cX12_canCut 34 = .ok (.iload_n 1, 1) := by decide +kernel
theorem dX12_canCut_35 : decode cX12_canCut 35 = .ok (.invokevirtual 55, 3) := by decide +kernel
theorem dX12_canCut_38 : decode cX12_canCut 38 = .ok (.iconst 1, 1) := by decide +kernel
theorem dX12_canCut_39 : decode cX12_canCut 39 = .ok (.ireturn, 1) := by decide +kernel
theorem dX12_put_0 : decode cX12_put 0 = .ok (.aload_n 0, 1) := by decide +kernel
theorem dX12_put_1 : decode cX12_put 1 = .ok (.aload_n 0, 1) := by decide +kernel
theorem dX12_put_2 : decode cX12_put 2 = .ok (.iload_n 1, 1) := by decide +kernel
theorem dX12_put_3 : decode cX12_put 3 = .ok (.invokevirtual 22, 3) := by decide +kernel
theorem dX12_put_6 : decode cX12_put 6 = .ok (.ifCond .eq 15, 3) := by decide +kernel
theorem dX12_put_9 : decode cX12_put 9 = .ok (.aload_n 0, 1) := by decide +kernel
theorem dX12_put_10 : decode cX12_put 10 = .ok (.iload_n 2, 1) := by decide +kernel
theorem dX12_put_11 : decode cX12_put 11 = .ok (.invokevirtual 22, 3) := by decide +kernel
theorem dX12_put_14 : decode cX12_put 14 = .ok (.ifCond .eq 7, 3) := by decide +kernel
theorem dX12_put_17 : decode cX12_put 17 = .ok (.iconst 1, 1) := by decide +kernel
theorem dX12_put_18 : decode cX12_put 18 = .ok (.goto 4, 3) := by decide +kernel
theorem dX12_put_21 : decode cX12_put 21 = .ok (.iconst 0, 1) := by decide +kernel
theorem dX12_put_22 : decode cX12_put 22 = .ok (.iconst 1, 1) := by decide +kernel
theorem dX12_put_23 : decode cX12_put 23 = .ok (.invokevirtual 456, 3) := by decide +kernel
theorem dX12_put_26 : decode cX12_put 26 = .ok (.ifCond .eq 5, 3) := by decide +kernel
theorem dX12_put_29 : decode cX12_put 29 = .ok (.iconst 0, 1) := by decide +kernel
theorem dX12_put_30 : decode cX12_put 30 = .ok (.ireturn, 1) := by decide +kernel
theorem dX12_put_31 : decode cX12_put 31 = .ok (.aload_n 0, 1) := by decide +kernel
theorem dX12_put_32 : decode cX12_put 32 = .ok (.invokevirtual 638, 3) := by decide +kernel
theorem dX12_put_35 : decode cX12_put 35 = .ok (.aload_n 0, 1) := by decide +kernel
theorem dX12_put_36 : decode cX12_put 36 = .ok (.aload_n 0, 1) := by decide +kernel
theorem dX12_put_37 : decode cX12_put 37 = .ok (.getfield 15, 3) := by decide +kernel
theorem dX12_put_40 : decode cX12_put 40 = .ok (.bipush 40, 2) := by decide +kernel
theorem dX12_put_42 : decode cX12_put 42 = .ok (.if_icmp .ge 26, 3) := by decide +kernel
theorem dX12_put_45 : decode cX12_put 45 = .ok (.aload_n 0, 1) := by decide +kernel
theorem dX12_put_46 : decode cX12_put 46 = .ok (.invokevirtual 641, 3) := by decide +kernel
theorem dX12_put_49 : decode cX12_put 49 = .ok (.ifCond .eq 19, 3) := by decide +kernel
theorem dX12_put_52 : decode cX12_put 52 = .ok (.aload_n 0, 1) := by decide +kernel
theorem dX12_put_53 : decode cX12_put 53 = .ok (.bipush 40, 2) := by decide +kernel
theorem dX12_put_55 : decode cX12_put 55 = .ok (.iload_n 1, 1) := by decide +kernel
theorem dX12_put_56 : decode cX12_put 56 = .ok (.iload_n 2, 1) := by decide +kernel
theorem dX12_put_57 : decode cX12_put 57 = .ok (.iconst 0, 1) := by decide +kernel
theorem dX12_put_58 : decode cX12_put 58 = .ok (.invokevirtual 673, 3) := by decide +kernel
theorem dX12_put_61 : decode cX12_put 61 = .ok (.ifCond .eq 7, 3) := by decide +kernel
theorem dX12_put_64 : decode cX12_put 64 = .ok (.iconst 1, 1) := by decide +kernel
theorem dX12_put_65 : decode cX12_put 65 = .ok (.goto 4, 3) := by decide +kernel
theorem dX12_put_68 : decode cX12_put 68 = .ok (.iconst 0, 1) := by decide +kernel
theorem dX12_put_69 : decode cX12_put 69 = .ok (.iconst 2, 1) := by decide +kernel
theorem dX12_put_70 : decode cX12_put 70 = .ok (.invokevirtual 456, 3) := by decide +kernel
theorem dX12_put_73 : decode cX12_put 73 = .ok (.ifCond .eq 5, 3) := by decide +kernel
theorem dX12_put_76 : decode cX12_put 76 = .ok (.iconst 0, 1) := by decide +kernel
theorem dX12_put_77 : decode cX12_put 77 = .ok (.ireturn, 1) := by decide +kernel
theorem dX12_put_78 : decode cX12_put 78 = .ok (.aload_n 0, 1) := by decide +kernel
theorem dX12_put_79 : decode cX12_put 79 = .ok (.iconst 0, 1) := by decide +kernel
theorem dX12_put_80 : decode cX12_put 80 = .ok (.putfield 460, 3) := by decide +kernel
theorem dX12_put_83 : decode cX12_put 83 = .ok (.aload_n 0, 1) := by decide +kernel
theorem dX12_put_84 : decode cX12_put 84 = .ok (.bipush 40, 2) := by decide +kernel
theorem dX12_put_86 : decode cX12_put 86 = .ok (.invokevirtual 536, 3) := by decide +kernel
theorem dX12_put_89 : decode cX12_put 89 = .ok (.ireturn, 1) := by decide +kernel
theorem dX12_cut_0 : decode cX12_cut 0 = .ok (.aload_n 0, 1) := by decide +kernel
theorem dX12_cut_1 : decode cX12_cut 1 = .ok (.aload_n 0, 1) := by decide +kernel
theorem dX12_cut_2 : decode cX12_cut 2 = .ok (.iload_n 1, 1) := by decide +kernel
theorem dX12_cut_3 : decode cX12_cut 3 = .ok (.invokevirtual 22, 3) := by decide +kernel
theorem dX12_cut_6 : decode cX12_cut 6 = .ok (.iconst 1, 1) := by decide +kernel
theorem dX12_cut_7 : decode cX12_cut 7 = .ok (.invokevirtual 456, 3) := by decide +kernel
theorem dX12_cut_10 : decode cX12_cut 10 = .ok (.ifCond .eq 5, 3) := by decide +kernel
theorem dX12_cut_13 : decode cX12_cut 13 = .ok (.iconst 0, 1) := by decide +kernel
theorem dX12_cut_14 : decode cX12_cut 14 = .ok (.ireturn, 1) := by decide +kernel
theorem dX12_cut_15 : decode cX12_cut 15 = .ok (.aload_n 0, 1) := by decide +kernel
theorem dX12_cut_16 : decode cX12_cut 16 = .ok (.invokevirtual 638, 3) := by decide +kernel
theorem dX12_cut_19 : decode cX12_cut 19 = .ok (.aload_n 0, 1) := by decide +kernel
theorem dX12_cut_20 : decode cX12_cut 20 = .ok (.aload_n 0, 1) := by decide +kernel
theorem dX12_cut_21 : decode cX12_cut 21 = .ok (.getfield 15, 3) := by decide +kernel
theorem dX12_cut_24 : decode cX12_cut 24 = .ok (.bipush 40, 2) := by decide +kernel
theorem dX12_cut_26 : decode cX12_cut 26 = .ok (.if_icmp .ge 24, 3) := by decide +kernel
theorem dX12_cut_29 : decode cX12_cut 29 = .ok (.aload_n 0, 1) := by decide +kernel
theorem dX12_cut_30 : decode cX12_cut 30 = .ok (.invokevirtual 641, 3) := by decide +kernel
theorem dX12_cut_33 : decode cX12_cut 33 = .ok (.ifCond .eq 17, 3) := by decide +kernel
theorem dX12_cut_36 : decode cX12_cut 36 = .ok (.aload_n 0, 1) := by decide +kernel
theorem dX12_cut_37 : decode cX12_cut 37 = .ok (.bipush 40, 2) := by decide +kernel
theorem dX12_cut_39 : decode cX12_cut 39 = .ok (.iload_n 1, 1) := by decide +kernel
theorem dX12_cut_40 : decode cX12_cut 40 = .ok (.invokevirtual 676, 3) := by decide +kernel
theorem dX12_cut_43 : decode cX12_cut 43 = .ok (.ifCond .eq 7, 3) := by decide +kernel
theorem dX12_cut_46 : decode cX12_cut 46 = .ok (.iconst 1, 1) := by decide +kernel
theorem dX12_cut_47 : decode cX12_cut 47 = .ok (.goto 4, 3) := by decide +kernel
theorem dX12_cut_50 : decode cX12_cut 50 = .ok (.iconst 0, 1) := by decide +kernel
theorem dX12_cut_51 : decode cX12_cut 51 = .ok (.iconst 2, 1) := by decide +kernel
theorem dX12_cut_52 : decode cX12_cut 52 = .ok (.invokevirtual 456, 3) := by decide +kernel
theorem dX12_cut_55 : decode cX12_cut 55 = .ok (.ifCond .eq 5, 3) := by decide +kernel
theorem dX12_cut_58 : decode cX12_cut 58 = .ok (.iconst 0, 1) := by decide +kernel
theorem dX12_cut_59 : decode cX12_cut 59 = .ok (.ireturn, 1) := by decide +kernel
theorem dX12_cut_60 : decode cX12_cut 60 = .ok (.aload_n 0, 1) := by decide +kernel
theorem dX12_cut_61 : decode cX12_cut 61 = .ok (.iconst 0, 1) := by decide +kernel
theorem dX12_cut_62 : decode cX12_cut 62 = .ok (.putfield 460, 3) := by decide +kernel
theorem dX12_cut_65 : decode cX12_cut 65 = .ok (.aload_n 0, 1) := by decide +kernel
theorem dX12_cut_66 : decode cX12_cut 66 = .ok (.bipush 40, 2) := by decide +kernel
theorem dX12_cut_68 : decode cX12_cut 68 = .ok (.invokevirtual 536, 3) := by decide +kernel
theorem dX12_cut_71 : decode cX12_cut 71 = .ok (.ireturn, 1) := by decide +kernel
theorem dX12_opOf_0 : decode cX12_opOf 0 = .ok (.aload_n 0, 1) := by decide +kernel
theorem dX12_opOf_1 : decode cX12_opOf 1 = .ok (.iload_n 1, 1) := by decide +kernel
theorem dX12_opOf_2 : decode cX12_opOf 2 = .ok (.iload_n 2, 1) := by decide +kernel
theorem dX12_opOf_3 : decode cX12_opOf 3 = .ok (.invokevirtual 52, 3) := by decide +kernel
theorem dX12_opOf_6 : decode cX12_opOf 6 = .ok (.iconst 5, 1) := by decide +kernel
theorem dX12_opOf_7 : decode cX12_opOf 7 = .ok (.if_icmp .eq 5, 3) := by decide +kernel
theorem dX12_opOf_10 : decode cX12_opOf 10 = .ok (.iconst (-1), 1) := by decide +kernel
theorem dX12_opOf_11 : decode cX12_opOf 11 = .ok (.ireturn, 1) := by decide +kernel
theorem dX12_opOf_12 : decode cX12_opOf 12 = .ok (.aload_n 0, 1) := by decide +kernel
theorem dX12_opOf_13 : decode cX12_opOf 13 = .ok (.iload_n 1, 1) := by decide +kernel
theorem dX12_opOf_14 : decode cX12_opOf 14 = .ok (.iload_n 2, 1) := by decide +kernel
theorem dX12_opOf_15 : decode cX12_opOf 15 = .ok (.ldc2_w 679, 3) := by decide +kernel
theorem dX12_opOf_18 : decode cX12_opOf 18 = .ok (.invokevirtual 681, 3) := by decide +kernel
theorem dX12_opOf_21 : decode cX12_opOf 21 = .ok (.istore_n 3, 1) := by decide +kernel
theorem dX12_opOf_22 : decode cX12_opOf 22 = .ok (.aload_n 0, 1) := by decide +kernel
theorem dX12_opOf_23 : decode cX12_opOf 23 = .ok (.iload_n 1, 1) := by decide +kernel
theorem dX12_opOf_24 : decode cX12_opOf 24 = .ok (.iload_n 2, 1) := by decide +kernel
theorem dX12_opOf_25 : decode cX12_opOf 25 = .ok (.ldc2_w 685, 3) := by decide +kernel
theorem dX12_opOf_28 : decode cX12_opOf 28 = .ok (.invokevirtual 681, 3) := by decide +kernel
theorem dX12_opOf_31 : decode cX12_opOf 31 = .ok (.istore 4, 2) := by decide +kernel
theorem dX12_opOf_33 : decode cX12_opOf 33 = .ok (.iload_n 3, 1) := by decide +kernel
theorem dX12_opOf_34 : decode cX12_opOf 34 = .ok (.iconst (-1), 1) := by decide +kernel
theorem dX12_opOf_35 : decode cX12_opOf 35 = .ok (.if_icmp .eq 20, 3) := by decide +kernel
theorem dX12_opOf_38 : decode cX12_opOf 38 = .ok (.iload 4, 2) := by decide +kernel
theorem dX12_opOf_40 : decode cX12_opOf 40 = .ok (.iconst (-1), 1) := by decide +kernel
theorem dX12_opOf_41 : decode cX12_opOf 41 = .ok (.if_icmp .eq 14, 3) := by decide +kernel
theorem dX12_opOf_44 : decode cX12_opOf 44 = .ok (.aload_n 0, 1) := by decide +kernel
theorem dX12_opOf_45 : decode cX12_opOf 45 = .ok (.iload_n 1, 1) := by decide +kernel
theorem dX12_opOf_46 : decode cX12_opOf 46 = .ok (.iload 4, 2) := by decide +kernel
theorem dX12_opOf_48 : decode cX12_opOf 48 = .ok (.invokevirtual 52, 3) := by decide +kernel
theorem dX12_opOf_51 : decode cX12_opOf 51 = .ok (.iconst 3, 1) := by decide +kernel
theorem dX12_opOf_52 : decode cX12_opOf 52 = .ok (.if_icmp .eq 5, 3) := by decide +kernel
theorem dX12_opOf_55 : decode cX12_opOf 55 = .ok (.iconst (-1), 1) := by decide +kernel
theorem dX12_opOf_56 : decode cX12_opOf 56 = .ok (.ireturn, 1) := by decide +kernel
theorem dX12_opOf_57 : decode cX12_opOf 57 = .ok (.aload_n 0, 1) := by decide +kernel
theorem dX12_opOf_58 : decode cX12_opOf 58 = .ok (.iload_n 1, 1) := by decide +kernel
theorem dX12_opOf_59 : decode cX12_opOf 59 = .ok (.iload 4, 2) := by decide +kernel
theorem dX12_opOf_61 : decode cX12_opOf 61 = .ok (.invokevirtual 687, 3) := by decide +kernel
theorem dX12_opOf_64 : decode cX12_opOf 64 = .ok (.aload_n 0, 1) := by decide +kernel
theorem dX12_opOf_65 : decode cX12_opOf 65 = .ok (.invokevirtual 641, 3) := by decide +kernel
theorem dX12_opOf_68 : decode cX12_opOf 68 = .ok (.ifCond .ne 5, 3) := by decide +kernel
theorem dX12_opOf_71 : decode cX12_opOf 71 = .ok (.iconst (-1), 1) := by decide +kernel
theorem dX12_opOf_72 : decode cX12_opOf 72 = .ok (.ireturn, 1) := by decide +kernel
theorem dX12_opOf_73 : decode cX12_opOf 73 = .ok (.iconst 0, 1) := by decide +kernel
theorem dX12_opOf_74 : decode cX12_opOf 74 = .ok (.istore 5, 2) := by decide +kernel
theorem dX12_opOf_76 : decode cX12_opOf 76 = .ok (.iload 5, 2) := by decide +kernel
theorem dX12_opOf_78 : decode cX12_opOf 78 = .ok (.bipush 6, 2) := by decide +kernel
theorem dX12_opOf_80 : decode cX12_opOf 80 = .ok (.if_icmp .ge 43, 3) := by decide +kernel
theorem dX12_opOf_83 : decode cX12_opOf 83 = .ok (.aload_n 0, 1) := by decide +kernel
theorem dX12_opOf_84 : decode cX12_opOf 84 = .ok (.iload_n 1, 1) := by decide +kernel
theorem dX12_opOf_85 : decode cX12_opOf 85 = .ok (.iload_n 3, 1) := by decide +kernel
theorem dX12_opOf_86 : decode cX12_opOf 86 = .ok (.aload_n 0, 1) := by decide +kernel
theorem dX12_opOf_87 : decode cX12_opOf 87 = .ok (.getfield 300, 3) := by decide +kernel
theorem dX12_opOf_90 : decode cX12_opOf 90 = .ok (.iload 5, 2) := by decide +kernel
theorem dX12_opOf_92 : decode cX12_opOf 92 = .ok (.laload, 1) := by decide +kernel
theorem dX12_opOf_93 : decode cX12_opOf 93 = .ok (.invokevirtual 690, 3) := by decide +kernel
theorem dX12_opOf_96 : decode cX12_opOf 96 = .ok (.ifCond .eq 21, 3) := by decide +kernel
theorem dX12_opOf_99 : decode cX12_opOf 99 = .ok (.aload_n 0, 1) := by decide +kernel
theorem dX12_opOf_100 : decode cX12_opOf 100 = .ok (.iload_n 1, 1) := by decide +kernel
theorem dX12_opOf_101 : decode cX12_opOf 101 = .ok (.iload_n 2, 1) := by decide +kernel
theorem dX12_opOf_102 : decode cX12_opOf 102 = .ok (.iload 5, 2) := by decide +kernel
theorem dX12_opOf_104 : decode cX12_opOf 104 = .ok (.invokevirtual 694, 3) := by decide +kernel
theorem dX12_opOf_107 : decode cX12_opOf 107 = .ok (.ifCond .eq 8, 3) := by decide +kernel
theorem dX12_opOf_110 : decode cX12_opOf 110 = .ok (.iload 5, 2) := by decide +kernel
theorem dX12_opOf_112 : decode cX12_opOf 112 = .ok (.goto 4, 3) := by decide +kernel
theorem dX12_opOf_115 : decode cX12_opOf 115 = .ok (.iconst (-1), 1) := by decide +kernel
theorem dX12_opOf_116 : decode cX12_opOf 116 = .ok (.ireturn, 1) := by decide +kernel
theorem dX12_opOf_117 : decode cX12_opOf 117 = .ok (.iinc 5 1, 3) := by decide +kernel
theorem dX12_opOf_120 : decode cX12_opOf 120 = .ok (.goto (-44), 3) := by decide +kernel
theorem dX12_opOf_123 : decode cX12_opOf 123 = .ok (.iconst (-1), 1) := by decide +kernel
theorem dX12_opOf_124 : decode cX12_opOf 124 = .ok (.ireturn, 1) := by decide +kernel
theorem dX12_isTold_0 : decode cX12_isTold 0 = .ok (.iload_n 3, 1) := by decide +kernel
theorem dX12_isTold_1 : decode cX12_isTold 1 = .ok (.iconst 3, 1) := by decide +kernel
theorem dX12_isTold_2 : decode cX12_isTold 2 = .ok (.if_icmp .eq 8, 3) := by decide +kernel
theorem dX12_isTold_5 : decode cX12_isTold 5 = .ok (.iload_n 3, 1) := by decide +kernel
theorem dX12_isTold_6 : decode cX12_isTold 6 = .ok (.iconst 4, 1) := by decide +kernel
theorem dX12_isTold_7 : decode cX12_isTold 7 = .ok (.if_icmp .ne 45, 3) := by decide +kernel
theorem dX12_isTold_10 : decode cX12_isTold 10 = .ok (.aload_n 0, 1) := by decide +kernel
theorem dX12_isTold_11 : decode cX12_isTold 11 = .ok (.iload_n 1, 1) := by decide +kernel
theorem dX12_isTold_12 : decode cX12_isTold 12 = .ok (.iload_n 2, 1) := by decide +kernel
theorem dX12_isTold_13 : decode cX12_isTold 13 = .ok (.ldc2_w 697, 3) := by decide +kernel
theorem dX12_isTold_16 : decode cX12_isTold 16 = .ok (.invokevirtual 681, 3) := by decide +kernel
theorem dX12_isTold_19 : decode cX12_isTold 19 = .ok (.istore 4, 2) := by decide +kernel
theorem dX12_isTold_21 : decode cX12_isTold 21 = .ok (.iload 4, 2) := by decide +kernel
theorem dX12_isTold_23 : decode cX12_isTold 23 = .ok (.iconst (-1), 1) := by decide +kernel
theorem dX12_isTold_24 : decode cX12_isTold 24 = .ok (.if_icmp .eq 14, 3) := by decide +kernel
theorem dX12_isTold_27 : decode cX12_isTold 27 = .ok (.aload_n 0, 1) := by decide +kernel
theorem dX12_isTold_28 : decode cX12_isTold 28 = .ok (.iload_n 1, 1) := by decide +kernel
theorem dX12_isTold_29 : decode cX12_isTold 29 = .ok (.iload 4, 2) := by decide +kernel
theorem dX12_isTold_31 : decode cX12_isTold 31 = .ok (.invokevirtual 52, 3) := by decide +kernel
theorem dX12_isTold_34 : decode cX12_isTold 34 = .ok (.iconst 3, 1) := by decide +kernel
theorem dX12_isTold_35 : decode cX12_isTold 35 = .ok (.if_icmp .eq 5, 3) := by decide +kernel
theorem dX12_isTold_38 : decode cX12_isTold 38 = .ok (.iconst 0, 1) := by decide +kernel
theorem dX12_isTold_39 : decode cX12_isTold 39 = .ok (.ireturn, 1) := by decide +kernel
theorem dX12_isTold_40 : decode cX12_isTold 40 = .ok (.aload_n 0, 1) := by decide +kernel
theorem dX12_isTold_41 : decode cX12_isTold 41 = .ok (.iload_n 1, 1) := by decide +kernel
theorem dX12_isTold_42 : decode cX12_isTold 42 = .ok (.iload 4, 2) := by decide +kernel
theorem dX12_isTold_44 : decode cX12_isTold 44 = .ok (.invokevirtual 687, 3) := by decide +kernel
theorem dX12_isTold_47 : decode cX12_isTold 47 = .ok (.aload_n 0, 1) := by decide +kernel
theorem dX12_isTold_48 : decode cX12_isTold 48 = .ok (.invokevirtual 641, 3) := by decide +kernel
theorem dX12_isTold_51 : decode cX12_isTold 51 = .ok (.ireturn, 1) := by decide +kernel
theorem dX12_isTold_52 : decode cX12_isTold 52 = .ok (.iload_n 3, 1) := by decide +kernel
theorem dX12_isTold_53 : decode cX12_isTold 53 = .ok (.iconst 1, 1) := by decide +kernel
theorem dX12_isTold_54 : decode cX12_isTold 54 = .ok (.if_icmp .eq 16, 3) := by decide +kernel
theorem dX12_isTold_57 : decode cX12_isTold 57 = .ok (.aload_n 0, 1) := by decide +kernel
theorem dX12_isTold_58 : decode cX12_isTold 58 = .ok (.iload_n 1, 1) := by decide +kernel
theorem dX12_isTold_59 : decode cX12_isTold 59 = .ok (.iload_n 2, 1) := by decide +kernel
theorem dX12_isTold_60 : decode cX12_isTold 60 = .ok (.ldc2_w 699, 3) := by decide +kernel
theorem dX12_isTold_63 : decode cX12_isTold 63 = .ok (.invokevirtual 681, 3) := by decide +kernel
theorem dX12_isTold_66 : decode cX12_isTold 66 = .ok (.iconst (-1), 1) := by decide +kernel
theorem dX12_isTold_67 : decode cX12_isTold 67 = .ok (.if_icmp .eq 7, 3) := by decide +kernel
theorem dX12_isTold_70 : decode cX12_isTold 70 = .ok (.iconst 1, 1) := by decide +kernel
theorem dX12_isTold_71 : decode cX12_isTold 71 = .ok (.goto 4, 3) := by decide +kernel
theorem dX12_isTold_74 : decode cX12_isTold 74 = .ok (.iconst 0, 1) := by decide +kernel
theorem dX12_isTold_75 : decode cX12_isTold 75 = .ok (.ireturn, 1) := by decide +kernel
theorem dX12_pathNamed_0 : decode cX12_pathNamed 0 = .ok (.aload_n 0, 1) := by decide +kernel
theorem dX12_pathNamed_1 : decode cX12_pathNamed 1 = .ok (.iload_n 1, 1) := by decide +kernel
theorem dX12_pathNamed_2 : decode cX12_pathNamed 2 = .ok (.aload_n 0, 1) := by decide +kernel
theorem dX12_pathNamed_3 : decode cX12_pathNamed 3 = .ok (.iload_n 1, 1) := by decide +kernel
theorem dX12_pathNamed_4 : decode cX12_pathNamed 4 = .ok (.iload_n 2, 1) := by decide +kernel
theorem dX12_pathNamed_5 : decode cX12_pathNamed 5 = .ok (.lload_n 3, 1) := by decide +kernel
theorem dX12_pathNamed_6 : decode cX12_pathNamed 6 = .ok (.invokevirtual 681, 3) := by decide +kernel
theorem dX12_pathNamed_9 : decode cX12_pathNamed 9 = .ok (.invokevirtual 687, 3) := by decide +kernel
theorem dX12_pathNamed_12 : decode cX12_pathNamed 12 = .ok (.return_, 1) := by decide +kernel
theorem dX12_does_0 : decode cX12_does 0 = .ok (.aload_n 0, 1) := by decide +kernel
theorem dX12_does_1 : decode cX12_does 1 = .ok (.iload_n 1, 1) := by decide +kernel
theorem dX12_does_2 : decode cX12_does 2 = .ok (.iload_n 2, 1) := by decide +kernel
theorem dX12_does_3 : decode cX12_does 3 = .ok (.invokevirtual 701, 3) := by decide +kernel
theorem dX12_does_6 : decode cX12_does 6 = .ok (.istore_n 3, 1) := by decide +kernel
theorem dX12_does_7 : decode cX12_does 7 = .ok (.iload_n 3, 1) := by decide +kernel
theorem dX12_does_8 : decode cX12_does 8 = .ok (.iconst (-1), 1) := by decide +kernel
theorem dX12_does_9 : decode cX12_does 9 = .ok (.if_icmp .ne 5, 3) := by decide +kernel
theorem dX12_does_12 : decode cX12_does 12 = .ok (.iconst 0, 1) := by decide +kernel
theorem dX12_does_13 : decode cX12_does 13 = .ok (.ireturn, 1) := by decide +kernel
theorem dX12_does_14 : decode cX12_does 14 = .ok (.aload_n 0, 1) := by decide +kernel
theorem dX12_does_15 : decode cX12_does 15 = .ok (.iload_n 1, 1) := by decide +kernel
theorem dX12_does_16 : decode cX12_does 16 = .ok (.iload_n 2, 1) := by decide +kernel
theorem dX12_does_17 : decode cX12_does 17 = .ok (.ldc2_w 699, 3) := by decide +kernel
theorem dX12_does_20 : decode cX12_does 20 = .ok (.invokevirtual 681, 3) := by decide +kernel
theorem dX12_does_23 : decode cX12_does 23 = .ok (.istore 4, 2) := by decide +kernel
theorem dX12_does_25 : decode cX12_does 25 = .ok (.iload_n 3, 1) := by decide +kernel
theorem dX12_does_26 : decode cX12_does 26 = .ok (.ifCond .ne 28, 3) := by decide +kernel
theorem dX12_does_29 : decode cX12_does 29 = .ok (.aload_n 0, 1) := by decide +kernel
theorem dX12_does_30 : decode cX12_does 30 = .ok (.iload_n 1, 1) := by decide +kernel
theorem dX12_does_31 : decode cX12_does 31 = .ok (.iload_n 2, 1) := by decide +kernel
theorem dX12_does_32 : decode cX12_does 32 = .ok (.ldc2_w 685, 3) := by decide +kernel
theorem dX12_does_35 : decode cX12_does 35 = .ok (.invokevirtual 704, 3) := by decide +kernel
theorem dX12_does_38 : decode cX12_does 38 = .ok (.aload_n 0, 1) := by decide +kernel
theorem dX12_does_39 : decode cX12_does 39 = .ok (.bipush 43, 2) := by decide +kernel
theorem dX12_does_41 : decode cX12_does 41 = .ok (.bipush 42, 2) := by decide +kernel
theorem dX12_does_43 : decode cX12_does 43 = .ok (.iload_n 1, 1) := by decide +kernel
theorem dX12_does_44 : decode cX12_does 44 = .ok (.iload 4, 2) := by decide +kernel
theorem dX12_does_46 : decode cX12_does 46 = .ok (.invokevirtual 673, 3) := by decide +kernel
theorem dX12_does_49 : decode cX12_does 49 = .ok (.istore 5, 2) := by decide +kernel
theorem dX12_does_51 : decode cX12_does 51 = .ok (.goto 200, 3) := by decide +kernel
theorem dX12_does_54 : decode cX12_does 54 = .ok (.iload_n 3, 1) := by decide +kernel
theorem dX12_does_55 : decode cX12_does 55 = .ok (.iconst 1, 1) := by decide +kernel
theorem dX12_does_56 : decode cX12_does 56 = .ok (.if_icmp .ne 25, 3) := by decide +kernel
theorem dX12_does_59 : decode cX12_does 59 = .ok (.aload_n 0, 1) := by decide +kernel
theorem dX12_does_60 : decode cX12_does 60 = .ok (.iload_n 1, 1) := by decide +kernel
theorem dX12_does_61 : decode cX12_does 61 = .ok (.iload_n 2, 1) := by decide +kernel
theorem dX12_does_62 : decode cX12_does 62 = .ok (.ldc2_w 685, 3) := by decide +kernel
theorem dX12_does_65 : decode cX12_does 65 = .ok (.invokevirtual 704, 3) := by decide +kernel
theorem dX12_does_68 : decode cX12_does 68 = .ok (.aload_n 0, 1) := by decide +kernel
theorem dX12_does_69 : decode cX12_does 69 = .ok (.bipush 43, 2) := by decide +kernel
theorem dX12_does_71 : decode cX12_does 71 = .ok (.bipush 42, 2) := by decide +kernel
theorem dX12_does_73 : decode cX12_does 73 = .ok (.invokevirtual 676, 3) := by decide +kernel
theorem dX12_does_76 : decode cX12_does 76 = .ok (.istore 5, 2) := by decide +kernel
theorem dX12_does_78 : decode cX12_does 78 = .ok (.goto 173, 3) := by decide +kernel
theorem dX12_does_81 : decode cX12_does 81 = .ok (.iload_n 3, 1) := by decide +kernel
theorem dX12_does_82 : decode cX12_does 82 = .ok (.iconst 2, 1) := by decide +kernel
theorem dX12_does_83 : decode cX12_does 83 = .ok (.if_icmp .eq 8, 3) := by decide +kernel
theorem dX12_does_86 : decode cX12_does 86 = .ok (.iload_n 3, 1) := by decide +kernel
theorem dX12_does_87 : decode cX12_does 87 = .ok (.iconst 5, 1) := by decide +kernel
theorem dX12_does_88 : decode cX12_does 88 = .ok (.if_icmp .ne 85, 3) := by decide +kernel
theorem dX12_does_91 : decode cX12_does 91 = .ok (.aload_n 0, 1) := by decide +kernel
theorem dX12_does_92 : decode cX12_does 92 = .ok (.iload_n 1, 1) := by decide +kernel
theorem dX12_does_93 : decode cX12_does 93 = .ok (.iload_n 2, 1) := by decide +kernel
theorem dX12_does_94 : decode cX12_does 94 = .ok (.ldc2_w 685, 3) := by decide +kernel
theorem dX12_does_97 : decode cX12_does 97 = .ok (.invokevirtual 704, 3) := by decide +kernel
theorem dX12_does_100 : decode cX12_does 100 = .ok (.aload_n 0, 1) := by decide +kernel
theorem dX12_does_101 : decode cX12_does 101 = .ok (.bipush 42, 2) := by decide +kernel
theorem dX12_does_103 : decode cX12_does 103 = .ok (.aload_n 0, 1) := by decide +kernel
theorem dX12_does_104 : decode cX12_does 104 = .ok (.getfield 604, 3) := by decide +kernel
theorem dX12_does_107 : decode cX12_does 107 = .ok (.invokevirtual 663, 3) := by decide +kernel
theorem dX12_does_110 : decode cX12_does 110 = .ok (.istore 6, 2) := by decide +kernel
theorem dX12_does_112 : decode cX12_does 112 = .ok (.iload 6, 2) := by decide +kernel
theorem dX12_does_114 : decode cX12_does 114 = .ok (.iconst (-1), 1) := by decide +kernel
theorem dX12_does_115 : decode cX12_does 115 = .ok (.if_icmp .eq 8, 3) := by decide +kernel
theorem dX12_does_118 : decode cX12_does 118 = .ok (.iload_n 3, 1) := by decide +kernel
theorem dX12_does_119 : decode cX12_does 119 = .ok (.iconst 5, 1) := by decide +kernel
theorem dX12_does_120 : decode cX12_does 120 = .ok (.if_icmp .ne 29, 3) := by decide +kernel
theorem dX12_does_123 : decode cX12_does 123 = .ok (.iload 6, 2) := by decide +kernel
theorem dX12_does_125 : decode cX12_does 125 = .ok (.iconst (-1), 1) := by decide +kernel
theorem dX12_does_126 : decode cX12_does 126 = .ok (.if_icmp .eq 21, 3) := by decide +kernel
theorem dX12_does_129 : decode cX12_does 129 = .ok (.aload_n 0, 1) := by decide +kernel
theorem dX12_does_130 : decode cX12_does 130 = .ok (.bipush 42, 2) := by decide +kernel
theorem dX12_does_132 : decode cX12_does 132 = .ok (.iload 6, 2) := by decide +kernel
theorem dX12_does_134 : decode cX12_does 134 = .ok (.iload_n 1, 1) := by decide +kernel
theorem dX12_does_135 : decode cX12_does 135 = .ok (.iload 4, 2) := by decide +kernel
theorem dX12_does_137 : decode cX12_does 137 = .ok (.invokevirtual 590, 3) := by decide +kernel
theorem dX12_does_140 : decode cX12_does 140 = .ok (.ifCond .eq 7, 3) := by decide +kernel
theorem dX12_does_143 : decode cX12_does 143 = .ok (.iconst 1, 1) := by decide +kernel
theorem dX12_does_144 : decode cX12_does 144 = .ok (.goto 4, 3) := by decide +kernel
theorem dX12_does_147 : decode cX12_does 147 = .ok (.iconst 0, 1) := by decide +kernel
theorem dX12_does_148 : decode cX12_does 148 = .ok (.ireturn, 1) := by decide +kernel
theorem dX12_does_149 : decode cX12_does 149 = .ok (.aload_n 0, 1) := by decide +kernel
theorem dX12_does_150 : decode cX12_does 150 = .ok (.bipush 43, 2) := by decide +kernel
theorem dX12_does_152 : decode cX12_does 152 = .ok (.bipush 42, 2) := by decide +kernel
theorem dX12_does_154 : decode cX12_does 154 = .ok (.iload 6, 2) := by decide +kernel
theorem dX12_does_156 : decode cX12_does 156 = .ok (.iload_n 1, 1) := by decide +kernel
theorem dX12_does_157 : decode cX12_does 157 = .ok (.iload 4, 2) := by decide +kernel
theorem dX12_does_159 : decode cX12_does 159 = .ok (.invokevirtual 666, 3) := by decide +kernel
theorem dX12_does_162 : decode cX12_does 162 = .ok (.aload_n 0, 1) := by decide +kernel
theorem dX12_does_163 : decode cX12_does 163 = .ok (.bipush 43, 2) := by decide +kernel
theorem dX12_does_165 : decode cX12_does 165 = .ok (.invokevirtual 601, 3) := by decide +kernel
theorem dX12_does_168 : decode cX12_does 168 = .ok (.istore 5, 2) := by decide +kernel
theorem dX12_does_170 : decode cX12_does 170 = .ok (.goto 81, 3) := by decide +kernel
theorem dX12_does_173 : decode cX12_does 173 = .ok (.aload_n 0, 1) := by decide +kernel
theorem dX12_does_174 : decode cX12_does 174 = .ok (.iload_n 1, 1) := by decide +kernel
theorem dX12_does_175 : decode cX12_does 175 = .ok (.iload_n 2, 1) := by decide +kernel
theorem dX12_does_176 : decode cX12_does 176 = .ok (.ldc2_w 697, 3) := by decide +kernel
theorem dX12_does_179 : decode cX12_does 179 = .ok (.invokevirtual 704, 3) := by decide +kernel
theorem dX12_does_182 : decode cX12_does 182 = .ok (.aload_n 0, 1) := by decide +kernel
theorem dX12_does_183 : decode cX12_does 183 = .ok (.bipush 42, 2) := by decide +kernel
theorem dX12_does_185 : decode cX12_does 185 = .ok (.aload_n 0, 1) := by decide +kernel
theorem dX12_does_186 : decode cX12_does 186 = .ok (.getfield 604, 3) := by decide +kernel
theorem dX12_does_189 : decode cX12_does 189 = .ok (.invokevirtual 663, 3) := by decide +kernel
theorem dX12_does_192 : decode cX12_does 192 = .ok (.istore 6, 2) := by decide +kernel
theorem dX12_does_194 : decode cX12_does 194 = .ok (.iload 6, 2) := by decide +kernel
theorem dX12_does_196 : decode cX12_does 196 = .ok (.iconst (-1), 1) := by decide +kernel
theorem dX12_does_197 : decode cX12_does 197 = .ok (.if_icmp .eq 19, 3) := by decide +kernel
theorem dX12_does_200 : decode cX12_does 200 = .ok (.iload_n 3, 1) := by decide +kernel
theorem dX12_does_201 : decode cX12_does 201 = .ok (.iconst 3, 1) := by decide +kernel
theorem dX12_does_202 : decode cX12_does 202 = .ok (.if_icmp .ne 16, 3) := by decide +kernel
theorem dX12_does_205 : decode cX12_does 205 = .ok (.aload_n 0, 1) := by decide +kernel
theorem dX12_does_206 : decode cX12_does 206 = .ok (.bipush 44, 2) := by decide +kernel
theorem dX12_does_208 : decode cX12_does 208 = .ok (.bipush 42, 2) := by decide +kernel
theorem dX12_does_210 : decode cX12_does 210 = .ok (.invokevirtual 676, 3) := by decide +kernel
theorem dX12_does_213 : decode cX12_does 213 = .ok (.ifCond .ne 5, 3) := by decide +kernel
theorem dX12_does_216 : decode cX12_does 216 = .ok (.iconst 0, 1) := by decide +kernel
theorem dX12_does_217 : decode cX12_does 217 = .ok (.ireturn, 1) := by decide +kernel
theorem dX12_does_218 : decode cX12_does 218 = .ok (.aload_n 0, 1) := by decide +kernel
theorem dX12_does_219 : decode cX12_does 219 = .ok (.iload_n 1, 1) := by decide +kernel
theorem dX12_does_220 : decode cX12_does 220 = .ok (.iload_n 2, 1) := by decide +kernel
theorem dX12_does_221 : decode cX12_does 221 = .ok (.ldc2_w 685, 3) := by decide +kernel
theorem dX12_does_224 : decode cX12_does 224 = .ok (.invokevirtual 704, 3) := by decide +kernel
theorem dX12_does_227 : decode cX12_does 227 = .ok (.aload_n 0, 1) := by decide +kernel
theorem dX12_does_228 : decode cX12_does 228 = .ok (.bipush 43, 2) := by decide +kernel
theorem dX12_does_230 : decode cX12_does 230 = .ok (.iload_n 3, 1) := by decide +kernel
theorem dX12_does_231 : decode cX12_does 231 = .ok (.iconst 3, 1) := by decide +kernel
theorem dX12_does_232 : decode cX12_does 232 = .ok (.if_icmp .ne 8, 3) := by decide +kernel
theorem dX12_does_235 : decode cX12_does 235 = .ok (.bipush 44, 2) := by decide +kernel
theorem dX12_does_237 : decode cX12_does 237 = .ok (.goto 5, 3) := by decide +kernel
theorem dX12_does_240 : decode cX12_does 240 = .ok (.bipush 42, 2) := by decide +kernel
theorem dX12_does_242 : decode cX12_does 242 = .ok (.bipush 42, 2) := by decide +kernel
theorem dX12_does_244 : decode cX12_does 244 = .ok (.iload 6, 2) := by decide +kernel
theorem dX12_does_246 : decode cX12_does 246 = .ok (.invokevirtual 673, 3) := by decide +kernel
theorem dX12_does_249 : decode cX12_does 249 = .ok (.istore 5, 2) := by decide +kernel
theorem dX12_does_251 : decode cX12_does 251 = .ok (.iload 5, 2) := by decide +kernel
theorem dX12_does_253 : decode cX12_does 253 = .ok (.ifCond .eq 11, 3) := by decide +kernel
theorem dX12_does_256 : decode cX12_does 256 = .ok (.aload_n 0, 1) := by decide +kernel
theorem dX12_does_257 : decode cX12_does 257 = .ok (.bipush 42, 2) := by decide +kernel
theorem dX12_does_259 : decode cX12_does 259 = .ok (.bipush 43, 2) := by decide +kernel
theorem dX12_does_261 : decode cX12_does 261 = .ok (.invokevirtual 452, 3) := by decide +kernel
theorem dX12_does_264 : decode cX12_does 264 = .ok (.iload 5, 2) := by decide +kernel
theorem dX12_does_266 : decode cX12_does 266 = .ok (.ireturn, 1) := by decide +kernel
theorem dX12_lays_0 : decode cX12_lays 0 = .ok (.aload_n 0, 1) := by decide +kernel
theorem dX12_lays_1 : decode cX12_lays 1 = .ok (.bipush 42, 2) := by decide +kernel
theorem dX12_lays_3 : decode cX12_lays 3 = .ok (.iload_n 1, 1) := by decide +kernel
theorem dX12_lays_4 : decode cX12_lays 4 = .ok (.invokevirtual 452, 3) := by decide +kernel
theorem dX12_lays_7 : decode cX12_lays 7 = .ok (.iconst 0, 1) := by decide +kernel
theorem dX12_lays_8 : decode cX12_lays 8 = .ok (.istore 4, 2) := by decide +kernel
theorem dX12_lays_10 : decode cX12_lays 10 = .ok (.iload 4, 2) := by decide +kernel
theorem dX12_lays_12 : decode cX12_lays 12 = .ok (.iload_n 3, 1) := by decide +kernel
theorem dX12_lays_13 : decode cX12_lays 13 = .ok (.if_icmp .ge 28, 3) := by decide +kernel
theorem dX12_lays_16 : decode cX12_lays 16 = .ok (.aload_n 0, 1) := by decide +kernel
theorem dX12_lays_17 : decode cX12_lays 17 = .ok (.iload_n 2, 1) := by decide +kernel
theorem dX12_lays_18 : decode cX12_lays 18 = .ok (.aload_n 0, 1) := by decide +kernel
theorem dX12_lays_19 : decode cX12_lays 19 = .ok (.iload_n 2, 1) := by decide +kernel
theorem dX12_lays_20 : decode cX12_lays 20 = .ok (.iconst 0, 1) := by decide +kernel
theorem dX12_lays_21 : decode cX12_lays 21 = .ok (.iload 4, 2) := by decide +kernel
theorem dX12_lays_23 : decode cX12_lays 23 = .ok (.invokevirtual 616, 3) := by decide +kernel
theorem dX12_lays_26 : decode cX12_lays 26 = .ok (.invokevirtual 708, 3) := by decide +kernel
theorem dX12_lays_29 : decode cX12_lays 29 = .ok (.ifCond .ne 6, 3) := by decide +kernel
theorem dX12_lays_32 : decode cX12_lays 32 = .ok (.iload 4, 2) := by decide +kernel
theorem dX12_lays_34 : decode cX12_lays 34 = .ok (.ireturn, 1) := by decide +kernel
theorem dX12_lays_35 : decode cX12_lays 35 = .ok (.iinc 4 1, 3) := by decide +kernel
theorem dX12_lays_38 : decode cX12_lays 38 = .ok (.goto (-28), 3) := by decide +kernel
theorem dX12_lays_41 : decode cX12_lays 41 = .ok (.iconst (-1), 1) := by decide +kernel
theorem dX12_lays_42 : decode cX12_lays 42 = .ok (.ireturn, 1) := by decide +kernel
theorem dX12_lay_0 : decode cX12_lay 0 = .ok (.aload_n 0, 1) := by decide +kernel
theorem dX12_lay_1 : decode cX12_lay 1 = .ok (.aload_n 0, 1) := by decide +kernel
theorem dX12_lay_2 : decode cX12_lay 2 = .ok (.iload_n 1, 1) := by decide +kernel
theorem dX12_lay_3 : decode cX12_lay 3 = .ok (.invokevirtual 22, 3) := by decide +kernel
theorem dX12_lay_6 : decode cX12_lay 6 = .ok (.ifCond .eq 15, 3) := by decide +kernel
theorem dX12_lay_9 : decode cX12_lay 9 = .ok (.aload_n 0, 1) := by decide +kernel
theorem dX12_lay_10 : decode cX12_lay 10 = .ok (.iload_n 2, 1) := by decide +kernel
theorem dX12_lay_11 : decode cX12_lay 11 = .ok (.invokevirtual 22, 3) := by decide +kernel
theorem dX12_lay_14 : decode cX12_lay 14 = .ok (.ifCond .eq 7, 3) := by decide +kernel
theorem dX12_lay_17 : decode cX12_lay 17 = .ok (.iconst 1, 1) := by decide +kernel
theorem dX12_lay_18 : decode cX12_lay 18 = .ok (.goto 4, 3) := by decide +kernel
theorem dX12_lay_21 : decode cX12_lay 21 = .ok (.iconst 0, 1) := by decide +kernel
theorem dX12_lay_22 : decode cX12_lay 22 = .ok (.iconst 1, 1) := by decide +kernel
theorem dX12_lay_23 : decode cX12_lay 23 = .ok (.invokevirtual 456, 3) := by decide +kernel
theorem dX12_lay_26 : decode cX12_lay 26 = .ok (.ifCond .eq 5, 3) := by decide +kernel
theorem dX12_lay_29 : decode cX12_lay 29 = .ok (.iconst 0, 1) := by decide +kernel
theorem dX12_lay_30 : decode cX12_lay 30 = .ok (.ireturn, 1) := by decide +kernel
theorem dX12_lay_31 : decode cX12_lay 31 = .ok (.aload_n 0, 1) := by decide +kernel
theorem dX12_lay_32 : decode cX12_lay 32 = .ok (.iload_n 2, 1) := by decide +kernel
theorem dX12_lay_33 : decode cX12_lay 33 = .ok (.iconst 0, 1) := by decide +kernel
theorem dX12_lay_34 : decode cX12_lay 34 = .ok (.invokevirtual 52, 3) := by decide +kernel
theorem dX12_lay_37 : decode cX12_lay 37 = .ok (.iconst 4, 1) := by decide +kernel
theorem dX12_lay_38 : decode cX12_lay 38 = .ok (.if_icmp .eq 5, 3) := by decide +kernel
theorem dX12_lay_41 : decode cX12_lay 41 = .ok (.iconst (-1), 1) := by decide +kernel
theorem dX12_lay_42 : decode cX12_lay 42 = .ok (.ireturn, 1) := by decide +kernel
theorem dX12_lay_43 : decode cX12_lay 43 = .ok (.aload_n 0, 1) := by decide +kernel
theorem dX12_lay_44 : decode cX12_lay 44 = .ok (.iload_n 1, 1) := by decide +kernel
theorem dX12_lay_45 : decode cX12_lay 45 = .ok (.iload_n 2, 1) := by decide +kernel
theorem dX12_lay_46 : decode cX12_lay 46 = .ok (.aload_n 0, 1) := by decide +kernel
theorem dX12_lay_47 : decode cX12_lay 47 = .ok (.iload_n 2, 1) := by decide +kernel
theorem dX12_lay_48 : decode cX12_lay 48 = .ok (.iconst 0, 1) := by decide +kernel
theorem dX12_lay_49 : decode cX12_lay 49 = .ok (.iconst 3, 1) := by decide +kernel
theorem dX12_lay_50 : decode cX12_lay 50 = .ok (.invokevirtual 36, 3) := by decide +kernel
theorem dX12_lay_53 : decode cX12_lay 53 = .ok (.invokevirtual 711, 3) := by decide +kernel
theorem dX12_lay_56 : decode cX12_lay 56 = .ok (.istore_n 3, 1) := by decide +kernel
theorem dX12_lay_57 : decode cX12_lay 57 = .ok (.iload_n 3, 1) := by decide +kernel
theorem dX12_lay_58 : decode cX12_lay 58 = .ok (.iconst (-1), 1) := by decide +kernel
theorem dX12_lay_59 : decode cX12_lay 59 = .ok (.if_icmp .eq 8, 3) := by decide +kernel
theorem dX12_lay_62 : decode cX12_lay 62 = .ok (.bipush (-2), 2) := by decide +kernel
theorem dX12_lay_64 : decode cX12_lay 64 = .ok (.iload_n 3, 1) := by decide +kernel
theorem dX12_lay_65 : decode cX12_lay 65 = .ok (.isub, 1) := by decide +kernel
theorem dX12_lay_66 : decode cX12_lay 66 = .ok (.ireturn, 1) := by decide +kernel
theorem dX12_lay_67 : decode cX12_lay 67 = .ok (.aload_n 0, 1) := by decide +kernel
theorem dX12_lay_68 : decode cX12_lay 68 = .ok (.aload_n 0, 1) := by decide +kernel
theorem dX12_lay_69 : decode cX12_lay 69 = .ok (.getfield 15, 3) := by decide +kernel
theorem dX12_lay_72 : decode cX12_lay 72 = .ok (.bipush 40, 2) := by decide +kernel
theorem dX12_lay_74 : decode cX12_lay 74 = .ok (.if_icmp .ge 7, 3) := by decide +kernel
theorem dX12_lay_77 : decode cX12_lay 77 = .ok (.iconst 1, 1) := by decide +kernel
theorem dX12_lay_78 : decode cX12_lay 78 = .ok (.goto 4, 3) := by decide +kernel
theorem dX12_lay_81 : decode cX12_lay 81 = .ok (.iconst 0, 1) := by decide +kernel
theorem dX12_lay_82 : decode cX12_lay 82 = .ok (.iconst 2, 1) := by decide +kernel
theorem dX12_lay_83 : decode cX12_lay 83 = .ok (.invokevirtual 456, 3) := by decide +kernel
theorem dX12_lay_86 : decode cX12_lay 86 = .ok (.ifCond .eq 7, 3) := by decide +kernel
theorem dX12_lay_89 : decode cX12_lay 89 = .ok (.iconst 0, 1) := by decide +kernel
theorem dX12_lay_90 : decode cX12_lay 90 = .ok (.goto 9, 3) := by decide +kernel
theorem dX12_lay_93 : decode cX12_lay 93 = .ok (.aload_n 0, 1) := by decide +kernel
theorem dX12_lay_94 : decode cX12_lay 94 = .ok (.bipush 42, 2) := by decide +kernel
theorem dX12_lay_96 : decode cX12_lay 96 = .ok (.invokevirtual 536, 3) := by decide +kernel
theorem dX12_lay_99 : decode cX12_lay 99 = .ok (.ireturn, 1) := by decide +kernel
theorem dX12_named_0 : decode cX12_named 0 = .ok (.aload_n 0, 1) := by decide +kernel
theorem dX12_named_1 : decode cX12_named 1 = .ok (.lload_n 3, 1) := by decide +kernel
theorem dX12_named_2 : decode cX12_named 2 = .ok (.invokevirtual 74, 3) := by decide +kernel
theorem dX12_named_5 : decode cX12_named 5 = .ok (.aload_n 0, 1) := by decide +kernel
theorem dX12_named_6 : decode cX12_named 6 = .ok (.iload_n 1, 1) := by decide +kernel
theorem dX12_named_7 : decode cX12_named 7 = .ok (.iload_n 2, 1) := by decide +kernel
theorem dX12_named_8 : decode cX12_named 8 = .ok (.invokevirtual 650, 3) := by decide +kernel
theorem dX12_named_11 : decode cX12_named 11 = .ok (.return_, 1) := by decide +kernel
theorem dX12_ordered_0 : decode cX12_ordered 0 = .ok (.iload 4, 2) := by decide +kernel
theorem dX12_ordered_2 : decode cX12_ordered 2 = .ok (.iconst (-1), 1) := by decide +kernel
theorem dX12_ordered_3 : decode cX12_ordered 3 = .ok (.if_icmp .ne 7, 3) := by decide +kernel
theorem dX12_ordered_6 : decode cX12_ordered 6 = .ok (.iconst 0, 1) := by decide +kernel
theorem dX12_ordered_7 : decode cX12_ordered 7 = .ok (.goto 11, 3) := by decide +kernel
theorem dX12_ordered_10 : decode cX12_ordered 10 = .ok (.aload_n 0, 1) := by decide +kernel
theorem dX12_ordered_11 : decode cX12_ordered 11 = .ok (.iload_n 3, 1) := by decide +kernel
theorem dX12_ordered_12 : decode cX12_ordered 12 = .ok (.iload 4, 2) := by decide +kernel
theorem dX12_ordered_14 : decode cX12_ordered 14 = .ok (.iconst 4, 1) := by decide +kernel
theorem dX12_ordered_15 : decode cX12_ordered 15 = .ok (.invokevirtual 36, 3) := by decide +kernel
theorem dX12_ordered_18 : decode cX12_ordered 18 = .ok (.istore 5, 2) := by decide +kernel
theorem dX12_ordered_20 : decode cX12_ordered 20 = .ok (.aload_n 0, 1) := by decide +kernel
theorem dX12_ordered_21 : decode cX12_ordered 21 = .ok (.aload_n 0, 1) := by decide +kernel
theorem dX12_ordered_22 : decode cX12_ordered 22 = .ok (.getfield 714, 3) := by decide +kernel
theorem dX12_ordered_25 : decode cX12_ordered 25 = .ok (.ifCond .ne 28, 3) := by decide +kernel
theorem dX12_ordered_28 : decode cX12_ordered 28 = .ok (.aload_n 0, 1) := by decide +kernel
theorem dX12_ordered_29 : decode cX12_ordered 29 = .ok (.getfield 604, 3) := by decide +kernel
theorem dX12_ordered_32 : decode cX12_ordered 32 = .ok (.bipush 40, 2) := by decide +kernel
theorem dX12_ordered_34 : decode cX12_ordered 34 = .ok (.if_icmp .gt 19, 3) := by decide +kernel
theorem dX12_ordered_37 : decode cX12_ordered 37 = .ok (.aload_n 0, 1) := by decide +kernel
theorem dX12_ordered_38 : decode cX12_ordered 38 = .ok (.getfield 26, 3) := by decide +kernel
theorem dX12_ordered_41 : decode cX12_ordered 41 = .ok (.iload_n 1, 1) := by decide +kernel
theorem dX12_ordered_42 : decode cX12_ordered 42 = .ok (.iaload, 1) := by decide +kernel
theorem dX12_ordered_43 : decode cX12_ordered 43 = .ok (.iconst 3, 1) := by decide +kernel
theorem dX12_ordered_44 : decode cX12_ordered 44 = .ok (.iadd, 1) := by decide +kernel
theorem dX12_ordered_45 : decode cX12_ordered 45 = .ok (.iload 5, 2) := by decide +kernel
theorem dX12_ordered_47 : decode cX12_ordered 47 = .ok (.iadd, 1) := by decide +kernel
theorem dX12_ordered_48 : decode cX12_ordered 48 = .ok (.bipush 100, 2) := by decide +kernel
theorem dX12_ordered_50 : decode cX12_ordered 50 = .ok (.if_icmp .le 7, 3) := by decide +kernel
theorem dX12_ordered_53 : decode cX12_ordered 53 = .ok (.iconst 1, 1) := by decide +kernel
theorem dX12_ordered_54 : decode cX12_ordered 54 = .ok (.goto 4, 3) := by decide +kernel
theorem dX12_ordered_57 : decode cX12_ordered 57 = .ok (.iconst 0, 1) := by decide +kernel
theorem dX12_ordered_58 : decode cX12_ordered 58 = .ok (.putfield 714, 3) := by decide +kernel
theorem dX12_ordered_61 : decode cX12_ordered 61 = .ok (.aload_n 0, 1) := by decide +kernel
theorem dX12_ordered_62 : decode cX12_ordered 62 = .ok (.getfield 7, 3) := by decide +kernel
theorem dX12_ordered_65 : decode cX12_ordered 65 = .ok (.iload_n 1, 1) := by decide +kernel
theorem dX12_ordered_66 : decode cX12_ordered 66 = .ok (.iconst 0, 1) := by decide +kernel
theorem dX12_ordered_67 : decode cX12_ordered 67 = .ok (.invokestatic 11, 3) := by decide +kernel
theorem dX12_ordered_70 : decode cX12_ordered 70 = .ok (.iconst 3, 1) := by decide +kernel
theorem dX12_ordered_71 : decode cX12_ordered 71 = .ok (.iadd, 1) := by decide +kernel
theorem dX12_ordered_72 : decode cX12_ordered 72 = .ok (.dup2, 1) := by decide +kernel
theorem dX12_ordered_73 : decode cX12_ordered 73 = .ok (.iaload, 1) := by decide +kernel
theorem dX12_ordered_74 : decode cX12_ordered 74 = .ok (.iconst 1, 1) := by decide +kernel
theorem dX12_ordered_75 : decode cX12_ordered 75 = .ok (.iadd, 1) := by decide +kernel
theorem dX12_ordered_76 : decode cX12_ordered 76 = .ok (.iastore, 1) := by decide +kernel
theorem dX12_ordered_77 : decode cX12_ordered 77 = .ok (.aload_n 0, 1) := by decide +kernel
theorem dX12_ordered_78 : decode cX12_ordered 78 = .ok (.iload_n 1, 1) := by decide +kernel
theorem dX12_ordered_79 : decode cX12_ordered 79 = .ok (.iconst 5, 1) := by decide +kernel
theorem dX12_ordered_80 : decode cX12_ordered 80 = .ok (.invokevirtual 33, 3) := by decide +kernel
theorem dX12_ordered_83 : decode cX12_ordered 83 = .ok (.istore 6, 2) := by decide +kernel
theorem dX12_ordered_85 : decode cX12_ordered 85 = .ok (.aload_n 0, 1) := by decide +kernel
theorem dX12_ordered_86 : decode cX12_ordered 86 = .ok (.getfield 7, 3) := by decide +kernel
theorem dX12_ordered_89 : decode cX12_ordered 89 = .ok (.iload_n 1, 1) := by decide +kernel
theorem dX12_ordered_90 : decode cX12_ordered 90 = .ok (.iload 6, 2) := by decide +kernel
theorem dX12_ordered_92 : decode cX12_ordered 92 = .ok (.invokestatic 11, 3) := by decide +kernel
theorem dX12_ordered_95 : decode cX12_ordered 95 = .ok (.iconst 3, 1) := by decide +kernel
theorem dX12_ordered_96 : decode cX12_ordered 96 = .ok (.iadd, 1) := by decide +kernel
theorem dX12_ordered_97 : decode cX12_ordered 97 = .ok (.iload 4, 2) := by decide +kernel
theorem dX12_ordered_99 : decode cX12_ordered 99 = .ok (.iconst (-1), 1) := by decide +kernel
theorem dX12_ordered_100 : decode cX12_ordered 100 = .ok (.if_icmp .ne 7, 3) := by decide +kernel
theorem dX12_ordered_103 : decode cX12_ordered 103 = .ok (.iconst 2, 1) := by decide +kernel
theorem dX12_ordered_104 : decode cX12_ordered 104 = .ok (.goto 4, 3) := by decide +kernel
theorem dX12_ordered_107 : decode cX12_ordered 107 = .ok (.iconst 3, 1) := by decide +kernel
theorem dX12_ordered_108 : decode cX12_ordered 108 = .ok (.iastore, 1) := by decide +kernel
theorem dX12_ordered_109 : decode cX12_ordered 109 = .ok (.aload_n 0, 1) := by decide +kernel
theorem dX12_ordered_110 : decode cX12_ordered 110 = .ok (.iload_n 1, 1) := by decide +kernel
theorem dX12_ordered_111 : decode cX12_ordered 111 = .ok (.iconst 3, 1) := by decide +kernel
theorem dX12_ordered_112 : decode cX12_ordered 112 = .ok (.invokevirtual 33, 3) := by decide +kernel
theorem dX12_ordered_115 : decode cX12_ordered 115 = .ok (.istore 7, 2) := by decide +kernel
theorem dX12_ordered_117 : decode cX12_ordered 117 = .ok (.aload_n 0, 1) := by decide +kernel
theorem dX12_ordered_118 : decode cX12_ordered 118 = .ok (.iload_n 1, 1) := by decide +kernel
theorem dX12_ordered_119 : decode cX12_ordered 119 = .ok (.iload 7, 2) := by decide +kernel
theorem dX12_ordered_121 : decode cX12_ordered 121 = .ok (.ldc2_w 679, 3) := by decide +kernel
theorem dX12_ordered_124 : decode cX12_ordered 124 = .ok (.invokevirtual 717, 3) := by decide +kernel
theorem dX12_ordered_127 : decode cX12_ordered 127 = .ok (.aload_n 0, 1) := by decide +kernel
theorem dX12_ordered_128 : decode cX12_ordered 128 = .ok (.aload_n 0, 1) := by decide +kernel
theorem dX12_ordered_129 : decode cX12_ordered 129 = .ok (.getfield 300, 3) := by decide +kernel
theorem dX12_ordered_132 : decode cX12_ordered 132 = .ok (.iload_n 2, 1) := by decide +kernel
theorem dX12_ordered_133 : decode cX12_ordered 133 = .ok (.laload, 1) := by decide +kernel
theorem dX12_ordered_134 : decode cX12_ordered 134 = .ok (.invokevirtual 74, 3) := by decide +kernel
theorem dX12_ordered_137 : decode cX12_ordered 137 = .ok (.aload_n 0, 1) := by decide +kernel
theorem dX12_ordered_138 : decode cX12_ordered 138 = .ok (.iload_n 1, 1) := by decide +kernel
theorem dX12_ordered_139 : decode cX12_ordered 139 = .ok (.iload 7, 2) := by decide +kernel
theorem dX12_ordered_141 : decode cX12_ordered 141 = .ok (.invokevirtual 492, 3) := by decide +kernel
theorem dX12_ordered_144 : decode cX12_ordered 144 = .ok (.aload_n 0, 1) := by decide +kernel
theorem dX12_ordered_145 : decode cX12_ordered 145 = .ok (.iload_n 1, 1) := by decide +kernel
theorem dX12_ordered_146 : decode cX12_ordered 146 = .ok (.iconst 3, 1) := by decide +kernel
theorem dX12_ordered_147 : decode cX12_ordered 147 = .ok (.invokevirtual 33, 3) := by decide +kernel
theorem dX12_ordered_150 : decode cX12_ordered 150 = .ok (.istore 7, 2) := by decide +kernel
theorem dX12_ordered_152 : decode cX12_ordered 152 = .ok (.aload_n 0, 1) := by decide +kernel
theorem dX12_ordered_153 : decode cX12_ordered 153 = .ok (.iload_n 1, 1) := by decide +kernel
theorem dX12_ordered_154 : decode cX12_ordered 154 = .ok (.iload 7, 2) := by decide +kernel
theorem dX12_ordered_156 : decode cX12_ordered 156 = .ok (.ldc2_w 685, 3) := by decide +kernel
theorem dX12_ordered_159 : decode cX12_ordered 159 = .ok (.invokevirtual 717, 3) := by decide +kernel
theorem dX12_ordered_162 : decode cX12_ordered 162 = .ok (.aload_n 0, 1) := by decide +kernel
theorem dX12_ordered_163 : decode cX12_ordered 163 = .ok (.aload_n 0, 1) := by decide +kernel
theorem dX12_ordered_164 : decode cX12_ordered 164 = .ok (.getfield 604, 3) := by decide +kernel
theorem dX12_ordered_167 : decode cX12_ordered 167 = .ok (.bipush 40, 2) := by decide +kernel
theorem dX12_ordered_169 : decode cX12_ordered 169 = .ok (.if_icmp .le 8, 3) := by decide +kernel
theorem dX12_ordered_172 : decode cX12_ordered 172 = .ok (.bipush 40, 2) := by decide +kernel
theorem dX12_ordered_174 : decode cX12_ordered 174 = .ok (.goto 7, 3) := by decide +kernel
theorem dX12_ordered_177 : decode cX12_ordered 177 = .ok (.aload_n 0, 1) := by decide +kernel
theorem dX12_ordered_178 : decode cX12_ordered 178 = .ok (.getfield 604, 3) := by decide +kernel
theorem dX12_ordered_181 : decode cX12_ordered 181 = .ok (.putfield 66, 3) := by decide +kernel
theorem dX12_ordered_184 : decode cX12_ordered 184 = .ok (.iconst 0, 1) := by decide +kernel
theorem dX12_ordered_185 : decode cX12_ordered 185 = .ok (.istore 8, 2) := by decide +kernel
theorem dX12_ordered_187 : decode cX12_ordered 187 = .ok (.iload 8, 2) := by decide +kernel
theorem dX12_ordered_189 : decode cX12_ordered 189 = .ok (.aload_n 0, 1) := by decide +kernel
theorem dX12_ordered_190 : decode cX12_ordered 190 = .ok (.getfield 66, 3) := by decide +kernel
theorem dX12_ordered_193 : decode cX12_ordered 193 = .ok (.if_icmp .ge 23, 3) := by decide +kernel
theorem dX12_ordered_196 : decode cX12_ordered 196 = .ok (.aload_n 0, 1) := by decide +kernel
theorem dX12_ordered_197 : decode cX12_ordered 197 = .ok (.getfield 69, 3) := by decide +kernel
theorem dX12_ordered_200 : decode cX12_ordered 200 = .ok (.iload 8, 2) := by decide +kernel
theorem dX12_ordered_202 : decode cX12_ordered 202 = .ok (.aload_n 0, 1) := by decide +kernel
theorem dX12_ordered_203 : decode cX12_ordered 203 = .ok (.getfield 275, 3) := by decide +kernel
theorem dX12_ordered_206 : decode cX12_ordered 206 = .ok (.iload 8, 2) := by decide +kernel
theorem dX12_ordered_208 : decode cX12_ordered 208 = .ok (.iaload, 1) := by decide +kernel
theorem dX12_ordered_209 : decode cX12_ordered 209 = .ok (.iastore, 1) := by decide +kernel
theorem dX12_ordered_210 : decode cX12_ordered 210 = .ok (.iinc 8 1, 3) := by decide +kernel
theorem dX12_ordered_213 : decode cX12_ordered 213 = .ok (.goto (-26), 3) := by decide +kernel
theorem dX12_ordered_216 : decode cX12_ordered 216 = .ok (.aload_n 0, 1) := by decide +kernel
theorem dX12_ordered_217 : decode cX12_ordered 217 = .ok (.iload_n 1, 1) := by decide +kernel
theorem dX12_ordered_218 : decode cX12_ordered 218 = .ok (.iload 7, 2) := by decide +kernel
theorem dX12_ordered_220 : decode cX12_ordered 220 = .ok (.invokevirtual 492, 3) := by decide +kernel
theorem dX12_ordered_223 : decode cX12_ordered 223 = .ok (.iload 4, 2) := by decide +kernel
theorem dX12_ordered_225 : decode cX12_ordered 225 = .ok (.iconst (-1), 1) := by decide +kernel
theorem dX12_ordered_226 : decode cX12_ordered 226 = .ok (.if_icmp .eq 19, 3) := by decide +kernel
theorem dX12_ordered_229 : decode cX12_ordered 229 = .ok (.aload_n 0, 1) := by decide +kernel
theorem dX12_ordered_230 : decode cX12_ordered 230 = .ok (.ldc2_w 699, 3) := by decide +kernel
theorem dX12_ordered_233 : decode cX12_ordered 233 = .ok (.invokevirtual 74, 3) := by decide +kernel
theorem dX12_ordered_236 : decode cX12_ordered 236 = .ok (.aload_n 0, 1) := by decide +kernel
theorem dX12_ordered_237 : decode cX12_ordered 237 = .ok (.iload_n 1, 1) := by decide +kernel
theorem dX12_ordered_238 : decode cX12_ordered 238 = .ok (.iload_n 3, 1) := by decide +kernel
theorem dX12_ordered_239 : decode cX12_ordered 239 = .ok (.iload 4, 2) := by decide +kernel
theorem dX12_ordered_241 : decode cX12_ordered 241 = .ok (.iconst 1, 1) := by decide +kernel
theorem dX12_ordered_242 : decode cX12_ordered 242 = .ok (.invokevirtual 656, 3) := by decide +kernel
theorem dX12_ordered_245 : decode cX12_ordered 245 = .ok (.return_, 1) := by decide +kernel
theorem dX12_pathOfNode_0 : decode cX12_pathOfNode 0 = .ok (.aload_n 0, 1) := by decide +kernel
theorem dX12_pathOfNode_1 : decode cX12_pathOfNode 1 = .ok (.getfield 272, 3) := by decide +kernel
theorem dX12_pathOfNode_4 : decode cX12_pathOfNode 4 = .ok (.iconst 0, 1) := by decide +kernel
theorem dX12_pathOfNode_5 : decode cX12_pathOfNode 5 = .ok (.iconst 0, 1) := by decide +kernel
theorem dX12_pathOfNode_6 : decode cX12_pathOfNode 6 = .ok (.iastore, 1) := by decide +kernel
theorem dX12_pathOfNode_7 : decode cX12_pathOfNode 7 = .ok (.aload_n 0, 1) := by decide +kernel
theorem dX12_pathOfNode_8 : decode cX12_pathOfNode 8 = .ok (.iload_n 1, 1) := by decide +kernel
theorem dX12_pathOfNode_9 : decode cX12_pathOfNode 9 = .ok (.iload_n 2, 1) := by decide +kernel
theorem dX12_pathOfNode_10 : decode cX12_pathOfNode 10 = .ok (.invokevirtual 587, 3) := by decide +kernel
theorem dX12_pathOfNode_13 : decode cX12_pathOfNode 13 = .ok (.aload_n 0, 1) := by decide +kernel
theorem dX12_pathOfNode_14 : decode cX12_pathOfNode 14 = .ok (.aload_n 0, 1) := by decide +kernel
theorem dX12_pathOfNode_15 : decode cX12_pathOfNode 15 = .ok (.getfield 272, 3) := by decide +kernel
theorem dX12_pathOfNode_18 : decode cX12_pathOfNode 18 = .ok (.iconst 0, 1) := by decide +kernel
theorem dX12_pathOfNode_19 : decode cX12_pathOfNode 19 = .ok (.iaload, 1) := by decide +kernel
theorem dX12_pathOfNode_20 : decode cX12_pathOfNode 20 = .ok (.sipush 900, 3) := by decide +kernel
theorem dX12_pathOfNode_23 : decode cX12_pathOfNode 23 = .ok (.if_icmp .le 9, 3) := by decide +kernel
theorem dX12_pathOfNode_26 : decode cX12_pathOfNode 26 = .ok (.sipush 900, 3) := by decide +kernel
theorem dX12_pathOfNode_29 : decode cX12_pathOfNode 29 = .ok (.goto 9, 3) := by decide +kernel
theorem dX12_pathOfNode_32 : decode cX12_pathOfNode 32 = .ok (.aload_n 0, 1) := by decide +kernel
theorem dX12_pathOfNode_33 : decode cX12_pathOfNode 33 = .ok (.getfield 272, 3) := by decide +kernel
theorem dX12_pathOfNode_36 : decode cX12_pathOfNode 36 = .ok (.iconst 0, 1) := by decide +kernel
theorem dX12_pathOfNode_37 : decode cX12_pathOfNode 37 = .ok (.iaload, 1) := by decide +kernel
theorem dX12_pathOfNode_38 : decode cX12_pathOfNode 38 = .ok (.putfield 604, 3) := by decide +kernel
theorem dX12_pathOfNode_41 : decode cX12_pathOfNode 41 = .ok (.iconst 0, 1) := by decide +kernel
theorem dX12_pathOfNode_42 : decode cX12_pathOfNode 42 = .ok (.istore_n 3, 1) := by decide +kernel
theorem dX12_pathOfNode_43 : decode cX12_pathOfNode 43 = .ok (.iload_n 3, 1) := by decide +kernel
theorem dX12_pathOfNode_44 : decode cX12_pathOfNode 44 = .ok (.aload_n 0, 1) := by decide +kernel
theorem dX12_pathOfNode_45 : decode cX12_pathOfNode 45 = .ok (.getfield 604, 3) := by decide +kernel
theorem dX12_pathOfNode_48 : decode cX12_pathOfNode 48 = .ok (.if_icmp .ge 21, 3) := by decide +kernel
theorem dX12_pathOfNode_51 : decode cX12_pathOfNode 51 = .ok (.aload_n 0, 1) := by decide +kernel
theorem dX12_pathOfNode_52 : decode cX12_pathOfNode 52 = .ok (.getfield 275, 3) := by decide +kernel
theorem dX12_pathOfNode_55 : decode cX12_pathOfNode 55 = .ok (.iload_n 3, 1) := by decide +kernel
theorem dX12_pathOfNode_56 : decode cX12_pathOfNode 56 = .ok (.aload_n 0, 1) := by decide +kernel
theorem dX12_pathOfNode_57 : decode cX12_pathOfNode 57 = .ok (.getfield 269, 3) := by decide +kernel
theorem dX12_pathOfNode_60 : decode cX12_pathOfNode 60 = .ok (.iload_n 3, 1) := by decide +kernel
theorem dX12_pathOfNode_61 : decode cX12_pathOfNode 61 = .ok (.iaload, 1) := by decide +kernel
theorem dX12_pathOfNode_62 : decode cX12_pathOfNode 62 = .ok (.iastore, 1) := by decide +kernel
theorem dX12_pathOfNode_63 : decode cX12_pathOfNode 63 = .ok (.iinc 3 1, 3) := by decide +kernel
theorem dX12_pathOfNode_66 : decode cX12_pathOfNode 66 = .ok (.goto (-23), 3) := by decide +kernel
theorem dX12_pathOfNode_69 : decode cX12_pathOfNode 69 = .ok (.return_, 1) := by decide +kernel
theorem dX12_addsStep_0 : decode cX12_addsStep 0 = .ok (.aload_n 0, 1) := by decide +kernel
theorem dX12_addsStep_1 : decode cX12_addsStep 1 = .ok (.getfield 272, 3) := by decide +kernel
theorem dX12_addsStep_4 : decode cX12_addsStep 4 = .ok (.iconst 0, 1) := by decide +kernel
theorem dX12_addsStep_5 : decode cX12_addsStep 5 = .ok (.iconst 0, 1) := by decide +kernel
theorem dX12_addsStep_6 : decode cX12_addsStep 6 = .ok (.iastore, 1) := by decide +kernel
theorem dX12_addsStep_7 : decode cX12_addsStep 7 = .ok (.aload_n 0, 1) := by decide +kernel
theorem dX12_addsStep_8 : decode cX12_addsStep 8 = .ok (.iload_n 1, 1) := by decide +kernel
theorem dX12_addsStep_9 : decode cX12_addsStep 9 = .ok (.iload_n 2, 1) := by decide +kernel
theorem dX12_addsStep_10 : decode cX12_addsStep 10 = .ok (.invokevirtual 584, 3) := by decide +kernel
theorem dX12_addsStep_13 : decode cX12_addsStep 13 = .ok (.iconst 0, 1) := by decide +kernel
theorem dX12_addsStep_14 : decode cX12_addsStep 14 = .ok (.istore_n 3, 1) := by decide +kernel
theorem dX12_addsStep_15 : decode cX12_addsStep 15 = .ok (.iload_n 3, 1) := by decide +kernel
theorem dX12_addsStep_16 : decode cX12_addsStep 16 = .ok (.aload_n 0, 1) := by decide +kernel
theorem dX12_addsStep_17 : decode cX12_addsStep 17 = .ok (.getfield 272, 3) := by decide +kernel
theorem dX12_addsStep_20 : decode cX12_addsStep 20 = .ok (.iconst 0, 1) := by decide +kernel
theorem dX12_addsStep_21 : decode cX12_addsStep 21 = .ok (.iaload, 1) := by decide +kernel
theorem dX12_addsStep_22 : decode cX12_addsStep 22 = .ok (.if_icmp .ge 34, 3) := by decide +kernel
theorem dX12_addsStep_25 : decode cX12_addsStep 25 = .ok (.aload_n 0, 1) := by decide +kernel
theorem dX12_addsStep_26 : decode cX12_addsStep 26 = .ok (.getfield 275, 3) := by decide +kernel
theorem dX12_addsStep_29 : decode cX12_addsStep 29 = .ok (.aload_n 0, 1) := by decide +kernel
theorem dX12_addsStep_30 : decode cX12_addsStep 30 = .ok (.getfield 604, 3) := by decide +kernel
theorem dX12_addsStep_33 : decode cX12_addsStep 33 = .ok (.aload_n 0, 1) := by decide +kernel
theorem dX12_addsStep_34 : decode cX12_addsStep 34 = .ok (.getfield 269, 3) := by decide +kernel
theorem dX12_addsStep_37 : decode cX12_addsStep 37 = .ok (.iload_n 3, 1) := by decide +kernel
theorem dX12_addsStep_38 : decode cX12_addsStep 38 = .ok (.iaload, 1) := by decide +kernel
theorem dX12_addsStep_39 : decode cX12_addsStep 39 = .ok (.iastore, 1) := by decide +kernel
theorem dX12_addsStep_40 : decode cX12_addsStep 40 = .ok (.aload_n 0, 1) := by decide +kernel
theorem dX12_addsStep_41 : decode cX12_addsStep 41 = .ok (.dup, 1) := by decide +kernel
theorem dX12_addsStep_42 : decode cX12_addsStep 42 = .ok (.getfield 604, 3) := by decide +kernel
theorem dX12_addsStep_45 : decode cX12_addsStep 45 = .ok (.iconst 1, 1) := by decide +kernel
theorem dX12_addsStep_46 : decode cX12_addsStep 46 = .ok (.iadd, 1) := by decide +kernel
theorem dX12_addsStep_47 : decode cX12_addsStep 47 = .ok (.putfield 604, 3) := by decide +kernel
theorem dX12_addsStep_50 : decode cX12_addsStep 50 = .ok (.iinc 3 1, 3) := by decide +kernel
theorem dX12_addsStep_53 : decode cX12_addsStep 53 = .ok (.goto (-38), 3) := by decide +kernel
theorem dX12_addsStep_56 : decode cX12_addsStep 56 = .ok (.return_, 1) := by decide +kernel
theorem dX12_addsPlace_0 : decode cX12_addsPlace 0 = .ok (.aload_n 0, 1) := by decide +kernel
theorem dX12_addsPlace_1 : decode cX12_addsPlace 1 = .ok (.getfield 272, 3) := by decide +kernel
theorem dX12_addsPlace_4 : decode cX12_addsPlace 4 = .ok (.iconst 0, 1) := by decide +kernel
theorem dX12_addsPlace_5 : decode cX12_addsPlace 5 = .ok (.iconst 0, 1) := by decide +kernel
theorem dX12_addsPlace_6 : decode cX12_addsPlace 6 = .ok (.iastore, 1) := by decide +kernel
theorem dX12_addsPlace_7 : decode cX12_addsPlace 7 = .ok (.aload_n 0, 1) := by decide +kernel
theorem dX12_addsPlace_8 : decode cX12_addsPlace 8 = .ok (.iconst 0, 1) := by decide +kernel
theorem dX12_addsPlace_9 : decode cX12_addsPlace 9 = .ok (.bipush 47, 2) := by decide +kernel
theorem dX12_addsPlace_11 : decode cX12_addsPlace 11 = .ok (.invokevirtual 551, 3) := by decide +kernel
theorem dX12_addsPlace_14 : decode cX12_addsPlace 14 = .ok (.aload_n 0, 1) := by decide +kernel
theorem dX12_addsPlace_15 : decode cX12_addsPlace 15 = .ok (.iconst 0, 1) := by decide +kernel
theorem dX12_addsPlace_16 : decode cX12_addsPlace 16 = .ok (.iload_n 1, 1) := by decide +kernel
theorem dX12_addsPlace_17 : decode cX12_addsPlace 17 = .ok (.invokevirtual 565, 3) := by decide +kernel
theorem dX12_addsPlace_20 : decode cX12_addsPlace 20 = .ok (.iconst 0, 1) := by decide +kernel
theorem dX12_addsPlace_21 : decode cX12_addsPlace 21 = .ok (.istore_n 2, 1) := by decide +kernel
theorem dX12_addsPlace_22 : decode cX12_addsPlace 22 = .ok (.iload_n 2, 1) := by decide +kernel
theorem dX12_addsPlace_23 : decode cX12_addsPlace 23 = .ok (.aload_n 0, 1) := by decide +kernel
theorem dX12_addsPlace_24 : decode cX12_addsPlace 24 = .ok (.getfield 272, 3) := by decide +kernel
theorem dX12_addsPlace_27 : decode cX12_addsPlace 27 = .ok (.iconst 0, 1) := by decide +kernel
theorem dX12_addsPlace_28 : decode cX12_addsPlace 28 = .ok (.iaload, 1) := by decide +kernel
theorem dX12_addsPlace_29 : decode cX12_addsPlace 29 = .ok (.if_icmp .ge 34, 3) := by decide +kernel
theorem dX12_addsPlace_32 : decode cX12_addsPlace 32 = .ok (.aload_n 0, 1) := by decide +kernel
theorem dX12_addsPlace_33 : decode cX12_addsPlace 33 = .ok (.getfield 275, 3) := by decide +kernel
theorem dX12_addsPlace_36 : decode cX12_addsPlace 36 = .ok (.aload_n 0, 1) := by decide +kernel
theorem dX12_addsPlace_37 : decode cX12_addsPlace 37 = .ok (.getfield 604, 3) := by decide +kernel
theorem dX12_addsPlace_40 : decode cX12_addsPlace 40 = .ok (.aload_n 0, 1) := by decide +kernel
theorem dX12_addsPlace_41 : decode cX12_addsPlace 41 = .ok (.getfield 269, 3) := by decide +kernel
theorem dX12_addsPlace_44 : decode cX12_addsPlace 44 = .ok (.iload_n 2, 1) := by decide +kernel
theorem dX12_addsPlace_45 : decode cX12_addsPlace 45 = .ok (.iaload, 1) := by decide +kernel
theorem dX12_addsPlace_46 : decode cX12_addsPlace 46 = .ok (.iastore, 1) := by decide +kernel
theorem dX12_addsPlace_47 : decode cX12_addsPlace 47 = .ok (.aload_n 0, 1) := by decide +kernel
theorem dX12_addsPlace_48 : decode cX12_addsPlace 48 = .ok (.dup, 1) := by decide +kernel
theorem dX12_addsPlace_49 : decode cX12_addsPlace 49 = .ok (.getfield 604, 3) := by decide +kernel
theorem dX12_addsPlace_52 : decode cX12_addsPlace 52 = .ok (.iconst 1, 1) := by decide +kernel
theorem dX12_addsPlace_53 : decode cX12_addsPlace 53 = .ok (.iadd, 1) := by decide +kernel
theorem dX12_addsPlace_54 : decode cX12_addsPlace 54 = .ok (.putfield 604, 3) := by decide +kernel
theorem dX12_addsPlace_57 : decode cX12_addsPlace 57 = .ok (.iinc 2 1, 3) := by decide +kernel
theorem dX12_addsPlace_60 : decode cX12_addsPlace 60 = .ok (.goto (-38), 3) := by decide +kernel
theorem dX12_addsPlace_63 : decode cX12_addsPlace 63 = .ok (.return_, 1) := by decide +kernel
theorem dX12_patchRows_0 : decode cX12_patchRows 0 = .ok (.aload_n 0, 1) := by decide +kernel
theorem dX12_patchRows_1 : decode cX12_patchRows 1 = .ok (.iload_n 1, 1) := by decide +kernel
theorem dX12_patchRows_2 : decode cX12_patchRows 2 = .ok (.iload_n 2, 1) := by decide +kernel
theorem dX12_patchRows_3 : decode cX12_patchRows 3 = .ok (.iconst 3, 1) := by decide +kernel
theorem dX12_patchRows_4 : decode cX12_patchRows 4 = .ok (.invokevirtual 36, 3) := by decide +kernel
theorem dX12_patchRows_7 : decode cX12_patchRows 7 = .ok (.istore 5, 2) := by decide +kernel
theorem dX12_patchRows_9 : decode cX12_patchRows 9 = .ok (.aload_n 0, 1) := by decide +kernel
theorem dX12_patchRows_10 : decode cX12_patchRows 10 = .ok (.iload_n 3, 1) := by decide +kernel
theorem dX12_patchRows_11 : decode cX12_patchRows 11 = .ok (.iload 4, 2) := by decide +kernel
theorem dX12_patchRows_13 : decode cX12_patchRows 13 = .ok (.iconst 3, 1) := by decide +kernel
theorem dX12_patchRows_14 : decode cX12_patchRows 14 = .ok (.invokevirtual 36, 3) := by decide +kernel
theorem dX12_patchRows_17 : decode cX12_patchRows 17 = .ok (.istore 6, 2) := by decide +kernel
theorem dX12_patchRows_19 : decode cX12_patchRows 19 = .ok (.iload 5, 2) := by decide +kernel
theorem dX12_patchRows_21 : decode cX12_patchRows 21 = .ok (.istore 7, 2) := by decide +kernel
theorem dX12_patchRows_23 : decode cX12_patchRows 23 = .ok (.iload 7, 2) := by decide +kernel
theorem dX12_patchRows_25 : decode cX12_patchRows 25 = .ok (.ifCond .lt 191, 3) := by decide +kernel
theorem dX12_patchRows_28 : decode cX12_patchRows 28 = .ok (.iload 6, 2) := by decide +kernel
theorem dX12_patchRows_30 : decode cX12_patchRows 30 = .ok (.istore 8, 2) := by decide +kernel
theorem dX12_patchRows_32 : decode cX12_patchRows 32 = .ok (.iload 8, 2) := by decide +kernel
theorem dX12_patchRows_34 : decode cX12_patchRows 34 = .ok (.ifCond .lt 176, 3) := by decide +kernel
theorem dX12_patchRows_37 : decode cX12_patchRows 37 = .ok (.iconst 0, 1) := by decide +kernel
theorem dX12_patchRows_38 : decode cX12_patchRows 38 = .ok (.istore 9, 2) := by decide +kernel
theorem dX12_patchRows_40 : decode cX12_patchRows 40 = .ok (.iload 7, 2) := by decide +kernel
theorem dX12_patchRows_42 : decode cX12_patchRows 42 = .ok (.iload 5, 2) := by decide +kernel
theorem dX12_patchRows_44 : decode cX12_patchRows 44 = .ok (.if_icmp .ge 145, 3) := by decide +kernel
theorem dX12_patchRows_47 : decode cX12_patchRows 47 = .ok (.iload 8, 2) := by decide +kernel
theorem dX12_patchRows_49 : decode cX12_patchRows 49 = .ok (.iload 6, 2) := by decide +kernel
theorem dX12_patchRows_51 : decode cX12_patchRows 51 = .ok (.if_icmp .ge 138, 3) := by decide +kernel
theorem dX12_patchRows_54 : decode cX12_patchRows 54 = .ok (.aload_n 0, 1) := by decide +kernel
theorem dX12_patchRows_55 : decode cX12_patchRows 55 = .ok (.iload_n 1, 1) := by decide +kernel
theorem dX12_patchRows_56 : decode cX12_patchRows 56 = .ok (.aload_n 0, 1) := by decide +kernel
theorem dX12_patchRows_57 : decode cX12_patchRows 57 = .ok (.iload_n 1, 1) := by decide +kernel
theorem dX12_patchRows_58 : decode cX12_patchRows 58 = .ok (.iload_n 2, 1) := by decide +kernel
theorem dX12_patchRows_59 : decode cX12_patchRows 59 = .ok (.iload 7, 2) := by decide +kernel
theorem dX12_patchRows_61 : decode cX12_patchRows 61 = .ok (.invokevirtual 616, 3) := by decide +kernel
theorem dX12_patchRows_64 : decode cX12_patchRows 64 = .ok (.iload_n 3, 1) := by decide +kernel
theorem dX12_patchRows_65 : decode cX12_patchRows 65 = .ok (.aload_n 0, 1) := by decide +kernel
theorem dX12_patchRows_66 : decode cX12_patchRows 66 = .ok (.iload_n 3, 1) := by decide +kernel
theorem dX12_patchRows_67 : decode cX12_patchRows 67 = .ok (.iload 4, 2) := by decide +kernel
theorem dX12_patchRows_69 : decode cX12_patchRows 69 = .ok (.iload 8, 2) := by decide +kernel
theorem dX12_patchRows_71 : decode cX12_patchRows 71 = .ok (.invokevirtual 616, 3) := by decide +kernel
theorem dX12_patchRows_74 : decode cX12_patchRows 74 = .ok (.invokevirtual 590, 3) := by decide +kernel
theorem dX12_patchRows_77 : decode cX12_patchRows 77 = .ok (.ifCond .eq 25, 3) := by decide +kernel
theorem dX12_patchRows_80 : decode cX12_patchRows 80 = .ok (.aload_n 0, 1) := by decide +kernel
theorem dX12_patchRows_81 : decode cX12_patchRows 81 = .ok (.getfield 303, 3) := by decide +kernel
theorem dX12_patchRows_84 : decode cX12_patchRows 84 = .ok (.bipush 101, 2) := by decide +kernel
theorem dX12_patchRows_86 : decode cX12_patchRows 86 = .ok (.iload 7, 2) := by decide +kernel
theorem dX12_patchRows_88 : decode cX12_patchRows 88 = .ok (.iconst 1, 1) := by decide +kernel
theorem dX12_patchRows_89 : decode cX12_patchRows 89 = .ok (.iadd, 1) := by decide +kernel
theorem dX12_patchRows_90 : decode cX12_patchRows 90 = .ok (.imul, 1) := by decide +kernel
theorem dX12_patchRows_91 : decode cX12_patchRows 91 = .ok (.iload 8, 2) := by decide +kernel
theorem dX12_patchRows_93 : decode cX12_patchRows 93 = .ok (.iadd, 1) := by decide +kernel
theorem dX12_patchRows_94 : decode cX12_patchRows 94 = .ok (.iconst 1, 1) := by decide +kernel
theorem dX12_patchRows_95 : decode cX12_patchRows 95 = .ok (.iadd, 1) := by decide +kernel
theorem dX12_patchRows_96 : decode cX12_patchRows 96 = .ok (.iaload, 1) := by decide +kernel
theorem dX12_patchRows_97 : decode cX12_patchRows 97 = .ok (.iconst 1, 1) := by decide +kernel
theorem dX12_patchRows_98 : decode cX12_patchRows 98 = .ok (.iadd, 1) := by decide +kernel
theorem dX12_patchRows_99 : decode cX12_patchRows 99 = .ok (.goto 4, 3) := by decide +kernel
theorem dX12_patchRows_102 : decode cX12_patchRows 102 = .ok (.iconst 0, 1) := by decide +kernel
theorem dX12_patchRows_103 : decode cX12_patchRows 103 = .ok (.istore 9, 2) := by decide +kernel
theorem dX12_patchRows_105 : decode cX12_patchRows 105 = .ok (.aload_n 0, 1) := by decide +kernel
theorem dX12_patchRows_106 : decode cX12_patchRows 106 = .ok (.getfield 303, 3) := by decide +kernel
theorem dX12_patchRows_109 : decode cX12_patchRows 109 = .ok (.bipush 101, 2) := by decide +kernel
theorem dX12_patchRows_111 : decode cX12_patchRows 111 = .ok (.iload 7, 2) := by decide +kernel
theorem dX12_patchRows_113 : decode cX12_patchRows 113 = .ok (.iconst 1, 1) := by decide +kernel
theorem dX12_patchRows_114 : decode cX12_patchRows 114 = .ok (.iadd, 1) := by decide +kernel
theorem dX12_patchRows_115 : decode cX12_patchRows 115 = .ok (.imul, 1) := by decide +kernel
theorem dX12_patchRows_116 : decode cX12_patchRows 116 = .ok (.iload 8, 2) := by decide +kernel
theorem dX12_patchRows_118 : decode cX12_patchRows 118 = .ok (.iadd, 1) := by decide +kernel
theorem dX12_patchRows_119 : decode cX12_patchRows 119 = .ok (.iaload, 1) := by decide +kernel
theorem dX12_patchRows_120 : decode cX12_patchRows 120 = .ok (.iload 9, 2) := by decide +kernel
theorem dX12_patchRows_122 : decode cX12_patchRows 122 = .ok (.if_icmp .le 21, 3) := by decide +kernel
theorem dX12_patchRows_125 : decode cX12_patchRows 125 = .ok (.aload_n 0, 1) := by decide +kernel
theorem dX12_patchRows_126 : decode cX12_patchRows 126 = .ok (.getfield 303, 3) := by decide +kernel
theorem dX12_patchRows_129 : decode cX12_patchRows 129 = .ok (.bipush 101, 2) := by decide +kernel
theorem dX12_patchRows_131 : decode cX12_patchRows 131 = .ok (.iload 7, 2) := by decide +kernel
theorem dX12_patchRows_133 : decode cX12_patchRows 133 = .ok (.iconst 1, 1) := by decide +kernel
theorem dX12_patchRows_134 : decode cX12_patchRows 134 = .ok (.iadd, 1) := by decide +kernel
theorem dX12_patchRows_135 : decode cX12_patchRows 135 = .ok (.imul, 1) := by decide +kernel
theorem dX12_patchRows_136 : decode cX12_patchRows 136 = .ok (.iload 8, 2) := by decide +kernel
theorem dX12_patchRows_138 : decode cX12_patchRows 138 = .ok (.iadd, 1) := by decide +kernel
theorem dX12_patchRows_139 : decode cX12_patchRows 139 = .ok (.iaload, 1) := by decide +kernel
theorem dX12_patchRows_140 : decode cX12_patchRows 140 = .ok (.goto 5, 3) := by decide +kernel
theorem dX12_patchRows_143 : decode cX12_patchRows 143 = .ok (.iload 9, 2) := by decide +kernel
theorem dX12_patchRows_145 : decode cX12_patchRows 145 = .ok (.istore 9, 2) := by decide +kernel
theorem dX12_patchRows_147 : decode cX12_patchRows 147 = .ok (.aload_n 0, 1) := by decide +kernel
theorem dX12_patchRows_148 : decode cX12_patchRows 148 = .ok (.getfield 303, 3) := by decide +kernel
theorem dX12_patchRows_151 : decode cX12_patchRows 151 = .ok (.bipush 101, 2) := by decide +kernel
theorem dX12_patchRows_153 : decode cX12_patchRows 153 = .ok (.iload 7, 2) := by decide +kernel
theorem dX12_patchRows_155 : decode cX12_patchRows 155 = .ok (.imul, 1) := by decide +kernel
theorem dX12_patchRows_156 : decode cX12_patchRows 156 = .ok (.iload 8, 2) := by decide +kernel
theorem dX12_patchRows_158 : decode cX12_patchRows 158 = .ok (.iadd, 1) := by decide +kernel
theorem dX12_patchRows_159 : decode cX12_patchRows 159 = .ok (.iconst 1, 1) := by decide +kernel
theorem dX12_patchRows_160 : decode cX12_patchRows 160 = .ok (.iadd, 1) := by decide +kernel
theorem dX12_patchRows_161 : decode cX12_patchRows 161 = .ok (.iaload, 1) := by decide +kernel
theorem dX12_patchRows_162 : decode cX12_patchRows 162 = .ok (.iload 9, 2) := by decide +kernel
theorem dX12_patchRows_164 : decode cX12_patchRows 164 = .ok (.if_icmp .le 21, 3) := by decide +kernel
theorem dX12_patchRows_167 : decode cX12_patchRows 167 = .ok (.aload_n 0, 1) := by decide +kernel
theorem dX12_patchRows_168 : decode cX12_patchRows 168 = .ok (.getfield 303, 3) := by decide +kernel
theorem dX12_patchRows_171 : decode cX12_patchRows 171 = .ok (.bipush 101, 2) := by decide +kernel
theorem dX12_patchRows_173 : decode cX12_patchRows 173 = .ok (.iload 7, 2) := by decide +kernel
theorem dX12_patchRows_175 : decode cX12_patchRows 175 = .ok (.imul, 1) := by decide +kernel
theorem dX12_patchRows_176 : decode cX12_patchRows 176 = .ok (.iload 8, 2) := by decide +kernel
theorem dX12_patchRows_178 : decode cX12_patchRows 178 = .ok (.iadd, 1) := by decide +kernel
theorem dX12_patchRows_179 : decode cX12_patchRows 179 = .ok (.iconst 1, 1) := by decide +kernel
theorem dX12_patchRows_180 : decode cX12_patchRows 180 = .ok (.iadd, 1) := by decide +kernel
theorem dX12_patchRows_181 : decode cX12_patchRows 181 = .ok (.iaload, 1) := by decide +kernel
theorem dX12_patchRows_182 : decode cX12_patchRows 182 = .ok (.goto 5, 3) := by decide +kernel
theorem dX12_patchRows_185 : decode cX12_patchRows 185 = .ok (.iload 9, 2) := by decide +kernel
theorem dX12_patchRows_187 : decode cX12_patchRows 187 = .ok (.istore 9, 2) := by decide +kernel
theorem dX12_patchRows_189 : decode cX12_patchRows 189 = .ok (.aload_n 0, 1) := by decide +kernel
theorem dX12_patchRows_190 : decode cX12_patchRows 190 = .ok (.getfield 303, 3) := by decide +kernel
theorem dX12_patchRows_193 : decode cX12_patchRows 193 = .ok (.bipush 101, 2) := by decide +kernel
theorem dX12_patchRows_195 : decode cX12_patchRows 195 = .ok (.iload 7, 2) := by decide +kernel
theorem dX12_patchRows_197 : decode cX12_patchRows 197 = .ok (.imul, 1) := by decide +kernel
theorem dX12_patchRows_198 : decode cX12_patchRows 198 = .ok (.iload 8, 2) := by decide +kernel
theorem dX12_patchRows_200 : decode cX12_patchRows 200 = .ok (.iadd, 1) := by decide +kernel
theorem dX12_patchRows_201 : decode cX12_patchRows 201 = .ok (.iload 9, 2) := by decide +kernel
theorem dX12_patchRows_203 : decode cX12_patchRows 203 = .ok (.iastore, 1) := by decide +kernel
theorem dX12_patchRows_204 : decode cX12_patchRows 204 = .ok (.iinc 8 (-1), 3) := by decide +kernel
theorem dX12_patchRows_207 : decode cX12_patchRows 207 = .ok (.goto (-175), 3) := by decide +kernel
theorem dX12_patchRows_210 : decode cX12_patchRows 210 = .ok (.iinc 7 (-1), 3) := by decide +kernel
theorem dX12_patchRows_213 : decode cX12_patchRows 213 = .ok (.goto (-190), 3) := by decide +kernel
theorem dX12_patchRows_216 : decode cX12_patchRows 216 = .ok (.iconst 0, 1) := by decide +kernel
theorem dX12_patchRows_217 : decode cX12_patchRows 217 = .ok (.istore 7, 2) := by decide +kernel
theorem dX12_patchRows_219 : decode cX12_patchRows 219 = .ok (.iload 7, 2) := by decide +kernel
theorem dX12_patchRows_221 : decode cX12_patchRows 221 = .ok (.bipush 101, 2) := by decide +kernel
theorem dX12_patchRows_223 : decode cX12_patchRows 223 = .ok (.if_icmp .ge 25, 3) := by decide +kernel
theorem dX12_patchRows_226 : decode cX12_patchRows 226 = .ok (.aload_n 0, 1) := by decide +kernel
theorem dX12_patchRows_227 : decode cX12_patchRows 227 = .ok (.getfield 284, 3) := by decide +kernel
theorem dX12_patchRows_230 : decode cX12_patchRows 230 = .ok (.iload 7, 2) := by decide +kernel
theorem dX12_patchRows_232 : decode cX12_patchRows 232 = .ok (.iconst 0, 1) := by decide +kernel
theorem dX12_patchRows_233 : decode cX12_patchRows 233 = .ok (.bastore, 1) := by decide +kernel
theorem dX12_patchRows_234 : decode cX12_patchRows 234 = .ok (.aload_n 0, 1) := by decide +kernel
theorem dX12_patchRows_235 : decode cX12_patchRows 235 = .ok (.getfield 306, 3) := by decide +kernel
theorem dX12_patchRows_238 : decode cX12_patchRows 238 = .ok (.iload 7, 2) := by decide +kernel
theorem dX12_patchRows_240 : decode cX12_patchRows 240 = .ok (.iconst 0, 1) := by decide +kernel
theorem dX12_patchRows_241 : decode cX12_patchRows 241 = .ok (.bastore, 1) := by decide +kernel
theorem dX12_patchRows_242 : decode cX12_patchRows 242 = .ok (.iinc 7 1, 3) := by decide +kernel
theorem dX12_patchRows_245 : decode cX12_patchRows 245 = .ok (.goto (-26), 3) := by decide +kernel
theorem dX12_patchRows_248 : decode cX12_patchRows 248 = .ok (.iconst 0, 1) := by decide +kernel
theorem dX12_patchRows_249 : decode cX12_patchRows 249 = .ok (.istore 7, 2) := by decide +kernel
theorem dX12_patchRows_251 : decode cX12_patchRows 251 = .ok (.iconst 0, 1) := by decide +kernel
theorem dX12_patchRows_252 : decode cX12_patchRows 252 = .ok (.istore 8, 2) := by decide +kernel
theorem dX12_patchRows_254 : decode cX12_patchRows 254 = .ok (.iload 7, 2) := by decide +kernel
theorem dX12_patchRows_256 : decode cX12_patchRows 256 = .ok (.iload 5, 2) := by decide +kernel
theorem dX12_patchRows_258 : decode cX12_patchRows 258 = .ok (.if_icmp .ge 104, 3) := by decide +kernel
theorem dX12_patchRows_261 : decode cX12_patchRows 261 = .ok (.iload 8, 2) := by decide +kernel
theorem dX12_patchRows_263 : decode cX12_patchRows 263 = .ok (.iload 6, 2) := by decide +kernel
theorem dX12_patchRows_265 : decode cX12_patchRows 265 = .ok (.if_icmp .ge 97, 3) := by decide +kernel
theorem dX12_patchRows_268 : decode cX12_patchRows 268 = .ok (.aload_n 0, 1) := by decide +kernel
theorem dX12_patchRows_269 : decode cX12_patchRows 269 = .ok (.iload_n 1, 1) := by decide +kernel
theorem dX12_patchRows_270 : decode cX12_patchRows 270 = .ok (.aload_n 0, 1) := by decide +kernel
theorem dX12_patchRows_271 : decode cX12_patchRows 271 = .ok (.iload_n 1, 1) := by decide +kernel
theorem dX12_patchRows_272 : decode cX12_patchRows 272 = .ok (.iload_n 2, 1) := by decide +kernel
theorem dX12_patchRows_273 : decode cX12_patchRows 273 = .ok (.iload 7, 2) := by decide +kernel
theorem dX12_patchRows_275 : decode cX12_patchRows 275 = .ok (.invokevirtual 616, 3) := by decide +kernel
theorem dX12_patchRows_278 : decode cX12_patchRows 278 = .ok (.iload_n 3, 1) := by decide +kernel
theorem dX12_patchRows_279 : decode cX12_patchRows 279 = .ok (.aload_n 0, 1) := by decide +kernel
theorem dX12_patchRows_280 : decode cX12_patchRows 280 = .ok (.iload_n 3, 1) := by decide +kernel
theorem dX12_patchRows_281 : decode cX12_patchRows 281 = .ok (.iload 4, 2) := by decide +kernel
theorem dX12_patchRows_283 : decode cX12_patchRows 283 = .ok (.iload 8, 2) := by decide +kernel
theorem dX12_patchRows_285 : decode cX12_patchRows 285 = .ok (.invokevirtual 616, 3) := by decide +kernel
theorem dX12_patchRows_288 : decode cX12_patchRows 288 = .ok (.invokevirtual 590, 3) := by decide +kernel
theorem dX12_patchRows_291 : decode cX12_patchRows 291 = .ok (.ifCond .eq 28, 3) := by decide +kernel
theorem dX12_patchRows_294 : decode cX12_patchRows 294 = .ok (.aload_n 0, 1) := by decide +kernel
theorem dX12_patchRows_295 : decode cX12_patchRows 295 = .ok (.getfield 284, 3) := by decide +kernel
theorem dX12_patchRows_298 : decode cX12_patchRows 298 = .ok (.iload 7, 2) := by decide +kernel
theorem dX12_patchRows_300 : decode cX12_patchRows 300 = .ok (.iconst 1, 1) := by decide +kernel
theorem dX12_patchRows_301 : decode cX12_patchRows 301 = .ok (.bastore, 1) := by decide +kernel
theorem dX12_patchRows_302 : decode cX12_patchRows 302 = .ok (.aload_n 0, 1) := by decide +kernel
theorem dX12_patchRows_303 : decode cX12_patchRows 303 = .ok (.getfield 306, 3) := by decide +kernel
theorem dX12_patchRows_306 : decode cX12_patchRows 306 = .ok (.iload 8, 2) := by decide +kernel
theorem dX12_patchRows_308 : decode cX12_patchRows 308 = .ok (.iconst 1, 1) := by decide +kernel
theorem dX12_patchRows_309 : decode cX12_patchRows 309 = .ok (.bastore, 1) := by decide +kernel
theorem dX12_patchRows_310 : decode cX12_patchRows 310 = .ok (.iinc 7 1, 3) := by decide +kernel
theorem dX12_patchRows_313 : decode cX12_patchRows 313 = .ok (.iinc 8 1, 3) := by decide +kernel
theorem dX12_patchRows_316 : decode cX12_patchRows 316 = .ok (.goto (-62), 3) := by decide +kernel
theorem dX12_patchRows_319 : decode cX12_patchRows 319 = .ok (.aload_n 0, 1) := by decide +kernel
theorem dX12_patchRows_320 : decode cX12_patchRows 320 = .ok (.getfield 303, 3) := by decide +kernel
theorem dX12_patchRows_323 : decode cX12_patchRows 323 = .ok (.bipush 101, 2) := by decide +kernel
theorem dX12_patchRows_325 : decode cX12_patchRows 325 = .ok (.iload 7, 2) := by decide +kernel
theorem dX12_patchRows_327 : decode cX12_patchRows 327 = .ok (.iconst 1, 1) := by decide +kernel
theorem dX12_patchRows_328 : decode cX12_patchRows 328 = .ok (.iadd, 1) := by decide +kernel
theorem dX12_patchRows_329 : decode cX12_patchRows 329 = .ok (.imul, 1) := by decide +kernel
theorem dX12_patchRows_330 : decode cX12_patchRows 330 = .ok (.iload 8, 2) := by decide +kernel
theorem dX12_patchRows_332 : decode cX12_patchRows 332 = .ok (.iadd, 1) := by decide +kernel
theorem dX12_patchRows_333 : decode cX12_patchRows 333 = .ok (.iaload, 1) := by decide +kernel
theorem dX12_patchRows_334 : decode cX12_patchRows 334 = .ok (.aload_n 0, 1) := by decide +kernel
theorem dX12_patchRows_335 : decode cX12_patchRows 335 = .ok (.getfield 303, 3) := by decide +kernel
theorem dX12_patchRows_338 : decode cX12_patchRows 338 = .ok (.bipush 101, 2) := by decide +kernel
theorem dX12_patchRows_340 : decode cX12_patchRows 340 = .ok (.iload 7, 2) := by decide +kernel
theorem dX12_patchRows_342 : decode cX12_patchRows 342 = .ok (.imul, 1) := by decide +kernel
theorem dX12_patchRows_343 : decode cX12_patchRows 343 = .ok (.iload 8, 2) := by decide +kernel
theorem dX12_patchRows_345 : decode cX12_patchRows 345 = .ok (.iadd, 1) := by decide +kernel
theorem dX12_patchRows_346 : decode cX12_patchRows 346 = .ok (.iaload, 1) := by decide +kernel
theorem dX12_patchRows_347 : decode cX12_patchRows 347 = .ok (.if_icmp .ne 9, 3) := by decide +kernel
theorem dX12_patchRows_350 : decode cX12_patchRows 350 = .ok (.iinc 7 1, 3) := by decide +kernel
theorem dX12_patchRows_353 : decode cX12_patchRows 353 = .ok (.goto (-99), 3) := by decide +kernel
theorem dX12_patchRows_356 : decode cX12_patchRows 356 = .ok (.iinc 8 1, 3) := by decide +kernel
theorem dX12_patchRows_359 : decode cX12_patchRows 359 = .ok (.goto (-105), 3) := by decide +kernel
theorem dX12_patchRows_362 : decode cX12_patchRows 362 = .ok (.iload 5, 2) := by decide +kernel
theorem dX12_patchRows_364 : decode cX12_patchRows 364 = .ok (.iconst 1, 1) := by decide +kernel
theorem dX12_patchRows_365 : decode cX12_patchRows 365 = .ok (.isub, 1) := by decide +kernel
theorem dX12_patchRows_366 : decode cX12_patchRows 366 = .ok (.istore 9, 2) := by decide +kernel
theorem dX12_patchRows_368 : decode cX12_patchRows 368 = .ok (.iload 9, 2) := by decide +kernel
theorem dX12_patchRows_370 : decode cX12_patchRows 370 = .ok (.ifCond .lt 41, 3) := by decide +kernel
theorem dX12_patchRows_373 : decode cX12_patchRows 373 = .ok (.aload_n 0, 1) := by decide +kernel
theorem dX12_patchRows_374 : decode cX12_patchRows 374 = .ok (.getfield 284, 3) := by decide +kernel
theorem dX12_patchRows_377 : decode cX12_patchRows 377 = .ok (.iload 9, 2) := by decide +kernel
theorem dX12_patchRows_379 : decode cX12_patchRows 379 = .ok (.baload, 1) := by decide +kernel
theorem dX12_patchRows_380 : decode cX12_patchRows 380 = .ok (.ifCond .ne 25, 3) := by decide +kernel
theorem dX12_patchRows_383 : decode cX12_patchRows 383 = .ok (.aload_n 0, 1) := by decide +kernel
theorem dX12_patchRows_384 : decode cX12_patchRows 384 = .ok (.iload_n 1, 1) := by decide +kernel
theorem dX12_patchRows_385 : decode cX12_patchRows 385 = .ok (.aload_n 0, 1) := by decide +kernel
theorem dX12_patchRows_386 : decode cX12_patchRows 386 = .ok (.iload_n 1, 1) := by decide +kernel
theorem dX12_patchRows_387 : decode cX12_patchRows 387 = .ok (.iload_n 2, 1) := by decide +kernel
theorem dX12_patchRows_388 : decode cX12_patchRows 388 = .ok (.iload 9, 2) := by decide +kernel
theorem dX12_patchRows_390 : decode cX12_patchRows 390 = .ok (.invokevirtual 616, 3) := by decide +kernel
theorem dX12_patchRows_393 : decode cX12_patchRows 393 = .ok (.invokevirtual 720, 3) := by decide +kernel
theorem dX12_patchRows_396 : decode cX12_patchRows 396 = .ok (.aload_n 0, 1) := by decide +kernel
theorem dX12_patchRows_397 : decode cX12_patchRows 397 = .ok (.bipush 40, 2) := by decide +kernel
theorem dX12_patchRows_399 : decode cX12_patchRows 399 = .ok (.iconst 1, 1) := by decide +kernel
theorem dX12_patchRows_400 : decode cX12_patchRows 400 = .ok (.iload_n 1, 1) := by decide +kernel
theorem dX12_patchRows_401 : decode cX12_patchRows 401 = .ok (.iconst (-1), 1) := by decide +kernel
theorem dX12_patchRows_402 : decode cX12_patchRows 402 = .ok (.invokevirtual 723, 3) := by decide +kernel
theorem dX12_patchRows_405 : decode cX12_patchRows 405 = .ok (.iinc 9 (-1), 3) := by decide +kernel
theorem dX12_patchRows_408 : decode cX12_patchRows 408 = .ok (.goto (-40), 3) := by decide +kernel
theorem dX12_patchRows_411 : decode cX12_patchRows 411 = .ok (.iconst 0, 1) := by decide +kernel
theorem dX12_patchRows_412 : decode cX12_patchRows 412 = .ok (.istore 9, 2) := by decide +kernel
theorem dX12_patchRows_414 : decode cX12_patchRows 414 = .ok (.iload 9, 2) := by decide +kernel
theorem dX12_patchRows_416 : decode cX12_patchRows 416 = .ok (.iload 6, 2) := by decide +kernel
theorem dX12_patchRows_418 : decode cX12_patchRows 418 = .ok (.if_icmp .ge 48, 3) := by decide +kernel
theorem dX12_patchRows_421 : decode cX12_patchRows 421 = .ok (.aload_n 0, 1) := by decide +kernel
theorem dX12_patchRows_422 : decode cX12_patchRows 422 = .ok (.getfield 306, 3) := by decide +kernel
theorem dX12_patchRows_425 : decode cX12_patchRows 425 = .ok (.iload 9, 2) := by decide +kernel
theorem dX12_patchRows_427 : decode cX12_patchRows 427 = .ok (.baload, 1) := by decide +kernel
theorem dX12_patchRows_428 : decode cX12_patchRows 428 = .ok (.ifCond .ne 32, 3) := by decide +kernel
theorem dX12_patchRows_431 : decode cX12_patchRows 431 = .ok (.aload_n 0, 1) := by decide +kernel
theorem dX12_patchRows_432 : decode cX12_patchRows 432 = .ok (.iload_n 1, 1) := by decide +kernel
theorem dX12_patchRows_433 : decode cX12_patchRows 433 = .ok (.iload_n 2, 1) := by decide +kernel
theorem dX12_patchRows_434 : decode cX12_patchRows 434 = .ok (.invokevirtual 720, 3) := by decide +kernel
theorem dX12_patchRows_437 : decode cX12_patchRows 437 = .ok (.aload_n 0, 1) := by decide +kernel
theorem dX12_patchRows_438 : decode cX12_patchRows 438 = .ok (.iload 9, 2) := by decide +kernel
theorem dX12_patchRows_440 : decode cX12_patchRows 440 = .ok (.invokevirtual 726, 3) := by decide +kernel
theorem dX12_patchRows_443 : decode cX12_patchRows 443 = .ok (.aload_n 0, 1) := by decide +kernel
theorem dX12_patchRows_444 : decode cX12_patchRows 444 = .ok (.bipush 40, 2) := by decide +kernel
theorem dX12_patchRows_446 : decode cX12_patchRows 446 = .ok (.iconst 0, 1) := by decide +kernel
theorem dX12_patchRows_447 : decode cX12_patchRows 447 = .ok (.iload_n 3, 1) := by decide +kernel
theorem dX12_patchRows_448 : decode cX12_patchRows 448 = .ok (.aload_n 0, 1) := by decide +kernel
theorem dX12_patchRows_449 : decode cX12_patchRows 449 = .ok (.iload_n 3, 1) := by decide +kernel
theorem dX12_patchRows_450 : decode cX12_patchRows 450 = .ok (.iload 4, 2) := by decide +kernel
theorem dX12_patchRows_452 : decode cX12_patchRows 452 = .ok (.iload 9, 2) := by decide +kernel
theorem dX12_patchRows_454 : decode cX12_patchRows 454 = .ok (.invokevirtual 616, 3) := by decide +kernel
theorem dX12_patchRows_457 : decode cX12_patchRows 457 = .ok (.invokevirtual 723, 3) := by decide +kernel
theorem dX12_patchRows_460 : decode cX12_patchRows 460 = .ok (.iinc 9 1, 3) := by decide +kernel
theorem dX12_patchRows_463 : decode cX12_patchRows 463 = .ok (.goto (-49), 3) := by decide +kernel
theorem dX12_patchRows_466 : decode cX12_patchRows 466 = .ok (.return_, 1) := by decide +kernel
theorem dX12_patches_0 : decode cX12_patches 0 = .ok (.aload_n 0, 1) := by decide +kernel
theorem dX12_patches_1 : decode cX12_patches 1 = .ok (.iload_n 1, 1) := by decide +kernel
theorem dX12_patches_2 : decode cX12_patches 2 = .ok (.iload_n 2, 1) := by decide +kernel
theorem dX12_patches_3 : decode cX12_patches 3 = .ok (.iload_n 3, 1) := by decide +kernel
theorem dX12_patches_4 : decode cX12_patches 4 = .ok (.iload 4, 2) := by decide +kernel
theorem dX12_patches_6 : decode cX12_patches 6 = .ok (.invokevirtual 590, 3) := by decide +kernel
theorem dX12_patches_9 : decode cX12_patches 9 = .ok (.ifCond .eq 5, 3) := by decide +kernel
theorem dX12_patches_12 : decode cX12_patches 12 = .ok (.iconst 0, 1) := by decide +kernel
theorem dX12_patches_13 : decode cX12_patches 13 = .ok (.ireturn, 1) := by decide +kernel
theorem dX12_patches_14 : decode cX12_patches 14 = .ok (.aload_n 0, 1) := by decide +kernel
theorem dX12_patches_15 : decode cX12_patches 15 = .ok (.iload_n 1, 1) := by decide +kernel
theorem dX12_patches_16 : decode cX12_patches 16 = .ok (.iload_n 2, 1) := by decide +kernel
theorem dX12_patches_17 : decode cX12_patches 17 = .ok (.invokevirtual 52, 3) := by decide +kernel
theorem dX12_patches_20 : decode cX12_patches 20 = .ok (.iconst 5, 1) := by decide +kernel
theorem dX12_patches_21 : decode cX12_patches 21 = .ok (.if_icmp .ne 16, 3) := by decide +kernel
theorem dX12_patches_24 : decode cX12_patches 24 = .ok (.aload_n 0, 1) := by decide +kernel
theorem dX12_patches_25 : decode cX12_patches 25 = .ok (.iload_n 3, 1) := by decide +kernel
theorem dX12_patches_26 : decode cX12_patches 26 = .ok (.iload 4, 2) := by decide +kernel
theorem dX12_patches_28 : decode cX12_patches 28 = .ok (.invokevirtual 52, 3) := by decide +kernel
theorem dX12_patches_31 : decode cX12_patches 31 = .ok (.iconst 5, 1) := by decide +kernel
theorem dX12_patches_32 : decode cX12_patches 32 = .ok (.if_icmp .ne 5, 3) := by decide +kernel
theorem dX12_patches_35 : decode cX12_patches 35 = .ok (.iconst 1, 1) := by decide +kernel
theorem dX12_patches_36 : decode cX12_patches 36 = .ok (.ireturn, 1) := by decide +kernel
theorem dX12_patches_37 : decode cX12_patches 37 = .ok (.aload_n 0, 1) := by decide +kernel
theorem dX12_patches_38 : decode cX12_patches 38 = .ok (.iload_n 1, 1) := by decide +kernel
theorem dX12_patches_39 : decode cX12_patches 39 = .ok (.iload_n 2, 1) := by decide +kernel
theorem dX12_patches_40 : decode cX12_patches 40 = .ok (.invokevirtual 52, 3) := by decide +kernel
theorem dX12_patches_43 : decode cX12_patches 43 = .ok (.iconst 4, 1) := by decide +kernel
theorem dX12_patches_44 : decode cX12_patches 44 = .ok (.if_icmp .ne 25, 3) := by decide +kernel
theorem dX12_patches_47 : decode cX12_patches 47 = .ok (.aload_n 0, 1) := by decide +kernel
theorem dX12_patches_48 : decode cX12_patches 48 = .ok (.iload_n 3, 1) := by decide +kernel
theorem dX12_patches_49 : decode cX12_patches 49 = .ok (.iload 4, 2) := by decide +kernel
theorem dX12_patches_51 : decode cX12_patches 51 = .ok (.invokevirtual 52, 3) := by decide +kernel
theorem dX12_patches_54 : decode cX12_patches 54 = .ok (.iconst 4, 1) := by decide +kernel
theorem dX12_patches_55 : decode cX12_patches 55 = .ok (.if_icmp .ne 14, 3) := by decide +kernel
theorem dX12_patches_58 : decode cX12_patches 58 = .ok (.aload_n 0, 1) := by decide +kernel
theorem dX12_patches_59 : decode cX12_patches 59 = .ok (.iload_n 1, 1) := by decide +kernel
theorem dX12_patches_60 : decode cX12_patches 60 = .ok (.iload_n 2, 1) := by decide +kernel
theorem dX12_patches_61 : decode cX12_patches 61 = .ok (.iload_n 3, 1) := by decide +kernel
theorem dX12_patches_62 : decode cX12_patches 62 = .ok (.iload 4, 2) := by decide +kernel
theorem dX12_patches_64 : decode cX12_patches 64 = .ok (.invokevirtual 729, 3) := by decide +kernel
theorem dX12_patches_67 : decode cX12_patches 67 = .ok (.iconst 0, 1) := by decide +kernel
theorem dX12_patches_68 : decode cX12_patches 68 = .ok (.ireturn, 1) := by decide +kernel
theorem dX12_patches_69 : decode cX12_patches 69 = .ok (.aload_n 0, 1) := by decide +kernel
theorem dX12_patches_70 : decode cX12_patches 70 = .ok (.iload_n 1, 1) := by decide +kernel
theorem dX12_patches_71 : decode cX12_patches 71 = .ok (.iload_n 2, 1) := by decide +kernel
theorem dX12_patches_72 : decode cX12_patches 72 = .ok (.invokevirtual 720, 3) := by decide +kernel
theorem dX12_patches_75 : decode cX12_patches 75 = .ok (.aload_n 0, 1) := by decide +kernel
theorem dX12_patches_76 : decode cX12_patches 76 = .ok (.bipush 40, 2) := by decide +kernel
theorem dX12_patches_78 : decode cX12_patches 78 = .ok (.iconst 2, 1) := by decide +kernel
theorem dX12_patches_79 : decode cX12_patches 79 = .ok (.iload_n 3, 1) := by decide +kernel
theorem dX12_patches_80 : decode cX12_patches 80 = .ok (.iload 4, 2) := by decide +kernel
theorem dX12_patches_82 : decode cX12_patches 82 = .ok (.invokevirtual 723, 3) := by decide +kernel
theorem dX12_patches_85 : decode cX12_patches 85 = .ok (.iconst 0, 1) := by decide +kernel
theorem dX12_patches_86 : decode cX12_patches 86 = .ok (.ireturn, 1) := by decide +kernel
theorem dX12_removesKeys_0 : decode cX12_removesKeys 0 = .ok (.iload_n 2, 1) := by decide +kernel
theorem dX12_removesKeys_1 : decode cX12_removesKeys 1 = .ok (.iconst 1, 1) := by decide +kernel
theorem dX12_removesKeys_2 : decode cX12_removesKeys 2 = .ok (.iadd, 1) := by decide +kernel
theorem dX12_removesKeys_3 : decode cX12_removesKeys 3 = .ok (.istore 5, 2) := by decide +kernel
theorem dX12_removesKeys_5 : decode cX12_removesKeys 5 = .ok (.iconst 0, 1) := by decide +kernel
theorem dX12_removesKeys_6 : decode cX12_removesKeys 6 = .ok (.istore 6, 2) := by decide +kernel
theorem dX12_removesKeys_8 : decode cX12_removesKeys 8 = .ok (.iload 6, 2) := by decide +kernel
theorem dX12_removesKeys_10 : decode cX12_removesKeys 10 = .ok (.aload_n 0, 1) := by decide +kernel
theorem dX12_removesKeys_11 : decode cX12_removesKeys 11 = .ok (.iload_n 1, 1) := by decide +kernel
theorem dX12_removesKeys_12 : decode cX12_removesKeys 12 = .ok (.iload_n 2, 1) := by decide +kernel
theorem dX12_removesKeys_13 : decode cX12_removesKeys 13 = .ok (.iconst 3, 1) := by decide +kernel
theorem dX12_removesKeys_14 : decode cX12_removesKeys 14 = .ok (.invokevirtual 36, 3) := by decide +kernel
theorem dX12_removesKeys_17 : decode cX12_removesKeys 17 = .ok (.if_icmp .ge 48, 3) := by decide +kernel
theorem dX12_removesKeys_20 : decode cX12_removesKeys 20 = .ok (.aload_n 0, 1) := by decide +kernel
theorem dX12_removesKeys_21 : decode cX12_removesKeys 21 = .ok (.iload_n 3, 1) := by decide +kernel
theorem dX12_removesKeys_22 : decode cX12_removesKeys 22 = .ok (.iload 4, 2) := by decide +kernel
theorem dX12_removesKeys_24 : decode cX12_removesKeys 24 = .ok (.iload_n 1, 1) := by decide +kernel
theorem dX12_removesKeys_25 : decode cX12_removesKeys 25 = .ok (.iload 5, 2) := by decide +kernel
theorem dX12_removesKeys_27 : decode cX12_removesKeys 27 = .ok (.invokevirtual 732, 3) := by decide +kernel
theorem dX12_removesKeys_30 : decode cX12_removesKeys 30 = .ok (.iconst (-1), 1) := by decide +kernel
theorem dX12_removesKeys_31 : decode cX12_removesKeys 31 = .ok (.if_icmp .ne 19, 3) := by decide +kernel
theorem dX12_removesKeys_34 : decode cX12_removesKeys 34 = .ok (.aload_n 0, 1) := by decide +kernel
theorem dX12_removesKeys_35 : decode cX12_removesKeys 35 = .ok (.iload_n 1, 1) := by decide +kernel
theorem dX12_removesKeys_36 : decode cX12_removesKeys 36 = .ok (.iload 5, 2) := by decide +kernel
theorem dX12_removesKeys_38 : decode cX12_removesKeys 38 = .ok (.invokevirtual 720, 3) := by decide +kernel
theorem dX12_removesKeys_41 : decode cX12_removesKeys 41 = .ok (.aload_n 0, 1) := by decide +kernel
theorem dX12_removesKeys_42 : decode cX12_removesKeys 42 = .ok (.bipush 40, 2) := by decide +kernel
theorem dX12_removesKeys_44 : decode cX12_removesKeys 44 = .ok (.iconst 1, 1) := by decide +kernel
theorem dX12_removesKeys_45 : decode cX12_removesKeys 45 = .ok (.iload_n 1, 1) := by decide +kernel
theorem dX12_removesKeys_46 : decode cX12_removesKeys 46 = .ok (.iconst (-1), 1) := by decide +kernel
theorem dX12_removesKeys_47 : decode cX12_removesKeys 47 = .ok (.invokevirtual 723, 3) := by decide +kernel
theorem dX12_removesKeys_50 : decode cX12_removesKeys 50 = .ok (.aload_n 0, 1) := by decide +kernel
theorem dX12_removesKeys_51 : decode cX12_removesKeys 51 = .ok (.iload_n 1, 1) := by decide +kernel
theorem dX12_removesKeys_52 : decode cX12_removesKeys 52 = .ok (.iload 5, 2) := by decide +kernel
theorem dX12_removesKeys_54 : decode cX12_removesKeys 54 = .ok (.invokevirtual 49, 3) := by decide +kernel
theorem dX12_removesKeys_57 : decode cX12_removesKeys 57 = .ok (.istore 5, 2) := by decide +kernel
theorem dX12_removesKeys_59 : decode cX12_removesKeys 59 = .ok (.iinc 6 1, 3) := by decide +kernel
theorem dX12_removesKeys_62 : decode cX12_removesKeys 62 = .ok (.goto (-54), 3) := by decide +kernel
theorem dX12_removesKeys_65 : decode cX12_removesKeys 65 = .ok (.return_, 1) := by decide +kernel
theorem dX12_addsKeys_0 : decode cX12_addsKeys 0 = .ok (.iload 4, 2) := by decide +kernel
theorem dX12_addsKeys_2 : decode cX12_addsKeys 2 = .ok (.iconst 1, 1) := by decide +kernel
theorem dX12_addsKeys_3 : decode cX12_addsKeys 3 = .ok (.iadd, 1) := by decide +kernel
theorem dX12_addsKeys_4 : decode cX12_addsKeys 4 = .ok (.istore 5, 2) := by decide +kernel
theorem dX12_addsKeys_6 : decode cX12_addsKeys 6 = .ok (.iconst 0, 1) := by decide +kernel
theorem dX12_addsKeys_7 : decode cX12_addsKeys 7 = .ok (.istore 6, 2) := by decide +kernel
theorem dX12_addsKeys_9 : decode cX12_addsKeys 9 = .ok (.iload 6, 2) := by decide +kernel
theorem dX12_addsKeys_11 : decode cX12_addsKeys 11 = .ok (.aload_n 0, 1) := by decide +kernel
theorem dX12_addsKeys_12 : decode cX12_addsKeys 12 = .ok (.iload_n 3, 1) := by decide +kernel
theorem dX12_addsKeys_13 : decode cX12_addsKeys 13 = .ok (.iload 4, 2) := by decide +kernel
theorem dX12_addsKeys_15 : decode cX12_addsKeys 15 = .ok (.iconst 3, 1) := by decide +kernel
theorem dX12_addsKeys_16 : decode cX12_addsKeys 16 = .ok (.invokevirtual 36, 3) := by decide +kernel
theorem dX12_addsKeys_19 : decode cX12_addsKeys 19 = .ok (.if_icmp .ge 54, 3) := by decide +kernel
theorem dX12_addsKeys_22 : decode cX12_addsKeys 22 = .ok (.aload_n 0, 1) := by decide +kernel
theorem dX12_addsKeys_23 : decode cX12_addsKeys 23 = .ok (.iload_n 1, 1) := by decide +kernel
theorem dX12_addsKeys_24 : decode cX12_addsKeys 24 = .ok (.iload_n 2, 1) := by decide +kernel
theorem dX12_addsKeys_25 : decode cX12_addsKeys 25 = .ok (.iload_n 3, 1) := by decide +kernel
theorem dX12_addsKeys_26 : decode cX12_addsKeys 26 = .ok (.iload 5, 2) := by decide +kernel
theorem dX12_addsKeys_28 : decode cX12_addsKeys 28 = .ok (.invokevirtual 732, 3) := by decide +kernel
theorem dX12_addsKeys_31 : decode cX12_addsKeys 31 = .ok (.iconst (-1), 1) := by decide +kernel
theorem dX12_addsKeys_32 : decode cX12_addsKeys 32 = .ok (.if_icmp .ne 26, 3) := by decide +kernel
theorem dX12_addsKeys_35 : decode cX12_addsKeys 35 = .ok (.aload_n 0, 1) := by decide +kernel
theorem dX12_addsKeys_36 : decode cX12_addsKeys 36 = .ok (.iload_n 1, 1) := by decide +kernel
theorem dX12_addsKeys_37 : decode cX12_addsKeys 37 = .ok (.iload_n 2, 1) := by decide +kernel
theorem dX12_addsKeys_38 : decode cX12_addsKeys 38 = .ok (.invokevirtual 720, 3) := by decide +kernel
theorem dX12_addsKeys_41 : decode cX12_addsKeys 41 = .ok (.aload_n 0, 1) := by decide +kernel
theorem dX12_addsKeys_42 : decode cX12_addsKeys 42 = .ok (.iload_n 3, 1) := by decide +kernel
theorem dX12_addsKeys_43 : decode cX12_addsKeys 43 = .ok (.iload 5, 2) := by decide +kernel
theorem dX12_addsKeys_45 : decode cX12_addsKeys 45 = .ok (.invokevirtual 735, 3) := by decide +kernel
theorem dX12_addsKeys_48 : decode cX12_addsKeys 48 = .ok (.aload_n 0, 1) := by decide +kernel
theorem dX12_addsKeys_49 : decode cX12_addsKeys 49 = .ok (.bipush 40, 2) := by decide +kernel
theorem dX12_addsKeys_51 : decode cX12_addsKeys 51 = .ok (.iconst 0, 1) := by decide +kernel
theorem dX12_addsKeys_52 : decode cX12_addsKeys 52 = .ok (.iload_n 3, 1) := by decide +kernel
theorem dX12_addsKeys_53 : decode cX12_addsKeys 53 = .ok (.iload 5, 2) := by decide +kernel
theorem dX12_addsKeys_55 : decode cX12_addsKeys 55 = .ok (.invokevirtual 723, 3) := by decide +kernel
theorem dX12_addsKeys_58 : decode cX12_addsKeys 58 = .ok (.aload_n 0, 1) := by decide +kernel
theorem dX12_addsKeys_59 : decode cX12_addsKeys 59 = .ok (.iload_n 3, 1) := by decide +kernel
theorem dX12_addsKeys_60 : decode cX12_addsKeys 60 = .ok (.iload 5, 2) := by decide +kernel
theorem dX12_addsKeys_62 : decode cX12_addsKeys 62 = .ok (.invokevirtual 49, 3) := by decide +kernel
theorem dX12_addsKeys_65 : decode cX12_addsKeys 65 = .ok (.istore 5, 2) := by decide +kernel
theorem dX12_addsKeys_67 : decode cX12_addsKeys 67 = .ok (.iinc 6 1, 3) := by decide +kernel
theorem dX12_addsKeys_70 : decode cX12_addsKeys 70 = .ok (.goto (-61), 3) := by decide +kernel
theorem dX12_addsKeys_73 : decode cX12_addsKeys 73 = .ok (.return_, 1) := by decide +kernel
theorem dX12_makesPatch_0 : decode cX12_makesPatch 0 = .ok (.aload_n 0, 1) := by decide +kernel
theorem dX12_makesPatch_1 : decode cX12_makesPatch 1 = .ok (.bipush 40, 2) := by decide +kernel
theorem dX12_makesPatch_3 : decode cX12_makesPatch 3 = .ok (.invokevirtual 517, 3) := by decide +kernel
theorem dX12_makesPatch_6 : decode cX12_makesPatch 6 = .ok (.aload_n 0, 1) := by decide +kernel
theorem dX12_makesPatch_7 : decode cX12_makesPatch 7 = .ok (.iconst 0, 1) := by decide +kernel
theorem dX12_makesPatch_8 : decode cX12_makesPatch 8 = .ok (.putfield 714, 3) := by decide +kernel
theorem dX12_makesPatch_11 : decode cX12_makesPatch 11 = .ok (.aload_n 0, 1) := by decide +kernel
theorem dX12_makesPatch_12 : decode cX12_makesPatch 12 = .ok (.bipush 40, 2) := by decide +kernel
theorem dX12_makesPatch_14 : decode cX12_makesPatch 14 = .ok (.iconst 4, 1) := by decide +kernel
theorem dX12_makesPatch_15 : decode cX12_makesPatch 15 = .ok (.invokevirtual 33, 3) := by decide +kernel
theorem dX12_makesPatch_18 : decode cX12_makesPatch 18 = .ok (.istore_n 3, 1) := by decide +kernel
theorem dX12_makesPatch_19 : decode cX12_makesPatch 19 = .ok (.iconst 0, 1) := by decide +kernel
theorem dX12_makesPatch_20 : decode cX12_makesPatch 20 = .ok (.istore 4, 2) := by decide +kernel
theorem dX12_makesPatch_22 : decode cX12_makesPatch 22 = .ok (.aload_n 0, 1) := by decide +kernel
theorem dX12_makesPatch_23 : decode cX12_makesPatch 23 = .ok (.iload_n 1, 1) := by decide +kernel
theorem dX12_makesPatch_24 : decode cX12_makesPatch 24 = .ok (.iconst 0, 1) := by decide +kernel
theorem dX12_makesPatch_25 : decode cX12_makesPatch 25 = .ok (.iload_n 2, 1) := by decide +kernel
theorem dX12_makesPatch_26 : decode cX12_makesPatch 26 = .ok (.iconst 0, 1) := by decide +kernel
theorem dX12_makesPatch_27 : decode cX12_makesPatch 27 = .ok (.invokevirtual 738, 3) := by decide +kernel
theorem dX12_makesPatch_30 : decode cX12_makesPatch 30 = .ok (.ifCond .eq 35, 3) := by decide +kernel
theorem dX12_makesPatch_33 : decode cX12_makesPatch 33 = .ok (.aload_n 0, 1) := by decide +kernel
theorem dX12_makesPatch_34 : decode cX12_makesPatch 34 = .ok (.getfield 309, 3) := by decide +kernel
theorem dX12_makesPatch_37 : decode cX12_makesPatch 37 = .ok (.iconst 0, 1) := by decide +kernel
theorem dX12_makesPatch_38 : decode cX12_makesPatch 38 = .ok (.iconst 0, 1) := by decide +kernel
theorem dX12_makesPatch_39 : decode cX12_makesPatch 39 = .ok (.iastore, 1) := by decide +kernel
theorem dX12_makesPatch_40 : decode cX12_makesPatch 40 = .ok (.aload_n 0, 1) := by decide +kernel
theorem dX12_makesPatch_41 : decode cX12_makesPatch 41 = .ok (.getfield 312, 3) := by decide +kernel
theorem dX12_makesPatch_44 : decode cX12_makesPatch 44 = .ok (.iconst 0, 1) := by decide +kernel
theorem dX12_makesPatch_45 : decode cX12_makesPatch 45 = .ok (.iconst 0, 1) := by decide +kernel
theorem dX12_makesPatch_46 : decode cX12_makesPatch 46 = .ok (.iastore, 1) := by decide +kernel
theorem dX12_makesPatch_47 : decode cX12_makesPatch 47 = .ok (.aload_n 0, 1) := by decide +kernel
theorem dX12_makesPatch_48 : decode cX12_makesPatch 48 = .ok (.getfield 315, 3) := by decide +kernel
theorem dX12_makesPatch_51 : decode cX12_makesPatch 51 = .ok (.iconst 0, 1) := by decide +kernel
theorem dX12_makesPatch_52 : decode cX12_makesPatch 52 = .ok (.iconst 1, 1) := by decide +kernel
theorem dX12_makesPatch_53 : decode cX12_makesPatch 53 = .ok (.iastore, 1) := by decide +kernel
theorem dX12_makesPatch_54 : decode cX12_makesPatch 54 = .ok (.aload_n 0, 1) := by decide +kernel
theorem dX12_makesPatch_55 : decode cX12_makesPatch 55 = .ok (.iload_n 1, 1) := by decide +kernel
theorem dX12_makesPatch_56 : decode cX12_makesPatch 56 = .ok (.iconst 0, 1) := by decide +kernel
theorem dX12_makesPatch_57 : decode cX12_makesPatch 57 = .ok (.iload_n 2, 1) := by decide +kernel
theorem dX12_makesPatch_58 : decode cX12_makesPatch 58 = .ok (.iconst 0, 1) := by decide +kernel
theorem dX12_makesPatch_59 : decode cX12_makesPatch 59 = .ok (.invokevirtual 741, 3) := by decide +kernel
theorem dX12_makesPatch_62 : decode cX12_makesPatch 62 = .ok (.iconst 1, 1) := by decide +kernel
theorem dX12_makesPatch_63 : decode cX12_makesPatch 63 = .ok (.istore 4, 2) := by decide +kernel
theorem dX12_makesPatch_65 : decode cX12_makesPatch 65 = .ok (.iload 4, 2) := by decide +kernel
theorem dX12_makesPatch_67 : decode cX12_makesPatch 67 = .ok (.ifCond .le 156, 3) := by decide +kernel
theorem dX12_makesPatch_70 : decode cX12_makesPatch 70 = .ok (.aload_n 0, 1) := by decide +kernel
theorem dX12_makesPatch_71 : decode cX12_makesPatch 71 = .ok (.getfield 309, 3) := by decide +kernel
theorem dX12_makesPatch_74 : decode cX12_makesPatch 74 = .ok (.iload 4, 2) := by decide +kernel
theorem dX12_makesPatch_76 : decode cX12_makesPatch 76 = .ok (.iconst 1, 1) := by decide +kernel
theorem dX12_makesPatch_77 : decode cX12_makesPatch 77 = .ok (.isub, 1) := by decide +kernel
theorem dX12_makesPatch_78 : decode cX12_makesPatch 78 = .ok (.iaload, 1) := by decide +kernel
theorem dX12_makesPatch_79 : decode cX12_makesPatch 79 = .ok (.istore 5, 2) := by decide +kernel
theorem dX12_makesPatch_81 : decode cX12_makesPatch 81 = .ok (.aload_n 0, 1) := by decide +kernel
theorem dX12_makesPatch_82 : decode cX12_makesPatch 82 = .ok (.getfield 312, 3) := by decide +kernel
theorem dX12_makesPatch_85 : decode cX12_makesPatch 85 = .ok (.iload 4, 2) := by decide +kernel
theorem dX12_makesPatch_87 : decode cX12_makesPatch 87 = .ok (.iconst 1, 1) := by decide +kernel
theorem dX12_makesPatch_88 : decode cX12_makesPatch 88 = .ok (.isub, 1) := by decide +kernel
theorem dX12_makesPatch_89 : decode cX12_makesPatch 89 = .ok (.iaload, 1) := by decide +kernel
theorem dX12_makesPatch_90 : decode cX12_makesPatch 90 = .ok (.istore 6, 2) := by decide +kernel
theorem dX12_makesPatch_92 : decode cX12_makesPatch 92 = .ok (.aload_n 0, 1) := by decide +kernel
theorem dX12_makesPatch_93 : decode cX12_makesPatch 93 = .ok (.getfield 315, 3) := by decide +kernel
theorem dX12_makesPatch_96 : decode cX12_makesPatch 96 = .ok (.iload 4, 2) := by decide +kernel
theorem dX12_makesPatch_98 : decode cX12_makesPatch 98 = .ok (.iconst 1, 1) := by decide +kernel
theorem dX12_makesPatch_99 : decode cX12_makesPatch 99 = .ok (.isub, 1) := by decide +kernel
theorem dX12_makesPatch_100 : decode cX12_makesPatch 100 = .ok (.iaload, 1) := by decide +kernel
theorem dX12_makesPatch_101 : decode cX12_makesPatch 101 = .ok (.istore 7, 2) := by decide +kernel
theorem dX12_makesPatch_103 : decode cX12_makesPatch 103 = .ok (.iload 7, 2) := by decide +kernel
theorem dX12_makesPatch_105 : decode cX12_makesPatch 105 = .ok (.aload_n 0, 1) := by decide +kernel
theorem dX12_makesPatch_106 : decode cX12_makesPatch 106 = .ok (.iload_n 1, 1) := by decide +kernel
theorem dX12_makesPatch_107 : decode cX12_makesPatch 107 = .ok (.iload 5, 2) := by decide +kernel
theorem dX12_makesPatch_109 : decode cX12_makesPatch 109 = .ok (.invokevirtual 49, 3) := by decide +kernel
theorem dX12_makesPatch_112 : decode cX12_makesPatch 112 = .ok (.if_icmp .ne 19, 3) := by decide +kernel
theorem dX12_makesPatch_115 : decode cX12_makesPatch 115 = .ok (.aload_n 0, 1) := by decide +kernel
theorem dX12_makesPatch_116 : decode cX12_makesPatch 116 = .ok (.iload_n 1, 1) := by decide +kernel
theorem dX12_makesPatch_117 : decode cX12_makesPatch 117 = .ok (.iload 5, 2) := by decide +kernel
theorem dX12_makesPatch_119 : decode cX12_makesPatch 119 = .ok (.iload_n 2, 1) := by decide +kernel
theorem dX12_makesPatch_120 : decode cX12_makesPatch 120 = .ok (.iload 6, 2) := by decide +kernel
theorem dX12_makesPatch_122 : decode cX12_makesPatch 122 = .ok (.invokevirtual 744, 3) := by decide +kernel
theorem dX12_makesPatch_125 : decode cX12_makesPatch 125 = .ok (.iinc 4 (-1), 3) := by decide +kernel
theorem dX12_makesPatch_128 : decode cX12_makesPatch 128 = .ok (.goto 92, 3) := by decide +kernel
theorem dX12_makesPatch_131 : decode cX12_makesPatch 131 = .ok (.aload_n 0, 1) := by decide +kernel
theorem dX12_makesPatch_132 : decode cX12_makesPatch 132 = .ok (.getfield 315, 3) := by decide +kernel
theorem dX12_makesPatch_135 : decode cX12_makesPatch 135 = .ok (.iload 4, 2) := by decide +kernel
theorem dX12_makesPatch_137 : decode cX12_makesPatch 137 = .ok (.iconst 1, 1) := by decide +kernel
theorem dX12_makesPatch_138 : decode cX12_makesPatch 138 = .ok (.isub, 1) := by decide +kernel
theorem dX12_makesPatch_139 : decode cX12_makesPatch 139 = .ok (.aload_n 0, 1) := by decide +kernel
theorem dX12_makesPatch_140 : decode cX12_makesPatch 140 = .ok (.iload_n 1, 1) := by decide +kernel
theorem dX12_makesPatch_141 : decode cX12_makesPatch 141 = .ok (.iload 7, 2) := by decide +kernel
theorem dX12_makesPatch_143 : decode cX12_makesPatch 143 = .ok (.invokevirtual 49, 3) := by decide +kernel
theorem dX12_makesPatch_146 : decode cX12_makesPatch 146 = .ok (.iastore, 1) := by decide +kernel
theorem dX12_makesPatch_147 : decode cX12_makesPatch 147 = .ok (.aload_n 0, 1) := by decide +kernel
theorem dX12_makesPatch_148 : decode cX12_makesPatch 148 = .ok (.iload_n 2, 1) := by decide +kernel
theorem dX12_makesPatch_149 : decode cX12_makesPatch 149 = .ok (.iload 6, 2) := by decide +kernel
theorem dX12_makesPatch_151 : decode cX12_makesPatch 151 = .ok (.iload_n 1, 1) := by decide +kernel
theorem dX12_makesPatch_152 : decode cX12_makesPatch 152 = .ok (.iload 7, 2) := by decide +kernel
theorem dX12_makesPatch_154 : decode cX12_makesPatch 154 = .ok (.invokevirtual 732, 3) := by decide +kernel
theorem dX12_makesPatch_157 : decode cX12_makesPatch 157 = .ok (.istore 8, 2) := by decide +kernel
theorem dX12_makesPatch_159 : decode cX12_makesPatch 159 = .ok (.iload 8, 2) := by decide +kernel
theorem dX12_makesPatch_161 : decode cX12_makesPatch 161 = .ok (.iconst (-1), 1) := by decide +kernel
theorem dX12_makesPatch_162 : decode cX12_makesPatch 162 = .ok (.if_icmp .eq 58, 3) := by decide +kernel
theorem dX12_makesPatch_165 : decode cX12_makesPatch 165 = .ok (.aload_n 0, 1) := by decide +kernel
theorem dX12_makesPatch_166 : decode cX12_makesPatch 166 = .ok (.iload_n 1, 1) := by decide +kernel
theorem dX12_makesPatch_167 : decode cX12_makesPatch 167 = .ok (.iload 7, 2) := by decide +kernel
theorem dX12_makesPatch_169 : decode cX12_makesPatch 169 = .ok (.iload_n 2, 1) := by decide +kernel
theorem dX12_makesPatch_170 : decode cX12_makesPatch 170 = .ok (.iload 8, 2) := by decide +kernel
theorem dX12_makesPatch_172 : decode cX12_makesPatch 172 = .ok (.invokevirtual 738, 3) := by decide +kernel
theorem dX12_makesPatch_175 : decode cX12_makesPatch 175 = .ok (.ifCond .eq 45, 3) := by decide +kernel
theorem dX12_makesPatch_178 : decode cX12_makesPatch 178 = .ok (.aload_n 0, 1) := by decide +kernel
theorem dX12_makesPatch_179 : decode cX12_makesPatch 179 = .ok (.iload_n 1, 1) := by decide +kernel
theorem dX12_makesPatch_180 : decode cX12_makesPatch 180 = .ok (.iload 7, 2) := by decide +kernel
theorem dX12_makesPatch_182 : decode cX12_makesPatch 182 = .ok (.iload_n 2, 1) := by decide +kernel
theorem dX12_makesPatch_183 : decode cX12_makesPatch 183 = .ok (.iload 8, 2) := by decide +kernel
theorem dX12_makesPatch_185 : decode cX12_makesPatch 185 = .ok (.invokevirtual 741, 3) := by decide +kernel
theorem dX12_makesPatch_188 : decode cX12_makesPatch 188 = .ok (.aload_n 0, 1) := by decide +kernel
theorem dX12_makesPatch_189 : decode cX12_makesPatch 189 = .ok (.getfield 309, 3) := by decide +kernel
theorem dX12_makesPatch_192 : decode cX12_makesPatch 192 = .ok (.iload 4, 2) := by decide +kernel
theorem dX12_makesPatch_194 : decode cX12_makesPatch 194 = .ok (.iload 7, 2) := by decide +kernel
theorem dX12_makesPatch_196 : decode cX12_makesPatch 196 = .ok (.iastore, 1) := by decide +kernel
theorem dX12_makesPatch_197 : decode cX12_makesPatch 197 = .ok (.aload_n 0, 1) := by decide +kernel
theorem dX12_makesPatch_198 : decode cX12_makesPatch 198 = .ok (.getfield 312, 3) := by decide +kernel
theorem dX12_makesPatch_201 : decode cX12_makesPatch 201 = .ok (.iload 4, 2) := by decide +kernel
theorem dX12_makesPatch_203 : decode cX12_makesPatch 203 = .ok (.iload 8, 2) := by decide +kernel
theorem dX12_makesPatch_205 : decode cX12_makesPatch 205 = .ok (.iastore, 1) := by decide +kernel
theorem dX12_makesPatch_206 : decode cX12_makesPatch 206 = .ok (.aload_n 0, 1) := by decide +kernel
theorem dX12_makesPatch_207 : decode cX12_makesPatch 207 = .ok (.getfield 315, 3) := by decide +kernel
theorem dX12_makesPatch_210 : decode cX12_makesPatch 210 = .ok (.iload 4, 2) := by decide +kernel
theorem dX12_makesPatch_212 : decode cX12_makesPatch 212 = .ok (.iload 7, 2) := by decide +kernel
theorem dX12_makesPatch_214 : decode cX12_makesPatch 214 = .ok (.iconst 1, 1) := by decide +kernel
theorem dX12_makesPatch_215 : decode cX12_makesPatch 215 = .ok (.iadd, 1) := by decide +kernel
theorem dX12_makesPatch_216 : decode cX12_makesPatch 216 = .ok (.iastore, 1) := by decide +kernel
theorem dX12_makesPatch_217 : decode cX12_makesPatch 217 = .ok (.iinc 4 1, 3) := by decide +kernel
theorem dX12_makesPatch_220 : decode cX12_makesPatch 220 = .ok (.goto (-155), 3) := by decide +kernel
theorem dX12_makesPatch_223 : decode cX12_makesPatch 223 = .ok (.return_, 1) := by decide +kernel
theorem dX12_patch_0 : decode cX12_patch 0 = .ok (.aload_n 0, 1) := by decide +kernel
theorem dX12_patch_1 : decode cX12_patch 1 = .ok (.aload_n 0, 1) := by decide +kernel
theorem dX12_patch_2 : decode cX12_patch 2 = .ok (.iload_n 1, 1) := by decide +kernel
theorem dX12_patch_3 : decode cX12_patch 3 = .ok (.invokevirtual 22, 3) := by decide +kernel
theorem dX12_patch_6 : decode cX12_patch 6 = .ok (.ifCond .eq 15, 3) := by decide +kernel
theorem dX12_patch_9 : decode cX12_patch 9 = .ok (.aload_n 0, 1) := by decide +kernel
theorem dX12_patch_10 : decode cX12_patch 10 = .ok (.iload_n 2, 1) := by decide +kernel
theorem dX12_patch_11 : decode cX12_patch 11 = .ok (.invokevirtual 22, 3) := by decide +kernel
theorem dX12_patch_14 : decode cX12_patch 14 = .ok (.ifCond .eq 7, 3) := by decide +kernel
theorem dX12_patch_17 : decode cX12_patch 17 = .ok (.iconst 1, 1) := by decide +kernel
theorem dX12_patch_18 : decode cX12_patch 18 = .ok (.goto 4, 3) := by decide +kernel
theorem dX12_patch_21 : decode cX12_patch 21 = .ok (.iconst 0, 1) := by decide +kernel
theorem dX12_patch_22 : decode cX12_patch 22 = .ok (.iconst 1, 1) := by decide +kernel
theorem dX12_patch_23 : decode cX12_patch 23 = .ok (.invokevirtual 456, 3) := by decide +kernel
theorem dX12_patch_26 : decode cX12_patch 26 = .ok (.ifCond .eq 5, 3) := by decide +kernel
theorem dX12_patch_29 : decode cX12_patch 29 = .ok (.iconst 0, 1) := by decide +kernel
theorem dX12_patch_30 : decode cX12_patch 30 = .ok (.ireturn, 1) := by decide +kernel
theorem dX12_patch_31 : decode cX12_patch 31 = .ok (.aload_n 0, 1) := by decide +kernel
theorem dX12_patch_32 : decode cX12_patch 32 = .ok (.iload_n 1, 1) := by decide +kernel
theorem dX12_patch_33 : decode cX12_patch 33 = .ok (.iload_n 2, 1) := by decide +kernel
theorem dX12_patch_34 : decode cX12_patch 34 = .ok (.invokevirtual 747, 3) := by decide +kernel
theorem dX12_patch_37 : decode cX12_patch 37 = .ok (.aload_n 0, 1) := by decide +kernel
theorem dX12_patch_38 : decode cX12_patch 38 = .ok (.aload_n 0, 1) := by decide +kernel
theorem dX12_patch_39 : decode cX12_patch 39 = .ok (.getfield 714, 3) := by decide +kernel
theorem dX12_patch_42 : decode cX12_patch 42 = .ok (.ifCond .ne 25, 3) := by decide +kernel
theorem dX12_patch_45 : decode cX12_patch 45 = .ok (.aload_n 0, 1) := by decide +kernel
theorem dX12_patch_46 : decode cX12_patch 46 = .ok (.bipush 40, 2) := by decide +kernel
theorem dX12_patch_48 : decode cX12_patch 48 = .ok (.invokevirtual 601, 3) := by decide +kernel
theorem dX12_patch_51 : decode cX12_patch 51 = .ok (.ifCond .eq 16, 3) := by decide +kernel
theorem dX12_patch_54 : decode cX12_patch 54 = .ok (.aload_n 0, 1) := by decide +kernel
theorem dX12_patch_55 : decode cX12_patch 55 = .ok (.getfield 15, 3) := by decide +kernel
theorem dX12_patch_58 : decode cX12_patch 58 = .ok (.bipush 40, 2) := by decide +kernel
theorem dX12_patch_60 : decode cX12_patch 60 = .ok (.if_icmp .ge 7, 3) := by decide +kernel
theorem dX12_patch_63 : decode cX12_patch 63 = .ok (.iconst 1, 1) := by decide +kernel
theorem dX12_patch_64 : decode cX12_patch 64 = .ok (.goto 4, 3) := by decide +kernel
theorem dX12_patch_67 : decode cX12_patch 67 = .ok (.iconst 0, 1) := by decide +kernel
theorem dX12_patch_68 : decode cX12_patch 68 = .ok (.iconst 2, 1) := by decide +kernel
theorem dX12_patch_69 : decode cX12_patch 69 = .ok (.invokevirtual 456, 3) := by decide +kernel
theorem dX12_patch_72 : decode cX12_patch 72 = .ok (.ifCond .eq 7, 3) := by decide +kernel
theorem dX12_patch_75 : decode cX12_patch 75 = .ok (.iconst 0, 1) := by decide +kernel
theorem dX12_patch_76 : decode cX12_patch 76 = .ok (.goto 9, 3) := by decide +kernel
theorem dX12_patch_79 : decode cX12_patch 79 = .ok (.aload_n 0, 1) := by decide +kernel
theorem dX12_patch_80 : decode cX12_patch 80 = .ok (.bipush 40, 2) := by decide +kernel
theorem dX12_patch_82 : decode cX12_patch 82 = .ok (.invokevirtual 536, 3) := by decide +kernel
theorem dX12_patch_85 : decode cX12_patch 85 = .ok (.ireturn, 1) := by decide +kernel
theorem dX12_undoesPut_0 : decode cX12_undoesPut 0 = .ok (.aload_n 0, 1) := by decide +kernel
theorem dX12_undoesPut_1 : decode cX12_undoesPut 1 = .ok (.getfield 604, 3) := by decide +kernel
theorem dX12_undoesPut_4 : decode cX12_undoesPut 4 = .ok (.ifCond .ne 7, 3) := by decide +kernel
theorem dX12_undoesPut_7 : decode cX12_undoesPut 7 = .ok (.iconst 0, 1) := by decide +kernel
theorem dX12_undoesPut_8 : decode cX12_undoesPut 8 = .ok (.goto 12, 3) := by decide +kernel
theorem dX12_undoesPut_11 : decode cX12_undoesPut 11 = .ok (.aload_n 0, 1) := by decide +kernel
theorem dX12_undoesPut_12 : decode cX12_undoesPut 12 = .ok (.iload_n 1, 1) := by decide +kernel
theorem dX12_undoesPut_13 : decode cX12_undoesPut 13 = .ok (.aload_n 0, 1) := by decide +kernel
theorem dX12_undoesPut_14 : decode cX12_undoesPut 14 = .ok (.getfield 604, 3) := by decide +kernel
theorem dX12_undoesPut_17 : decode cX12_undoesPut 17 = .ok (.invokevirtual 663, 3) := by decide +kernel
theorem dX12_undoesPut_20 : decode cX12_undoesPut 20 = .ok (.istore_n 2, 1) := by decide +kernel
theorem dX12_undoesPut_21 : decode cX12_undoesPut 21 = .ok (.aload_n 0, 1) := by decide +kernel
theorem dX12_undoesPut_22 : decode cX12_undoesPut 22 = .ok (.getfield 604, 3) := by decide +kernel
theorem dX12_undoesPut_25 : decode cX12_undoesPut 25 = .ok (.ifCond .ne 7, 3) := by decide +kernel
theorem dX12_undoesPut_28 : decode cX12_undoesPut 28 = .ok (.iconst 0, 1) := by decide +kernel
theorem dX12_undoesPut_29 : decode cX12_undoesPut 29 = .ok (.goto 7, 3) := by decide +kernel
theorem dX12_undoesPut_32 : decode cX12_undoesPut 32 = .ok (.aload_n 0, 1) := by decide +kernel
theorem dX12_undoesPut_33 : decode cX12_undoesPut 33 = .ok (.invokevirtual 660, 3) := by decide +kernel
theorem dX12_undoesPut_36 : decode cX12_undoesPut 36 = .ok (.istore_n 3, 1) := by decide +kernel
theorem dX12_undoesPut_37 : decode cX12_undoesPut 37 = .ok (.aload_n 0, 1) := by decide +kernel
theorem dX12_undoesPut_38 : decode cX12_undoesPut 38 = .ok (.getfield 604, 3) := by decide +kernel
theorem dX12_undoesPut_41 : decode cX12_undoesPut 41 = .ok (.ifCond .ne 7, 3) := by decide +kernel
theorem dX12_undoesPut_44 : decode cX12_undoesPut 44 = .ok (.iconst (-1), 1) := by decide +kernel
theorem dX12_undoesPut_45 : decode cX12_undoesPut 45 = .ok (.goto 9, 3) := by decide +kernel
theorem dX12_undoesPut_48 : decode cX12_undoesPut 48 = .ok (.aload_n 0, 1) := by decide +kernel
theorem dX12_undoesPut_49 : decode cX12_undoesPut 49 = .ok (.iload_n 1, 1) := by decide +kernel
theorem dX12_undoesPut_50 : decode cX12_undoesPut 50 = .ok (.iload_n 3, 1) := by decide +kernel
theorem dX12_undoesPut_51 : decode cX12_undoesPut 51 = .ok (.invokevirtual 663, 3) := by decide +kernel
theorem dX12_undoesPut_54 : decode cX12_undoesPut 54 = .ok (.istore 4, 2) := by decide +kernel
theorem dX12_undoesPut_56 : decode cX12_undoesPut 56 = .ok (.aload_n 0, 1) := by decide +kernel
theorem dX12_undoesPut_57 : decode cX12_undoesPut 57 = .ok (.getfield 604, 3) := by decide +kernel
theorem dX12_undoesPut_60 : decode cX12_undoesPut 60 = .ok (.ifCond .eq 19, 3) := by decide +kernel
theorem dX12_undoesPut_63 : decode cX12_undoesPut 63 = .ok (.aload_n 0, 1) := by decide +kernel
theorem dX12_undoesPut_64 : decode cX12_undoesPut 64 = .ok (.iload_n 1, 1) := by decide +kernel
theorem dX12_undoesPut_65 : decode cX12_undoesPut 65 = .ok (.iload 4, 2) := by decide +kernel
theorem dX12_undoesPut_67 : decode cX12_undoesPut 67 = .ok (.invokevirtual 52, 3) := by decide +kernel
theorem dX12_undoesPut_70 : decode cX12_undoesPut 70 = .ok (.iconst 5, 1) := by decide +kernel
theorem dX12_undoesPut_71 : decode cX12_undoesPut 71 = .ok (.if_icmp .ne 18, 3) := by decide +kernel
theorem dX12_undoesPut_74 : decode cX12_undoesPut 74 = .ok (.iload_n 2, 1) := by decide +kernel
theorem dX12_undoesPut_75 : decode cX12_undoesPut 75 = .ok (.iconst (-1), 1) := by decide +kernel
theorem dX12_undoesPut_76 : decode cX12_undoesPut 76 = .ok (.if_icmp .eq 13, 3) := by decide +kernel
theorem dX12_undoesPut_79 : decode cX12_undoesPut 79 = .ok (.aload_n 0, 1) := by decide +kernel
theorem dX12_undoesPut_80 : decode cX12_undoesPut 80 = .ok (.bipush 41, 2) := by decide +kernel
theorem dX12_undoesPut_82 : decode cX12_undoesPut 82 = .ok (.iconst 2, 1) := by decide +kernel
theorem dX12_undoesPut_83 : decode cX12_undoesPut 83 = .ok (.iload_n 1, 1) := by decide +kernel
theorem dX12_undoesPut_84 : decode cX12_undoesPut 84 = .ok (.iload_n 2, 1) := by decide +kernel
theorem dX12_undoesPut_85 : decode cX12_undoesPut 85 = .ok (.invokevirtual 723, 3) := by decide +kernel
theorem dX12_undoesPut_88 : decode cX12_undoesPut 88 = .ok (.return_, 1) := by decide +kernel
theorem dX12_undoesPut_89 : decode cX12_undoesPut 89 = .ok (.aload_n 0, 1) := by decide +kernel
theorem dX12_undoesPut_90 : decode cX12_undoesPut 90 = .ok (.iload_n 1, 1) := by decide +kernel
theorem dX12_undoesPut_91 : decode cX12_undoesPut 91 = .ok (.iload 4, 2) := by decide +kernel
theorem dX12_undoesPut_93 : decode cX12_undoesPut 93 = .ok (.invokevirtual 52, 3) := by decide +kernel
theorem dX12_undoesPut_96 : decode cX12_undoesPut 96 = .ok (.iconst 4, 1) := by decide +kernel
theorem dX12_undoesPut_97 : decode cX12_undoesPut 97 = .ok (.if_icmp .ne 43, 3) := by decide +kernel
theorem dX12_undoesPut_100 : decode cX12_undoesPut 100 = .ok (.aload_n 0, 1) := by decide +kernel
theorem dX12_undoesPut_101 : decode cX12_undoesPut 101 = .ok (.getfield 604, 3) := by decide +kernel
theorem dX12_undoesPut_104 : decode cX12_undoesPut 104 = .ok (.iload_n 3, 1) := by decide +kernel
theorem dX12_undoesPut_105 : decode cX12_undoesPut 105 = .ok (.iconst 2, 1) := by decide +kernel
theorem dX12_undoesPut_106 : decode cX12_undoesPut 106 = .ok (.iadd, 1) := by decide +kernel
theorem dX12_undoesPut_107 : decode cX12_undoesPut 107 = .ok (.if_icmp .ne 33, 3) := by decide +kernel
theorem dX12_undoesPut_110 : decode cX12_undoesPut 110 = .ok (.aload_n 0, 1) := by decide +kernel
theorem dX12_undoesPut_111 : decode cX12_undoesPut 111 = .ok (.getfield 275, 3) := by decide +kernel
theorem dX12_undoesPut_114 : decode cX12_undoesPut 114 = .ok (.iload_n 3, 1) := by decide +kernel
theorem dX12_undoesPut_115 : decode cX12_undoesPut 115 = .ok (.iconst 1, 1) := by decide +kernel
theorem dX12_undoesPut_116 : decode cX12_undoesPut 116 = .ok (.iadd, 1) := by decide +kernel
theorem dX12_undoesPut_117 : decode cX12_undoesPut 117 = .ok (.iaload, 1) := by decide +kernel
theorem dX12_undoesPut_118 : decode cX12_undoesPut 118 = .ok (.bipush 45, 2) := by decide +kernel
theorem dX12_undoesPut_120 : decode cX12_undoesPut 120 = .ok (.if_icmp .ne 20, 3) := by decide +kernel
theorem dX12_undoesPut_123 : decode cX12_undoesPut 123 = .ok (.aload_n 0, 1) := by decide +kernel
theorem dX12_undoesPut_124 : decode cX12_undoesPut 124 = .ok (.iload_n 3, 1) := by decide +kernel
theorem dX12_undoesPut_125 : decode cX12_undoesPut 125 = .ok (.putfield 604, 3) := by decide +kernel
theorem dX12_undoesPut_128 : decode cX12_undoesPut 128 = .ok (.aload_n 0, 1) := by decide +kernel
theorem dX12_undoesPut_129 : decode cX12_undoesPut 129 = .ok (.aload_n 0, 1) := by decide +kernel
theorem dX12_undoesPut_130 : decode cX12_undoesPut 130 = .ok (.iload_n 1, 1) := by decide +kernel
theorem dX12_undoesPut_131 : decode cX12_undoesPut 131 = .ok (.iload 4, 2) := by decide +kernel
theorem dX12_undoesPut_133 : decode cX12_undoesPut 133 = .ok (.iconst 3, 1) := by decide +kernel
theorem dX12_undoesPut_134 : decode cX12_undoesPut 134 = .ok (.invokevirtual 36, 3) := by decide +kernel
theorem dX12_undoesPut_137 : decode cX12_undoesPut 137 = .ok (.invokevirtual 726, 3) := by decide +kernel
theorem dX12_undoesPut_140 : decode cX12_undoesPut 140 = .ok (.aload_n 0, 1) := by decide +kernel
theorem dX12_undoesPut_141 : decode cX12_undoesPut 141 = .ok (.bipush 41, 2) := by decide +kernel
theorem dX12_undoesPut_143 : decode cX12_undoesPut 143 = .ok (.iconst 1, 1) := by decide +kernel
theorem dX12_undoesPut_144 : decode cX12_undoesPut 144 = .ok (.iload_n 1, 1) := by decide +kernel
theorem dX12_undoesPut_145 : decode cX12_undoesPut 145 = .ok (.iconst (-1), 1) := by decide +kernel
theorem dX12_undoesPut_146 : decode cX12_undoesPut 146 = .ok (.invokevirtual 723, 3) := by decide +kernel
theorem dX12_undoesPut_149 : decode cX12_undoesPut 149 = .ok (.return_, 1) := by decide +kernel
theorem dX12_undoes_0 : decode cX12_undoes 0 = .ok (.aload_n 0, 1) := by decide +kernel
theorem dX12_undoes_1 : decode cX12_undoes 1 = .ok (.iload_n 1, 1) := by decide +kernel
theorem dX12_undoes_2 : decode cX12_undoes 2 = .ok (.iload_n 2, 1) := by decide +kernel
theorem dX12_undoes_3 : decode cX12_undoes 3 = .ok (.invokevirtual 701, 3) := by decide +kernel
theorem dX12_undoes_6 : decode cX12_undoes 6 = .ok (.istore_n 3, 1) := by decide +kernel
theorem dX12_undoes_7 : decode cX12_undoes 7 = .ok (.iload_n 3, 1) := by decide +kernel
theorem dX12_undoes_8 : decode cX12_undoes 8 = .ok (.iconst 5, 1) := by decide +kernel
theorem dX12_undoes_9 : decode cX12_undoes 9 = .ok (.if_icmp .ne 30, 3) := by decide +kernel
theorem dX12_undoes_12 : decode cX12_undoes 12 = .ok (.aload_n 0, 1) := by decide +kernel
theorem dX12_undoes_13 : decode cX12_undoes 13 = .ok (.iload_n 1, 1) := by decide +kernel
theorem dX12_undoes_14 : decode cX12_undoes 14 = .ok (.iload_n 2, 1) := by decide +kernel
theorem dX12_undoes_15 : decode cX12_undoes 15 = .ok (.ldc2_w 685, 3) := by decide +kernel
theorem dX12_undoes_18 : decode cX12_undoes 18 = .ok (.invokevirtual 704, 3) := by decide +kernel
theorem dX12_undoes_21 : decode cX12_undoes 21 = .ok (.aload_n 0, 1) := by decide +kernel
theorem dX12_undoes_22 : decode cX12_undoes 22 = .ok (.bipush 41, 2) := by decide +kernel
theorem dX12_undoes_24 : decode cX12_undoes 24 = .ok (.iconst 5, 1) := by decide +kernel
theorem dX12_undoes_25 : decode cX12_undoes 25 = .ok (.iload_n 1, 1) := by decide +kernel
theorem dX12_undoes_26 : decode cX12_undoes 26 = .ok (.aload_n 0, 1) := by decide +kernel
theorem dX12_undoes_27 : decode cX12_undoes 27 = .ok (.iload_n 1, 1) := by decide +kernel
theorem dX12_undoes_28 : decode cX12_undoes 28 = .ok (.iload_n 2, 1) := by decide +kernel
theorem dX12_undoes_29 : decode cX12_undoes 29 = .ok (.ldc2_w 699, 3) := by decide +kernel
theorem dX12_undoes_32 : decode cX12_undoes 32 = .ok (.invokevirtual 681, 3) := by decide +kernel
theorem dX12_undoes_35 : decode cX12_undoes 35 = .ok (.invokevirtual 723, 3) := by decide +kernel
theorem dX12_undoes_38 : decode cX12_undoes 38 = .ok (.return_, 1) := by decide +kernel
theorem dX12_undoes_39 : decode cX12_undoes 39 = .ok (.iload_n 3, 1) := by decide +kernel
theorem dX12_undoes_40 : decode cX12_undoes 40 = .ok (.iconst 3, 1) := by decide +kernel
theorem dX12_undoes_41 : decode cX12_undoes 41 = .ok (.if_icmp .ne 66, 3) := by decide +kernel
theorem dX12_undoes_44 : decode cX12_undoes 44 = .ok (.aload_n 0, 1) := by decide +kernel
theorem dX12_undoes_45 : decode cX12_undoes 45 = .ok (.iload_n 1, 1) := by decide +kernel
theorem dX12_undoes_46 : decode cX12_undoes 46 = .ok (.iload_n 2, 1) := by decide +kernel
theorem dX12_undoes_47 : decode cX12_undoes 47 = .ok (.ldc2_w 697, 3) := by decide +kernel
theorem dX12_undoes_50 : decode cX12_undoes 50 = .ok (.invokevirtual 704, 3) := by decide +kernel
theorem dX12_undoes_53 : decode cX12_undoes 53 = .ok (.aload_n 0, 1) := by decide +kernel
theorem dX12_undoes_54 : decode cX12_undoes 54 = .ok (.bipush 44, 2) := by decide +kernel
theorem dX12_undoes_56 : decode cX12_undoes 56 = .ok (.bipush 42, 2) := by decide +kernel
theorem dX12_undoes_58 : decode cX12_undoes 58 = .ok (.invokevirtual 676, 3) := by decide +kernel
theorem dX12_undoes_61 : decode cX12_undoes 61 = .ok (.istore 4, 2) := by decide +kernel
theorem dX12_undoes_63 : decode cX12_undoes 63 = .ok (.aload_n 0, 1) := by decide +kernel
theorem dX12_undoes_64 : decode cX12_undoes 64 = .ok (.iload_n 1, 1) := by decide +kernel
theorem dX12_undoes_65 : decode cX12_undoes 65 = .ok (.iload_n 2, 1) := by decide +kernel
theorem dX12_undoes_66 : decode cX12_undoes 66 = .ok (.ldc2_w 685, 3) := by decide +kernel
theorem dX12_undoes_69 : decode cX12_undoes 69 = .ok (.invokevirtual 704, 3) := by decide +kernel
theorem dX12_undoes_72 : decode cX12_undoes 72 = .ok (.aload_n 0, 1) := by decide +kernel
theorem dX12_undoes_73 : decode cX12_undoes 73 = .ok (.bipush 44, 2) := by decide +kernel
theorem dX12_undoes_75 : decode cX12_undoes 75 = .ok (.invokevirtual 750, 3) := by decide +kernel
theorem dX12_undoes_78 : decode cX12_undoes 78 = .ok (.aload_n 0, 1) := by decide +kernel
theorem dX12_undoes_79 : decode cX12_undoes 79 = .ok (.iload_n 1, 1) := by decide +kernel
theorem dX12_undoes_80 : decode cX12_undoes 80 = .ok (.iload_n 2, 1) := by decide +kernel
theorem dX12_undoes_81 : decode cX12_undoes 81 = .ok (.ldc2_w 697, 3) := by decide +kernel
theorem dX12_undoes_84 : decode cX12_undoes 84 = .ok (.invokevirtual 704, 3) := by decide +kernel
theorem dX12_undoes_87 : decode cX12_undoes 87 = .ok (.aload_n 0, 1) := by decide +kernel
theorem dX12_undoes_88 : decode cX12_undoes 88 = .ok (.bipush 41, 2) := by decide +kernel
theorem dX12_undoes_90 : decode cX12_undoes 90 = .ok (.iconst 0, 1) := by decide +kernel
theorem dX12_undoes_91 : decode cX12_undoes 91 = .ok (.bipush 42, 2) := by decide +kernel
theorem dX12_undoes_93 : decode cX12_undoes 93 = .ok (.aload_n 0, 1) := by decide +kernel
theorem dX12_undoes_94 : decode cX12_undoes 94 = .ok (.bipush 42, 2) := by decide +kernel
theorem dX12_undoes_96 : decode cX12_undoes 96 = .ok (.aload_n 0, 1) := by decide +kernel
theorem dX12_undoes_97 : decode cX12_undoes 97 = .ok (.getfield 604, 3) := by decide +kernel
theorem dX12_undoes_100 : decode cX12_undoes 100 = .ok (.invokevirtual 663, 3) := by decide +kernel
theorem dX12_undoes_103 : decode cX12_undoes 103 = .ok (.invokevirtual 723, 3) := by decide +kernel
theorem dX12_undoes_106 : decode cX12_undoes 106 = .ok (.return_, 1) := by decide +kernel
theorem dX12_undoes_107 : decode cX12_undoes 107 = .ok (.aload_n 0, 1) := by decide +kernel
theorem dX12_undoes_108 : decode cX12_undoes 108 = .ok (.iload_n 1, 1) := by decide +kernel
theorem dX12_undoes_109 : decode cX12_undoes 109 = .ok (.iload_n 2, 1) := by decide +kernel
theorem dX12_undoes_110 : decode cX12_undoes 110 = .ok (.ldc2_w 685, 3) := by decide +kernel
theorem dX12_undoes_113 : decode cX12_undoes 113 = .ok (.invokevirtual 704, 3) := by decide +kernel
theorem dX12_undoes_116 : decode cX12_undoes 116 = .ok (.iload_n 3, 1) := by decide +kernel
theorem dX12_undoes_117 : decode cX12_undoes 117 = .ok (.ifCond .eq 8, 3) := by decide +kernel
theorem dX12_undoes_120 : decode cX12_undoes 120 = .ok (.iload_n 3, 1) := by decide +kernel
theorem dX12_undoes_121 : decode cX12_undoes 121 = .ok (.iconst 4, 1) := by decide +kernel
theorem dX12_undoes_122 : decode cX12_undoes 122 = .ok (.if_icmp .ne 12, 3) := by decide +kernel
theorem dX12_undoes_125 : decode cX12_undoes 125 = .ok (.aload_n 0, 1) := by decide +kernel
theorem dX12_undoes_126 : decode cX12_undoes 126 = .ok (.bipush 42, 2) := by decide +kernel
theorem dX12_undoes_128 : decode cX12_undoes 128 = .ok (.invokevirtual 750, 3) := by decide +kernel
theorem dX12_undoes_131 : decode cX12_undoes 131 = .ok (.goto 31, 3) := by decide +kernel
theorem dX12_undoes_134 : decode cX12_undoes 134 = .ok (.aload_n 0, 1) := by decide +kernel
theorem dX12_undoes_135 : decode cX12_undoes 135 = .ok (.bipush 41, 2) := by decide +kernel
theorem dX12_undoes_137 : decode cX12_undoes 137 = .ok (.iload_n 3, 1) := by decide +kernel
theorem dX12_undoes_138 : decode cX12_undoes 138 = .ok (.iconst 1, 1) := by decide +kernel
theorem dX12_undoes_139 : decode cX12_undoes 139 = .ok (.if_icmp .ne 7, 3) := by decide +kernel
theorem dX12_undoes_142 : decode cX12_undoes 142 = .ok (.iconst 0, 1) := by decide +kernel
theorem dX12_undoes_143 : decode cX12_undoes 143 = .ok (.goto 4, 3) := by decide +kernel
theorem dX12_undoes_146 : decode cX12_undoes 146 = .ok (.iconst 2, 1) := by decide +kernel
theorem dX12_undoes_147 : decode cX12_undoes 147 = .ok (.bipush 42, 2) := by decide +kernel
theorem dX12_undoes_149 : decode cX12_undoes 149 = .ok (.aload_n 0, 1) := by decide +kernel
theorem dX12_undoes_150 : decode cX12_undoes 150 = .ok (.bipush 42, 2) := by decide +kernel
theorem dX12_undoes_152 : decode cX12_undoes 152 = .ok (.aload_n 0, 1) := by decide +kernel
theorem dX12_undoes_153 : decode cX12_undoes 153 = .ok (.getfield 604, 3) := by decide +kernel
theorem dX12_undoes_156 : decode cX12_undoes 156 = .ok (.invokevirtual 663, 3) := by decide +kernel
theorem dX12_undoes_159 : decode cX12_undoes 159 = .ok (.invokevirtual 723, 3) := by decide +kernel
theorem dX12_undoes_162 : decode cX12_undoes 162 = .ok (.return_, 1) := by decide +kernel
theorem dX12_turn_0 : decode cX12_turn 0 = .ok (.aload_n 0, 1) := by decide +kernel
theorem dX12_turn_1 : decode cX12_turn 1 = .ok (.aload_n 0, 1) := by decide +kernel
theorem dX12_turn_2 : decode cX12_turn 2 = .ok (.iload_n 1, 1) := by decide +kernel
theorem dX12_turn_3 : decode cX12_turn 3 = .ok (.invokevirtual 22, 3) := by decide +kernel
theorem dX12_turn_6 : decode cX12_turn 6 = .ok (.ifCond .eq 15, 3) := by decide +kernel
theorem dX12_turn_9 : decode cX12_turn 9 = .ok (.aload_n 0, 1) := by decide +kernel
theorem dX12_turn_10 : decode cX12_turn 10 = .ok (.iload_n 2, 1) := by decide +kernel
theorem dX12_turn_11 : decode cX12_turn 11 = .ok (.invokevirtual 22, 3) := by decide +kernel
theorem dX12_turn_14 : decode cX12_turn 14 = .ok (.ifCond .eq 7, 3) := by decide +kernel
theorem dX12_turn_17 : decode cX12_turn 17 = .ok (.iconst 1, 1) := by decide +kernel
theorem dX12_turn_18 : decode cX12_turn 18 = .ok (.goto 4, 3) := by decide +kernel
theorem dX12_turn_21 : decode cX12_turn 21 = .ok (.iconst 0, 1) := by decide +kernel
theorem dX12_turn_22 : decode cX12_turn 22 = .ok (.iconst 1, 1) := by decide +kernel
theorem dX12_turn_23 : decode cX12_turn 23 = .ok (.invokevirtual 456, 3) := by decide +kernel
theorem dX12_turn_26 : decode cX12_turn 26 = .ok (.ifCond .eq 5, 3) := by decide +kernel
theorem dX12_turn_29 : decode cX12_turn 29 = .ok (.iconst 0, 1) := by decide +kernel
theorem dX12_turn_30 : decode cX12_turn 30 = .ok (.ireturn, 1) := by decide +kernel
theorem dX12_turn_31 : decode cX12_turn 31 = .ok (.aload_n 0, 1) := by decide +kernel
theorem dX12_turn_32 : decode cX12_turn 32 = .ok (.iload_n 2, 1) := by decide +kernel
theorem dX12_turn_33 : decode cX12_turn 33 = .ok (.iconst 0, 1) := by decide +kernel
theorem dX12_turn_34 : decode cX12_turn 34 = .ok (.iconst 3, 1) := by decide +kernel
theorem dX12_turn_35 : decode cX12_turn 35 = .ok (.invokevirtual 36, 3) := by decide +kernel
theorem dX12_turn_38 : decode cX12_turn 38 = .ok (.istore_n 3, 1) := by decide +kernel
theorem dX12_turn_39 : decode cX12_turn 39 = .ok (.aload_n 0, 1) := by decide +kernel
theorem dX12_turn_40 : decode cX12_turn 40 = .ok (.aload_n 0, 1) := by decide +kernel
theorem dX12_turn_41 : decode cX12_turn 41 = .ok (.getfield 15, 3) := by decide +kernel
theorem dX12_turn_44 : decode cX12_turn 44 = .ok (.bipush 40, 2) := by decide +kernel
theorem dX12_turn_46 : decode cX12_turn 46 = .ok (.if_icmp .ge 28, 3) := by decide +kernel
theorem dX12_turn_49 : decode cX12_turn 49 = .ok (.aload_n 0, 1) := by decide +kernel
theorem dX12_turn_50 : decode cX12_turn 50 = .ok (.iload_n 2, 1) := by decide +kernel
theorem dX12_turn_51 : decode cX12_turn 51 = .ok (.iconst 0, 1) := by decide +kernel
theorem dX12_turn_52 : decode cX12_turn 52 = .ok (.invokevirtual 52, 3) := by decide +kernel
theorem dX12_turn_55 : decode cX12_turn 55 = .ok (.iconst 4, 1) := by decide +kernel
theorem dX12_turn_56 : decode cX12_turn 56 = .ok (.if_icmp .ne 18, 3) := by decide +kernel
theorem dX12_turn_59 : decode cX12_turn 59 = .ok (.aload_n 0, 1) := by decide +kernel
theorem dX12_turn_60 : decode cX12_turn 60 = .ok (.iload_n 1, 1) := by decide +kernel
theorem dX12_turn_61 : decode cX12_turn 61 = .ok (.iload_n 2, 1) := by decide +kernel
theorem dX12_turn_62 : decode cX12_turn 62 = .ok (.iload_n 3, 1) := by decide +kernel
theorem dX12_turn_63 : decode cX12_turn 63 = .ok (.invokevirtual 711, 3) := by decide +kernel
theorem dX12_turn_66 : decode cX12_turn 66 = .ok (.iconst (-1), 1) := by decide +kernel
theorem dX12_turn_67 : decode cX12_turn 67 = .ok (.if_icmp .ne 7, 3) := by decide +kernel
theorem dX12_turn_70 : decode cX12_turn 70 = .ok (.iconst 1, 1) := by decide +kernel
theorem dX12_turn_71 : decode cX12_turn 71 = .ok (.goto 4, 3) := by decide +kernel
theorem dX12_turn_74 : decode cX12_turn 74 = .ok (.iconst 0, 1) := by decide +kernel
theorem dX12_turn_75 : decode cX12_turn 75 = .ok (.iconst 2, 1) := by decide +kernel
theorem dX12_turn_76 : decode cX12_turn 76 = .ok (.invokevirtual 456, 3) := by decide +kernel
theorem dX12_turn_79 : decode cX12_turn 79 = .ok (.ifCond .eq 5, 3) := by decide +kernel
theorem dX12_turn_82 : decode cX12_turn 82 = .ok (.iconst 0, 1) := by decide +kernel
theorem dX12_turn_83 : decode cX12_turn 83 = .ok (.ireturn, 1) := by decide +kernel
theorem dX12_turn_84 : decode cX12_turn 84 = .ok (.aload_n 0, 1) := by decide +kernel
theorem dX12_turn_85 : decode cX12_turn 85 = .ok (.bipush 41, 2) := by decide +kernel
theorem dX12_turn_87 : decode cX12_turn 87 = .ok (.invokevirtual 517, 3) := by decide +kernel
theorem dX12_turn_90 : decode cX12_turn 90 = .ok (.aload_n 0, 1) := by decide +kernel
theorem dX12_turn_91 : decode cX12_turn 91 = .ok (.iconst 0, 1) := by decide +kernel
theorem dX12_turn_92 : decode cX12_turn 92 = .ok (.putfield 714, 3) := by decide +kernel
theorem dX12_turn_95 : decode cX12_turn 95 = .ok (.aload_n 0, 1) := by decide +kernel
theorem dX12_turn_96 : decode cX12_turn 96 = .ok (.bipush 41, 2) := by decide +kernel
theorem dX12_turn_98 : decode cX12_turn 98 = .ok (.iconst 4, 1) := by decide +kernel
theorem dX12_turn_99 : decode cX12_turn 99 = .ok (.invokevirtual 33, 3) := by decide +kernel
theorem dX12_turn_102 : decode cX12_turn 102 = .ok (.istore 4, 2) := by decide +kernel
theorem dX12_turn_104 : decode cX12_turn 104 = .ok (.iload_n 3, 1) := by decide +kernel
theorem dX12_turn_105 : decode cX12_turn 105 = .ok (.iconst 1, 1) := by decide +kernel
theorem dX12_turn_106 : decode cX12_turn 106 = .ok (.isub, 1) := by decide +kernel
theorem dX12_turn_107 : decode cX12_turn 107 = .ok (.istore 5, 2) := by decide +kernel
theorem dX12_turn_109 : decode cX12_turn 109 = .ok (.iload 5, 2) := by decide +kernel
theorem dX12_turn_111 : decode cX12_turn 111 = .ok (.ifCond .lt 39, 3) := by decide +kernel
theorem dX12_turn_114 : decode cX12_turn 114 = .ok (.aload_n 0, 1) := by decide +kernel
theorem dX12_turn_115 : decode cX12_turn 115 = .ok (.getfield 714, 3) := by decide +kernel
theorem dX12_turn_118 : decode cX12_turn 118 = .ok (.ifCond .ne 32, 3) := by decide +kernel
theorem dX12_turn_121 : decode cX12_turn 121 = .ok (.aload_n 0, 1) := by decide +kernel
theorem dX12_turn_122 : decode cX12_turn 122 = .ok (.iload_n 1, 1) := by decide +kernel
theorem dX12_turn_123 : decode cX12_turn 123 = .ok (.iload_n 2, 1) := by decide +kernel
theorem dX12_turn_124 : decode cX12_turn 124 = .ok (.iload 5, 2) := by decide +kernel
theorem dX12_turn_126 : decode cX12_turn 126 = .ok (.invokevirtual 711, 3) := by decide +kernel
theorem dX12_turn_129 : decode cX12_turn 129 = .ok (.istore 6, 2) := by decide +kernel
theorem dX12_turn_131 : decode cX12_turn 131 = .ok (.aload_n 0, 1) := by decide +kernel
theorem dX12_turn_132 : decode cX12_turn 132 = .ok (.iload_n 2, 1) := by decide +kernel
theorem dX12_turn_133 : decode cX12_turn 133 = .ok (.aload_n 0, 1) := by decide +kernel
theorem dX12_turn_134 : decode cX12_turn 134 = .ok (.iload_n 2, 1) := by decide +kernel
theorem dX12_turn_135 : decode cX12_turn 135 = .ok (.iconst 0, 1) := by decide +kernel
theorem dX12_turn_136 : decode cX12_turn 136 = .ok (.iload 5, 2) := by decide +kernel
theorem dX12_turn_138 : decode cX12_turn 138 = .ok (.invokevirtual 616, 3) := by decide +kernel
theorem dX12_turn_141 : decode cX12_turn 141 = .ok (.invokevirtual 753, 3) := by decide +kernel
theorem dX12_turn_144 : decode cX12_turn 144 = .ok (.iinc 5 (-1), 3) := by decide +kernel
theorem dX12_turn_147 : decode cX12_turn 147 = .ok (.goto (-38), 3) := by decide +kernel
theorem dX12_turn_150 : decode cX12_turn 150 = .ok (.aload_n 0, 1) := by decide +kernel
theorem dX12_turn_151 : decode cX12_turn 151 = .ok (.aload_n 0, 1) := by decide +kernel
theorem dX12_turn_152 : decode cX12_turn 152 = .ok (.getfield 714, 3) := by decide +kernel
theorem dX12_turn_155 : decode cX12_turn 155 = .ok (.putfield 29, 3) := by decide +kernel
theorem dX12_turn_158 : decode cX12_turn 158 = .ok (.aload_n 0, 1) := by decide +kernel
theorem dX12_turn_159 : decode cX12_turn 159 = .ok (.aload_n 0, 1) := by decide +kernel
theorem dX12_turn_160 : decode cX12_turn 160 = .ok (.bipush 41, 2) := by decide +kernel
theorem dX12_turn_162 : decode cX12_turn 162 = .ok (.invokevirtual 601, 3) := by decide +kernel
theorem dX12_turn_165 : decode cX12_turn 165 = .ok (.iconst 2, 1) := by decide +kernel
theorem dX12_turn_166 : decode cX12_turn 166 = .ok (.invokevirtual 456, 3) := by decide +kernel
theorem dX12_turn_169 : decode cX12_turn 169 = .ok (.ifCond .eq 7, 3) := by decide +kernel
theorem dX12_turn_172 : decode cX12_turn 172 = .ok (.iconst 0, 1) := by decide +kernel
theorem dX12_turn_173 : decode cX12_turn 173 = .ok (.goto 9, 3) := by decide +kernel
theorem dX12_turn_176 : decode cX12_turn 176 = .ok (.aload_n 0, 1) := by decide +kernel
theorem dX12_turn_177 : decode cX12_turn 177 = .ok (.bipush 41, 2) := by decide +kernel
theorem dX12_turn_179 : decode cX12_turn 179 = .ok (.invokevirtual 536, 3) := by decide +kernel
theorem dX12_turn_182 : decode cX12_turn 182 = .ok (.ireturn, 1) := by decide +kernel
theorem dX12_areAlike_0 : decode cX12_areAlike 0 = .ok (.iload_n 2, 1) := by decide +kernel
theorem dX12_areAlike_1 : decode cX12_areAlike 1 = .ok (.iconst (-1), 1) := by decide +kernel
theorem dX12_areAlike_2 : decode cX12_areAlike 2 = .ok (.if_icmp .eq 9, 3) := by decide +kernel
theorem dX12_areAlike_5 : decode cX12_areAlike 5 = .ok (.iload 4, 2) := by decide +kernel
theorem dX12_areAlike_7 : decode cX12_areAlike 7 = .ok (.iconst (-1), 1) := by decide +kernel
theorem dX12_areAlike_8 : decode cX12_areAlike 8 = .ok (.if_icmp .ne 17, 3) := by decide +kernel
theorem dX12_areAlike_11 : decode cX12_areAlike 11 = .ok (.iload_n 2, 1) := by decide +kernel
theorem dX12_areAlike_12 : decode cX12_areAlike 12 = .ok (.iload 4, 2) := by decide +kernel
theorem dX12_areAlike_14 : decode cX12_areAlike 14 = .ok (.if_icmp .ne 7, 3) := by decide +kernel
theorem dX12_areAlike_17 : decode cX12_areAlike 17 = .ok (.iconst 1, 1) := by decide +kernel
theorem dX12_areAlike_18 : decode cX12_areAlike 18 = .ok (.goto 16, 3) := by decide +kernel
theorem dX12_areAlike_21 : decode cX12_areAlike 21 = .ok (.iconst 0, 1) := by decide +kernel
theorem dX12_areAlike_22 : decode cX12_areAlike 22 = .ok (.goto 12, 3) := by decide +kernel
theorem dX12_areAlike_25 : decode cX12_areAlike 25 = .ok (.aload_n 0, 1) := by decide +kernel
theorem dX12_areAlike_26 : decode cX12_areAlike 26 = .ok (.iload_n 1, 1) := by decide +kernel
theorem dX12_areAlike_27 : decode cX12_areAlike 27 = .ok (.iload_n 2, 1) := by decide +kernel
theorem dX12_areAlike_28 : decode cX12_areAlike 28 = .ok (.iload_n 3, 1) := by decide +kernel
theorem dX12_areAlike_29 : decode cX12_areAlike 29 = .ok (.iload 4, 2) := by decide +kernel
theorem dX12_areAlike_31 : decode cX12_areAlike 31 = .ok (.invokevirtual 590, 3) := by decide +kernel
theorem dX12_areAlike_34 : decode cX12_areAlike 34 = .ok (.ireturn, 1) := by decide +kernel
theorem dX12_addsWord_0 : decode cX12_addsWord 0 = .ok (.aload_n 0, 1) := by decide +kernel
theorem dX12_addsWord_1 : decode cX12_addsWord 1 = .ok (.getfield 275, 3) := by decide +kernel
theorem dX12_addsWord_4 : decode cX12_addsWord 4 = .ok (.aload_n 0, 1) := by decide +kernel
theorem dX12_addsWord_5 : decode cX12_addsWord 5 = .ok (.getfield 604, 3) := by decide +kernel
theorem dX12_addsWord_8 : decode cX12_addsWord 8 = .ok (.bipush 47, 2) := by decide +kernel
theorem dX12_addsWord_10 : decode cX12_addsWord 10 = .ok (.iastore, 1) := by decide +kernel
theorem dX12_addsWord_11 : decode cX12_addsWord 11 = .ok (.aload_n 0, 1) := by decide +kernel
theorem dX12_addsWord_12 : decode cX12_addsWord 12 = .ok (.dup, 1) := by decide +kernel
theorem dX12_addsWord_13 : decode cX12_addsWord 13 = .ok (.getfield 604, 3) := by decide +kernel
theorem dX12_addsWord_16 : decode cX12_addsWord 16 = .ok (.iconst 1, 1) := by decide +kernel
theorem dX12_addsWord_17 : decode cX12_addsWord 17 = .ok (.iadd, 1) := by decide +kernel
theorem dX12_addsWord_18 : decode cX12_addsWord 18 = .ok (.putfield 604, 3) := by decide +kernel
theorem dX12_addsWord_21 : decode cX12_addsWord 21 = .ok (.iconst 0, 1) := by decide +kernel
theorem dX12_addsWord_22 : decode cX12_addsWord 22 = .ok (.istore_n 1, 1) := by decide +kernel
theorem dX12_addsWord_23 : decode cX12_addsWord 23 = .ok (.iload_n 1, 1) := by decide +kernel
theorem dX12_addsWord_24 : decode cX12_addsWord 24 = .ok (.aload_n 0, 1) := by decide +kernel
theorem dX12_addsWord_25 : decode cX12_addsWord 25 = .ok (.getfield 66, 3) := by decide +kernel
theorem dX12_addsWord_28 : decode cX12_addsWord 28 = .ok (.if_icmp .ge 112, 3) := by decide +kernel
theorem dX12_addsWord_31 : decode cX12_addsWord 31 = .ok (.aload_n 0, 1) := by decide +kernel
theorem dX12_addsWord_32 : decode cX12_addsWord 32 = .ok (.getfield 69, 3) := by decide +kernel
theorem dX12_addsWord_35 : decode cX12_addsWord 35 = .ok (.iload_n 1, 1) := by decide +kernel
theorem dX12_addsWord_36 : decode cX12_addsWord 36 = .ok (.iaload, 1) := by decide +kernel
theorem dX12_addsWord_37 : decode cX12_addsWord 37 = .ok (.bipush 126, 2) := by decide +kernel
theorem dX12_addsWord_39 : decode cX12_addsWord 39 = .ok (.if_icmp .eq 14, 3) := by decide +kernel
theorem dX12_addsWord_42 : decode cX12_addsWord 42 = .ok (.aload_n 0, 1) := by decide +kernel
theorem dX12_addsWord_43 : decode cX12_addsWord 43 = .ok (.getfield 69, 3) := by decide +kernel
theorem dX12_addsWord_46 : decode cX12_addsWord 46 = .ok (.iload_n 1, 1) := by decide +kernel
theorem dX12_addsWord_47 : decode cX12_addsWord 47 = .ok (.iaload, 1) := by decide +kernel
theorem dX12_addsWord_48 : decode cX12_addsWord 48 = .ok (.bipush 47, 2) := by decide +kernel
theorem dX12_addsWord_50 : decode cX12_addsWord 50 = .ok (.if_icmp .ne 7, 3) := by decide +kernel
theorem dX12_addsWord_53 : decode cX12_addsWord 53 = .ok (.iconst 1, 1) := by decide +kernel
theorem dX12_addsWord_54 : decode cX12_addsWord 54 = .ok (.goto 4, 3) := by decide +kernel
theorem dX12_addsWord_57 : decode cX12_addsWord 57 = .ok (.iconst 0, 1) := by decide +kernel
theorem dX12_addsWord_58 : decode cX12_addsWord 58 = .ok (.istore_n 2, 1) := by decide +kernel
theorem dX12_addsWord_59 : decode cX12_addsWord 59 = .ok (.aload_n 0, 1) := by decide +kernel
theorem dX12_addsWord_60 : decode cX12_addsWord 60 = .ok (.getfield 275, 3) := by decide +kernel
theorem dX12_addsWord_63 : decode cX12_addsWord 63 = .ok (.aload_n 0, 1) := by decide +kernel
theorem dX12_addsWord_64 : decode cX12_addsWord 64 = .ok (.getfield 604, 3) := by decide +kernel
theorem dX12_addsWord_67 : decode cX12_addsWord 67 = .ok (.iload_n 2, 1) := by decide +kernel
theorem dX12_addsWord_68 : decode cX12_addsWord 68 = .ok (.ifCond .eq 8, 3) := by decide +kernel
theorem dX12_addsWord_71 : decode cX12_addsWord 71 = .ok (.bipush 126, 2) := by decide +kernel
theorem dX12_addsWord_73 : decode cX12_addsWord 73 = .ok (.goto 9, 3) := by decide +kernel
theorem dX12_addsWord_76 : decode cX12_addsWord 76 = .ok (.aload_n 0, 1) := by decide +kernel
theorem dX12_addsWord_77 : decode cX12_addsWord 77 = .ok (.getfield 69, 3) := by decide +kernel
theorem dX12_addsWord_80 : decode cX12_addsWord 80 = .ok (.iload_n 1, 1) := by decide +kernel
theorem dX12_addsWord_81 : decode cX12_addsWord 81 = .ok (.iaload, 1) := by decide +kernel
theorem dX12_addsWord_82 : decode cX12_addsWord 82 = .ok (.iastore, 1) := by decide +kernel
theorem dX12_addsWord_83 : decode cX12_addsWord 83 = .ok (.aload_n 0, 1) := by decide +kernel
theorem dX12_addsWord_84 : decode cX12_addsWord 84 = .ok (.dup, 1) := by decide +kernel
theorem dX12_addsWord_85 : decode cX12_addsWord 85 = .ok (.getfield 604, 3) := by decide +kernel
theorem dX12_addsWord_88 : decode cX12_addsWord 88 = .ok (.iconst 1, 1) := by decide +kernel
theorem dX12_addsWord_89 : decode cX12_addsWord 89 = .ok (.iadd, 1) := by decide +kernel
theorem dX12_addsWord_90 : decode cX12_addsWord 90 = .ok (.putfield 604, 3) := by decide +kernel
theorem dX12_addsWord_93 : decode cX12_addsWord 93 = .ok (.iload_n 2, 1) := by decide +kernel
theorem dX12_addsWord_94 : decode cX12_addsWord 94 = .ok (.ifCond .eq 40, 3) := by decide +kernel
theorem dX12_addsWord_97 : decode cX12_addsWord 97 = .ok (.aload_n 0, 1) := by decide +kernel
theorem dX12_addsWord_98 : decode cX12_addsWord 98 = .ok (.getfield 275, 3) := by decide +kernel
theorem dX12_addsWord_101 : decode cX12_addsWord 101 = .ok (.aload_n 0, 1) := by decide +kernel
theorem dX12_addsWord_102 : decode cX12_addsWord 102 = .ok (.getfield 604, 3) := by decide +kernel
theorem dX12_addsWord_105 : decode cX12_addsWord 105 = .ok (.aload_n 0, 1) := by decide +kernel
theorem dX12_addsWord_106 : decode cX12_addsWord 106 = .ok (.getfield 69, 3) := by decide +kernel
theorem dX12_addsWord_109 : decode cX12_addsWord 109 = .ok (.iload_n 1, 1) := by decide +kernel
theorem dX12_addsWord_110 : decode cX12_addsWord 110 = .ok (.iaload, 1) := by decide +kernel
theorem dX12_addsWord_111 : decode cX12_addsWord 111 = .ok (.bipush 126, 2) := by decide +kernel
theorem dX12_addsWord_113 : decode cX12_addsWord 113 = .ok (.if_icmp .ne 8, 3) := by decide +kernel
theorem dX12_addsWord_116 : decode cX12_addsWord 116 = .ok (.bipush 48, 2) := by decide +kernel
theorem dX12_addsWord_118 : decode cX12_addsWord 118 = .ok (.goto 5, 3) := by decide +kernel
theorem dX12_addsWord_121 : decode cX12_addsWord 121 = .ok (.bipush 49, 2) := by decide +kernel
theorem dX12_addsWord_123 : decode cX12_addsWord 123 = .ok (.iastore, 1) := by decide +kernel
theorem dX12_addsWord_124 : decode cX12_addsWord 124 = .ok (.aload_n 0, 1) := by decide +kernel
theorem dX12_addsWord_125 : decode cX12_addsWord 125 = .ok (.dup, 1) := by decide +kernel
theorem dX12_addsWord_126 : decode cX12_addsWord 126 = .ok (.getfield 604, 3) := by decide +kernel
theorem dX12_addsWord_129 : decode cX12_addsWord 129 = .ok (.iconst 1, 1) := by decide +kernel
theorem dX12_addsWord_130 : decode cX12_addsWord 130 = .ok (.iadd, 1) := by decide +kernel
theorem dX12_addsWord_131 : decode cX12_addsWord 131 = .ok (.putfield 604, 3) := by decide +kernel
theorem dX12_addsWord_134 : decode cX12_addsWord 134 = .ok (.iinc 1 1, 3) := by decide +kernel
theorem dX12_addsWord_137 : decode cX12_addsWord 137 = .ok (.goto (-114), 3) := by decide +kernel
theorem dX12_addsWord_140 : decode cX12_addsWord 140 = .ok (.return_, 1) := by decide +kernel
theorem dX12_joinsOne_0 : decode cX12_joinsOne 0 = .ok (.aload_n 0, 1) := by decide +kernel
theorem dX12_joinsOne_1 : decode cX12_joinsOne 1 = .ok (.aload_n 0, 1) := by decide +kernel
theorem dX12_joinsOne_2 : decode cX12_joinsOne 2 = .ok (.getfield 756, 3) := by decide +kernel
theorem dX12_joinsOne_5 : decode cX12_joinsOne 5 = .ok (.iload_n 2, 1) := by decide +kernel
theorem dX12_joinsOne_6 : decode cX12_joinsOne 6 = .ok (.aload_n 0, 1) := by decide +kernel
theorem dX12_joinsOne_7 : decode cX12_joinsOne 7 = .ok (.getfield 759, 3) := by decide +kernel
theorem dX12_joinsOne_10 : decode cX12_joinsOne 10 = .ok (.iload_n 3, 1) := by decide +kernel
theorem dX12_joinsOne_11 : decode cX12_joinsOne 11 = .ok (.invokevirtual 762, 3) := by decide +kernel
theorem dX12_joinsOne_14 : decode cX12_joinsOne 14 = .ok (.istore 5, 2) := by decide +kernel
theorem dX12_joinsOne_16 : decode cX12_joinsOne 16 = .ok (.iload 5, 2) := by decide +kernel
theorem dX12_joinsOne_18 : decode cX12_joinsOne 18 = .ok (.ifCond .ne 24, 3) := by decide +kernel
theorem dX12_joinsOne_21 : decode cX12_joinsOne 21 = .ok (.aload_n 0, 1) := by decide +kernel
theorem dX12_joinsOne_22 : decode cX12_joinsOne 22 = .ok (.aload_n 0, 1) := by decide +kernel
theorem dX12_joinsOne_23 : decode cX12_joinsOne 23 = .ok (.getfield 756, 3) := by decide +kernel
theorem dX12_joinsOne_26 : decode cX12_joinsOne 26 = .ok (.iload_n 2, 1) := by decide +kernel
theorem dX12_joinsOne_27 : decode cX12_joinsOne 27 = .ok (.aload_n 0, 1) := by decide +kernel
theorem dX12_joinsOne_28 : decode cX12_joinsOne 28 = .ok (.getfield 765, 3) := by decide +kernel
theorem dX12_joinsOne_31 : decode cX12_joinsOne 31 = .ok (.iload_n 1, 1) := by decide +kernel
theorem dX12_joinsOne_32 : decode cX12_joinsOne 32 = .ok (.invokevirtual 762, 3) := by decide +kernel
theorem dX12_joinsOne_35 : decode cX12_joinsOne 35 = .ok (.ifCond .eq 7, 3) := by decide +kernel
theorem dX12_joinsOne_38 : decode cX12_joinsOne 38 = .ok (.iconst 1, 1) := by decide +kernel
theorem dX12_joinsOne_39 : decode cX12_joinsOne 39 = .ok (.goto 4, 3) := by decide +kernel
theorem dX12_joinsOne_42 : decode cX12_joinsOne 42 = .ok (.iconst 0, 1) := by decide +kernel
theorem dX12_joinsOne_43 : decode cX12_joinsOne 43 = .ok (.istore 6, 2) := by decide +kernel
theorem dX12_joinsOne_45 : decode cX12_joinsOne 45 = .ok (.iload 5, 2) := by decide +kernel
theorem dX12_joinsOne_47 : decode cX12_joinsOne 47 = .ok (.ifCond .ne 25, 3) := by decide +kernel
theorem dX12_joinsOne_50 : decode cX12_joinsOne 50 = .ok (.iload 6, 2) := by decide +kernel
theorem dX12_joinsOne_52 : decode cX12_joinsOne 52 = .ok (.ifCond .ne 20, 3) := by decide +kernel
theorem dX12_joinsOne_55 : decode cX12_joinsOne 55 = .ok (.aload_n 0, 1) := by decide +kernel
theorem dX12_joinsOne_56 : decode cX12_joinsOne 56 = .ok (.aload_n 0, 1) := by decide +kernel
theorem dX12_joinsOne_57 : decode cX12_joinsOne 57 = .ok (.getfield 759, 3) := by decide +kernel
theorem dX12_joinsOne_60 : decode cX12_joinsOne 60 = .ok (.iload_n 3, 1) := by decide +kernel
theorem dX12_joinsOne_61 : decode cX12_joinsOne 61 = .ok (.aload_n 0, 1) := by decide +kernel
theorem dX12_joinsOne_62 : decode cX12_joinsOne 62 = .ok (.getfield 765, 3) := by decide +kernel
theorem dX12_joinsOne_65 : decode cX12_joinsOne 65 = .ok (.iload_n 1, 1) := by decide +kernel
theorem dX12_joinsOne_66 : decode cX12_joinsOne 66 = .ok (.invokevirtual 762, 3) := by decide +kernel
theorem dX12_joinsOne_69 : decode cX12_joinsOne 69 = .ok (.ifCond .eq 59, 3) := by decide +kernel
theorem dX12_joinsOne_72 : decode cX12_joinsOne 72 = .ok (.iload 6, 2) := by decide +kernel
theorem dX12_joinsOne_74 : decode cX12_joinsOne 74 = .ok (.ifCond .eq 7, 3) := by decide +kernel
theorem dX12_joinsOne_77 : decode cX12_joinsOne 77 = .ok (.iload_n 3, 1) := by decide +kernel
theorem dX12_joinsOne_78 : decode cX12_joinsOne 78 = .ok (.goto 4, 3) := by decide +kernel
theorem dX12_joinsOne_81 : decode cX12_joinsOne 81 = .ok (.iload_n 2, 1) := by decide +kernel
theorem dX12_joinsOne_82 : decode cX12_joinsOne 82 = .ok (.istore 7, 2) := by decide +kernel
theorem dX12_joinsOne_84 : decode cX12_joinsOne 84 = .ok (.iload 7, 2) := by decide +kernel
theorem dX12_joinsOne_86 : decode cX12_joinsOne 86 = .ok (.iconst (-1), 1) := by decide +kernel
theorem dX12_joinsOne_87 : decode cX12_joinsOne 87 = .ok (.if_icmp .eq 29, 3) := by decide +kernel
theorem dX12_joinsOne_90 : decode cX12_joinsOne 90 = .ok (.aload_n 0, 1) := by decide +kernel
theorem dX12_joinsOne_91 : decode cX12_joinsOne 91 = .ok (.bipush 40, 2) := by decide +kernel
theorem dX12_joinsOne_93 : decode cX12_joinsOne 93 = .ok (.iload 6, 2) := by decide +kernel
theorem dX12_joinsOne_95 : decode cX12_joinsOne 95 = .ok (.ifCond .eq 10, 3) := by decide +kernel
theorem dX12_joinsOne_98 : decode cX12_joinsOne 98 = .ok (.aload_n 0, 1) := by decide +kernel
theorem dX12_joinsOne_99 : decode cX12_joinsOne 99 = .ok (.getfield 759, 3) := by decide +kernel
theorem dX12_joinsOne_102 : decode cX12_joinsOne 102 = .ok (.goto 7, 3) := by decide +kernel
theorem dX12_joinsOne_105 : decode cX12_joinsOne 105 = .ok (.aload_n 0, 1) := by decide +kernel
theorem dX12_joinsOne_106 : decode cX12_joinsOne 106 = .ok (.getfield 756, 3) := by decide +kernel
theorem dX12_joinsOne_109 : decode cX12_joinsOne 109 = .ok (.iload 7, 2) := by decide +kernel
theorem dX12_joinsOne_111 : decode cX12_joinsOne 111 = .ok (.iload 4, 2) := by decide +kernel
theorem dX12_joinsOne_113 : decode cX12_joinsOne 113 = .ok (.invokevirtual 656, 3) := by decide +kernel
theorem dX12_joinsOne_116 : decode cX12_joinsOne 116 = .ok (.iload 7, 2) := by decide +kernel
theorem dX12_joinsOne_118 : decode cX12_joinsOne 118 = .ok (.iconst (-1), 1) := by decide +kernel
theorem dX12_joinsOne_119 : decode cX12_joinsOne 119 = .ok (.if_icmp .ne 7, 3) := by decide +kernel
theorem dX12_joinsOne_122 : decode cX12_joinsOne 122 = .ok (.iconst 0, 1) := by decide +kernel
theorem dX12_joinsOne_123 : decode cX12_joinsOne 123 = .ok (.goto 4, 3) := by decide +kernel
theorem dX12_joinsOne_126 : decode cX12_joinsOne 126 = .ok (.iconst 1, 1) := by decide +kernel
theorem dX12_joinsOne_127 : decode cX12_joinsOne 127 = .ok (.ireturn, 1) := by decide +kernel
theorem dX12_joinsOne_128 : decode cX12_joinsOne 128 = .ok (.iload_n 2, 1) := by decide +kernel
theorem dX12_joinsOne_129 : decode cX12_joinsOne 129 = .ok (.iconst (-1), 1) := by decide +kernel
theorem dX12_joinsOne_130 : decode cX12_joinsOne 130 = .ok (.if_icmp .eq 38, 3) := by decide +kernel
theorem dX12_joinsOne_133 : decode cX12_joinsOne 133 = .ok (.iload_n 3, 1) := by decide +kernel
theorem dX12_joinsOne_134 : decode cX12_joinsOne 134 = .ok (.iconst (-1), 1) := by decide +kernel
theorem dX12_joinsOne_135 : decode cX12_joinsOne 135 = .ok (.if_icmp .eq 33, 3) := by decide +kernel
theorem dX12_joinsOne_138 : decode cX12_joinsOne 138 = .ok (.aload_n 0, 1) := by decide +kernel
theorem dX12_joinsOne_139 : decode cX12_joinsOne 139 = .ok (.aload_n 0, 1) := by decide +kernel
theorem dX12_joinsOne_140 : decode cX12_joinsOne 140 = .ok (.getfield 756, 3) := by decide +kernel
theorem dX12_joinsOne_143 : decode cX12_joinsOne 143 = .ok (.iload_n 2, 1) := by decide +kernel
theorem dX12_joinsOne_144 : decode cX12_joinsOne 144 = .ok (.invokevirtual 52, 3) := by decide +kernel
theorem dX12_joinsOne_147 : decode cX12_joinsOne 147 = .ok (.iconst 5, 1) := by decide +kernel
theorem dX12_joinsOne_148 : decode cX12_joinsOne 148 = .ok (.if_icmp .ne 20, 3) := by decide +kernel
theorem dX12_joinsOne_151 : decode cX12_joinsOne 151 = .ok (.aload_n 0, 1) := by decide +kernel
theorem dX12_joinsOne_152 : decode cX12_joinsOne 152 = .ok (.aload_n 0, 1) := by decide +kernel
theorem dX12_joinsOne_153 : decode cX12_joinsOne 153 = .ok (.getfield 759, 3) := by decide +kernel
theorem dX12_joinsOne_156 : decode cX12_joinsOne 156 = .ok (.iload_n 3, 1) := by decide +kernel
