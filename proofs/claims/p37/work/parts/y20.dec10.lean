theorem dX9_init_0 : decode cX9_init 0 = .ok (.aload_n 0, 1) := by decide +kernel
theorem dX9_init_1 : decode cX9_init 1 = .ok (.invokespecial 3, 3) := by decide +kernel
theorem dX9_init_4 : decode cX9_init 4 = .ok (.aload_n 0, 1) := by decide +kernel
theorem dX9_init_5 : decode cX9_init 5 = .ok (.iconst 0, 1) := by decide +kernel
theorem dX9_init_6 : decode cX9_init 6 = .ok (.iload_n 1, 1) := by decide +kernel
theorem dX9_init_7 : decode cX9_init 7 = .ok (.invokestatic 9, 3) := by decide +kernel
theorem dX9_init_10 : decode cX9_init 10 = .ok (.newarray .char, 2) := by decide +kernel
theorem dX9_init_12 : decode cX9_init 12 = .ok (.putfield 15, 3) := by decide +kernel
theorem dX9_init_15 : decode cX9_init 15 = .ok (.return_, 1) := by decide +kernel
theorem dX9_length_0 : decode cX9_length 0 = .ok (.aload_n 0, 1) := by decide +kernel
theorem dX9_length_1 : decode cX9_length 1 = .ok (.getfield 21, 3) := by decide +kernel
theorem dX9_length_4 : decode cX9_length 4 = .ok (.ireturn, 1) := by decide +kernel
theorem dX9_clear_0 : decode cX9_clear 0 = .ok (.aload_n 0, 1) := by decide +kernel
theorem dX9_clear_1 : decode cX9_clear 1 = .ok (.iconst 0, 1) := by decide +kernel
theorem dX9_clear_2 : decode cX9_clear 2 = .ok (.putfield 21, 3) := by decide +kernel
theorem dX9_clear_5 : decode cX9_clear 5 = .ok (.return_, 1) := by decide +kernel
theorem dX9_shorten_0 : decode cX9_shorten 0 = .ok (.iload_n 1, 1) := by decide +kernel
theorem dX9_shorten_1 : decode cX9_shorten 1 = .ok (.ifCond .lt 16, 3) := by decide +kernel
theorem dX9_shorten_4 : decode cX9_shorten 4 = .ok (.iload_n 1, 1) := by decide +kernel
theorem dX9_shorten_5 : decode cX9_shorten 5 = .ok (.aload_n 0, 1) := by decide +kernel
theorem dX9_shorten_6 : decode cX9_shorten 6 = .ok (.getfield 21, 3) := by decide +kernel
theorem dX9_shorten_9 : decode cX9_shorten 9 = .ok (.if_icmp .ge 8, 3) := by decide +kernel
theorem dX9_shorten_12 : decode cX9_shorten 12 = .ok (.aload_n 0, 1) := by decide +kernel
theorem dX9_shorten_13 : decode cX9_shorten 13 = .ok (.iload_n 1, 1) := by decide +kernel
theorem dX9_shorten_14 : decode cX9_shorten 14 = .ok (.putfield 21, 3) := by decide +kernel
theorem dX9_shorten_17 : decode cX9_shorten 17 = .ok (.return_, 1) := by decide +kernel
theorem dX9_at_0 : decode cX9_at 0 = .ok (.iload_n 1, 1) := by decide +kernel
theorem dX9_at_1 : decode cX9_at 1 = .ok (.ifCond .lt 29, 3) := by decide +kernel
theorem dX9_at_4 : decode cX9_at 4 = .ok (.iload_n 1, 1) := by decide +kernel
theorem dX9_at_5 : decode cX9_at 5 = .ok (.aload_n 0, 1) := by decide +kernel
theorem dX9_at_6 : decode cX9_at 6 = .ok (.getfield 21, 3) := by decide +kernel
theorem dX9_at_9 : decode cX9_at 9 = .ok (.if_icmp .ge 21, 3) := by decide +kernel
theorem dX9_at_12 : decode cX9_at 12 = .ok (.iload_n 1, 1) := by decide +kernel
theorem dX9_at_13 : decode cX9_at 13 = .ok (.aload_n 0, 1) := by decide +kernel
theorem dX9_at_14 : decode cX9_at 14 = .ok (.getfield 15, 3) := by decide +kernel
theorem dX9_at_17 : decode cX9_at 17 = .ok (.arraylength, 1) := by decide +kernel
theorem dX9_at_18 : decode cX9_at 18 = .ok (.if_icmp .ge 12, 3) := by decide +kernel
theorem dX9_at_21 : decode cX9_at 21 = .ok (.aload_n 0, 1) := by decide +kernel
theorem dX9_at_22 : decode cX9_at 22 = .ok (.getfield 15, 3) := by decide +kernel
theorem dX9_at_25 : decode cX9_at 25 = .ok (.iload_n 1, 1) := by decide +kernel
theorem dX9_at_26 : decode cX9_at 26 = .ok (.caload, 1) := by decide +kernel
theorem dX9_at_27 : decode cX9_at 27 = .ok (.goto 4, 3) := by decide +kernel
theorem dX9_at_30 : decode cX9_at 30 = .ok (.iconst (-1), 1) := by decide +kernel
theorem dX9_at_31 : decode cX9_at 31 = .ok (.ireturn, 1) := by decide +kernel
theorem dX9_add_0 : decode cX9_add 0 = .ok (.aload_n 0, 1) := by decide +kernel
theorem dX9_add_1 : decode cX9_add 1 = .ok (.getfield 21, 3) := by decide +kernel
theorem dX9_add_4 : decode cX9_add 4 = .ok (.ifCond .lt 36, 3) := by decide +kernel
theorem dX9_add_7 : decode cX9_add 7 = .ok (.aload_n 0, 1) := by decide +kernel
theorem dX9_add_8 : decode cX9_add 8 = .ok (.getfield 21, 3) := by decide +kernel
theorem dX9_add_11 : decode cX9_add 11 = .ok (.aload_n 0, 1) := by decide +kernel
theorem dX9_add_12 : decode cX9_add 12 = .ok (.getfield 15, 3) := by decide +kernel
theorem dX9_add_15 : decode cX9_add 15 = .ok (.arraylength, 1) := by decide +kernel
theorem dX9_add_16 : decode cX9_add 16 = .ok (.if_icmp .ge 24, 3) := by decide +kernel
theorem dX9_add_19 : decode cX9_add 19 = .ok (.aload_n 0, 1) := by decide +kernel
theorem dX9_add_20 : decode cX9_add 20 = .ok (.getfield 15, 3) := by decide +kernel
theorem dX9_add_23 : decode cX9_add 23 = .ok (.aload_n 0, 1) := by decide +kernel
theorem dX9_add_24 : decode cX9_add 24 = .ok (.getfield 21, 3) := by decide +kernel
theorem dX9_add_27 : decode cX9_add 27 = .ok (.iload_n 1, 1) := by decide +kernel
theorem dX9_add_28 : decode cX9_add 28 = .ok (.i2c, 1) := by decide +kernel
theorem dX9_add_29 : decode cX9_add 29 = .ok (.castore, 1) := by decide +kernel
theorem dX9_add_30 : decode cX9_add 30 = .ok (.aload_n 0, 1) := by decide +kernel
theorem dX9_add_31 : decode cX9_add 31 = .ok (.dup, 1) := by decide +kernel
theorem dX9_add_32 : decode cX9_add 32 = .ok (.getfield 21, 3) := by decide +kernel
theorem dX9_add_35 : decode cX9_add 35 = .ok (.iconst 1, 1) := by decide +kernel
theorem dX9_add_36 : decode cX9_add 36 = .ok (.iadd, 1) := by decide +kernel
theorem dX9_add_37 : decode cX9_add 37 = .ok (.putfield 21, 3) := by decide +kernel
theorem dX9_add_40 : decode cX9_add 40 = .ok (.return_, 1) := by decide +kernel
theorem dX9_addAll_0 : decode cX9_addAll 0 = .ok (.iconst 0, 1) := by decide +kernel
theorem dX9_addAll_1 : decode cX9_addAll 1 = .ok (.istore_n 2, 1) := by decide +kernel
theorem dX9_addAll_2 : decode cX9_addAll 2 = .ok (.iload_n 2, 1) := by decide +kernel
theorem dX9_addAll_3 : decode cX9_addAll 3 = .ok (.aload_n 1, 1) := by decide +kernel
theorem dX9_addAll_4 : decode cX9_addAll 4 = .ok (.invokevirtual 25, 3) := by decide +kernel
theorem dX9_addAll_7 : decode cX9_addAll 7 = .ok (.if_icmp .ge 18, 3) := by decide +kernel
theorem dX9_addAll_10 : decode cX9_addAll 10 = .ok (.aload_n 0, 1) := by decide +kernel
theorem dX9_addAll_11 : decode cX9_addAll 11 = .ok (.aload_n 1, 1) := by decide +kernel
theorem dX9_addAll_12 : decode cX9_addAll 12 = .ok (.iload_n 2, 1) := by decide +kernel
theorem dX9_addAll_13 : decode cX9_addAll 13 = .ok (.invokevirtual 30, 3) := by decide +kernel
theorem dX9_addAll_16 : decode cX9_addAll 16 = .ok (.invokevirtual 34, 3) := by decide +kernel
theorem dX9_addAll_19 : decode cX9_addAll 19 = .ok (.iinc 2 1, 3) := by decide +kernel
theorem dX9_addAll_22 : decode cX9_addAll 22 = .ok (.goto (-20), 3) := by decide +kernel
theorem dX9_addAll_25 : decode cX9_addAll 25 = .ok (.return_, 1) := by decide +kernel
theorem dX9_addWritten_0 : decode cX9_addWritten 0 = .ok (.iload_n 1, 1) := by decide +kernel
theorem dX9_addWritten_1 : decode cX9_addWritten 1 = .ok (.bipush 32, 2) := by decide +kernel
theorem dX9_addWritten_3 : decode cX9_addWritten 3 = .ok (.if_icmp .lt 33, 3) := by decide +kernel
theorem dX9_addWritten_6 : decode cX9_addWritten 6 = .ok (.iload_n 1, 1) := by decide +kernel
theorem dX9_addWritten_7 : decode cX9_addWritten 7 = .ok (.bipush 126, 2) := by decide +kernel
theorem dX9_addWritten_9 : decode cX9_addWritten 9 = .ok (.if_icmp .gt 27, 3) := by decide +kernel
theorem dX9_addWritten_12 : decode cX9_addWritten 12 = .ok (.iload_n 1, 1) := by decide +kernel
theorem dX9_addWritten_13 : decode cX9_addWritten 13 = .ok (.bipush 34, 2) := by decide +kernel
theorem dX9_addWritten_15 : decode cX9_addWritten 15 = .ok (.if_icmp .eq 9, 3) := by decide +kernel
theorem dX9_addWritten_18 : decode cX9_addWritten 18 = .ok (.iload_n 1, 1) := by decide +kernel
theorem dX9_addWritten_19 : decode cX9_addWritten 19 = .ok (.bipush 92, 2) := by decide +kernel
theorem dX9_addWritten_21 : decode cX9_addWritten 21 = .ok (.if_icmp .ne 9, 3) := by decide +kernel
theorem dX9_addWritten_24 : decode cX9_addWritten 24 = .ok (.aload_n 0, 1) := by decide +kernel
theorem dX9_addWritten_25 : decode cX9_addWritten 25 = .ok (.bipush 92, 2) := by decide +kernel
theorem dX9_addWritten_27 : decode cX9_addWritten 27 = .ok (.invokevirtual 34, 3) := by decide +kernel
theorem dX9_addWritten_30 : decode cX9_addWritten 30 = .ok (.aload_n 0, 1) := by decide +kernel
theorem dX9_addWritten_31 : decode cX9_addWritten 31 = .ok (.iload_n 1, 1) := by decide +kernel
theorem dX9_addWritten_32 : decode cX9_addWritten 32 = .ok (.invokevirtual 34, 3) := by decide +kernel
theorem dX9_addWritten_35 : decode cX9_addWritten 35 = .ok (.return_, 1) := by decide +kernel
theorem dX9_addWritten_36 : decode cX9_addWritten 36 = .ok (.aload_n 0, 1) := by decide +kernel
theorem dX9_addWritten_37 : decode cX9_addWritten 37 = .ok (.bipush 92, 2) := by decide +kernel
theorem dX9_addWritten_39 : decode cX9_addWritten 39 = .ok (.invokevirtual 34, 3) := by decide +kernel
theorem dX9_addWritten_42 : decode cX9_addWritten 42 = .ok (.aload_n 0, 1) := by decide +kernel
theorem dX9_addWritten_43 : decode cX9_addWritten 43 = .ok (.bipush 117, 2) := by decide +kernel
theorem dX9_addWritten_45 : decode cX9_addWritten 45 = .ok (.invokevirtual 34, 3) := by decide +kernel
theorem dX9_addWritten_48 : decode cX9_addWritten 48 = .ok (.aload_n 0, 1) := by decide +kernel
theorem dX9_addWritten_49 : decode cX9_addWritten 49 = .ok (.bipush 48, 2) := by decide +kernel
theorem dX9_addWritten_51 : decode cX9_addWritten 51 = .ok (.invokevirtual 34, 3) := by decide +kernel
theorem dX9_addWritten_54 : decode cX9_addWritten 54 = .ok (.aload_n 0, 1) := by decide +kernel
theorem dX9_addWritten_55 : decode cX9_addWritten 55 = .ok (.bipush 48, 2) := by decide +kernel
theorem dX9_addWritten_57 : decode cX9_addWritten 57 = .ok (.invokevirtual 34, 3) := by decide +kernel
theorem dX9_addWritten_60 : decode cX9_addWritten 60 = .ok (.aload_n 0, 1) := by decide +kernel
theorem dX9_addWritten_61 : decode cX9_addWritten 61 = .ok (.iload_n 1, 1) := by decide +kernel
theorem dX9_addWritten_62 : decode cX9_addWritten 62 = .ok (.bipush 16, 2) := by decide +kernel
theorem dX9_addWritten_64 : decode cX9_addWritten 64 = .ok (.idiv, 1) := by decide +kernel
theorem dX9_addWritten_65 : decode cX9_addWritten 65 = .ok (.bipush 16, 2) := by decide +kernel
theorem dX9_addWritten_67 : decode cX9_addWritten 67 = .ok (.irem, 1) := by decide +kernel
theorem dX9_addWritten_68 : decode cX9_addWritten 68 = .ok (.bipush 10, 2) := by decide +kernel
theorem dX9_addWritten_70 : decode cX9_addWritten 70 = .ok (.if_icmp .ge 16, 3) := by decide +kernel
theorem dX9_addWritten_73 : decode cX9_addWritten 73 = .ok (.bipush 48, 2) := by decide +kernel
theorem dX9_addWritten_75 : decode cX9_addWritten 75 = .ok (.iload_n 1, 1) := by decide +kernel
theorem dX9_addWritten_76 : decode cX9_addWritten 76 = .ok (.bipush 16, 2) := by decide +kernel
theorem dX9_addWritten_78 : decode cX9_addWritten 78 = .ok (.idiv, 1) := by decide +kernel
theorem dX9_addWritten_79 : decode cX9_addWritten 79 = .ok (.bipush 16, 2) := by decide +kernel
theorem dX9_addWritten_81 : decode cX9_addWritten 81 = .ok (.irem, 1) := by decide +kernel
theorem dX9_addWritten_82 : decode cX9_addWritten 82 = .ok (.iadd, 1) := by decide +kernel
theorem dX9_addWritten_83 : decode cX9_addWritten 83 = .ok (.goto 13, 3) := by decide +kernel
theorem dX9_addWritten_86 : decode cX9_addWritten 86 = .ok (.bipush 87, 2) := by decide +kernel
theorem dX9_addWritten_88 : decode cX9_addWritten 88 = .ok (.iload_n 1, 1) := by decide +kernel
theorem dX9_addWritten_89 : decode cX9_addWritten 89 = .ok (.bipush 16, 2) := by decide +kernel
theorem dX9_addWritten_91 : decode cX9_addWritten 91 = .ok (.idiv, 1) := by decide +kernel
theorem dX9_addWritten_92 : decode cX9_addWritten 92 = .ok (.bipush 16, 2) := by decide +kernel
theorem dX9_addWritten_94 : decode cX9_addWritten 94 = .ok (.irem, 1) := by decide +kernel
theorem dX9_addWritten_95 : decode cX9_addWritten 95 = .ok (.iadd, 1) := by decide +kernel
theorem dX9_addWritten_96 : decode cX9_addWritten 96 = .ok (.invokevirtual 34, 3) := by decide +kernel
theorem dX9_addWritten_99 : decode cX9_addWritten 99 = .ok (.aload_n 0, 1) := by decide +kernel
theorem dX9_addWritten_100 : decode cX9_addWritten 100 = .ok (.iload_n 1, 1) := by decide +kernel
theorem dX9_addWritten_101 : decode cX9_addWritten 101 = .ok (.bipush 16, 2) := by decide +kernel
theorem dX9_addWritten_103 : decode cX9_addWritten 103 = .ok (.irem, 1) := by decide +kernel
theorem dX9_addWritten_104 : decode cX9_addWritten 104 = .ok (.bipush 10, 2) := by decide +kernel
theorem dX9_addWritten_106 : decode cX9_addWritten 106 = .ok (.if_icmp .ge 13, 3) := by decide +kernel
theorem dX9_addWritten_109 : decode cX9_addWritten 109 = .ok (.bipush 48, 2) := by decide +kernel
theorem dX9_addWritten_111 : decode cX9_addWritten 111 = .ok (.iload_n 1, 1) := by decide +kernel
theorem dX9_addWritten_112 : decode cX9_addWritten 112 = .ok (.bipush 16, 2) := by decide +kernel
theorem dX9_addWritten_114 : decode cX9_addWritten 114 = .ok (.irem, 1) := by decide +kernel
theorem dX9_addWritten_115 : decode cX9_addWritten 115 = .ok (.iadd, 1) := by decide +kernel
theorem dX9_addWritten_116 : decode cX9_addWritten 116 = .ok (.goto 10, 3) := by decide +kernel
theorem dX9_addWritten_119 : decode cX9_addWritten 119 = .ok (.bipush 87, 2) := by decide +kernel
theorem dX9_addWritten_121 : decode cX9_addWritten 121 = .ok (.iload_n 1, 1) := by decide +kernel
theorem dX9_addWritten_122 : decode cX9_addWritten 122 = .ok (.bipush 16, 2) := by decide +kernel
theorem dX9_addWritten_124 : decode cX9_addWritten 124 = .ok (.irem, 1) := by decide +kernel
theorem dX9_addWritten_125 : decode cX9_addWritten 125 = .ok (.iadd, 1) := by decide +kernel
theorem dX9_addWritten_126 : decode cX9_addWritten 126 = .ok (.invokevirtual 34, 3) := by decide +kernel
theorem dX9_addWritten_129 : decode cX9_addWritten 129 = .ok (.return_, 1) := by decide +kernel
theorem dX9_addPart_0 : decode cX9_addPart 0 = .ok (.iconst 0, 1) := by decide +kernel
theorem dX9_addPart_1 : decode cX9_addPart 1 = .ok (.iload_n 2, 1) := by decide +kernel
theorem dX9_addPart_2 : decode cX9_addPart 2 = .ok (.invokestatic 9, 3) := by decide +kernel
theorem dX9_addPart_5 : decode cX9_addPart 5 = .ok (.istore 4, 2) := by decide +kernel
theorem dX9_addPart_7 : decode cX9_addPart 7 = .ok (.iload 4, 2) := by decide +kernel
theorem dX9_addPart_9 : decode cX9_addPart 9 = .ok (.iload_n 3, 1) := by decide +kernel
theorem dX9_addPart_10 : decode cX9_addPart 10 = .ok (.if_icmp .ge 28, 3) := by decide +kernel
theorem dX9_addPart_13 : decode cX9_addPart 13 = .ok (.iload 4, 2) := by decide +kernel
theorem dX9_addPart_15 : decode cX9_addPart 15 = .ok (.aload_n 1, 1) := by decide +kernel
theorem dX9_addPart_16 : decode cX9_addPart 16 = .ok (.invokevirtual 38, 3) := by decide +kernel
theorem dX9_addPart_19 : decode cX9_addPart 19 = .ok (.if_icmp .ge 19, 3) := by decide +kernel
theorem dX9_addPart_22 : decode cX9_addPart 22 = .ok (.aload_n 0, 1) := by decide +kernel
theorem dX9_addPart_23 : decode cX9_addPart 23 = .ok (.aload_n 1, 1) := by decide +kernel
theorem dX9_addPart_24 : decode cX9_addPart 24 = .ok (.iload 4, 2) := by decide +kernel
theorem dX9_addPart_26 : decode cX9_addPart 26 = .ok (.invokevirtual 39, 3) := by decide +kernel
theorem dX9_addPart_29 : decode cX9_addPart 29 = .ok (.invokevirtual 34, 3) := by decide +kernel
theorem dX9_addPart_32 : decode cX9_addPart 32 = .ok (.iinc 4 1, 3) := by decide +kernel
theorem dX9_addPart_35 : decode cX9_addPart 35 = .ok (.goto (-28), 3) := by decide +kernel
theorem dX9_addPart_38 : decode cX9_addPart 38 = .ok (.return_, 1) := by decide +kernel
theorem dX9_addNumber_0 : decode cX9_addNumber 0 = .ok (.iload_n 1, 1) := by decide +kernel
theorem dX9_addNumber_1 : decode cX9_addNumber 1 = .ok (.invokestatic 43, 3) := by decide +kernel
theorem dX9_addNumber_4 : decode cX9_addNumber 4 = .ok (.istore_n 2, 1) := by decide +kernel
theorem dX9_addNumber_5 : decode cX9_addNumber 5 = .ok (.iload_n 1, 1) := by decide +kernel
theorem dX9_addNumber_6 : decode cX9_addNumber 6 = .ok (.ifCond .ge 9, 3) := by decide +kernel
theorem dX9_addNumber_9 : decode cX9_addNumber 9 = .ok (.aload_n 0, 1) := by decide +kernel
theorem dX9_addNumber_10 : decode cX9_addNumber 10 = .ok (.bipush 45, 2) := by decide +kernel
theorem dX9_addNumber_12 : decode cX9_addNumber 12 = .ok (.invokevirtual 34, 3) := by decide +kernel
theorem dX9_addNumber_15 : decode cX9_addNumber 15 = .ok (.iload_n 2, 1) := by decide +kernel
theorem dX9_addNumber_16 : decode cX9_addNumber 16 = .ok (.bipush 99, 2) := by decide +kernel
theorem dX9_addNumber_18 : decode cX9_addNumber 18 = .ok (.if_icmp .le 17, 3) := by decide +kernel
theorem dX9_addNumber_21 : decode cX9_addNumber 21 = .ok (.aload_n 0, 1) := by decide +kernel
theorem dX9_addNumber_22 : decode cX9_addNumber 22 = .ok (.bipush 48, 2) := by decide +kernel
theorem dX9_addNumber_24 : decode cX9_addNumber 24 = .ok (.iload_n 2, 1) := by decide +kernel
theorem dX9_addNumber_25 : decode cX9_addNumber 25 = .ok (.bipush 100, 2) := by decide +kernel
theorem dX9_addNumber_27 : decode cX9_addNumber 27 = .ok (.idiv, 1) := by decide +kernel
theorem dX9_addNumber_28 : decode cX9_addNumber 28 = .ok (.bipush 10, 2) := by decide +kernel
theorem dX9_addNumber_30 : decode cX9_addNumber 30 = .ok (.irem, 1) := by decide +kernel
theorem dX9_addNumber_31 : decode cX9_addNumber 31 = .ok (.iadd, 1) := by decide +kernel
theorem dX9_addNumber_32 : decode cX9_addNumber 32 = .ok (.invokevirtual 34, 3) := by decide +kernel
theorem dX9_addNumber_35 : decode cX9_addNumber 35 = .ok (.iload_n 2, 1) := by decide +kernel
theorem dX9_addNumber_36 : decode cX9_addNumber 36 = .ok (.bipush 9, 2) := by decide +kernel
theorem dX9_addNumber_38 : decode cX9_addNumber 38 = .ok (.if_icmp .le 17, 3) := by decide +kernel
theorem dX9_addNumber_41 : decode cX9_addNumber 41 = .ok (.aload_n 0, 1) := by decide +kernel
theorem dX9_addNumber_42 : decode cX9_addNumber 42 = .ok (.bipush 48, 2) := by decide +kernel
theorem dX9_addNumber_44 : decode cX9_addNumber 44 = .ok (.iload_n 2, 1) := by decide +kernel
theorem dX9_addNumber_45 : decode cX9_addNumber 45 = .ok (.bipush 10, 2) := by decide +kernel
theorem dX9_addNumber_47 : decode cX9_addNumber 47 = .ok (.idiv, 1) := by decide +kernel
theorem dX9_addNumber_48 : decode cX9_addNumber 48 = .ok (.bipush 10, 2) := by decide +kernel
theorem dX9_addNumber_50 : decode cX9_addNumber 50 = .ok (.irem, 1) := by decide +kernel
theorem dX9_addNumber_51 : decode cX9_addNumber 51 = .ok (.iadd, 1) := by decide +kernel
theorem dX9_addNumber_52 : decode cX9_addNumber 52 = .ok (.invokevirtual 34, 3) := by decide +kernel
theorem dX9_addNumber_55 : decode cX9_addNumber 55 = .ok (.aload_n 0, 1) := by decide +kernel
theorem dX9_addNumber_56 : decode cX9_addNumber 56 = .ok (.bipush 48, 2) := by decide +kernel
theorem dX9_addNumber_58 : decode cX9_addNumber 58 = .ok (.iload_n 2, 1) := by decide +kernel
theorem dX9_addNumber_59 : decode cX9_addNumber 59 = .ok (.bipush 10, 2) := by decide +kernel
theorem dX9_addNumber_61 : decode cX9_addNumber 61 = .ok (.irem, 1) := by decide +kernel
theorem dX9_addNumber_62 : decode cX9_addNumber 62 = .ok (.iadd, 1) := by decide +kernel
theorem dX9_addNumber_63 : decode cX9_addNumber 63 = .ok (.invokevirtual 34, 3) := by decide +kernel
theorem dX9_addNumber_66 : decode cX9_addNumber 66 = .ok (.return_, 1) := by decide +kernel
theorem dX9_says_0 : decode cX9_says 0 = .ok (.aload_n 0, 1) := by decide +kernel
theorem dX9_says_1 : decode cX9_says 1 = .ok (.getfield 21, 3) := by decide +kernel
theorem dX9_says_4 : decode cX9_says 4 = .ok (.aload_n 1, 1) := by decide +kernel
theorem dX9_says_5 : decode cX9_says 5 = .ok (.invokevirtual 25, 3) := by decide +kernel
theorem dX9_says_8 : decode cX9_says 8 = .ok (.if_icmp .ne 7, 3) := by decide +kernel
theorem dX9_says_11 : decode cX9_says 11 = .ok (.iconst 1, 1) := by decide +kernel
theorem dX9_says_12 : decode cX9_says 12 = .ok (.goto 4, 3) := by decide +kernel
theorem dX9_says_15 : decode cX9_says 15 = .ok (.iconst 0, 1) := by decide +kernel
theorem dX9_says_16 : decode cX9_says 16 = .ok (.istore_n 2, 1) := by decide +kernel
theorem dX9_says_17 : decode cX9_says 17 = .ok (.iconst 0, 1) := by decide +kernel
theorem dX9_says_18 : decode cX9_says 18 = .ok (.istore_n 3, 1) := by decide +kernel
theorem dX9_says_19 : decode cX9_says 19 = .ok (.iload_n 3, 1) := by decide +kernel
theorem dX9_says_20 : decode cX9_says 20 = .ok (.aload_n 0, 1) := by decide +kernel
theorem dX9_says_21 : decode cX9_says 21 = .ok (.getfield 21, 3) := by decide +kernel
theorem dX9_says_24 : decode cX9_says 24 = .ok (.if_icmp .ge 32, 3) := by decide +kernel
theorem dX9_says_27 : decode cX9_says 27 = .ok (.iload_n 2, 1) := by decide +kernel
theorem dX9_says_28 : decode cX9_says 28 = .ok (.ifCond .eq 28, 3) := by decide +kernel
theorem dX9_says_31 : decode cX9_says 31 = .ok (.aload_n 0, 1) := by decide +kernel
theorem dX9_says_32 : decode cX9_says 32 = .ok (.iload_n 3, 1) := by decide +kernel
theorem dX9_says_33 : decode cX9_says 33 = .ok (.invokevirtual 39, 3) := by decide +kernel
theorem dX9_says_36 : decode cX9_says 36 = .ok (.aload_n 1, 1) := by decide +kernel
theorem dX9_says_37 : decode cX9_says 37 = .ok (.iload_n 3, 1) := by decide +kernel
theorem dX9_says_38 : decode cX9_says 38 = .ok (.invokevirtual 30, 3) := by decide +kernel
theorem dX9_says_41 : decode cX9_says 41 = .ok (.if_icmp .ne 7, 3) := by decide +kernel
theorem dX9_says_44 : decode cX9_says 44 = .ok (.iconst 1, 1) := by decide +kernel
theorem dX9_says_45 : decode cX9_says 45 = .ok (.goto 4, 3) := by decide +kernel
theorem dX9_says_48 : decode cX9_says 48 = .ok (.iconst 0, 1) := by decide +kernel
theorem dX9_says_49 : decode cX9_says 49 = .ok (.istore_n 2, 1) := by decide +kernel
theorem dX9_says_50 : decode cX9_says 50 = .ok (.iinc 3 1, 3) := by decide +kernel
theorem dX9_says_53 : decode cX9_says 53 = .ok (.goto (-34), 3) := by decide +kernel
theorem dX9_says_56 : decode cX9_says 56 = .ok (.iload_n 2, 1) := by decide +kernel
theorem dX9_says_57 : decode cX9_says 57 = .ok (.ireturn, 1) := by decide +kernel
theorem dX9_endsWith_0 : decode cX9_endsWith 0 = .ok (.aload_n 0, 1) := by decide +kernel
theorem dX9_endsWith_1 : decode cX9_endsWith 1 = .ok (.getfield 21, 3) := by decide +kernel
theorem dX9_endsWith_4 : decode cX9_endsWith 4 = .ok (.iload_n 2, 1) := by decide +kernel
theorem dX9_endsWith_5 : decode cX9_endsWith 5 = .ok (.isub, 1) := by decide +kernel
theorem dX9_endsWith_6 : decode cX9_endsWith 6 = .ok (.aload_n 1, 1) := by decide +kernel
theorem dX9_endsWith_7 : decode cX9_endsWith 7 = .ok (.invokevirtual 38, 3) := by decide +kernel
theorem dX9_endsWith_10 : decode cX9_endsWith 10 = .ok (.if_icmp .ne 7, 3) := by decide +kernel
theorem dX9_endsWith_13 : decode cX9_endsWith 13 = .ok (.iconst 1, 1) := by decide +kernel
theorem dX9_endsWith_14 : decode cX9_endsWith 14 = .ok (.goto 4, 3) := by decide +kernel
theorem dX9_endsWith_17 : decode cX9_endsWith 17 = .ok (.iconst 0, 1) := by decide +kernel
theorem dX9_endsWith_18 : decode cX9_endsWith 18 = .ok (.istore_n 3, 1) := by decide +kernel
theorem dX9_endsWith_19 : decode cX9_endsWith 19 = .ok (.iconst 0, 1) := by decide +kernel
theorem dX9_endsWith_20 : decode cX9_endsWith 20 = .ok (.istore 4, 2) := by decide +kernel
theorem dX9_endsWith_22 : decode cX9_endsWith 22 = .ok (.iload 4, 2) := by decide +kernel
theorem dX9_endsWith_24 : decode cX9_endsWith 24 = .ok (.aload_n 1, 1) := by decide +kernel
theorem dX9_endsWith_25 : decode cX9_endsWith 25 = .ok (.invokevirtual 38, 3) := by decide +kernel
theorem dX9_endsWith_28 : decode cX9_endsWith 28 = .ok (.if_icmp .ge 36, 3) := by decide +kernel
theorem dX9_endsWith_31 : decode cX9_endsWith 31 = .ok (.iload_n 3, 1) := by decide +kernel
theorem dX9_endsWith_32 : decode cX9_endsWith 32 = .ok (.ifCond .eq 32, 3) := by decide +kernel
theorem dX9_endsWith_35 : decode cX9_endsWith 35 = .ok (.aload_n 0, 1) := by decide +kernel
theorem dX9_endsWith_36 : decode cX9_endsWith 36 = .ok (.iload_n 2, 1) := by decide +kernel
theorem dX9_endsWith_37 : decode cX9_endsWith 37 = .ok (.iload 4, 2) := by decide +kernel
theorem dX9_endsWith_39 : decode cX9_endsWith 39 = .ok (.iadd, 1) := by decide +kernel
theorem dX9_endsWith_40 : decode cX9_endsWith 40 = .ok (.invokevirtual 39, 3) := by decide +kernel
theorem dX9_endsWith_43 : decode cX9_endsWith 43 = .ok (.aload_n 1, 1) := by decide +kernel
theorem dX9_endsWith_44 : decode cX9_endsWith 44 = .ok (.iload 4, 2) := by decide +kernel
theorem dX9_endsWith_46 : decode cX9_endsWith 46 = .ok (.invokevirtual 39, 3) := by decide +kernel
theorem dX9_endsWith_49 : decode cX9_endsWith 49 = .ok (.if_icmp .ne 7, 3) := by decide +kernel
theorem dX9_endsWith_52 : decode cX9_endsWith 52 = .ok (.iconst 1, 1) := by decide +kernel
theorem dX9_endsWith_53 : decode cX9_endsWith 53 = .ok (.goto 4, 3) := by decide +kernel
theorem dX9_endsWith_56 : decode cX9_endsWith 56 = .ok (.iconst 0, 1) := by decide +kernel
theorem dX9_endsWith_57 : decode cX9_endsWith 57 = .ok (.istore_n 3, 1) := by decide +kernel
theorem dX9_endsWith_58 : decode cX9_endsWith 58 = .ok (.iinc 4 1, 3) := by decide +kernel
theorem dX9_endsWith_61 : decode cX9_endsWith 61 = .ok (.goto (-39), 3) := by decide +kernel
theorem dX9_endsWith_64 : decode cX9_endsWith 64 = .ok (.iload_n 3, 1) := by decide +kernel
theorem dX9_endsWith_65 : decode cX9_endsWith 65 = .ok (.ireturn, 1) := by decide +kernel
theorem dX9_placeOf_0 : decode cX9_placeOf 0 = .ok (.iconst 0, 1) := by decide +kernel
theorem dX9_placeOf_1 : decode cX9_placeOf 1 = .ok (.istore_n 2, 1) := by decide +kernel
theorem dX9_placeOf_2 : decode cX9_placeOf 2 = .ok (.iload_n 2, 1) := by decide +kernel
theorem dX9_placeOf_3 : decode cX9_placeOf 3 = .ok (.aload_n 0, 1) := by decide +kernel
theorem dX9_placeOf_4 : decode cX9_placeOf 4 = .ok (.getfield 21, 3) := by decide +kernel
theorem dX9_placeOf_7 : decode cX9_placeOf 7 = .ok (.if_icmp .ge 20, 3) := by decide +kernel
theorem dX9_placeOf_10 : decode cX9_placeOf 10 = .ok (.aload_n 0, 1) := by decide +kernel
theorem dX9_placeOf_11 : decode cX9_placeOf 11 = .ok (.iload_n 2, 1) := by decide +kernel
theorem dX9_placeOf_12 : decode cX9_placeOf 12 = .ok (.invokevirtual 39, 3) := by decide +kernel
theorem dX9_placeOf_15 : decode cX9_placeOf 15 = .ok (.iload_n 1, 1) := by decide +kernel
theorem dX9_placeOf_16 : decode cX9_placeOf 16 = .ok (.if_icmp .ne 5, 3) := by decide +kernel
theorem dX9_placeOf_19 : decode cX9_placeOf 19 = .ok (.iload_n 2, 1) := by decide +kernel
theorem dX9_placeOf_20 : decode cX9_placeOf 20 = .ok (.ireturn, 1) := by decide +kernel
theorem dX9_placeOf_21 : decode cX9_placeOf 21 = .ok (.iinc 2 1, 3) := by decide +kernel
theorem dX9_placeOf_24 : decode cX9_placeOf 24 = .ok (.goto (-22), 3) := by decide +kernel
theorem dX9_placeOf_27 : decode cX9_placeOf 27 = .ok (.iconst (-1), 1) := by decide +kernel
theorem dX9_placeOf_28 : decode cX9_placeOf 28 = .ok (.ireturn, 1) := by decide +kernel
theorem dX9_digestOf_0 : decode cX9_digestOf 0 = .ok (.bipush 7, 2) := by decide +kernel
theorem dX9_digestOf_2 : decode cX9_digestOf 2 = .ok (.istore_n 1, 1) := by decide +kernel
theorem dX9_digestOf_3 : decode cX9_digestOf 3 = .ok (.iconst 0, 1) := by decide +kernel
theorem dX9_digestOf_4 : decode cX9_digestOf 4 = .ok (.istore_n 2, 1) := by decide +kernel
theorem dX9_digestOf_5 : decode cX9_digestOf 5 = .ok (.iload_n 2, 1) := by decide +kernel
theorem dX9_digestOf_6 : decode cX9_digestOf 6 = .ok (.aload_n 0, 1) := by decide +kernel
theorem dX9_digestOf_7 : decode cX9_digestOf 7 = .ok (.getfield 21, 3) := by decide +kernel
theorem dX9_digestOf_10 : decode cX9_digestOf 10 = .ok (.if_icmp .ge 24, 3) := by decide +kernel
theorem dX9_digestOf_13 : decode cX9_digestOf 13 = .ok (.sipush 257, 3) := by decide +kernel
theorem dX9_digestOf_16 : decode cX9_digestOf 16 = .ok (.iload_n 1, 1) := by decide +kernel
theorem dX9_digestOf_17 : decode cX9_digestOf 17 = .ok (.imul, 1) := by decide +kernel
theorem dX9_digestOf_18 : decode cX9_digestOf 18 = .ok (.aload_n 0, 1) := by decide +kernel
theorem dX9_digestOf_19 : decode cX9_digestOf 19 = .ok (.iload_n 2, 1) := by decide +kernel
theorem dX9_digestOf_20 : decode cX9_digestOf 20 = .ok (.invokevirtual 39, 3) := by decide +kernel
theorem dX9_digestOf_23 : decode cX9_digestOf 23 = .ok (.iadd, 1) := by decide +kernel
theorem dX9_digestOf_24 : decode cX9_digestOf 24 = .ok (.ldc 46, 2) := by decide +kernel
theorem dX9_digestOf_26 : decode cX9_digestOf 26 = .ok (.irem, 1) := by decide +kernel
theorem dX9_digestOf_27 : decode cX9_digestOf 27 = .ok (.istore_n 1, 1) := by decide +kernel
theorem dX9_digestOf_28 : decode cX9_digestOf 28 = .ok (.iinc 2 1, 3) := by decide +kernel
theorem dX9_digestOf_31 : decode cX9_digestOf 31 = .ok (.goto (-26), 3) := by decide +kernel
theorem dX9_digestOf_34 : decode cX9_digestOf 34 = .ok (.iload_n 1, 1) := by decide +kernel
theorem dX9_digestOf_35 : decode cX9_digestOf 35 = .ok (.ireturn, 1) := by decide +kernel
theorem dX10_init_0 : decode cX10_init 0 = .ok (.aload_n 0, 1) := by decide +kernel
theorem dX10_init_1 : decode cX10_init 1 = .ok (.invokespecial 3, 3) := by decide +kernel
theorem dX10_init_4 : decode cX10_init 4 = .ok (.aload_n 0, 1) := by decide +kernel
theorem dX10_init_5 : decode cX10_init 5 = .ok (.bipush 100, 2) := by decide +kernel
theorem dX10_init_7 : decode cX10_init 7 = .ok (.newarray .int, 2) := by decide +kernel
theorem dX10_init_9 : decode cX10_init 9 = .ok (.putfield 9, 3) := by decide +kernel
theorem dX10_init_12 : decode cX10_init 12 = .ok (.aload_n 0, 1) := by decide +kernel
theorem dX10_init_13 : decode cX10_init 13 = .ok (.bipush 100, 2) := by decide +kernel
theorem dX10_init_15 : decode cX10_init 15 = .ok (.newarray .int, 2) := by decide +kernel
theorem dX10_init_17 : decode cX10_init 17 = .ok (.putfield 15, 3) := by decide +kernel
theorem dX10_init_20 : decode cX10_init 20 = .ok (.aload_n 0, 1) := by decide +kernel
theorem dX10_init_21 : decode cX10_init 21 = .ok (.bipush 100, 2) := by decide +kernel
theorem dX10_init_23 : decode cX10_init 23 = .ok (.newarray .int, 2) := by decide +kernel
theorem dX10_init_25 : decode cX10_init 25 = .ok (.putfield 18, 3) := by decide +kernel
theorem dX10_init_28 : decode cX10_init 28 = .ok (.aload_n 0, 1) := by decide +kernel
theorem dX10_init_29 : decode cX10_init 29 = .ok (.bipush 100, 2) := by decide +kernel
theorem dX10_init_31 : decode cX10_init 31 = .ok (.newarray .int, 2) := by decide +kernel
theorem dX10_init_33 : decode cX10_init 33 = .ok (.putfield 21, 3) := by decide +kernel
theorem dX10_init_36 : decode cX10_init 36 = .ok (.aload_n 0, 1) := by decide +kernel
theorem dX10_init_37 : decode cX10_init 37 = .ok (.sipush 4000, 3) := by decide +kernel
theorem dX10_init_40 : decode cX10_init 40 = .ok (.newarray .char, 2) := by decide +kernel
theorem dX10_init_42 : decode cX10_init 42 = .ok (.putfield 24, 3) := by decide +kernel
theorem dX10_init_45 : decode cX10_init 45 = .ok (.aload_n 0, 1) := by decide +kernel
theorem dX10_init_46 : decode cX10_init 46 = .ok (.bipush 100, 2) := by decide +kernel
theorem dX10_init_48 : decode cX10_init 48 = .ok (.newarray .int, 2) := by decide +kernel
theorem dX10_init_50 : decode cX10_init 50 = .ok (.putfield 28, 3) := by decide +kernel
theorem dX10_init_53 : decode cX10_init 53 = .ok (.aload_n 0, 1) := by decide +kernel
theorem dX10_init_54 : decode cX10_init 54 = .ok (.sipush 1200, 3) := by decide +kernel
theorem dX10_init_57 : decode cX10_init 57 = .ok (.newarray .char, 2) := by decide +kernel
theorem dX10_init_59 : decode cX10_init 59 = .ok (.putfield 31, 3) := by decide +kernel
theorem dX10_init_62 : decode cX10_init 62 = .ok (.return_, 1) := by decide +kernel
theorem dX10_clear_0 : decode cX10_clear 0 = .ok (.aload_n 0, 1) := by decide +kernel
theorem dX10_clear_1 : decode cX10_clear 1 = .ok (.iconst 0, 1) := by decide +kernel
theorem dX10_clear_2 : decode cX10_clear 2 = .ok (.putfield 34, 3) := by decide +kernel
theorem dX10_clear_5 : decode cX10_clear 5 = .ok (.aload_n 0, 1) := by decide +kernel
theorem dX10_clear_6 : decode cX10_clear 6 = .ok (.iconst 0, 1) := by decide +kernel
theorem dX10_clear_7 : decode cX10_clear 7 = .ok (.putfield 38, 3) := by decide +kernel
theorem dX10_clear_10 : decode cX10_clear 10 = .ok (.return_, 1) := by decide +kernel
theorem dX10_count_0 : decode cX10_count 0 = .ok (.aload_n 0, 1) := by decide +kernel
theorem dX10_count_1 : decode cX10_count 1 = .ok (.getfield 34, 3) := by decide +kernel
theorem dX10_count_4 : decode cX10_count 4 = .ok (.ireturn, 1) := by decide +kernel
theorem dX10_isOverfull_0 : decode cX10_isOverfull 0 = .ok (.aload_n 0, 1) := by decide +kernel
theorem dX10_isOverfull_1 : decode cX10_isOverfull 1 = .ok (.getfield 38, 3) := by decide +kernel
theorem dX10_isOverfull_4 : decode cX10_isOverfull 4 = .ok (.ireturn, 1) := by decide +kernel
theorem dX10_has_0 : decode cX10_has 0 = .ok (.iload_n 1, 1) := by decide +kernel
theorem dX10_has_1 : decode cX10_has 1 = .ok (.ifCond .lt 21, 3) := by decide +kernel
theorem dX10_has_4 : decode cX10_has 4 = .ok (.iload_n 1, 1) := by decide +kernel
theorem dX10_has_5 : decode cX10_has 5 = .ok (.aload_n 0, 1) := by decide +kernel
theorem dX10_has_6 : decode cX10_has 6 = .ok (.getfield 34, 3) := by decide +kernel
theorem dX10_has_9 : decode cX10_has 9 = .ok (.if_icmp .ge 13, 3) := by decide +kernel
theorem dX10_has_12 : decode cX10_has 12 = .ok (.iload_n 1, 1) := by decide +kernel
theorem dX10_has_13 : decode cX10_has 13 = .ok (.bipush 100, 2) := by decide +kernel
theorem dX10_has_15 : decode cX10_has 15 = .ok (.if_icmp .ge 7, 3) := by decide +kernel
theorem dX10_has_18 : decode cX10_has 18 = .ok (.iconst 1, 1) := by decide +kernel
theorem dX10_has_19 : decode cX10_has 19 = .ok (.goto 4, 3) := by decide +kernel
theorem dX10_has_22 : decode cX10_has 22 = .ok (.iconst 0, 1) := by decide +kernel
theorem dX10_has_23 : decode cX10_has 23 = .ok (.ireturn, 1) := by decide +kernel
theorem dX10_kind_0 : decode cX10_kind 0 = .ok (.iload_n 1, 1) := by decide +kernel
theorem dX10_kind_1 : decode cX10_kind 1 = .ok (.ifCond .lt 26, 3) := by decide +kernel
theorem dX10_kind_4 : decode cX10_kind 4 = .ok (.iload_n 1, 1) := by decide +kernel
theorem dX10_kind_5 : decode cX10_kind 5 = .ok (.aload_n 0, 1) := by decide +kernel
theorem dX10_kind_6 : decode cX10_kind 6 = .ok (.getfield 34, 3) := by decide +kernel
theorem dX10_kind_9 : decode cX10_kind 9 = .ok (.if_icmp .ge 18, 3) := by decide +kernel
theorem dX10_kind_12 : decode cX10_kind 12 = .ok (.iload_n 1, 1) := by decide +kernel
theorem dX10_kind_13 : decode cX10_kind 13 = .ok (.bipush 100, 2) := by decide +kernel
theorem dX10_kind_15 : decode cX10_kind 15 = .ok (.if_icmp .ge 12, 3) := by decide +kernel
theorem dX10_kind_18 : decode cX10_kind 18 = .ok (.aload_n 0, 1) := by decide +kernel
theorem dX10_kind_19 : decode cX10_kind 19 = .ok (.getfield 9, 3) := by decide +kernel
theorem dX10_kind_22 : decode cX10_kind 22 = .ok (.iload_n 1, 1) := by decide +kernel
theorem dX10_kind_23 : decode cX10_kind 23 = .ok (.iaload, 1) := by decide +kernel
theorem dX10_kind_24 : decode cX10_kind 24 = .ok (.goto 4, 3) := by decide +kernel
theorem dX10_kind_27 : decode cX10_kind 27 = .ok (.iconst (-1), 1) := by decide +kernel
theorem dX10_kind_28 : decode cX10_kind 28 = .ok (.ireturn, 1) := by decide +kernel
theorem dX10_is_0 : decode cX10_is 0 = .ok (.iload_n 1, 1) := by decide +kernel
theorem dX10_is_1 : decode cX10_is 1 = .ok (.ifCond .lt 31, 3) := by decide +kernel
theorem dX10_is_4 : decode cX10_is 4 = .ok (.iload_n 1, 1) := by decide +kernel
theorem dX10_is_5 : decode cX10_is 5 = .ok (.aload_n 0, 1) := by decide +kernel
theorem dX10_is_6 : decode cX10_is 6 = .ok (.getfield 34, 3) := by decide +kernel
theorem dX10_is_9 : decode cX10_is 9 = .ok (.if_icmp .ge 23, 3) := by decide +kernel
theorem dX10_is_12 : decode cX10_is 12 = .ok (.iload_n 1, 1) := by decide +kernel
theorem dX10_is_13 : decode cX10_is 13 = .ok (.bipush 100, 2) := by decide +kernel
theorem dX10_is_15 : decode cX10_is 15 = .ok (.if_icmp .ge 17, 3) := by decide +kernel
theorem dX10_is_18 : decode cX10_is 18 = .ok (.aload_n 0, 1) := by decide +kernel
theorem dX10_is_19 : decode cX10_is 19 = .ok (.getfield 9, 3) := by decide +kernel
theorem dX10_is_22 : decode cX10_is 22 = .ok (.iload_n 1, 1) := by decide +kernel
theorem dX10_is_23 : decode cX10_is 23 = .ok (.iaload, 1) := by decide +kernel
theorem dX10_is_24 : decode cX10_is 24 = .ok (.iload_n 2, 1) := by decide +kernel
theorem dX10_is_25 : decode cX10_is 25 = .ok (.if_icmp .ne 7, 3) := by decide +kernel
theorem dX10_is_28 : decode cX10_is 28 = .ok (.iconst 1, 1) := by decide +kernel
theorem dX10_is_29 : decode cX10_is 29 = .ok (.goto 4, 3) := by decide +kernel
theorem dX10_is_32 : decode cX10_is 32 = .ok (.iconst 0, 1) := by decide +kernel
theorem dX10_is_33 : decode cX10_is 33 = .ok (.ireturn, 1) := by decide +kernel
theorem dX10_isGroup_0 : decode cX10_isGroup 0 = .ok (.iload_n 1, 1) := by decide +kernel
theorem dX10_isGroup_1 : decode cX10_isGroup 1 = .ok (.ifCond .lt 41, 3) := by decide +kernel
theorem dX10_isGroup_4 : decode cX10_isGroup 4 = .ok (.iload_n 1, 1) := by decide +kernel
theorem dX10_isGroup_5 : decode cX10_isGroup 5 = .ok (.aload_n 0, 1) := by decide +kernel
theorem dX10_isGroup_6 : decode cX10_isGroup 6 = .ok (.getfield 34, 3) := by decide +kernel
theorem dX10_isGroup_9 : decode cX10_isGroup 9 = .ok (.if_icmp .ge 33, 3) := by decide +kernel
theorem dX10_isGroup_12 : decode cX10_isGroup 12 = .ok (.iload_n 1, 1) := by decide +kernel
theorem dX10_isGroup_13 : decode cX10_isGroup 13 = .ok (.bipush 100, 2) := by decide +kernel
theorem dX10_isGroup_15 : decode cX10_isGroup 15 = .ok (.if_icmp .ge 27, 3) := by decide +kernel
theorem dX10_isGroup_18 : decode cX10_isGroup 18 = .ok (.aload_n 0, 1) := by decide +kernel
theorem dX10_isGroup_19 : decode cX10_isGroup 19 = .ok (.getfield 9, 3) := by decide +kernel
theorem dX10_isGroup_22 : decode cX10_isGroup 22 = .ok (.iload_n 1, 1) := by decide +kernel
theorem dX10_isGroup_23 : decode cX10_isGroup 23 = .ok (.iaload, 1) := by decide +kernel
theorem dX10_isGroup_24 : decode cX10_isGroup 24 = .ok (.iconst 4, 1) := by decide +kernel
theorem dX10_isGroup_25 : decode cX10_isGroup 25 = .ok (.if_icmp .eq 13, 3) := by decide +kernel
theorem dX10_isGroup_28 : decode cX10_isGroup 28 = .ok (.aload_n 0, 1) := by decide +kernel
theorem dX10_isGroup_29 : decode cX10_isGroup 29 = .ok (.getfield 9, 3) := by decide +kernel
theorem dX10_isGroup_32 : decode cX10_isGroup 32 = .ok (.iload_n 1, 1) := by decide +kernel
theorem dX10_isGroup_33 : decode cX10_isGroup 33 = .ok (.iaload, 1) := by decide +kernel
theorem dX10_isGroup_34 : decode cX10_isGroup 34 = .ok (.iconst 5, 1) := by decide +kernel
theorem dX10_isGroup_35 : decode cX10_isGroup 35 = .ok (.if_icmp .ne 7, 3) := by decide +kernel
theorem dX10_isGroup_38 : decode cX10_isGroup 38 = .ok (.iconst 1, 1) := by decide +kernel
theorem dX10_isGroup_39 : decode cX10_isGroup 39 = .ok (.goto 4, 3) := by decide +kernel
theorem dX10_isGroup_42 : decode cX10_isGroup 42 = .ok (.iconst 0, 1) := by decide +kernel
theorem dX10_isGroup_43 : decode cX10_isGroup 43 = .ok (.ireturn, 1) := by decide +kernel
theorem dX10_isTrue_0 : decode cX10_isTrue 0 = .ok (.aload_n 0, 1) := by decide +kernel
theorem dX10_isTrue_1 : decode cX10_isTrue 1 = .ok (.iload_n 1, 1) := by decide +kernel
theorem dX10_isTrue_2 : decode cX10_isTrue 2 = .ok (.iconst 1, 1) := by decide +kernel
theorem dX10_isTrue_3 : decode cX10_isTrue 3 = .ok (.invokevirtual 42, 3) := by decide +kernel
theorem dX10_isTrue_6 : decode cX10_isTrue 6 = .ok (.ifCond .eq 17, 3) := by decide +kernel
theorem dX10_isTrue_9 : decode cX10_isTrue 9 = .ok (.aload_n 0, 1) := by decide +kernel
theorem dX10_isTrue_10 : decode cX10_isTrue 10 = .ok (.getfield 18, 3) := by decide +kernel
theorem dX10_isTrue_13 : decode cX10_isTrue 13 = .ok (.iload_n 1, 1) := by decide +kernel
theorem dX10_isTrue_14 : decode cX10_isTrue 14 = .ok (.iaload, 1) := by decide +kernel
theorem dX10_isTrue_15 : decode cX10_isTrue 15 = .ok (.iconst 1, 1) := by decide +kernel
theorem dX10_isTrue_16 : decode cX10_isTrue 16 = .ok (.if_icmp .ne 7, 3) := by decide +kernel
theorem dX10_isTrue_19 : decode cX10_isTrue 19 = .ok (.iconst 1, 1) := by decide +kernel
theorem dX10_isTrue_20 : decode cX10_isTrue 20 = .ok (.goto 4, 3) := by decide +kernel
theorem dX10_isTrue_23 : decode cX10_isTrue 23 = .ok (.iconst 0, 1) := by decide +kernel
theorem dX10_isTrue_24 : decode cX10_isTrue 24 = .ok (.ireturn, 1) := by decide +kernel
theorem dX10_power_0 : decode cX10_power 0 = .ok (.aload_n 0, 1) := by decide +kernel
theorem dX10_power_1 : decode cX10_power 1 = .ok (.iload_n 1, 1) := by decide +kernel
theorem dX10_power_2 : decode cX10_power 2 = .ok (.iconst 2, 1) := by decide +kernel
theorem dX10_power_3 : decode cX10_power 3 = .ok (.invokevirtual 42, 3) := by decide +kernel
theorem dX10_power_6 : decode cX10_power 6 = .ok (.ifCond .eq 12, 3) := by decide +kernel
theorem dX10_power_9 : decode cX10_power 9 = .ok (.aload_n 0, 1) := by decide +kernel
theorem dX10_power_10 : decode cX10_power 10 = .ok (.getfield 18, 3) := by decide +kernel
theorem dX10_power_13 : decode cX10_power 13 = .ok (.iload_n 1, 1) := by decide +kernel
theorem dX10_power_14 : decode cX10_power 14 = .ok (.iaload, 1) := by decide +kernel
theorem dX10_power_15 : decode cX10_power 15 = .ok (.goto 4, 3) := by decide +kernel
theorem dX10_power_18 : decode cX10_power 18 = .ok (.iconst 0, 1) := by decide +kernel
theorem dX10_power_19 : decode cX10_power 19 = .ok (.ireturn, 1) := by decide +kernel
theorem dX10_size_0 : decode cX10_size 0 = .ok (.iload_n 1, 1) := by decide +kernel
theorem dX10_size_1 : decode cX10_size 1 = .ok (.ifCond .lt 26, 3) := by decide +kernel
theorem dX10_size_4 : decode cX10_size 4 = .ok (.iload_n 1, 1) := by decide +kernel
theorem dX10_size_5 : decode cX10_size 5 = .ok (.aload_n 0, 1) := by decide +kernel
theorem dX10_size_6 : decode cX10_size 6 = .ok (.getfield 34, 3) := by decide +kernel
theorem dX10_size_9 : decode cX10_size 9 = .ok (.if_icmp .ge 18, 3) := by decide +kernel
theorem dX10_size_12 : decode cX10_size 12 = .ok (.iload_n 1, 1) := by decide +kernel
theorem dX10_size_13 : decode cX10_size 13 = .ok (.bipush 100, 2) := by decide +kernel
theorem dX10_size_15 : decode cX10_size 15 = .ok (.if_icmp .ge 12, 3) := by decide +kernel
theorem dX10_size_18 : decode cX10_size 18 = .ok (.aload_n 0, 1) := by decide +kernel
theorem dX10_size_19 : decode cX10_size 19 = .ok (.getfield 15, 3) := by decide +kernel
theorem dX10_size_22 : decode cX10_size 22 = .ok (.iload_n 1, 1) := by decide +kernel
theorem dX10_size_23 : decode cX10_size 23 = .ok (.iaload, 1) := by decide +kernel
theorem dX10_size_24 : decode cX10_size 24 = .ok (.goto 4, 3) := by decide +kernel
theorem dX10_size_27 : decode cX10_size 27 = .ok (.iconst 0, 1) := by decide +kernel
theorem dX10_size_28 : decode cX10_size 28 = .ok (.ireturn, 1) := by decide +kernel
theorem dX10_after_0 : decode cX10_after 0 = .ok (.iload_n 1, 1) := by decide +kernel
theorem dX10_after_1 : decode cX10_after 1 = .ok (.ifCond .lt 32, 3) := by decide +kernel
theorem dX10_after_4 : decode cX10_after 4 = .ok (.iload_n 1, 1) := by decide +kernel
theorem dX10_after_5 : decode cX10_after 5 = .ok (.aload_n 0, 1) := by decide +kernel
theorem dX10_after_6 : decode cX10_after 6 = .ok (.getfield 34, 3) := by decide +kernel
theorem dX10_after_9 : decode cX10_after 9 = .ok (.if_icmp .ge 24, 3) := by decide +kernel
theorem dX10_after_12 : decode cX10_after 12 = .ok (.iload_n 1, 1) := by decide +kernel
theorem dX10_after_13 : decode cX10_after 13 = .ok (.bipush 100, 2) := by decide +kernel
theorem dX10_after_15 : decode cX10_after 15 = .ok (.if_icmp .ge 18, 3) := by decide +kernel
theorem dX10_after_18 : decode cX10_after 18 = .ok (.iload_n 1, 1) := by decide +kernel
theorem dX10_after_19 : decode cX10_after 19 = .ok (.iconst 1, 1) := by decide +kernel
theorem dX10_after_20 : decode cX10_after 20 = .ok (.aload_n 0, 1) := by decide +kernel
theorem dX10_after_21 : decode cX10_after 21 = .ok (.getfield 15, 3) := by decide +kernel
theorem dX10_after_24 : decode cX10_after 24 = .ok (.iload_n 1, 1) := by decide +kernel
theorem dX10_after_25 : decode cX10_after 25 = .ok (.iaload, 1) := by decide +kernel
theorem dX10_after_26 : decode cX10_after 26 = .ok (.invokestatic 46, 3) := by decide +kernel
theorem dX10_after_29 : decode cX10_after 29 = .ok (.iadd, 1) := by decide +kernel
theorem dX10_after_30 : decode cX10_after 30 = .ok (.goto 6, 3) := by decide +kernel
theorem dX10_after_33 : decode cX10_after 33 = .ok (.iload_n 1, 1) := by decide +kernel
theorem dX10_after_34 : decode cX10_after 34 = .ok (.iconst 1, 1) := by decide +kernel
theorem dX10_after_35 : decode cX10_after 35 = .ok (.iadd, 1) := by decide +kernel
theorem dX10_after_36 : decode cX10_after 36 = .ok (.ireturn, 1) := by decide +kernel
theorem dX10_first_0 : decode cX10_first 0 = .ok (.iload_n 1, 1) := by decide +kernel
theorem dX10_first_1 : decode cX10_first 1 = .ok (.ifCond .lt 23, 3) := by decide +kernel
theorem dX10_first_4 : decode cX10_first 4 = .ok (.iload_n 1, 1) := by decide +kernel
theorem dX10_first_5 : decode cX10_first 5 = .ok (.aload_n 0, 1) := by decide +kernel
theorem dX10_first_6 : decode cX10_first 6 = .ok (.getfield 34, 3) := by decide +kernel
theorem dX10_first_9 : decode cX10_first 9 = .ok (.iconst 1, 1) := by decide +kernel
theorem dX10_first_10 : decode cX10_first 10 = .ok (.isub, 1) := by decide +kernel
theorem dX10_first_11 : decode cX10_first 11 = .ok (.if_icmp .ge 13, 3) := by decide +kernel
theorem dX10_first_14 : decode cX10_first 14 = .ok (.iload_n 1, 1) := by decide +kernel
theorem dX10_first_15 : decode cX10_first 15 = .ok (.bipush 100, 2) := by decide +kernel
theorem dX10_first_17 : decode cX10_first 17 = .ok (.if_icmp .ge 7, 3) := by decide +kernel
theorem dX10_first_20 : decode cX10_first 20 = .ok (.iconst 1, 1) := by decide +kernel
theorem dX10_first_21 : decode cX10_first 21 = .ok (.goto 4, 3) := by decide +kernel
theorem dX10_first_24 : decode cX10_first 24 = .ok (.iconst 0, 1) := by decide +kernel
theorem dX10_first_25 : decode cX10_first 25 = .ok (.istore_n 2, 1) := by decide +kernel
theorem dX10_first_26 : decode cX10_first 26 = .ok (.iload_n 2, 1) := by decide +kernel
theorem dX10_first_27 : decode cX10_first 27 = .ok (.ifCond .eq 29, 3) := by decide +kernel
theorem dX10_first_30 : decode cX10_first 30 = .ok (.aload_n 0, 1) := by decide +kernel
theorem dX10_first_31 : decode cX10_first 31 = .ok (.getfield 9, 3) := by decide +kernel
theorem dX10_first_34 : decode cX10_first 34 = .ok (.iload_n 1, 1) := by decide +kernel
theorem dX10_first_35 : decode cX10_first 35 = .ok (.iaload, 1) := by decide +kernel
theorem dX10_first_36 : decode cX10_first 36 = .ok (.iconst 4, 1) := by decide +kernel
theorem dX10_first_37 : decode cX10_first 37 = .ok (.if_icmp .lt 19, 3) := by decide +kernel
theorem dX10_first_40 : decode cX10_first 40 = .ok (.aload_n 0, 1) := by decide +kernel
theorem dX10_first_41 : decode cX10_first 41 = .ok (.getfield 15, 3) := by decide +kernel
theorem dX10_first_44 : decode cX10_first 44 = .ok (.iload_n 1, 1) := by decide +kernel
theorem dX10_first_45 : decode cX10_first 45 = .ok (.iaload, 1) := by decide +kernel
theorem dX10_first_46 : decode cX10_first 46 = .ok (.iconst 1, 1) := by decide +kernel
theorem dX10_first_47 : decode cX10_first 47 = .ok (.if_icmp .le 9, 3) := by decide +kernel
theorem dX10_first_50 : decode cX10_first 50 = .ok (.iload_n 1, 1) := by decide +kernel
theorem dX10_first_51 : decode cX10_first 51 = .ok (.iconst 1, 1) := by decide +kernel
theorem dX10_first_52 : decode cX10_first 52 = .ok (.iadd, 1) := by decide +kernel
theorem dX10_first_53 : decode cX10_first 53 = .ok (.goto 4, 3) := by decide +kernel
theorem dX10_first_56 : decode cX10_first 56 = .ok (.iconst (-1), 1) := by decide +kernel
theorem dX10_first_57 : decode cX10_first 57 = .ok (.ireturn, 1) := by decide +kernel
theorem dX10_firstOfMap_0 : decode cX10_firstOfMap 0 = .ok (.iload_n 1, 1) := by decide +kernel
theorem dX10_firstOfMap_1 : decode cX10_firstOfMap 1 = .ok (.ifCond .lt 23, 3) := by decide +kernel
theorem dX10_firstOfMap_4 : decode cX10_firstOfMap 4 = .ok (.iload_n 1, 1) := by decide +kernel
theorem dX10_firstOfMap_5 : decode cX10_firstOfMap 5 = .ok (.aload_n 0, 1) := by decide +kernel
theorem dX10_firstOfMap_6 : decode cX10_firstOfMap 6 = .ok (.getfield 34, 3) := by decide +kernel
theorem dX10_firstOfMap_9 : decode cX10_firstOfMap 9 = .ok (.iconst 1, 1) := by decide +kernel
theorem dX10_firstOfMap_10 : decode cX10_firstOfMap 10 = .ok (.isub, 1) := by decide +kernel
theorem dX10_firstOfMap_11 : decode cX10_firstOfMap 11 = .ok (.if_icmp .ge 13, 3) := by decide +kernel
theorem dX10_firstOfMap_14 : decode cX10_firstOfMap 14 = .ok (.iload_n 1, 1) := by decide +kernel
theorem dX10_firstOfMap_15 : decode cX10_firstOfMap 15 = .ok (.bipush 100, 2) := by decide +kernel
theorem dX10_firstOfMap_17 : decode cX10_firstOfMap 17 = .ok (.if_icmp .ge 7, 3) := by decide +kernel
theorem dX10_firstOfMap_20 : decode cX10_firstOfMap 20 = .ok (.iconst 1, 1) := by decide +kernel
theorem dX10_firstOfMap_21 : decode cX10_firstOfMap 21 = .ok (.goto 4, 3) := by decide +kernel
theorem dX10_firstOfMap_24 : decode cX10_firstOfMap 24 = .ok (.iconst 0, 1) := by decide +kernel
theorem dX10_firstOfMap_25 : decode cX10_firstOfMap 25 = .ok (.istore_n 2, 1) := by decide +kernel
theorem dX10_firstOfMap_26 : decode cX10_firstOfMap 26 = .ok (.iload_n 2, 1) := by decide +kernel
theorem dX10_firstOfMap_27 : decode cX10_firstOfMap 27 = .ok (.ifCond .eq 29, 3) := by decide +kernel
theorem dX10_firstOfMap_30 : decode cX10_firstOfMap 30 = .ok (.aload_n 0, 1) := by decide +kernel
theorem dX10_firstOfMap_31 : decode cX10_firstOfMap 31 = .ok (.getfield 9, 3) := by decide +kernel
theorem dX10_firstOfMap_34 : decode cX10_firstOfMap 34 = .ok (.iload_n 1, 1) := by decide +kernel
theorem dX10_firstOfMap_35 : decode cX10_firstOfMap 35 = .ok (.iaload, 1) := by decide +kernel
theorem dX10_firstOfMap_36 : decode cX10_firstOfMap 36 = .ok (.iconst 5, 1) := by decide +kernel
theorem dX10_firstOfMap_37 : decode cX10_firstOfMap 37 = .ok (.if_icmp .ne 19, 3) := by decide +kernel
theorem dX10_firstOfMap_40 : decode cX10_firstOfMap 40 = .ok (.aload_n 0, 1) := by decide +kernel
theorem dX10_firstOfMap_41 : decode cX10_firstOfMap 41 = .ok (.getfield 15, 3) := by decide +kernel
theorem dX10_firstOfMap_44 : decode cX10_firstOfMap 44 = .ok (.iload_n 1, 1) := by decide +kernel
theorem dX10_firstOfMap_45 : decode cX10_firstOfMap 45 = .ok (.iaload, 1) := by decide +kernel
theorem dX10_firstOfMap_46 : decode cX10_firstOfMap 46 = .ok (.iconst 1, 1) := by decide +kernel
theorem dX10_firstOfMap_47 : decode cX10_firstOfMap 47 = .ok (.if_icmp .le 9, 3) := by decide +kernel
theorem dX10_firstOfMap_50 : decode cX10_firstOfMap 50 = .ok (.iload_n 1, 1) := by decide +kernel
theorem dX10_firstOfMap_51 : decode cX10_firstOfMap 51 = .ok (.iconst 1, 1) := by decide +kernel
theorem dX10_firstOfMap_52 : decode cX10_firstOfMap 52 = .ok (.iadd, 1) := by decide +kernel
theorem dX10_firstOfMap_53 : decode cX10_firstOfMap 53 = .ok (.goto 4, 3) := by decide +kernel
theorem dX10_firstOfMap_56 : decode cX10_firstOfMap 56 = .ok (.iconst (-1), 1) := by decide +kernel
theorem dX10_firstOfMap_57 : decode cX10_firstOfMap 57 = .ok (.ireturn, 1) := by decide +kernel
theorem dX10_next_0 : decode cX10_next 0 = .ok (.iload_n 1, 1) := by decide +kernel
theorem dX10_next_1 : decode cX10_next 1 = .ok (.ifCond .lt 22, 3) := by decide +kernel
theorem dX10_next_4 : decode cX10_next 4 = .ok (.iload_n 2, 1) := by decide +kernel
theorem dX10_next_5 : decode cX10_next 5 = .ok (.iload_n 1, 1) := by decide +kernel
theorem dX10_next_6 : decode cX10_next 6 = .ok (.if_icmp .le 17, 3) := by decide +kernel
theorem dX10_next_9 : decode cX10_next 9 = .ok (.iload_n 2, 1) := by decide +kernel
theorem dX10_next_10 : decode cX10_next 10 = .ok (.aload_n 0, 1) := by decide +kernel
theorem dX10_next_11 : decode cX10_next 11 = .ok (.getfield 34, 3) := by decide +kernel
theorem dX10_next_14 : decode cX10_next 14 = .ok (.if_icmp .ge 9, 3) := by decide +kernel
theorem dX10_next_17 : decode cX10_next 17 = .ok (.iload_n 2, 1) := by decide +kernel
theorem dX10_next_18 : decode cX10_next 18 = .ok (.bipush 100, 2) := by decide +kernel
theorem dX10_next_20 : decode cX10_next 20 = .ok (.if_icmp .lt 5, 3) := by decide +kernel
theorem dX10_next_23 : decode cX10_next 23 = .ok (.iconst (-1), 1) := by decide +kernel
theorem dX10_next_24 : decode cX10_next 24 = .ok (.ireturn, 1) := by decide +kernel
theorem dX10_next_25 : decode cX10_next 25 = .ok (.iload_n 2, 1) := by decide +kernel
theorem dX10_next_26 : decode cX10_next 26 = .ok (.iconst 1, 1) := by decide +kernel
theorem dX10_next_27 : decode cX10_next 27 = .ok (.aload_n 0, 1) := by decide +kernel
theorem dX10_next_28 : decode cX10_next 28 = .ok (.getfield 15, 3) := by decide +kernel
theorem dX10_next_31 : decode cX10_next 31 = .ok (.iload_n 2, 1) := by decide +kernel
theorem dX10_next_32 : decode cX10_next 32 = .ok (.iaload, 1) := by decide +kernel
theorem dX10_next_33 : decode cX10_next 33 = .ok (.invokestatic 46, 3) := by decide +kernel
theorem dX10_next_36 : decode cX10_next 36 = .ok (.iadd, 1) := by decide +kernel
theorem dX10_next_37 : decode cX10_next 37 = .ok (.istore_n 3, 1) := by decide +kernel
theorem dX10_next_38 : decode cX10_next 38 = .ok (.iload_n 3, 1) := by decide +kernel
theorem dX10_next_39 : decode cX10_next 39 = .ok (.aload_n 0, 1) := by decide +kernel
theorem dX10_next_40 : decode cX10_next 40 = .ok (.getfield 34, 3) := by decide +kernel
theorem dX10_next_43 : decode cX10_next 43 = .ok (.if_icmp .ge 19, 3) := by decide +kernel
theorem dX10_next_46 : decode cX10_next 46 = .ok (.iload_n 3, 1) := by decide +kernel
theorem dX10_next_47 : decode cX10_next 47 = .ok (.iload_n 1, 1) := by decide +kernel
theorem dX10_next_48 : decode cX10_next 48 = .ok (.aload_n 0, 1) := by decide +kernel
theorem dX10_next_49 : decode cX10_next 49 = .ok (.getfield 15, 3) := by decide +kernel
theorem dX10_next_52 : decode cX10_next 52 = .ok (.iload_n 1, 1) := by decide +kernel
theorem dX10_next_53 : decode cX10_next 53 = .ok (.iaload, 1) := by decide +kernel
theorem dX10_next_54 : decode cX10_next 54 = .ok (.iadd, 1) := by decide +kernel
theorem dX10_next_55 : decode cX10_next 55 = .ok (.if_icmp .ge 7, 3) := by decide +kernel
theorem dX10_next_58 : decode cX10_next 58 = .ok (.iload_n 3, 1) := by decide +kernel
theorem dX10_next_59 : decode cX10_next 59 = .ok (.goto 4, 3) := by decide +kernel
theorem dX10_next_62 : decode cX10_next 62 = .ok (.iconst (-1), 1) := by decide +kernel
theorem dX10_next_63 : decode cX10_next 63 = .ok (.ireturn, 1) := by decide +kernel
theorem dX10_values_0 : decode cX10_values 0 = .ok (.iconst 0, 1) := by decide +kernel
theorem dX10_values_1 : decode cX10_values 1 = .ok (.istore_n 2, 1) := by decide +kernel
theorem dX10_values_2 : decode cX10_values 2 = .ok (.aload_n 0, 1) := by decide +kernel
theorem dX10_values_3 : decode cX10_values 3 = .ok (.iload_n 1, 1) := by decide +kernel
theorem dX10_values_4 : decode cX10_values 4 = .ok (.invokevirtual 52, 3) := by decide +kernel
theorem dX10_values_7 : decode cX10_values 7 = .ok (.istore_n 3, 1) := by decide +kernel
theorem dX10_values_8 : decode cX10_values 8 = .ok (.iload_n 3, 1) := by decide +kernel
theorem dX10_values_9 : decode cX10_values 9 = .ok (.iconst (-1), 1) := by decide +kernel
theorem dX10_values_10 : decode cX10_values 10 = .ok (.if_icmp .eq 22, 3) := by decide +kernel
theorem dX10_values_13 : decode cX10_values 13 = .ok (.iload_n 2, 1) := by decide +kernel
theorem dX10_values_14 : decode cX10_values 14 = .ok (.bipush 100, 2) := by decide +kernel
theorem dX10_values_16 : decode cX10_values 16 = .ok (.if_icmp .ge 16, 3) := by decide +kernel
theorem dX10_values_19 : decode cX10_values 19 = .ok (.iinc 2 1, 3) := by decide +kernel
theorem dX10_values_22 : decode cX10_values 22 = .ok (.aload_n 0, 1) := by decide +kernel
theorem dX10_values_23 : decode cX10_values 23 = .ok (.iload_n 1, 1) := by decide +kernel
theorem dX10_values_24 : decode cX10_values 24 = .ok (.iload_n 3, 1) := by decide +kernel
theorem dX10_values_25 : decode cX10_values 25 = .ok (.invokevirtual 56, 3) := by decide +kernel
theorem dX10_values_28 : decode cX10_values 28 = .ok (.istore_n 3, 1) := by decide +kernel
theorem dX10_values_29 : decode cX10_values 29 = .ok (.goto (-21), 3) := by decide +kernel
theorem dX10_values_32 : decode cX10_values 32 = .ok (.iload_n 2, 1) := by decide +kernel
theorem dX10_values_33 : decode cX10_values 33 = .ok (.ireturn, 1) := by decide +kernel
theorem dX10_valueAt_0 : decode cX10_valueAt 0 = .ok (.aload_n 0, 1) := by decide +kernel
theorem dX10_valueAt_1 : decode cX10_valueAt 1 = .ok (.iload_n 1, 1) := by decide +kernel
theorem dX10_valueAt_2 : decode cX10_valueAt 2 = .ok (.invokevirtual 52, 3) := by decide +kernel
theorem dX10_valueAt_5 : decode cX10_valueAt 5 = .ok (.istore_n 3, 1) := by decide +kernel
theorem dX10_valueAt_6 : decode cX10_valueAt 6 = .ok (.iconst 0, 1) := by decide +kernel
theorem dX10_valueAt_7 : decode cX10_valueAt 7 = .ok (.istore 4, 2) := by decide +kernel
theorem dX10_valueAt_9 : decode cX10_valueAt 9 = .ok (.iload_n 3, 1) := by decide +kernel
theorem dX10_valueAt_10 : decode cX10_valueAt 10 = .ok (.iconst (-1), 1) := by decide +kernel
theorem dX10_valueAt_11 : decode cX10_valueAt 11 = .ok (.if_icmp .eq 31, 3) := by decide +kernel
theorem dX10_valueAt_14 : decode cX10_valueAt 14 = .ok (.iload 4, 2) := by decide +kernel
theorem dX10_valueAt_16 : decode cX10_valueAt 16 = .ok (.bipush 100, 2) := by decide +kernel
theorem dX10_valueAt_18 : decode cX10_valueAt 18 = .ok (.if_icmp .ge 24, 3) := by decide +kernel
theorem dX10_valueAt_21 : decode cX10_valueAt 21 = .ok (.iload 4, 2) := by decide +kernel
theorem dX10_valueAt_23 : decode cX10_valueAt 23 = .ok (.iload_n 2, 1) := by decide +kernel
theorem dX10_valueAt_24 : decode cX10_valueAt 24 = .ok (.if_icmp .ne 5, 3) := by decide +kernel
theorem dX10_valueAt_27 : decode cX10_valueAt 27 = .ok (.iload_n 3, 1) := by decide +kernel
theorem dX10_valueAt_28 : decode cX10_valueAt 28 = .ok (.ireturn, 1) := by decide +kernel
theorem dX10_valueAt_29 : decode cX10_valueAt 29 = .ok (.aload_n 0, 1) := by decide +kernel
theorem dX10_valueAt_30 : decode cX10_valueAt 30 = .ok (.iload_n 1, 1) := by decide +kernel
theorem dX10_valueAt_31 : decode cX10_valueAt 31 = .ok (.iload_n 3, 1) := by decide +kernel
theorem dX10_valueAt_32 : decode cX10_valueAt 32 = .ok (.invokevirtual 56, 3) := by decide +kernel
theorem dX10_valueAt_35 : decode cX10_valueAt 35 = .ok (.istore_n 3, 1) := by decide +kernel
theorem dX10_valueAt_36 : decode cX10_valueAt 36 = .ok (.iinc 4 1, 3) := by decide +kernel
theorem dX10_valueAt_39 : decode cX10_valueAt 39 = .ok (.goto (-30), 3) := by decide +kernel
theorem dX10_valueAt_42 : decode cX10_valueAt 42 = .ok (.iconst (-1), 1) := by decide +kernel
theorem dX10_valueAt_43 : decode cX10_valueAt 43 = .ok (.ireturn, 1) := by decide +kernel
theorem dX10_length_0 : decode cX10_length 0 = .ok (.aload_n 0, 1) := by decide +kernel
theorem dX10_length_1 : decode cX10_length 1 = .ok (.iload_n 1, 1) := by decide +kernel
theorem dX10_length_2 : decode cX10_length 2 = .ok (.iconst 3, 1) := by decide +kernel
theorem dX10_length_3 : decode cX10_length 3 = .ok (.invokevirtual 42, 3) := by decide +kernel
theorem dX10_length_6 : decode cX10_length 6 = .ok (.ifCond .eq 10, 3) := by decide +kernel
theorem dX10_length_9 : decode cX10_length 9 = .ok (.aload_n 0, 1) := by decide +kernel
theorem dX10_length_10 : decode cX10_length 10 = .ok (.getfield 21, 3) := by decide +kernel
theorem dX10_length_13 : decode cX10_length 13 = .ok (.iload_n 1, 1) := by decide +kernel
theorem dX10_length_14 : decode cX10_length 14 = .ok (.iaload, 1) := by decide +kernel
theorem dX10_length_15 : decode cX10_length 15 = .ok (.ireturn, 1) := by decide +kernel
theorem dX10_length_16 : decode cX10_length 16 = .ok (.aload_n 0, 1) := by decide +kernel
theorem dX10_length_17 : decode cX10_length 17 = .ok (.iload_n 1, 1) := by decide +kernel
theorem dX10_length_18 : decode cX10_length 18 = .ok (.invokevirtual 59, 3) := by decide +kernel
theorem dX10_length_21 : decode cX10_length 21 = .ok (.ifCond .eq 11, 3) := by decide +kernel
theorem dX10_length_24 : decode cX10_length 24 = .ok (.aload_n 0, 1) := by decide +kernel
theorem dX10_length_25 : decode cX10_length 25 = .ok (.iload_n 1, 1) := by decide +kernel
theorem dX10_length_26 : decode cX10_length 26 = .ok (.invokevirtual 63, 3) := by decide +kernel
theorem dX10_length_29 : decode cX10_length 29 = .ok (.goto 4, 3) := by decide +kernel
theorem dX10_length_32 : decode cX10_length 32 = .ok (.iconst (-1), 1) := by decide +kernel
theorem dX10_length_33 : decode cX10_length 33 = .ok (.ireturn, 1) := by decide +kernel
theorem dX10_ownerOf_0 : decode cX10_ownerOf 0 = .ok (.iload_n 1, 1) := by decide +kernel
theorem dX10_ownerOf_1 : decode cX10_ownerOf 1 = .ok (.aload_n 0, 1) := by decide +kernel
theorem dX10_ownerOf_2 : decode cX10_ownerOf 2 = .ok (.getfield 34, 3) := by decide +kernel
theorem dX10_ownerOf_5 : decode cX10_ownerOf 5 = .ok (.invokestatic 66, 3) := by decide +kernel
theorem dX10_ownerOf_8 : decode cX10_ownerOf 8 = .ok (.iconst 1, 1) := by decide +kernel
theorem dX10_ownerOf_9 : decode cX10_ownerOf 9 = .ok (.isub, 1) := by decide +kernel
theorem dX10_ownerOf_10 : decode cX10_ownerOf 10 = .ok (.istore_n 2, 1) := by decide +kernel
theorem dX10_ownerOf_11 : decode cX10_ownerOf 11 = .ok (.iload_n 2, 1) := by decide +kernel
theorem dX10_ownerOf_12 : decode cX10_ownerOf 12 = .ok (.ifCond .lt 20, 3) := by decide +kernel
theorem dX10_ownerOf_15 : decode cX10_ownerOf 15 = .ok (.aload_n 0, 1) := by decide +kernel
theorem dX10_ownerOf_16 : decode cX10_ownerOf 16 = .ok (.iload_n 2, 1) := by decide +kernel
theorem dX10_ownerOf_17 : decode cX10_ownerOf 17 = .ok (.invokevirtual 69, 3) := by decide +kernel
theorem dX10_ownerOf_20 : decode cX10_ownerOf 20 = .ok (.iload_n 1, 1) := by decide +kernel
theorem dX10_ownerOf_21 : decode cX10_ownerOf 21 = .ok (.if_icmp .le 5, 3) := by decide +kernel
theorem dX10_ownerOf_24 : decode cX10_ownerOf 24 = .ok (.iload_n 2, 1) := by decide +kernel
theorem dX10_ownerOf_25 : decode cX10_ownerOf 25 = .ok (.ireturn, 1) := by decide +kernel
theorem dX10_ownerOf_26 : decode cX10_ownerOf 26 = .ok (.iinc 2 (-1), 3) := by decide +kernel
theorem dX10_ownerOf_29 : decode cX10_ownerOf 29 = .ok (.goto (-18), 3) := by decide +kernel
theorem dX10_ownerOf_32 : decode cX10_ownerOf 32 = .ok (.iconst (-1), 1) := by decide +kernel
theorem dX10_ownerOf_33 : decode cX10_ownerOf 33 = .ok (.ireturn, 1) := by decide +kernel
theorem dX10_placeOf_0 : decode cX10_placeOf 0 = .ok (.aload_n 0, 1) := by decide +kernel
theorem dX10_placeOf_1 : decode cX10_placeOf 1 = .ok (.iload_n 1, 1) := by decide +kernel
theorem dX10_placeOf_2 : decode cX10_placeOf 2 = .ok (.invokevirtual 72, 3) := by decide +kernel
theorem dX10_placeOf_5 : decode cX10_placeOf 5 = .ok (.istore_n 2, 1) := by decide +kernel
theorem dX10_placeOf_6 : decode cX10_placeOf 6 = .ok (.aload_n 0, 1) := by decide +kernel
theorem dX10_placeOf_7 : decode cX10_placeOf 7 = .ok (.iload_n 2, 1) := by decide +kernel
theorem dX10_placeOf_8 : decode cX10_placeOf 8 = .ok (.invokevirtual 52, 3) := by decide +kernel
theorem dX10_placeOf_11 : decode cX10_placeOf 11 = .ok (.istore_n 3, 1) := by decide +kernel
theorem dX10_placeOf_12 : decode cX10_placeOf 12 = .ok (.iconst 0, 1) := by decide +kernel
theorem dX10_placeOf_13 : decode cX10_placeOf 13 = .ok (.istore 4, 2) := by decide +kernel
theorem dX10_placeOf_15 : decode cX10_placeOf 15 = .ok (.iload_n 3, 1) := by decide +kernel
theorem dX10_placeOf_16 : decode cX10_placeOf 16 = .ok (.iconst (-1), 1) := by decide +kernel
theorem dX10_placeOf_17 : decode cX10_placeOf 17 = .ok (.if_icmp .eq 31, 3) := by decide +kernel
theorem dX10_placeOf_20 : decode cX10_placeOf 20 = .ok (.iload 4, 2) := by decide +kernel
theorem dX10_placeOf_22 : decode cX10_placeOf 22 = .ok (.bipush 100, 2) := by decide +kernel
theorem dX10_placeOf_24 : decode cX10_placeOf 24 = .ok (.if_icmp .ge 24, 3) := by decide +kernel
theorem dX10_placeOf_27 : decode cX10_placeOf 27 = .ok (.iload_n 3, 1) := by decide +kernel
theorem dX10_placeOf_28 : decode cX10_placeOf 28 = .ok (.iload_n 1, 1) := by decide +kernel
theorem dX10_placeOf_29 : decode cX10_placeOf 29 = .ok (.if_icmp .ne 6, 3) := by decide +kernel
theorem dX10_placeOf_32 : decode cX10_placeOf 32 = .ok (.iload 4, 2) := by decide +kernel
theorem dX10_placeOf_34 : decode cX10_placeOf 34 = .ok (.ireturn, 1) := by decide +kernel
theorem dX10_placeOf_35 : decode cX10_placeOf 35 = .ok (.aload_n 0, 1) := by decide +kernel
theorem dX10_placeOf_36 : decode cX10_placeOf 36 = .ok (.iload_n 2, 1) := by decide +kernel
theorem dX10_placeOf_37 : decode cX10_placeOf 37 = .ok (.iload_n 3, 1) := by decide +kernel
theorem dX10_placeOf_38 : decode cX10_placeOf 38 = .ok (.invokevirtual 56, 3) := by decide +kernel
theorem dX10_placeOf_41 : decode cX10_placeOf 41 = .ok (.istore_n 3, 1) := by decide +kernel
theorem dX10_placeOf_42 : decode cX10_placeOf 42 = .ok (.iinc 4 1, 3) := by decide +kernel
theorem dX10_placeOf_45 : decode cX10_placeOf 45 = .ok (.goto (-30), 3) := by decide +kernel
theorem dX10_placeOf_48 : decode cX10_placeOf 48 = .ok (.iconst (-1), 1) := by decide +kernel
theorem dX10_placeOf_49 : decode cX10_placeOf 49 = .ok (.ireturn, 1) := by decide +kernel
theorem dX10_about_0 : decode cX10_about 0 = .ok (.iload_n 2, 1) := by decide +kernel
theorem dX10_about_1 : decode cX10_about 1 = .ok (.tableswitch 133 0 8 #[51, 57, 64, 70, 76, 96, 102, 108, 127], 51) := by decide +kernel
theorem dX10_about_52 : decode cX10_about 52 = .ok (.aload_n 0, 1) := by decide +kernel
theorem dX10_about_53 : decode cX10_about 53 = .ok (.iload_n 1, 1) := by decide +kernel
theorem dX10_about_54 : decode cX10_about 54 = .ok (.invokevirtual 75, 3) := by decide +kernel
theorem dX10_about_57 : decode cX10_about 57 = .ok (.ireturn, 1) := by decide +kernel
theorem dX10_about_58 : decode cX10_about 58 = .ok (.aload_n 0, 1) := by decide +kernel
theorem dX10_about_59 : decode cX10_about 59 = .ok (.iload_n 1, 1) := by decide +kernel
theorem dX10_about_60 : decode cX10_about 60 = .ok (.iconst 0, 1) := by decide +kernel
theorem dX10_about_61 : decode cX10_about 61 = .ok (.invokevirtual 78, 3) := by decide +kernel
theorem dX10_about_64 : decode cX10_about 64 = .ok (.ireturn, 1) := by decide +kernel
theorem dX10_about_65 : decode cX10_about 65 = .ok (.aload_n 0, 1) := by decide +kernel
theorem dX10_about_66 : decode cX10_about 66 = .ok (.iload_n 1, 1) := by decide +kernel
theorem dX10_about_67 : decode cX10_about 67 = .ok (.invokevirtual 81, 3) := by decide +kernel
theorem dX10_about_70 : decode cX10_about 70 = .ok (.ireturn, 1) := by decide +kernel
theorem dX10_about_71 : decode cX10_about 71 = .ok (.aload_n 0, 1) := by decide +kernel
theorem dX10_about_72 : decode cX10_about 72 = .ok (.iload_n 1, 1) := by decide +kernel
theorem dX10_about_73 : decode cX10_about 73 = .ok (.invokevirtual 84, 3) := by decide +kernel
theorem dX10_about_76 : decode cX10_about 76 = .ok (.ireturn, 1) := by decide +kernel
theorem dX10_about_77 : decode cX10_about 77 = .ok (.aload_n 0, 1) := by decide +kernel
theorem dX10_about_78 : decode cX10_about 78 = .ok (.iload_n 1, 1) := by decide +kernel
theorem dX10_about_79 : decode cX10_about 79 = .ok (.iconst 1, 1) := by decide +kernel
theorem dX10_about_80 : decode cX10_about 80 = .ok (.invokevirtual 42, 3) := by decide +kernel
theorem dX10_about_83 : decode cX10_about 83 = .ok (.ifCond .eq 12, 3) := by decide +kernel
theorem dX10_about_86 : decode cX10_about 86 = .ok (.aload_n 0, 1) := by decide +kernel
theorem dX10_about_87 : decode cX10_about 87 = .ok (.getfield 18, 3) := by decide +kernel
theorem dX10_about_90 : decode cX10_about 90 = .ok (.iload_n 1, 1) := by decide +kernel
theorem dX10_about_91 : decode cX10_about 91 = .ok (.iaload, 1) := by decide +kernel
theorem dX10_about_92 : decode cX10_about 92 = .ok (.goto 4, 3) := by decide +kernel
theorem dX10_about_95 : decode cX10_about 95 = .ok (.iconst (-1), 1) := by decide +kernel
theorem dX10_about_96 : decode cX10_about 96 = .ok (.ireturn, 1) := by decide +kernel
theorem dX10_about_97 : decode cX10_about 97 = .ok (.aload_n 0, 1) := by decide +kernel
theorem dX10_about_98 : decode cX10_about 98 = .ok (.iload_n 1, 1) := by decide +kernel
theorem dX10_about_99 : decode cX10_about 99 = .ok (.invokevirtual 87, 3) := by decide +kernel
theorem dX10_about_102 : decode cX10_about 102 = .ok (.ireturn, 1) := by decide +kernel
theorem dX10_about_103 : decode cX10_about 103 = .ok (.aload_n 0, 1) := by decide +kernel
theorem dX10_about_104 : decode cX10_about 104 = .ok (.iload_n 1, 1) := by decide +kernel
theorem dX10_about_105 : decode cX10_about 105 = .ok (.invokevirtual 90, 3) := by decide +kernel
theorem dX10_about_108 : decode cX10_about 108 = .ok (.ireturn, 1) := by decide +kernel
theorem dX10_about_109 : decode cX10_about 109 = .ok (.aload_n 0, 1) := by decide +kernel
theorem dX10_about_110 : decode cX10_about 110 = .ok (.iload_n 1, 1) := by decide +kernel
theorem dX10_about_111 : decode cX10_about 111 = .ok (.iconst 2, 1) := by decide +kernel
theorem dX10_about_112 : decode cX10_about 112 = .ok (.invokevirtual 42, 3) := by decide +kernel
theorem dX10_about_115 : decode cX10_about 115 = .ok (.ifCond .eq 11, 3) := by decide +kernel
theorem dX10_about_118 : decode cX10_about 118 = .ok (.aload_n 0, 1) := by decide +kernel
theorem dX10_about_119 : decode cX10_about 119 = .ok (.iload_n 1, 1) := by decide +kernel
theorem dX10_about_120 : decode cX10_about 120 = .ok (.invokevirtual 93, 3) := by decide +kernel
theorem dX10_about_123 : decode cX10_about 123 = .ok (.goto 4, 3) := by decide +kernel
theorem dX10_about_126 : decode cX10_about 126 = .ok (.iconst (-1), 1) := by decide +kernel
theorem dX10_about_127 : decode cX10_about 127 = .ok (.ireturn, 1) := by decide +kernel
theorem dX10_about_128 : decode cX10_about 128 = .ok (.aload_n 0, 1) := by decide +kernel
theorem dX10_about_129 : decode cX10_about 129 = .ok (.iload_n 1, 1) := by decide +kernel
theorem dX10_about_130 : decode cX10_about 130 = .ok (.invokevirtual 72, 3) := by decide +kernel
theorem dX10_about_133 : decode cX10_about 133 = .ok (.ireturn, 1) := by decide +kernel
theorem dX10_about_134 : decode cX10_about 134 = .ok (.aload_n 0, 1) := by decide +kernel
theorem dX10_about_135 : decode cX10_about 135 = .ok (.iload_n 1, 1) := by decide +kernel
theorem dX10_about_136 : decode cX10_about 136 = .ok (.invokevirtual 96, 3) := by decide +kernel
theorem dX10_about_139 : decode cX10_about 139 = .ok (.ireturn, 1) := by decide +kernel
theorem dX10_depth_0 : decode cX10_depth 0 = .ok (.aload_n 0, 1) := by decide +kernel
theorem dX10_depth_1 : decode cX10_depth 1 = .ok (.iload_n 1, 1) := by decide +kernel
theorem dX10_depth_2 : decode cX10_depth 2 = .ok (.invokevirtual 59, 3) := by decide +kernel
theorem dX10_depth_5 : decode cX10_depth 5 = .ok (.ifCond .ne 5, 3) := by decide +kernel
theorem dX10_depth_8 : decode cX10_depth 8 = .ok (.iconst 0, 1) := by decide +kernel
theorem dX10_depth_9 : decode cX10_depth 9 = .ok (.ireturn, 1) := by decide +kernel
theorem dX10_depth_10 : decode cX10_depth 10 = .ok (.iconst 0, 1) := by decide +kernel
theorem dX10_depth_11 : decode cX10_depth 11 = .ok (.istore_n 3, 1) := by decide +kernel
theorem dX10_depth_12 : decode cX10_depth 12 = .ok (.iload_n 1, 1) := by decide +kernel
theorem dX10_depth_13 : decode cX10_depth 13 = .ok (.iconst 1, 1) := by decide +kernel
theorem dX10_depth_14 : decode cX10_depth 14 = .ok (.iadd, 1) := by decide +kernel
theorem dX10_depth_15 : decode cX10_depth 15 = .ok (.istore 4, 2) := by decide +kernel
theorem dX10_depth_17 : decode cX10_depth 17 = .ok (.iconst 0, 1) := by decide +kernel
theorem dX10_depth_18 : decode cX10_depth 18 = .ok (.istore 5, 2) := by decide +kernel
theorem dX10_depth_20 : decode cX10_depth 20 = .ok (.iload 4, 2) := by decide +kernel
theorem dX10_depth_22 : decode cX10_depth 22 = .ok (.aload_n 0, 1) := by decide +kernel
theorem dX10_depth_23 : decode cX10_depth 23 = .ok (.iload_n 1, 1) := by decide +kernel
theorem dX10_depth_24 : decode cX10_depth 24 = .ok (.invokevirtual 69, 3) := by decide +kernel
theorem dX10_depth_27 : decode cX10_depth 27 = .ok (.if_icmp .ge 44, 3) := by decide +kernel
theorem dX10_depth_30 : decode cX10_depth 30 = .ok (.iload 5, 2) := by decide +kernel
theorem dX10_depth_32 : decode cX10_depth 32 = .ok (.bipush 100, 2) := by decide +kernel
theorem dX10_depth_34 : decode cX10_depth 34 = .ok (.if_icmp .ge 37, 3) := by decide +kernel
theorem dX10_depth_37 : decode cX10_depth 37 = .ok (.iload_n 2, 1) := by decide +kernel
theorem dX10_depth_38 : decode cX10_depth 38 = .ok (.bipush 12, 2) := by decide +kernel
theorem dX10_depth_40 : decode cX10_depth 40 = .ok (.if_icmp .gt 31, 3) := by decide +kernel
theorem dX10_depth_43 : decode cX10_depth 43 = .ok (.iload_n 3, 1) := by decide +kernel
theorem dX10_depth_44 : decode cX10_depth 44 = .ok (.aload_n 0, 1) := by decide +kernel
theorem dX10_depth_45 : decode cX10_depth 45 = .ok (.iload 4, 2) := by decide +kernel
theorem dX10_depth_47 : decode cX10_depth 47 = .ok (.iload_n 2, 1) := by decide +kernel
theorem dX10_depth_48 : decode cX10_depth 48 = .ok (.iconst 1, 1) := by decide +kernel
theorem dX10_depth_49 : decode cX10_depth 49 = .ok (.iadd, 1) := by decide +kernel
theorem dX10_depth_50 : decode cX10_depth 50 = .ok (.invokevirtual 78, 3) := by decide +kernel
theorem dX10_depth_53 : decode cX10_depth 53 = .ok (.invokestatic 46, 3) := by decide +kernel
theorem dX10_depth_56 : decode cX10_depth 56 = .ok (.istore_n 3, 1) := by decide +kernel
theorem dX10_depth_57 : decode cX10_depth 57 = .ok (.aload_n 0, 1) := by decide +kernel
theorem dX10_depth_58 : decode cX10_depth 58 = .ok (.iload 4, 2) := by decide +kernel
theorem dX10_depth_60 : decode cX10_depth 60 = .ok (.invokevirtual 69, 3) := by decide +kernel
theorem dX10_depth_63 : decode cX10_depth 63 = .ok (.istore 4, 2) := by decide +kernel
theorem dX10_depth_65 : decode cX10_depth 65 = .ok (.iinc 5 1, 3) := by decide +kernel
theorem dX10_depth_68 : decode cX10_depth 68 = .ok (.goto (-48), 3) := by decide +kernel
theorem dX10_depth_71 : decode cX10_depth 71 = .ok (.iload_n 3, 1) := by decide +kernel
theorem dX10_depth_72 : decode cX10_depth 72 = .ok (.iconst 1, 1) := by decide +kernel
theorem dX10_depth_73 : decode cX10_depth 73 = .ok (.iadd, 1) := by decide +kernel
theorem dX10_depth_74 : decode cX10_depth 74 = .ok (.ireturn, 1) := by decide +kernel
theorem dX10_isDocument_0 : decode cX10_isDocument 0 = .ok (.aload_n 0, 1) := by decide +kernel
theorem dX10_isDocument_1 : decode cX10_isDocument 1 = .ok (.getfield 38, 3) := by decide +kernel
theorem dX10_isDocument_4 : decode cX10_isDocument 4 = .ok (.ifCond .ne 47, 3) := by decide +kernel
theorem dX10_isDocument_7 : decode cX10_isDocument 7 = .ok (.aload_n 0, 1) := by decide +kernel
theorem dX10_isDocument_8 : decode cX10_isDocument 8 = .ok (.getfield 34, 3) := by decide +kernel
theorem dX10_isDocument_11 : decode cX10_isDocument 11 = .ok (.iconst 1, 1) := by decide +kernel
theorem dX10_isDocument_12 : decode cX10_isDocument 12 = .ok (.if_icmp .lt 39, 3) := by decide +kernel
theorem dX10_isDocument_15 : decode cX10_isDocument 15 = .ok (.aload_n 0, 1) := by decide +kernel
theorem dX10_isDocument_16 : decode cX10_isDocument 16 = .ok (.getfield 34, 3) := by decide +kernel
theorem dX10_isDocument_19 : decode cX10_isDocument 19 = .ok (.bipush 100, 2) := by decide +kernel
theorem dX10_isDocument_21 : decode cX10_isDocument 21 = .ok (.if_icmp .gt 30, 3) := by decide +kernel
theorem dX10_isDocument_24 : decode cX10_isDocument 24 = .ok (.aload_n 0, 1) := by decide +kernel
theorem dX10_isDocument_25 : decode cX10_isDocument 25 = .ok (.iconst 0, 1) := by decide +kernel
theorem dX10_isDocument_26 : decode cX10_isDocument 26 = .ok (.invokevirtual 81, 3) := by decide +kernel
theorem dX10_isDocument_29 : decode cX10_isDocument 29 = .ok (.aload_n 0, 1) := by decide +kernel
theorem dX10_isDocument_30 : decode cX10_isDocument 30 = .ok (.getfield 34, 3) := by decide +kernel
theorem dX10_isDocument_33 : decode cX10_isDocument 33 = .ok (.if_icmp .ne 18, 3) := by decide +kernel
theorem dX10_isDocument_36 : decode cX10_isDocument 36 = .ok (.aload_n 0, 1) := by decide +kernel
theorem dX10_isDocument_37 : decode cX10_isDocument 37 = .ok (.iconst 0, 1) := by decide +kernel
theorem dX10_isDocument_38 : decode cX10_isDocument 38 = .ok (.iconst 0, 1) := by decide +kernel
theorem dX10_isDocument_39 : decode cX10_isDocument 39 = .ok (.invokevirtual 78, 3) := by decide +kernel
theorem dX10_isDocument_42 : decode cX10_isDocument 42 = .ok (.bipush 12, 2) := by decide +kernel
theorem dX10_isDocument_44 : decode cX10_isDocument 44 = .ok (.if_icmp .gt 7, 3) := by decide +kernel
theorem dX10_isDocument_47 : decode cX10_isDocument 47 = .ok (.iconst 1, 1) := by decide +kernel
theorem dX10_isDocument_48 : decode cX10_isDocument 48 = .ok (.goto 4, 3) := by decide +kernel
theorem dX10_isDocument_51 : decode cX10_isDocument 51 = .ok (.iconst 0, 1) := by decide +kernel
theorem dX10_isDocument_52 : decode cX10_isDocument 52 = .ok (.ireturn, 1) := by decide +kernel
theorem dX10_isWithinBounds_0 : decode cX10_isWithinBounds 0 = .ok (.iconst 1, 1) := by decide +kernel
theorem dX10_isWithinBounds_1 : decode cX10_isWithinBounds 1 = .ok (.istore_n 1, 1) := by decide +kernel
theorem dX10_isWithinBounds_2 : decode cX10_isWithinBounds 2 = .ok (.iconst 0, 1) := by decide +kernel
theorem dX10_isWithinBounds_3 : decode cX10_isWithinBounds 3 = .ok (.istore_n 2, 1) := by decide +kernel
theorem dX10_isWithinBounds_4 : decode cX10_isWithinBounds 4 = .ok (.iload_n 2, 1) := by decide +kernel
theorem dX10_isWithinBounds_5 : decode cX10_isWithinBounds 5 = .ok (.aload_n 0, 1) := by decide +kernel
theorem dX10_isWithinBounds_6 : decode cX10_isWithinBounds 6 = .ok (.getfield 34, 3) := by decide +kernel
theorem dX10_isWithinBounds_9 : decode cX10_isWithinBounds 9 = .ok (.if_icmp .ge 56, 3) := by decide +kernel
theorem dX10_isWithinBounds_12 : decode cX10_isWithinBounds 12 = .ok (.iload_n 1, 1) := by decide +kernel
theorem dX10_isWithinBounds_13 : decode cX10_isWithinBounds 13 = .ok (.ifCond .eq 52, 3) := by decide +kernel
theorem dX10_isWithinBounds_16 : decode cX10_isWithinBounds 16 = .ok (.aload_n 0, 1) := by decide +kernel
theorem dX10_isWithinBounds_17 : decode cX10_isWithinBounds 17 = .ok (.iload_n 2, 1) := by decide +kernel
theorem dX10_isWithinBounds_18 : decode cX10_isWithinBounds 18 = .ok (.invokevirtual 81, 3) := by decide +kernel
theorem dX10_isWithinBounds_21 : decode cX10_isWithinBounds 21 = .ok (.iconst 1, 1) := by decide +kernel
theorem dX10_isWithinBounds_22 : decode cX10_isWithinBounds 22 = .ok (.if_icmp .lt 35, 3) := by decide +kernel
theorem dX10_isWithinBounds_25 : decode cX10_isWithinBounds 25 = .ok (.aload_n 0, 1) := by decide +kernel
theorem dX10_isWithinBounds_26 : decode cX10_isWithinBounds 26 = .ok (.iload_n 2, 1) := by decide +kernel
theorem dX10_isWithinBounds_27 : decode cX10_isWithinBounds 27 = .ok (.invokevirtual 69, 3) := by decide +kernel
theorem dX10_isWithinBounds_30 : decode cX10_isWithinBounds 30 = .ok (.aload_n 0, 1) := by decide +kernel
theorem dX10_isWithinBounds_31 : decode cX10_isWithinBounds 31 = .ok (.getfield 34, 3) := by decide +kernel
theorem dX10_isWithinBounds_34 : decode cX10_isWithinBounds 34 = .ok (.if_icmp .gt 23, 3) := by decide +kernel
theorem dX10_isWithinBounds_37 : decode cX10_isWithinBounds 37 = .ok (.aload_n 0, 1) := by decide +kernel
theorem dX10_isWithinBounds_38 : decode cX10_isWithinBounds 38 = .ok (.iload_n 2, 1) := by decide +kernel
theorem dX10_isWithinBounds_39 : decode cX10_isWithinBounds 39 = .ok (.invokevirtual 99, 3) := by decide +kernel
theorem dX10_isWithinBounds_42 : decode cX10_isWithinBounds 42 = .ok (.ifCond .eq 15, 3) := by decide +kernel
theorem dX10_isWithinBounds_45 : decode cX10_isWithinBounds 45 = .ok (.aload_n 0, 1) := by decide +kernel
theorem dX10_isWithinBounds_46 : decode cX10_isWithinBounds 46 = .ok (.iload_n 2, 1) := by decide +kernel
theorem dX10_isWithinBounds_47 : decode cX10_isWithinBounds 47 = .ok (.invokevirtual 102, 3) := by decide +kernel
theorem dX10_isWithinBounds_50 : decode cX10_isWithinBounds 50 = .ok (.ifCond .eq 7, 3) := by decide +kernel
theorem dX10_isWithinBounds_53 : decode cX10_isWithinBounds 53 = .ok (.iconst 1, 1) := by decide +kernel
theorem dX10_isWithinBounds_54 : decode cX10_isWithinBounds 54 = .ok (.goto 4, 3) := by decide +kernel
theorem dX10_isWithinBounds_57 : decode cX10_isWithinBounds 57 = .ok (.iconst 0, 1) := by decide +kernel
theorem dX10_isWithinBounds_58 : decode cX10_isWithinBounds 58 = .ok (.istore_n 1, 1) := by decide +kernel
theorem dX10_isWithinBounds_59 : decode cX10_isWithinBounds 59 = .ok (.iinc 2 1, 3) := by decide +kernel
theorem dX10_isWithinBounds_62 : decode cX10_isWithinBounds 62 = .ok (.goto (-58), 3) := by decide +kernel
theorem dX10_isWithinBounds_65 : decode cX10_isWithinBounds 65 = .ok (.iload_n 1, 1) := by decide +kernel
theorem dX10_isWithinBounds_66 : decode cX10_isWithinBounds 66 = .ok (.ireturn, 1) := by decide +kernel
theorem dX10_hasSoundSigns_0 : decode cX10_hasSoundSigns 0 = .ok (.aload_n 0, 1) := by decide +kernel
theorem dX10_hasSoundSigns_1 : decode cX10_hasSoundSigns 1 = .ok (.iload_n 1, 1) := by decide +kernel
theorem dX10_hasSoundSigns_2 : decode cX10_hasSoundSigns 2 = .ok (.invokevirtual 105, 3) := by decide +kernel
theorem dX10_hasSoundSigns_5 : decode cX10_hasSoundSigns 5 = .ok (.ifCond .eq 12, 3) := by decide +kernel
theorem dX10_hasSoundSigns_8 : decode cX10_hasSoundSigns 8 = .ok (.aload_n 0, 1) := by decide +kernel
theorem dX10_hasSoundSigns_9 : decode cX10_hasSoundSigns 9 = .ok (.getfield 21, 3) := by decide +kernel
theorem dX10_hasSoundSigns_12 : decode cX10_hasSoundSigns 12 = .ok (.iload_n 1, 1) := by decide +kernel
theorem dX10_hasSoundSigns_13 : decode cX10_hasSoundSigns 13 = .ok (.iaload, 1) := by decide +kernel
theorem dX10_hasSoundSigns_14 : decode cX10_hasSoundSigns 14 = .ok (.goto 4, 3) := by decide +kernel
theorem dX10_hasSoundSigns_17 : decode cX10_hasSoundSigns 17 = .ok (.iconst (-1), 1) := by decide +kernel
theorem dX10_hasSoundSigns_18 : decode cX10_hasSoundSigns 18 = .ok (.istore_n 2, 1) := by decide +kernel
theorem dX10_hasSoundSigns_19 : decode cX10_hasSoundSigns 19 = .ok (.aload_n 0, 1) := by decide +kernel
theorem dX10_hasSoundSigns_20 : decode cX10_hasSoundSigns 20 = .ok (.iload_n 1, 1) := by decide +kernel
theorem dX10_hasSoundSigns_21 : decode cX10_hasSoundSigns 21 = .ok (.iconst 3, 1) := by decide +kernel
theorem dX10_hasSoundSigns_22 : decode cX10_hasSoundSigns 22 = .ok (.invokevirtual 42, 3) := by decide +kernel
theorem dX10_hasSoundSigns_25 : decode cX10_hasSoundSigns 25 = .ok (.ifCond .eq 19, 3) := by decide +kernel
theorem dX10_hasSoundSigns_28 : decode cX10_hasSoundSigns 28 = .ok (.iload_n 2, 1) := by decide +kernel
theorem dX10_hasSoundSigns_29 : decode cX10_hasSoundSigns 29 = .ok (.ifCond .lt 13, 3) := by decide +kernel
theorem dX10_hasSoundSigns_32 : decode cX10_hasSoundSigns 32 = .ok (.iload_n 2, 1) := by decide +kernel
theorem dX10_hasSoundSigns_33 : decode cX10_hasSoundSigns 33 = .ok (.bipush 40, 2) := by decide +kernel
theorem dX10_hasSoundSigns_35 : decode cX10_hasSoundSigns 35 = .ok (.if_icmp .gt 7, 3) := by decide +kernel
theorem dX10_hasSoundSigns_38 : decode cX10_hasSoundSigns 38 = .ok (.iconst 1, 1) := by decide +kernel
theorem dX10_hasSoundSigns_39 : decode cX10_hasSoundSigns 39 = .ok (.goto 4, 3) := by decide +kernel
theorem dX10_hasSoundSigns_42 : decode cX10_hasSoundSigns 42 = .ok (.iconst 0, 1) := by decide +kernel
theorem dX10_hasSoundSigns_43 : decode cX10_hasSoundSigns 43 = .ok (.ireturn, 1) := by decide +kernel
theorem dX10_hasSoundSigns_44 : decode cX10_hasSoundSigns 44 = .ok (.aload_n 0, 1) := by decide +kernel
theorem dX10_hasSoundSigns_45 : decode cX10_hasSoundSigns 45 = .ok (.iload_n 1, 1) := by decide +kernel
theorem dX10_hasSoundSigns_46 : decode cX10_hasSoundSigns 46 = .ok (.iconst 2, 1) := by decide +kernel
theorem dX10_hasSoundSigns_47 : decode cX10_hasSoundSigns 47 = .ok (.invokevirtual 42, 3) := by decide +kernel
theorem dX10_hasSoundSigns_50 : decode cX10_hasSoundSigns 50 = .ok (.ifCond .ne 5, 3) := by decide +kernel
theorem dX10_hasSoundSigns_53 : decode cX10_hasSoundSigns 53 = .ok (.iconst 1, 1) := by decide +kernel
theorem dX10_hasSoundSigns_54 : decode cX10_hasSoundSigns 54 = .ok (.ireturn, 1) := by decide +kernel
theorem dX10_hasSoundSigns_55 : decode cX10_hasSoundSigns 55 = .ok (.aload_n 0, 1) := by decide +kernel
theorem dX10_hasSoundSigns_56 : decode cX10_hasSoundSigns 56 = .ok (.iload_n 1, 1) := by decide +kernel
theorem dX10_hasSoundSigns_57 : decode cX10_hasSoundSigns 57 = .ok (.invokevirtual 93, 3) := by decide +kernel
theorem dX10_hasSoundSigns_60 : decode cX10_hasSoundSigns 60 = .ok (.ifCond .ne 7, 3) := by decide +kernel
theorem dX10_hasSoundSigns_63 : decode cX10_hasSoundSigns 63 = .ok (.iconst 1, 1) := by decide +kernel
theorem dX10_hasSoundSigns_64 : decode cX10_hasSoundSigns 64 = .ok (.goto 4, 3) := by decide +kernel
theorem dX10_hasSoundSigns_67 : decode cX10_hasSoundSigns 67 = .ok (.iconst 0, 1) := by decide +kernel
theorem dX10_hasSoundSigns_68 : decode cX10_hasSoundSigns 68 = .ok (.istore_n 3, 1) := by decide +kernel
theorem dX10_hasSoundSigns_69 : decode cX10_hasSoundSigns 69 = .ok (.iload_n 3, 1) := by decide +kernel
theorem dX10_hasSoundSigns_70 : decode cX10_hasSoundSigns 70 = .ok (.ifCond .eq 28, 3) := by decide +kernel
theorem dX10_hasSoundSigns_73 : decode cX10_hasSoundSigns 73 = .ok (.aload_n 0, 1) := by decide +kernel
theorem dX10_hasSoundSigns_74 : decode cX10_hasSoundSigns 74 = .ok (.iload_n 1, 1) := by decide +kernel
theorem dX10_hasSoundSigns_75 : decode cX10_hasSoundSigns 75 = .ok (.invokevirtual 87, 3) := by decide +kernel
theorem dX10_hasSoundSigns_78 : decode cX10_hasSoundSigns 78 = .ok (.ifCond .ne 16, 3) := by decide +kernel
theorem dX10_hasSoundSigns_81 : decode cX10_hasSoundSigns 81 = .ok (.aload_n 0, 1) := by decide +kernel
theorem dX10_hasSoundSigns_82 : decode cX10_hasSoundSigns 82 = .ok (.iload_n 1, 1) := by decide +kernel
theorem dX10_hasSoundSigns_83 : decode cX10_hasSoundSigns 83 = .ok (.invokevirtual 90, 3) := by decide +kernel
theorem dX10_hasSoundSigns_86 : decode cX10_hasSoundSigns 86 = .ok (.iconst 1, 1) := by decide +kernel
theorem dX10_hasSoundSigns_87 : decode cX10_hasSoundSigns 87 = .ok (.if_icmp .ne 7, 3) := by decide +kernel
theorem dX10_hasSoundSigns_90 : decode cX10_hasSoundSigns 90 = .ok (.iconst 1, 1) := by decide +kernel
theorem dX10_hasSoundSigns_91 : decode cX10_hasSoundSigns 91 = .ok (.goto 29, 3) := by decide +kernel
theorem dX10_hasSoundSigns_94 : decode cX10_hasSoundSigns 94 = .ok (.iconst 0, 1) := by decide +kernel
theorem dX10_hasSoundSigns_95 : decode cX10_hasSoundSigns 95 = .ok (.goto 25, 3) := by decide +kernel
theorem dX10_hasSoundSigns_98 : decode cX10_hasSoundSigns 98 = .ok (.aload_n 0, 1) := by decide +kernel
theorem dX10_hasSoundSigns_99 : decode cX10_hasSoundSigns 99 = .ok (.iload_n 1, 1) := by decide +kernel
theorem dX10_hasSoundSigns_100 : decode cX10_hasSoundSigns 100 = .ok (.aload_n 0, 1) := by decide +kernel
theorem dX10_hasSoundSigns_101 : decode cX10_hasSoundSigns 101 = .ok (.iload_n 1, 1) := by decide +kernel
theorem dX10_hasSoundSigns_102 : decode cX10_hasSoundSigns 102 = .ok (.invokevirtual 90, 3) := by decide +kernel
theorem dX10_hasSoundSigns_105 : decode cX10_hasSoundSigns 105 = .ok (.iconst 1, 1) := by decide +kernel
theorem dX10_hasSoundSigns_106 : decode cX10_hasSoundSigns 106 = .ok (.isub, 1) := by decide +kernel
theorem dX10_hasSoundSigns_107 : decode cX10_hasSoundSigns 107 = .ok (.invokevirtual 108, 3) := by decide +kernel
theorem dX10_hasSoundSigns_110 : decode cX10_hasSoundSigns 110 = .ok (.bipush 48, 2) := by decide +kernel
theorem dX10_hasSoundSigns_112 : decode cX10_hasSoundSigns 112 = .ok (.if_icmp .eq 7, 3) := by decide +kernel
theorem dX10_hasSoundSigns_115 : decode cX10_hasSoundSigns 115 = .ok (.iconst 1, 1) := by decide +kernel
theorem dX10_hasSoundSigns_116 : decode cX10_hasSoundSigns 116 = .ok (.goto 4, 3) := by decide +kernel
theorem dX10_hasSoundSigns_119 : decode cX10_hasSoundSigns 119 = .ok (.iconst 0, 1) := by decide +kernel
theorem dX10_hasSoundSigns_120 : decode cX10_hasSoundSigns 120 = .ok (.istore 4, 2) := by decide +kernel
theorem dX10_hasSoundSigns_122 : decode cX10_hasSoundSigns 122 = .ok (.iload 4, 2) := by decide +kernel
theorem dX10_hasSoundSigns_124 : decode cX10_hasSoundSigns 124 = .ok (.ifCond .eq 30, 3) := by decide +kernel
theorem dX10_hasSoundSigns_127 : decode cX10_hasSoundSigns 127 = .ok (.aload_n 0, 1) := by decide +kernel
theorem dX10_hasSoundSigns_128 : decode cX10_hasSoundSigns 128 = .ok (.iload_n 1, 1) := by decide +kernel
theorem dX10_hasSoundSigns_129 : decode cX10_hasSoundSigns 129 = .ok (.invokevirtual 90, 3) := by decide +kernel
theorem dX10_hasSoundSigns_132 : decode cX10_hasSoundSigns 132 = .ok (.bipush 24, 2) := by decide +kernel
theorem dX10_hasSoundSigns_134 : decode cX10_hasSoundSigns 134 = .ok (.if_icmp .gt 20, 3) := by decide +kernel
theorem dX10_hasSoundSigns_137 : decode cX10_hasSoundSigns 137 = .ok (.aload_n 0, 1) := by decide +kernel
theorem dX10_hasSoundSigns_138 : decode cX10_hasSoundSigns 138 = .ok (.iload_n 1, 1) := by decide +kernel
theorem dX10_hasSoundSigns_139 : decode cX10_hasSoundSigns 139 = .ok (.invokevirtual 87, 3) := by decide +kernel
theorem dX10_hasSoundSigns_142 : decode cX10_hasSoundSigns 142 = .ok (.invokestatic 111, 3) := by decide +kernel
theorem dX10_hasSoundSigns_145 : decode cX10_hasSoundSigns 145 = .ok (.bipush 99, 2) := by decide +kernel
theorem dX10_hasSoundSigns_147 : decode cX10_hasSoundSigns 147 = .ok (.if_icmp .gt 7, 3) := by decide +kernel
theorem dX10_hasSoundSigns_150 : decode cX10_hasSoundSigns 150 = .ok (.iconst 1, 1) := by decide +kernel
theorem dX10_hasSoundSigns_151 : decode cX10_hasSoundSigns 151 = .ok (.goto 4, 3) := by decide +kernel
theorem dX10_hasSoundSigns_154 : decode cX10_hasSoundSigns 154 = .ok (.iconst 0, 1) := by decide +kernel
theorem dX10_hasSoundSigns_155 : decode cX10_hasSoundSigns 155 = .ok (.ireturn, 1) := by decide +kernel
theorem dX10_hasSoundKeys_0 : decode cX10_hasSoundKeys 0 = .ok (.iconst 1, 1) := by decide +kernel
theorem dX10_hasSoundKeys_1 : decode cX10_hasSoundKeys 1 = .ok (.istore_n 2, 1) := by decide +kernel
theorem dX10_hasSoundKeys_2 : decode cX10_hasSoundKeys 2 = .ok (.aload_n 0, 1) := by decide +kernel
theorem dX10_hasSoundKeys_3 : decode cX10_hasSoundKeys 3 = .ok (.iload_n 1, 1) := by decide +kernel
theorem dX10_hasSoundKeys_4 : decode cX10_hasSoundKeys 4 = .ok (.invokevirtual 114, 3) := by decide +kernel
theorem dX10_hasSoundKeys_7 : decode cX10_hasSoundKeys 7 = .ok (.istore_n 3, 1) := by decide +kernel
theorem dX10_hasSoundKeys_8 : decode cX10_hasSoundKeys 8 = .ok (.iconst 0, 1) := by decide +kernel
theorem dX10_hasSoundKeys_9 : decode cX10_hasSoundKeys 9 = .ok (.istore 4, 2) := by decide +kernel
theorem dX10_hasSoundKeys_11 : decode cX10_hasSoundKeys 11 = .ok (.iload_n 3, 1) := by decide +kernel
theorem dX10_hasSoundKeys_12 : decode cX10_hasSoundKeys 12 = .ok (.iconst (-1), 1) := by decide +kernel
theorem dX10_hasSoundKeys_13 : decode cX10_hasSoundKeys 13 = .ok (.if_icmp .eq 54, 3) := by decide +kernel
theorem dX10_hasSoundKeys_16 : decode cX10_hasSoundKeys 16 = .ok (.iload 4, 2) := by decide +kernel
theorem dX10_hasSoundKeys_18 : decode cX10_hasSoundKeys 18 = .ok (.bipush 100, 2) := by decide +kernel
theorem dX10_hasSoundKeys_20 : decode cX10_hasSoundKeys 20 = .ok (.if_icmp .ge 47, 3) := by decide +kernel
theorem dX10_hasSoundKeys_23 : decode cX10_hasSoundKeys 23 = .ok (.iload_n 2, 1) := by decide +kernel
theorem dX10_hasSoundKeys_24 : decode cX10_hasSoundKeys 24 = .ok (.ifCond .eq 43, 3) := by decide +kernel
theorem dX10_hasSoundKeys_27 : decode cX10_hasSoundKeys 27 = .ok (.aload_n 0, 1) := by decide +kernel
theorem dX10_hasSoundKeys_28 : decode cX10_hasSoundKeys 28 = .ok (.iload_n 3, 1) := by decide +kernel
theorem dX10_hasSoundKeys_29 : decode cX10_hasSoundKeys 29 = .ok (.invokevirtual 117, 3) := by decide +kernel
theorem dX10_hasSoundKeys_32 : decode cX10_hasSoundKeys 32 = .ok (.bipush 12, 2) := by decide +kernel
theorem dX10_hasSoundKeys_34 : decode cX10_hasSoundKeys 34 = .ok (.if_icmp .gt 18, 3) := by decide +kernel
theorem dX10_hasSoundKeys_37 : decode cX10_hasSoundKeys 37 = .ok (.aload_n 0, 1) := by decide +kernel
theorem dX10_hasSoundKeys_38 : decode cX10_hasSoundKeys 38 = .ok (.iload_n 1, 1) := by decide +kernel
theorem dX10_hasSoundKeys_39 : decode cX10_hasSoundKeys 39 = .ok (.aload_n 0, 1) := by decide +kernel
theorem dX10_hasSoundKeys_40 : decode cX10_hasSoundKeys 40 = .ok (.iload_n 3, 1) := by decide +kernel
theorem dX10_hasSoundKeys_41 : decode cX10_hasSoundKeys 41 = .ok (.invokevirtual 120, 3) := by decide +kernel
theorem dX10_hasSoundKeys_44 : decode cX10_hasSoundKeys 44 = .ok (.iload_n 3, 1) := by decide +kernel
theorem dX10_hasSoundKeys_45 : decode cX10_hasSoundKeys 45 = .ok (.if_icmp .ne 7, 3) := by decide +kernel
theorem dX10_hasSoundKeys_48 : decode cX10_hasSoundKeys 48 = .ok (.iconst 1, 1) := by decide +kernel
theorem dX10_hasSoundKeys_49 : decode cX10_hasSoundKeys 49 = .ok (.goto 4, 3) := by decide +kernel
theorem dX10_hasSoundKeys_52 : decode cX10_hasSoundKeys 52 = .ok (.iconst 0, 1) := by decide +kernel
theorem dX10_hasSoundKeys_53 : decode cX10_hasSoundKeys 53 = .ok (.istore_n 2, 1) := by decide +kernel
theorem dX10_hasSoundKeys_54 : decode cX10_hasSoundKeys 54 = .ok (.aload_n 0, 1) := by decide +kernel
theorem dX10_hasSoundKeys_55 : decode cX10_hasSoundKeys 55 = .ok (.iload_n 1, 1) := by decide +kernel
theorem dX10_hasSoundKeys_56 : decode cX10_hasSoundKeys 56 = .ok (.iload_n 3, 1) := by decide +kernel
theorem dX10_hasSoundKeys_57 : decode cX10_hasSoundKeys 57 = .ok (.invokevirtual 56, 3) := by decide +kernel
theorem dX10_hasSoundKeys_60 : decode cX10_hasSoundKeys 60 = .ok (.istore_n 3, 1) := by decide +kernel
theorem dX10_hasSoundKeys_61 : decode cX10_hasSoundKeys 61 = .ok (.iinc 4 1, 3) := by decide +kernel
theorem dX10_hasSoundKeys_64 : decode cX10_hasSoundKeys 64 = .ok (.goto (-53), 3) := by decide +kernel
theorem dX10_hasSoundKeys_67 : decode cX10_hasSoundKeys 67 = .ok (.iload_n 2, 1) := by decide +kernel
theorem dX10_hasSoundKeys_68 : decode cX10_hasSoundKeys 68 = .ok (.ireturn, 1) := by decide +kernel
theorem dX10_setNumber_0 : decode cX10_setNumber 0 = .ok (.aload_n 0, 1) := by decide +kernel
theorem dX10_setNumber_1 : decode cX10_setNumber 1 = .ok (.iload_n 1, 1) := by decide +kernel
theorem dX10_setNumber_2 : decode cX10_setNumber 2 = .ok (.invokevirtual 105, 3) := by decide +kernel
theorem dX10_setNumber_5 : decode cX10_setNumber 5 = .ok (.ifCond .ne 5, 3) := by decide +kernel
theorem dX10_setNumber_8 : decode cX10_setNumber 8 = .ok (.iconst 0, 1) := by decide +kernel
theorem dX10_setNumber_9 : decode cX10_setNumber 9 = .ok (.ireturn, 1) := by decide +kernel
theorem dX10_setNumber_10 : decode cX10_setNumber 10 = .ok (.iconst 0, 1) := by decide +kernel
theorem dX10_setNumber_11 : decode cX10_setNumber 11 = .ok (.istore 5, 2) := by decide +kernel
theorem dX10_setNumber_13 : decode cX10_setNumber 13 = .ok (.aload_n 3, 1) := by decide +kernel
theorem dX10_setNumber_14 : decode cX10_setNumber 14 = .ok (.invokevirtual 124, 3) := by decide +kernel
theorem dX10_setNumber_17 : decode cX10_setNumber 17 = .ok (.istore 6, 2) := by decide +kernel
theorem dX10_setNumber_19 : decode cX10_setNumber 19 = .ok (.iload 5, 2) := by decide +kernel
theorem dX10_setNumber_21 : decode cX10_setNumber 21 = .ok (.iload 6, 2) := by decide +kernel
theorem dX10_setNumber_23 : decode cX10_setNumber 23 = .ok (.if_icmp .ge 20, 3) := by decide +kernel
theorem dX10_setNumber_26 : decode cX10_setNumber 26 = .ok (.aload_n 3, 1) := by decide +kernel
theorem dX10_setNumber_27 : decode cX10_setNumber 27 = .ok (.iload 5, 2) := by decide +kernel
theorem dX10_setNumber_29 : decode cX10_setNumber 29 = .ok (.invokevirtual 129, 3) := by decide +kernel
theorem dX10_setNumber_32 : decode cX10_setNumber 32 = .ok (.bipush 48, 2) := by decide +kernel
theorem dX10_setNumber_34 : decode cX10_setNumber 34 = .ok (.if_icmp .ne 9, 3) := by decide +kernel
theorem dX10_setNumber_37 : decode cX10_setNumber 37 = .ok (.iinc 5 1, 3) := by decide +kernel
theorem dX10_setNumber_40 : decode cX10_setNumber 40 = .ok (.goto (-21), 3) := by decide +kernel
theorem dX10_setNumber_43 : decode cX10_setNumber 43 = .ok (.iload 6, 2) := by decide +kernel
theorem dX10_setNumber_45 : decode cX10_setNumber 45 = .ok (.iload 5, 2) := by decide +kernel
theorem dX10_setNumber_47 : decode cX10_setNumber 47 = .ok (.if_icmp .le 22, 3) := by decide +kernel
theorem dX10_setNumber_50 : decode cX10_setNumber 50 = .ok (.aload_n 3, 1) := by decide +kernel
theorem dX10_setNumber_51 : decode cX10_setNumber 51 = .ok (.iload 6, 2) := by decide +kernel
theorem dX10_setNumber_53 : decode cX10_setNumber 53 = .ok (.iconst 1, 1) := by decide +kernel
theorem dX10_setNumber_54 : decode cX10_setNumber 54 = .ok (.isub, 1) := by decide +kernel
theorem dX10_setNumber_55 : decode cX10_setNumber 55 = .ok (.invokevirtual 129, 3) := by decide +kernel
theorem dX10_setNumber_58 : decode cX10_setNumber 58 = .ok (.bipush 48, 2) := by decide +kernel
theorem dX10_setNumber_60 : decode cX10_setNumber 60 = .ok (.if_icmp .ne 9, 3) := by decide +kernel
theorem dX10_setNumber_63 : decode cX10_setNumber 63 = .ok (.iinc 6 (-1), 3) := by decide +kernel
theorem dX10_setNumber_66 : decode cX10_setNumber 66 = .ok (.goto (-23), 3) := by decide +kernel
theorem dX10_setNumber_69 : decode cX10_setNumber 69 = .ok (.aload_n 0, 1) := by decide +kernel
theorem dX10_setNumber_70 : decode cX10_setNumber 70 = .ok (.getfield 21, 3) := by decide +kernel
theorem dX10_setNumber_73 : decode cX10_setNumber 73 = .ok (.iload_n 1, 1) := by decide +kernel
theorem dX10_setNumber_74 : decode cX10_setNumber 74 = .ok (.iconst 0, 1) := by decide +kernel
theorem dX10_setNumber_75 : decode cX10_setNumber 75 = .ok (.iastore, 1) := by decide +kernel
theorem dX10_setNumber_76 : decode cX10_setNumber 76 = .ok (.iload 5, 2) := by decide +kernel
theorem dX10_setNumber_78 : decode cX10_setNumber 78 = .ok (.iload 6, 2) := by decide +kernel
theorem dX10_setNumber_80 : decode cX10_setNumber 80 = .ok (.if_icmp .ne 19, 3) := by decide +kernel
theorem dX10_setNumber_83 : decode cX10_setNumber 83 = .ok (.aload_n 0, 1) := by decide +kernel
theorem dX10_setNumber_84 : decode cX10_setNumber 84 = .ok (.iload_n 1, 1) := by decide +kernel
theorem dX10_setNumber_85 : decode cX10_setNumber 85 = .ok (.bipush 48, 2) := by decide +kernel
theorem dX10_setNumber_87 : decode cX10_setNumber 87 = .ok (.invokevirtual 132, 3) := by decide +kernel
theorem dX10_setNumber_90 : decode cX10_setNumber 90 = .ok (.aload_n 0, 1) := by decide +kernel
theorem dX10_setNumber_91 : decode cX10_setNumber 91 = .ok (.getfield 18, 3) := by decide +kernel
theorem dX10_setNumber_94 : decode cX10_setNumber 94 = .ok (.iload_n 1, 1) := by decide +kernel
theorem dX10_setNumber_95 : decode cX10_setNumber 95 = .ok (.iconst 0, 1) := by decide +kernel
theorem dX10_setNumber_96 : decode cX10_setNumber 96 = .ok (.iastore, 1) := by decide +kernel
theorem dX10_setNumber_97 : decode cX10_setNumber 97 = .ok (.iconst 1, 1) := by decide +kernel
theorem dX10_setNumber_98 : decode cX10_setNumber 98 = .ok (.ireturn, 1) := by decide +kernel
theorem dX10_setNumber_99 : decode cX10_setNumber 99 = .ok (.iload_n 2, 1) := by decide +kernel
theorem dX10_setNumber_100 : decode cX10_setNumber 100 = .ok (.ifCond .eq 10, 3) := by decide +kernel
theorem dX10_setNumber_103 : decode cX10_setNumber 103 = .ok (.aload_n 0, 1) := by decide +kernel
theorem dX10_setNumber_104 : decode cX10_setNumber 104 = .ok (.iload_n 1, 1) := by decide +kernel
theorem dX10_setNumber_105 : decode cX10_setNumber 105 = .ok (.bipush 45, 2) := by decide +kernel
theorem dX10_setNumber_107 : decode cX10_setNumber 107 = .ok (.invokevirtual 132, 3) := by decide +kernel
theorem dX10_setNumber_110 : decode cX10_setNumber 110 = .ok (.iload 5, 2) := by decide +kernel
theorem dX10_setNumber_112 : decode cX10_setNumber 112 = .ok (.istore 7, 2) := by decide +kernel
theorem dX10_setNumber_114 : decode cX10_setNumber 114 = .ok (.iload 7, 2) := by decide +kernel
theorem dX10_setNumber_116 : decode cX10_setNumber 116 = .ok (.iload 6, 2) := by decide +kernel
theorem dX10_setNumber_118 : decode cX10_setNumber 118 = .ok (.if_icmp .ge 20, 3) := by decide +kernel
theorem dX10_setNumber_121 : decode cX10_setNumber 121 = .ok (.aload_n 0, 1) := by decide +kernel
theorem dX10_setNumber_122 : decode cX10_setNumber 122 = .ok (.iload_n 1, 1) := by decide +kernel
theorem dX10_setNumber_123 : decode cX10_setNumber 123 = .ok (.aload_n 3, 1) := by decide +kernel
theorem dX10_setNumber_124 : decode cX10_setNumber 124 = .ok (.iload 7, 2) := by decide +kernel
theorem dX10_setNumber_126 : decode cX10_setNumber 126 = .ok (.invokevirtual 129, 3) := by decide +kernel
theorem dX10_setNumber_129 : decode cX10_setNumber 129 = .ok (.invokevirtual 132, 3) := by decide +kernel
theorem dX10_setNumber_132 : decode cX10_setNumber 132 = .ok (.iinc 7 1, 3) := by decide +kernel
theorem dX10_setNumber_135 : decode cX10_setNumber 135 = .ok (.goto (-21), 3) := by decide +kernel
theorem dX10_setNumber_138 : decode cX10_setNumber 138 = .ok (.aload_n 0, 1) := by decide +kernel
theorem dX10_setNumber_139 : decode cX10_setNumber 139 = .ok (.getfield 18, 3) := by decide +kernel
theorem dX10_setNumber_142 : decode cX10_setNumber 142 = .ok (.iload_n 1, 1) := by decide +kernel
theorem dX10_setNumber_143 : decode cX10_setNumber 143 = .ok (.iload 4, 2) := by decide +kernel
theorem dX10_setNumber_145 : decode cX10_setNumber 145 = .ok (.aload_n 3, 1) := by decide +kernel
theorem dX10_setNumber_146 : decode cX10_setNumber 146 = .ok (.invokevirtual 124, 3) := by decide +kernel
theorem dX10_setNumber_149 : decode cX10_setNumber 149 = .ok (.iadd, 1) := by decide +kernel
theorem dX10_setNumber_150 : decode cX10_setNumber 150 = .ok (.iload 6, 2) := by decide +kernel
theorem dX10_setNumber_152 : decode cX10_setNumber 152 = .ok (.isub, 1) := by decide +kernel
theorem dX10_setNumber_153 : decode cX10_setNumber 153 = .ok (.iastore, 1) := by decide +kernel
theorem dX10_setNumber_154 : decode cX10_setNumber 154 = .ok (.aload_n 0, 1) := by decide +kernel
theorem dX10_setNumber_155 : decode cX10_setNumber 155 = .ok (.getfield 18, 3) := by decide +kernel
theorem dX10_setNumber_158 : decode cX10_setNumber 158 = .ok (.iload_n 1, 1) := by decide +kernel
theorem dX10_setNumber_159 : decode cX10_setNumber 159 = .ok (.iaload, 1) := by decide +kernel
theorem dX10_setNumber_160 : decode cX10_setNumber 160 = .ok (.invokestatic 111, 3) := by decide +kernel
theorem dX10_setNumber_163 : decode cX10_setNumber 163 = .ok (.bipush 99, 2) := by decide +kernel
theorem dX10_setNumber_165 : decode cX10_setNumber 165 = .ok (.if_icmp .gt 7, 3) := by decide +kernel
theorem dX10_setNumber_168 : decode cX10_setNumber 168 = .ok (.iconst 1, 1) := by decide +kernel
theorem dX10_setNumber_169 : decode cX10_setNumber 169 = .ok (.goto 4, 3) := by decide +kernel
theorem dX10_setNumber_172 : decode cX10_setNumber 172 = .ok (.iconst 0, 1) := by decide +kernel
theorem dX10_setNumber_173 : decode cX10_setNumber 173 = .ok (.ireturn, 1) := by decide +kernel
theorem dX10_digit_0 : decode cX10_digit 0 = .ok (.iload_n 2, 1) := by decide +kernel
theorem dX10_digit_1 : decode cX10_digit 1 = .ok (.aload_n 0, 1) := by decide +kernel
theorem dX10_digit_2 : decode cX10_digit 2 = .ok (.iload_n 1, 1) := by decide +kernel
theorem dX10_digit_3 : decode cX10_digit 3 = .ok (.iconst 0, 1) := by decide +kernel
theorem dX10_digit_4 : decode cX10_digit 4 = .ok (.invokevirtual 136, 3) := by decide +kernel
theorem dX10_digit_7 : decode cX10_digit 7 = .ok (.bipush 45, 2) := by decide +kernel
theorem dX10_digit_9 : decode cX10_digit 9 = .ok (.if_icmp .ne 7, 3) := by decide +kernel
theorem dX10_digit_12 : decode cX10_digit 12 = .ok (.iconst 1, 1) := by decide +kernel
theorem dX10_digit_13 : decode cX10_digit 13 = .ok (.goto 4, 3) := by decide +kernel
theorem dX10_digit_16 : decode cX10_digit 16 = .ok (.iconst 0, 1) := by decide +kernel
theorem dX10_digit_17 : decode cX10_digit 17 = .ok (.iadd, 1) := by decide +kernel
theorem dX10_digit_18 : decode cX10_digit 18 = .ok (.istore_n 3, 1) := by decide +kernel
theorem dX10_digit_19 : decode cX10_digit 19 = .ok (.iload_n 3, 1) := by decide +kernel
theorem dX10_digit_20 : decode cX10_digit 20 = .ok (.ifCond .lt 21, 3) := by decide +kernel
theorem dX10_digit_23 : decode cX10_digit 23 = .ok (.iload_n 3, 1) := by decide +kernel
theorem dX10_digit_24 : decode cX10_digit 24 = .ok (.aload_n 0, 1) := by decide +kernel
theorem dX10_digit_25 : decode cX10_digit 25 = .ok (.iload_n 1, 1) := by decide +kernel
theorem dX10_digit_26 : decode cX10_digit 26 = .ok (.invokevirtual 139, 3) := by decide +kernel
theorem dX10_digit_29 : decode cX10_digit 29 = .ok (.if_icmp .ge 12, 3) := by decide +kernel
theorem dX10_digit_32 : decode cX10_digit 32 = .ok (.aload_n 0, 1) := by decide +kernel
theorem dX10_digit_33 : decode cX10_digit 33 = .ok (.iload_n 1, 1) := by decide +kernel
theorem dX10_digit_34 : decode cX10_digit 34 = .ok (.iload_n 3, 1) := by decide +kernel
theorem dX10_digit_35 : decode cX10_digit 35 = .ok (.invokevirtual 136, 3) := by decide +kernel
theorem dX10_digit_38 : decode cX10_digit 38 = .ok (.goto 5, 3) := by decide +kernel
theorem dX10_digit_41 : decode cX10_digit 41 = .ok (.bipush 48, 2) := by decide +kernel
theorem dX10_digit_43 : decode cX10_digit 43 = .ok (.ireturn, 1) := by decide +kernel
theorem dX10_figures_0 : decode cX10_figures 0 = .ok (.aload_n 0, 1) := by decide +kernel
theorem dX10_figures_1 : decode cX10_figures 1 = .ok (.iload_n 1, 1) := by decide +kernel
theorem dX10_figures_2 : decode cX10_figures 2 = .ok (.iconst 2, 1) := by decide +kernel
theorem dX10_figures_3 : decode cX10_figures 3 = .ok (.invokevirtual 42, 3) := by decide +kernel
theorem dX10_figures_6 : decode cX10_figures 6 = .ok (.ifCond .ne 5, 3) := by decide +kernel
theorem dX10_figures_9 : decode cX10_figures 9 = .ok (.iconst 0, 1) := by decide +kernel
theorem dX10_figures_10 : decode cX10_figures 10 = .ok (.ireturn, 1) := by decide +kernel
theorem dX10_figures_11 : decode cX10_figures 11 = .ok (.aload_n 0, 1) := by decide +kernel
theorem dX10_figures_12 : decode cX10_figures 12 = .ok (.getfield 21, 3) := by decide +kernel
theorem dX10_figures_15 : decode cX10_figures 15 = .ok (.iload_n 1, 1) := by decide +kernel
theorem dX10_figures_16 : decode cX10_figures 16 = .ok (.iaload, 1) := by decide +kernel
theorem dX10_figures_17 : decode cX10_figures 17 = .ok (.aload_n 0, 1) := by decide +kernel
theorem dX10_figures_18 : decode cX10_figures 18 = .ok (.iload_n 1, 1) := by decide +kernel
theorem dX10_figures_19 : decode cX10_figures 19 = .ok (.iconst 0, 1) := by decide +kernel
theorem dX10_figures_20 : decode cX10_figures 20 = .ok (.invokevirtual 136, 3) := by decide +kernel
theorem dX10_figures_23 : decode cX10_figures 23 = .ok (.bipush 45, 2) := by decide +kernel
theorem dX10_figures_25 : decode cX10_figures 25 = .ok (.if_icmp .ne 7, 3) := by decide +kernel
theorem dX10_figures_28 : decode cX10_figures 28 = .ok (.iconst 1, 1) := by decide +kernel
theorem dX10_figures_29 : decode cX10_figures 29 = .ok (.goto 4, 3) := by decide +kernel
theorem dX10_figures_32 : decode cX10_figures 32 = .ok (.iconst 0, 1) := by decide +kernel
theorem dX10_figures_33 : decode cX10_figures 33 = .ok (.isub, 1) := by decide +kernel
theorem dX10_figures_34 : decode cX10_figures 34 = .ok (.ireturn, 1) := by decide +kernel
theorem dX10_signOf_0 : decode cX10_signOf 0 = .ok (.aload_n 0, 1) := by decide +kernel
theorem dX10_signOf_1 : decode cX10_signOf 1 = .ok (.iload_n 1, 1) := by decide +kernel
theorem dX10_signOf_2 : decode cX10_signOf 2 = .ok (.iconst 0, 1) := by decide +kernel
theorem dX10_signOf_3 : decode cX10_signOf 3 = .ok (.invokevirtual 136, 3) := by decide +kernel
theorem dX10_signOf_6 : decode cX10_signOf 6 = .ok (.istore_n 2, 1) := by decide +kernel
theorem dX10_signOf_7 : decode cX10_signOf 7 = .ok (.iload_n 2, 1) := by decide +kernel
theorem dX10_signOf_8 : decode cX10_signOf 8 = .ok (.bipush 45, 2) := by decide +kernel
theorem dX10_signOf_10 : decode cX10_signOf 10 = .ok (.if_icmp .ne 5, 3) := by decide +kernel
theorem dX10_signOf_13 : decode cX10_signOf 13 = .ok (.iconst (-1), 1) := by decide +kernel
theorem dX10_signOf_14 : decode cX10_signOf 14 = .ok (.ireturn, 1) := by decide +kernel
theorem dX10_signOf_15 : decode cX10_signOf 15 = .ok (.iload_n 2, 1) := by decide +kernel
theorem dX10_signOf_16 : decode cX10_signOf 16 = .ok (.bipush 48, 2) := by decide +kernel
theorem dX10_signOf_18 : decode cX10_signOf 18 = .ok (.if_icmp .ne 7, 3) := by decide +kernel
theorem dX10_signOf_21 : decode cX10_signOf 21 = .ok (.iconst 0, 1) := by decide +kernel
theorem dX10_signOf_22 : decode cX10_signOf 22 = .ok (.goto 4, 3) := by decide +kernel
theorem dX10_signOf_25 : decode cX10_signOf 25 = .ok (.iconst 1, 1) := by decide +kernel
theorem dX10_signOf_26 : decode cX10_signOf 26 = .ok (.ireturn, 1) := by decide +kernel
theorem dX10_order_0 : decode cX10_order 0 = .ok (.iconst (-1), 1) := by decide +kernel
theorem dX10_order_1 : decode cX10_order 1 = .ok (.iconst 1, 1) := by decide +kernel
theorem dX10_order_2 : decode cX10_order 2 = .ok (.iload_n 0, 1) := by decide +kernel
theorem dX10_order_3 : decode cX10_order 3 = .ok (.iload_n 1, 1) := by decide +kernel
theorem dX10_order_4 : decode cX10_order 4 = .ok (.isub, 1) := by decide +kernel
theorem dX10_order_5 : decode cX10_order 5 = .ok (.invokestatic 66, 3) := by decide +kernel
theorem dX10_order_8 : decode cX10_order 8 = .ok (.invokestatic 46, 3) := by decide +kernel
theorem dX10_order_11 : decode cX10_order 11 = .ok (.ireturn, 1) := by decide +kernel
theorem dX10_orderOfNumbers_0 : decode cX10_orderOfNumbers 0 = .ok (.aload_n 0, 1) := by decide +kernel
theorem dX10_orderOfNumbers_1 : decode cX10_orderOfNumbers 1 = .ok (.iload_n 1, 1) := by decide +kernel
theorem dX10_orderOfNumbers_2 : decode cX10_orderOfNumbers 2 = .ok (.invokevirtual 93, 3) := by decide +kernel
theorem dX10_orderOfNumbers_5 : decode cX10_orderOfNumbers 5 = .ok (.istore 4, 2) := by decide +kernel
theorem dX10_orderOfNumbers_7 : decode cX10_orderOfNumbers 7 = .ok (.iload 4, 2) := by decide +kernel
theorem dX10_orderOfNumbers_9 : decode cX10_orderOfNumbers 9 = .ok (.aload_n 2, 1) := by decide +kernel
theorem dX10_orderOfNumbers_10 : decode cX10_orderOfNumbers 10 = .ok (.iload_n 3, 1) := by decide +kernel
theorem dX10_orderOfNumbers_11 : decode cX10_orderOfNumbers 11 = .ok (.invokevirtual 93, 3) := by decide +kernel
theorem dX10_orderOfNumbers_14 : decode cX10_orderOfNumbers 14 = .ok (.if_icmp .ne 8, 3) := by decide +kernel
theorem dX10_orderOfNumbers_17 : decode cX10_orderOfNumbers 17 = .ok (.iload 4, 2) := by decide +kernel
theorem dX10_orderOfNumbers_19 : decode cX10_orderOfNumbers 19 = .ok (.ifCond .ne 14, 3) := by decide +kernel
theorem dX10_orderOfNumbers_22 : decode cX10_orderOfNumbers 22 = .ok (.iload 4, 2) := by decide +kernel
theorem dX10_orderOfNumbers_24 : decode cX10_orderOfNumbers 24 = .ok (.aload_n 2, 1) := by decide +kernel
theorem dX10_orderOfNumbers_25 : decode cX10_orderOfNumbers 25 = .ok (.iload_n 3, 1) := by decide +kernel
theorem dX10_orderOfNumbers_26 : decode cX10_orderOfNumbers 26 = .ok (.invokevirtual 93, 3) := by decide +kernel
theorem dX10_orderOfNumbers_29 : decode cX10_orderOfNumbers 29 = .ok (.invokestatic 142, 3) := by decide +kernel
theorem dX10_orderOfNumbers_32 : decode cX10_orderOfNumbers 32 = .ok (.ireturn, 1) := by decide +kernel
theorem dX10_orderOfNumbers_33 : decode cX10_orderOfNumbers 33 = .ok (.aload_n 0, 1) := by decide +kernel
theorem dX10_orderOfNumbers_34 : decode cX10_orderOfNumbers 34 = .ok (.iload_n 1, 1) := by decide +kernel
theorem dX10_orderOfNumbers_35 : decode cX10_orderOfNumbers 35 = .ok (.invokevirtual 90, 3) := by decide +kernel
theorem dX10_orderOfNumbers_38 : decode cX10_orderOfNumbers 38 = .ok (.aload_n 0, 1) := by decide +kernel
theorem dX10_orderOfNumbers_39 : decode cX10_orderOfNumbers 39 = .ok (.iload_n 1, 1) := by decide +kernel
theorem dX10_orderOfNumbers_40 : decode cX10_orderOfNumbers 40 = .ok (.invokevirtual 87, 3) := by decide +kernel
theorem dX10_orderOfNumbers_43 : decode cX10_orderOfNumbers 43 = .ok (.iadd, 1) := by decide +kernel
theorem dX10_orderOfNumbers_44 : decode cX10_orderOfNumbers 44 = .ok (.aload_n 2, 1) := by decide +kernel
theorem dX10_orderOfNumbers_45 : decode cX10_orderOfNumbers 45 = .ok (.iload_n 3, 1) := by decide +kernel
theorem dX10_orderOfNumbers_46 : decode cX10_orderOfNumbers 46 = .ok (.invokevirtual 90, 3) := by decide +kernel
theorem dX10_orderOfNumbers_49 : decode cX10_orderOfNumbers 49 = .ok (.aload_n 2, 1) := by decide +kernel
theorem dX10_orderOfNumbers_50 : decode cX10_orderOfNumbers 50 = .ok (.iload_n 3, 1) := by decide +kernel
theorem dX10_orderOfNumbers_51 : decode cX10_orderOfNumbers 51 = .ok (.invokevirtual 87, 3) := by decide +kernel
theorem dX10_orderOfNumbers_54 : decode cX10_orderOfNumbers 54 = .ok (.iadd, 1) := by decide +kernel
theorem dX10_orderOfNumbers_55 : decode cX10_orderOfNumbers 55 = .ok (.invokestatic 142, 3) := by decide +kernel
theorem dX10_orderOfNumbers_58 : decode cX10_orderOfNumbers 58 = .ok (.istore 5, 2) := by decide +kernel
theorem dX10_orderOfNumbers_60 : decode cX10_orderOfNumbers 60 = .ok (.iconst 0, 1) := by decide +kernel
theorem dX10_orderOfNumbers_61 : decode cX10_orderOfNumbers 61 = .ok (.istore 6, 2) := by decide +kernel
theorem dX10_orderOfNumbers_63 : decode cX10_orderOfNumbers 63 = .ok (.iload 6, 2) := by decide +kernel
theorem dX10_orderOfNumbers_65 : decode cX10_orderOfNumbers 65 = .ok (.bipush 24, 2) := by decide +kernel
theorem dX10_orderOfNumbers_67 : decode cX10_orderOfNumbers 67 = .ok (.if_icmp .ge 33, 3) := by decide +kernel
theorem dX10_orderOfNumbers_70 : decode cX10_orderOfNumbers 70 = .ok (.iload 5, 2) := by decide +kernel
theorem dX10_orderOfNumbers_72 : decode cX10_orderOfNumbers 72 = .ok (.ifCond .ne 28, 3) := by decide +kernel
theorem dX10_orderOfNumbers_75 : decode cX10_orderOfNumbers 75 = .ok (.aload_n 0, 1) := by decide +kernel
theorem dX10_orderOfNumbers_76 : decode cX10_orderOfNumbers 76 = .ok (.iload_n 1, 1) := by decide +kernel
theorem dX10_orderOfNumbers_77 : decode cX10_orderOfNumbers 77 = .ok (.iload 6, 2) := by decide +kernel
theorem dX10_orderOfNumbers_79 : decode cX10_orderOfNumbers 79 = .ok (.invokevirtual 108, 3) := by decide +kernel
theorem dX10_orderOfNumbers_82 : decode cX10_orderOfNumbers 82 = .ok (.aload_n 2, 1) := by decide +kernel
theorem dX10_orderOfNumbers_83 : decode cX10_orderOfNumbers 83 = .ok (.iload_n 3, 1) := by decide +kernel
theorem dX10_orderOfNumbers_84 : decode cX10_orderOfNumbers 84 = .ok (.iload 6, 2) := by decide +kernel
theorem dX10_orderOfNumbers_86 : decode cX10_orderOfNumbers 86 = .ok (.invokevirtual 108, 3) := by decide +kernel
theorem dX10_orderOfNumbers_89 : decode cX10_orderOfNumbers 89 = .ok (.invokestatic 142, 3) := by decide +kernel
theorem dX10_orderOfNumbers_92 : decode cX10_orderOfNumbers 92 = .ok (.istore 5, 2) := by decide +kernel
theorem dX10_orderOfNumbers_94 : decode cX10_orderOfNumbers 94 = .ok (.iinc 6 1, 3) := by decide +kernel
theorem dX10_orderOfNumbers_97 : decode cX10_orderOfNumbers 97 = .ok (.goto (-34), 3) := by decide +kernel
theorem dX10_orderOfNumbers_100 : decode cX10_orderOfNumbers 100 = .ok (.iload 4, 2) := by decide +kernel
theorem dX10_orderOfNumbers_102 : decode cX10_orderOfNumbers 102 = .ok (.iload 5, 2) := by decide +kernel
theorem dX10_orderOfNumbers_104 : decode cX10_orderOfNumbers 104 = .ok (.imul, 1) := by decide +kernel
theorem dX10_orderOfNumbers_105 : decode cX10_orderOfNumbers 105 = .ok (.ireturn, 1) := by decide +kernel
theorem dX10_signAt_0 : decode cX10_signAt 0 = .ok (.iload_n 1, 1) := by decide +kernel
theorem dX10_signAt_1 : decode cX10_signAt 1 = .ok (.ifCond .lt 31, 3) := by decide +kernel
theorem dX10_signAt_4 : decode cX10_signAt 4 = .ok (.iload_n 1, 1) := by decide +kernel
theorem dX10_signAt_5 : decode cX10_signAt 5 = .ok (.aload_n 0, 1) := by decide +kernel
theorem dX10_signAt_6 : decode cX10_signAt 6 = .ok (.getfield 34, 3) := by decide +kernel
theorem dX10_signAt_9 : decode cX10_signAt 9 = .ok (.if_icmp .ge 23, 3) := by decide +kernel
theorem dX10_signAt_12 : decode cX10_signAt 12 = .ok (.iload_n 1, 1) := by decide +kernel
theorem dX10_signAt_13 : decode cX10_signAt 13 = .ok (.bipush 100, 2) := by decide +kernel
theorem dX10_signAt_15 : decode cX10_signAt 15 = .ok (.if_icmp .ge 17, 3) := by decide +kernel
theorem dX10_signAt_18 : decode cX10_signAt 18 = .ok (.iload_n 2, 1) := by decide +kernel
theorem dX10_signAt_19 : decode cX10_signAt 19 = .ok (.ifCond .lt 13, 3) := by decide +kernel
theorem dX10_signAt_22 : decode cX10_signAt 22 = .ok (.iload_n 2, 1) := by decide +kernel
theorem dX10_signAt_23 : decode cX10_signAt 23 = .ok (.bipush 40, 2) := by decide +kernel
theorem dX10_signAt_25 : decode cX10_signAt 25 = .ok (.if_icmp .ge 7, 3) := by decide +kernel
theorem dX10_signAt_28 : decode cX10_signAt 28 = .ok (.iconst 1, 1) := by decide +kernel
theorem dX10_signAt_29 : decode cX10_signAt 29 = .ok (.goto 4, 3) := by decide +kernel
theorem dX10_signAt_32 : decode cX10_signAt 32 = .ok (.iconst 0, 1) := by decide +kernel
theorem dX10_signAt_33 : decode cX10_signAt 33 = .ok (.istore_n 3, 1) := by decide +kernel
theorem dX10_signAt_34 : decode cX10_signAt 34 = .ok (.iload_n 3, 1) := by decide +kernel
theorem dX10_signAt_35 : decode cX10_signAt 35 = .ok (.ifCond .eq 27, 3) := by decide +kernel
theorem dX10_signAt_38 : decode cX10_signAt 38 = .ok (.iload_n 2, 1) := by decide +kernel
theorem dX10_signAt_39 : decode cX10_signAt 39 = .ok (.aload_n 0, 1) := by decide +kernel
theorem dX10_signAt_40 : decode cX10_signAt 40 = .ok (.getfield 21, 3) := by decide +kernel
theorem dX10_signAt_43 : decode cX10_signAt 43 = .ok (.iload_n 1, 1) := by decide +kernel
theorem dX10_signAt_44 : decode cX10_signAt 44 = .ok (.iaload, 1) := by decide +kernel
theorem dX10_signAt_45 : decode cX10_signAt 45 = .ok (.if_icmp .ge 17, 3) := by decide +kernel
theorem dX10_signAt_48 : decode cX10_signAt 48 = .ok (.aload_n 0, 1) := by decide +kernel
theorem dX10_signAt_49 : decode cX10_signAt 49 = .ok (.getfield 24, 3) := by decide +kernel
theorem dX10_signAt_52 : decode cX10_signAt 52 = .ok (.iload_n 1, 1) := by decide +kernel
theorem dX10_signAt_53 : decode cX10_signAt 53 = .ok (.bipush 40, 2) := by decide +kernel
theorem dX10_signAt_55 : decode cX10_signAt 55 = .ok (.imul, 1) := by decide +kernel
theorem dX10_signAt_56 : decode cX10_signAt 56 = .ok (.iload_n 2, 1) := by decide +kernel
theorem dX10_signAt_57 : decode cX10_signAt 57 = .ok (.iadd, 1) := by decide +kernel
theorem dX10_signAt_58 : decode cX10_signAt 58 = .ok (.caload, 1) := by decide +kernel
theorem dX10_signAt_59 : decode cX10_signAt 59 = .ok (.goto 4, 3) := by decide +kernel
theorem dX10_signAt_62 : decode cX10_signAt 62 = .ok (.iconst (-1), 1) := by decide +kernel
theorem dX10_signAt_63 : decode cX10_signAt 63 = .ok (.ireturn, 1) := by decide +kernel
theorem dX10_lengthOf_0 : decode cX10_lengthOf 0 = .ok (.iload_n 1, 1) := by decide +kernel
theorem dX10_lengthOf_1 : decode cX10_lengthOf 1 = .ok (.ifCond .lt 26, 3) := by decide +kernel
theorem dX10_lengthOf_4 : decode cX10_lengthOf 4 = .ok (.iload_n 1, 1) := by decide +kernel
theorem dX10_lengthOf_5 : decode cX10_lengthOf 5 = .ok (.aload_n 0, 1) := by decide +kernel
theorem dX10_lengthOf_6 : decode cX10_lengthOf 6 = .ok (.getfield 34, 3) := by decide +kernel
theorem dX10_lengthOf_9 : decode cX10_lengthOf 9 = .ok (.if_icmp .ge 18, 3) := by decide +kernel
theorem dX10_lengthOf_12 : decode cX10_lengthOf 12 = .ok (.iload_n 1, 1) := by decide +kernel
theorem dX10_lengthOf_13 : decode cX10_lengthOf 13 = .ok (.bipush 100, 2) := by decide +kernel
theorem dX10_lengthOf_15 : decode cX10_lengthOf 15 = .ok (.if_icmp .ge 12, 3) := by decide +kernel
theorem dX10_lengthOf_18 : decode cX10_lengthOf 18 = .ok (.aload_n 0, 1) := by decide +kernel
theorem dX10_lengthOf_19 : decode cX10_lengthOf 19 = .ok (.getfield 21, 3) := by decide +kernel
theorem dX10_lengthOf_22 : decode cX10_lengthOf 22 = .ok (.iload_n 1, 1) := by decide +kernel
theorem dX10_lengthOf_23 : decode cX10_lengthOf 23 = .ok (.iaload, 1) := by decide +kernel
theorem dX10_lengthOf_24 : decode cX10_lengthOf 24 = .ok (.goto 4, 3) := by decide +kernel
theorem dX10_lengthOf_27 : decode cX10_lengthOf 27 = .ok (.iconst 0, 1) := by decide +kernel
theorem dX10_lengthOf_28 : decode cX10_lengthOf 28 = .ok (.ireturn, 1) := by decide +kernel
theorem dX10_addSign_0 : decode cX10_addSign 0 = .ok (.iload_n 1, 1) := by decide +kernel
theorem dX10_addSign_1 : decode cX10_addSign 1 = .ok (.ifCond .lt 30, 3) := by decide +kernel
theorem dX10_addSign_4 : decode cX10_addSign 4 = .ok (.iload_n 1, 1) := by decide +kernel
theorem dX10_addSign_5 : decode cX10_addSign 5 = .ok (.aload_n 0, 1) := by decide +kernel
theorem dX10_addSign_6 : decode cX10_addSign 6 = .ok (.getfield 34, 3) := by decide +kernel
theorem dX10_addSign_9 : decode cX10_addSign 9 = .ok (.if_icmp .ge 22, 3) := by decide +kernel
theorem dX10_addSign_12 : decode cX10_addSign 12 = .ok (.iload_n 1, 1) := by decide +kernel
theorem dX10_addSign_13 : decode cX10_addSign 13 = .ok (.bipush 100, 2) := by decide +kernel
theorem dX10_addSign_15 : decode cX10_addSign 15 = .ok (.if_icmp .ge 16, 3) := by decide +kernel
theorem dX10_addSign_18 : decode cX10_addSign 18 = .ok (.aload_n 0, 1) := by decide +kernel
theorem dX10_addSign_19 : decode cX10_addSign 19 = .ok (.getfield 21, 3) := by decide +kernel
theorem dX10_addSign_22 : decode cX10_addSign 22 = .ok (.iload_n 1, 1) := by decide +kernel
theorem dX10_addSign_23 : decode cX10_addSign 23 = .ok (.iaload, 1) := by decide +kernel
theorem dX10_addSign_24 : decode cX10_addSign 24 = .ok (.ifCond .lt 7, 3) := by decide +kernel
theorem dX10_addSign_27 : decode cX10_addSign 27 = .ok (.iconst 1, 1) := by decide +kernel
theorem dX10_addSign_28 : decode cX10_addSign 28 = .ok (.goto 4, 3) := by decide +kernel
theorem dX10_addSign_31 : decode cX10_addSign 31 = .ok (.iconst 0, 1) := by decide +kernel
theorem dX10_addSign_32 : decode cX10_addSign 32 = .ok (.istore_n 3, 1) := by decide +kernel
theorem dX10_addSign_33 : decode cX10_addSign 33 = .ok (.iload_n 3, 1) := by decide +kernel
theorem dX10_addSign_34 : decode cX10_addSign 34 = .ok (.ifCond .eq 45, 3) := by decide +kernel
theorem dX10_addSign_37 : decode cX10_addSign 37 = .ok (.aload_n 0, 1) := by decide +kernel
theorem dX10_addSign_38 : decode cX10_addSign 38 = .ok (.getfield 21, 3) := by decide +kernel
theorem dX10_addSign_41 : decode cX10_addSign 41 = .ok (.iload_n 1, 1) := by decide +kernel
theorem dX10_addSign_42 : decode cX10_addSign 42 = .ok (.iaload, 1) := by decide +kernel
theorem dX10_addSign_43 : decode cX10_addSign 43 = .ok (.bipush 40, 2) := by decide +kernel
theorem dX10_addSign_45 : decode cX10_addSign 45 = .ok (.if_icmp .ge 34, 3) := by decide +kernel
theorem dX10_addSign_48 : decode cX10_addSign 48 = .ok (.aload_n 0, 1) := by decide +kernel
theorem dX10_addSign_49 : decode cX10_addSign 49 = .ok (.getfield 24, 3) := by decide +kernel
theorem dX10_addSign_52 : decode cX10_addSign 52 = .ok (.iload_n 1, 1) := by decide +kernel
theorem dX10_addSign_53 : decode cX10_addSign 53 = .ok (.bipush 40, 2) := by decide +kernel
theorem dX10_addSign_55 : decode cX10_addSign 55 = .ok (.imul, 1) := by decide +kernel
theorem dX10_addSign_56 : decode cX10_addSign 56 = .ok (.aload_n 0, 1) := by decide +kernel
theorem dX10_addSign_57 : decode cX10_addSign 57 = .ok (.getfield 21, 3) := by decide +kernel
theorem dX10_addSign_60 : decode cX10_addSign 60 = .ok (.iload_n 1, 1) := by decide +kernel
theorem dX10_addSign_61 : decode cX10_addSign 61 = .ok (.iaload, 1) := by decide +kernel
theorem dX10_addSign_62 : decode cX10_addSign 62 = .ok (.iadd, 1) := by decide +kernel
theorem dX10_addSign_63 : decode cX10_addSign 63 = .ok (.iload_n 2, 1) := by decide +kernel
theorem dX10_addSign_64 : decode cX10_addSign 64 = .ok (.i2c, 1) := by decide +kernel
theorem dX10_addSign_65 : decode cX10_addSign 65 = .ok (.castore, 1) := by decide +kernel
theorem dX10_addSign_66 : decode cX10_addSign 66 = .ok (.aload_n 0, 1) := by decide +kernel
theorem dX10_addSign_67 : decode cX10_addSign 67 = .ok (.getfield 21, 3) := by decide +kernel
theorem dX10_addSign_70 : decode cX10_addSign 70 = .ok (.iload_n 1, 1) := by decide +kernel
theorem dX10_addSign_71 : decode cX10_addSign 71 = .ok (.dup2, 1) := by decide +kernel
theorem dX10_addSign_72 : decode cX10_addSign 72 = .ok (.iaload, 1) := by decide +kernel
theorem dX10_addSign_73 : decode cX10_addSign 73 = .ok (.iconst 1, 1) := by decide +kernel
theorem dX10_addSign_74 : decode cX10_addSign 74 = .ok (.iadd, 1) := by decide +kernel
theorem dX10_addSign_75 : decode cX10_addSign 75 = .ok (.iastore, 1) := by decide +kernel
theorem dX10_addSign_76 : decode cX10_addSign 76 = .ok (.goto 8, 3) := by decide +kernel
theorem dX10_addSign_79 : decode cX10_addSign 79 = .ok (.aload_n 0, 1) := by decide +kernel
theorem dX10_addSign_80 : decode cX10_addSign 80 = .ok (.iconst 1, 1) := by decide +kernel
theorem dX10_addSign_81 : decode cX10_addSign 81 = .ok (.putfield 38, 3) := by decide +kernel
theorem dX10_addSign_84 : decode cX10_addSign 84 = .ok (.return_, 1) := by decide +kernel
theorem dX10_signsTo_0 : decode cX10_signsTo 0 = .ok (.iconst 0, 1) := by decide +kernel
theorem dX10_signsTo_1 : decode cX10_signsTo 1 = .ok (.istore_n 3, 1) := by decide +kernel
theorem dX10_signsTo_2 : decode cX10_signsTo 2 = .ok (.iload_n 3, 1) := by decide +kernel
theorem dX10_signsTo_3 : decode cX10_signsTo 3 = .ok (.aload_n 0, 1) := by decide +kernel
theorem dX10_signsTo_4 : decode cX10_signsTo 4 = .ok (.iload_n 1, 1) := by decide +kernel
theorem dX10_signsTo_5 : decode cX10_signsTo 5 = .ok (.invokevirtual 139, 3) := by decide +kernel
theorem dX10_signsTo_8 : decode cX10_signsTo 8 = .ok (.if_icmp .ge 19, 3) := by decide +kernel
theorem dX10_signsTo_11 : decode cX10_signsTo 11 = .ok (.aload_n 2, 1) := by decide +kernel
theorem dX10_signsTo_12 : decode cX10_signsTo 12 = .ok (.aload_n 0, 1) := by decide +kernel
theorem dX10_signsTo_13 : decode cX10_signsTo 13 = .ok (.iload_n 1, 1) := by decide +kernel
theorem dX10_signsTo_14 : decode cX10_signsTo 14 = .ok (.iload_n 3, 1) := by decide +kernel
theorem dX10_signsTo_15 : decode cX10_signsTo 15 = .ok (.invokevirtual 136, 3) := by decide +kernel
theorem dX10_signsTo_18 : decode cX10_signsTo 18 = .ok (.invokevirtual 145, 3) := by decide +kernel
theorem dX10_signsTo_21 : decode cX10_signsTo 21 = .ok (.iinc 3 1, 3) := by decide +kernel
theorem dX10_signsTo_24 : decode cX10_signsTo 24 = .ok (.goto (-22), 3) := by decide +kernel
theorem dX10_signsTo_27 : decode cX10_signsTo 27 = .ok (.return_, 1) := by decide +kernel
theorem dX10_says_0 : decode cX10_says 0 = .ok (.aload_n 0, 1) := by decide +kernel
theorem dX10_says_1 : decode cX10_says 1 = .ok (.iload_n 1, 1) := by decide +kernel
theorem dX10_says_2 : decode cX10_says 2 = .ok (.iconst 3, 1) := by decide +kernel
theorem dX10_says_3 : decode cX10_says 3 = .ok (.invokevirtual 42, 3) := by decide +kernel
theorem dX10_says_6 : decode cX10_says 6 = .ok (.ifCond .eq 19, 3) := by decide +kernel
theorem dX10_says_9 : decode cX10_says 9 = .ok (.aload_n 0, 1) := by decide +kernel
theorem dX10_says_10 : decode cX10_says 10 = .ok (.iload_n 1, 1) := by decide +kernel
theorem dX10_says_11 : decode cX10_says 11 = .ok (.invokevirtual 139, 3) := by decide +kernel
theorem dX10_says_14 : decode cX10_says 14 = .ok (.aload_n 2, 1) := by decide +kernel
theorem dX10_says_15 : decode cX10_says 15 = .ok (.invokevirtual 149, 3) := by decide +kernel
theorem dX10_says_18 : decode cX10_says 18 = .ok (.if_icmp .ne 7, 3) := by decide +kernel
theorem dX10_says_21 : decode cX10_says 21 = .ok (.iconst 1, 1) := by decide +kernel
theorem dX10_says_22 : decode cX10_says 22 = .ok (.goto 4, 3) := by decide +kernel
theorem dX10_says_25 : decode cX10_says 25 = .ok (.iconst 0, 1) := by decide +kernel
theorem dX10_says_26 : decode cX10_says 26 = .ok (.istore_n 3, 1) := by decide +kernel
theorem dX10_says_27 : decode cX10_says 27 = .ok (.iconst 0, 1) := by decide +kernel
theorem dX10_says_28 : decode cX10_says 28 = .ok (.istore 4, 2) := by decide +kernel
theorem dX10_says_30 : decode cX10_says 30 = .ok (.iload 4, 2) := by decide +kernel
theorem dX10_says_32 : decode cX10_says 32 = .ok (.aload_n 2, 1) := by decide +kernel
theorem dX10_says_33 : decode cX10_says 33 = .ok (.invokevirtual 149, 3) := by decide +kernel
theorem dX10_says_36 : decode cX10_says 36 = .ok (.if_icmp .ge 35, 3) := by decide +kernel
theorem dX10_says_39 : decode cX10_says 39 = .ok (.iload_n 3, 1) := by decide +kernel
theorem dX10_says_40 : decode cX10_says 40 = .ok (.ifCond .eq 31, 3) := by decide +kernel
theorem dX10_says_43 : decode cX10_says 43 = .ok (.aload_n 0, 1) := by decide +kernel
theorem dX10_says_44 : decode cX10_says 44 = .ok (.iload_n 1, 1) := by decide +kernel
theorem dX10_says_45 : decode cX10_says 45 = .ok (.iload 4, 2) := by decide +kernel
theorem dX10_says_47 : decode cX10_says 47 = .ok (.invokevirtual 136, 3) := by decide +kernel
theorem dX10_says_50 : decode cX10_says 50 = .ok (.aload_n 2, 1) := by decide +kernel
theorem dX10_says_51 : decode cX10_says 51 = .ok (.iload 4, 2) := by decide +kernel
theorem dX10_says_53 : decode cX10_says 53 = .ok (.invokevirtual 152, 3) := by decide +kernel
theorem dX10_says_56 : decode cX10_says 56 = .ok (.if_icmp .ne 7, 3) := by decide +kernel
theorem dX10_says_59 : decode cX10_says 59 = .ok (.iconst 1, 1) := by decide +kernel
theorem dX10_says_60 : decode cX10_says 60 = .ok (.goto 4, 3) := by decide +kernel
theorem dX10_says_63 : decode cX10_says 63 = .ok (.iconst 0, 1) := by decide +kernel
theorem dX10_says_64 : decode cX10_says 64 = .ok (.istore_n 3, 1) := by decide +kernel
theorem dX10_says_65 : decode cX10_says 65 = .ok (.iinc 4 1, 3) := by decide +kernel
theorem dX10_says_68 : decode cX10_says 68 = .ok (.goto (-38), 3) := by decide +kernel
theorem dX10_says_71 : decode cX10_says 71 = .ok (.iload_n 3, 1) := by decide +kernel
theorem dX10_says_72 : decode cX10_says 72 = .ok (.ireturn, 1) := by decide +kernel
theorem dX10_keyLength_0 : decode cX10_keyLength 0 = .ok (.iload_n 1, 1) := by decide +kernel
theorem dX10_keyLength_1 : decode cX10_keyLength 1 = .ok (.ifCond .lt 26, 3) := by decide +kernel
theorem dX10_keyLength_4 : decode cX10_keyLength 4 = .ok (.iload_n 1, 1) := by decide +kernel
theorem dX10_keyLength_5 : decode cX10_keyLength 5 = .ok (.aload_n 0, 1) := by decide +kernel
theorem dX10_keyLength_6 : decode cX10_keyLength 6 = .ok (.getfield 34, 3) := by decide +kernel
theorem dX10_keyLength_9 : decode cX10_keyLength 9 = .ok (.if_icmp .ge 18, 3) := by decide +kernel
theorem dX10_keyLength_12 : decode cX10_keyLength 12 = .ok (.iload_n 1, 1) := by decide +kernel
theorem dX10_keyLength_13 : decode cX10_keyLength 13 = .ok (.bipush 100, 2) := by decide +kernel
theorem dX10_keyLength_15 : decode cX10_keyLength 15 = .ok (.if_icmp .ge 12, 3) := by decide +kernel
theorem dX10_keyLength_18 : decode cX10_keyLength 18 = .ok (.aload_n 0, 1) := by decide +kernel
theorem dX10_keyLength_19 : decode cX10_keyLength 19 = .ok (.getfield 28, 3) := by decide +kernel
theorem dX10_keyLength_22 : decode cX10_keyLength 22 = .ok (.iload_n 1, 1) := by decide +kernel
theorem dX10_keyLength_23 : decode cX10_keyLength 23 = .ok (.iaload, 1) := by decide +kernel
theorem dX10_keyLength_24 : decode cX10_keyLength 24 = .ok (.goto 4, 3) := by decide +kernel
theorem dX10_keyLength_27 : decode cX10_keyLength 27 = .ok (.iconst 0, 1) := by decide +kernel
theorem dX10_keyLength_28 : decode cX10_keyLength 28 = .ok (.ireturn, 1) := by decide +kernel
theorem dX10_keySign_0 : decode cX10_keySign 0 = .ok (.iload_n 1, 1) := by decide +kernel
theorem dX10_keySign_1 : decode cX10_keySign 1 = .ok (.ifCond .lt 31, 3) := by decide +kernel
theorem dX10_keySign_4 : decode cX10_keySign 4 = .ok (.iload_n 1, 1) := by decide +kernel
theorem dX10_keySign_5 : decode cX10_keySign 5 = .ok (.aload_n 0, 1) := by decide +kernel
theorem dX10_keySign_6 : decode cX10_keySign 6 = .ok (.getfield 34, 3) := by decide +kernel
theorem dX10_keySign_9 : decode cX10_keySign 9 = .ok (.if_icmp .ge 23, 3) := by decide +kernel
theorem dX10_keySign_12 : decode cX10_keySign 12 = .ok (.iload_n 1, 1) := by decide +kernel
theorem dX10_keySign_13 : decode cX10_keySign 13 = .ok (.bipush 100, 2) := by decide +kernel
theorem dX10_keySign_15 : decode cX10_keySign 15 = .ok (.if_icmp .ge 17, 3) := by decide +kernel
theorem dX10_keySign_18 : decode cX10_keySign 18 = .ok (.iload_n 2, 1) := by decide +kernel
theorem dX10_keySign_19 : decode cX10_keySign 19 = .ok (.ifCond .lt 13, 3) := by decide +kernel
theorem dX10_keySign_22 : decode cX10_keySign 22 = .ok (.iload_n 2, 1) := by decide +kernel
theorem dX10_keySign_23 : decode cX10_keySign 23 = .ok (.bipush 12, 2) := by decide +kernel
theorem dX10_keySign_25 : decode cX10_keySign 25 = .ok (.if_icmp .ge 7, 3) := by decide +kernel
theorem dX10_keySign_28 : decode cX10_keySign 28 = .ok (.iconst 1, 1) := by decide +kernel
theorem dX10_keySign_29 : decode cX10_keySign 29 = .ok (.goto 4, 3) := by decide +kernel
theorem dX10_keySign_32 : decode cX10_keySign 32 = .ok (.iconst 0, 1) := by decide +kernel
theorem dX10_keySign_33 : decode cX10_keySign 33 = .ok (.istore_n 3, 1) := by decide +kernel
theorem dX10_keySign_34 : decode cX10_keySign 34 = .ok (.iload_n 3, 1) := by decide +kernel
theorem dX10_keySign_35 : decode cX10_keySign 35 = .ok (.ifCond .eq 27, 3) := by decide +kernel
theorem dX10_keySign_38 : decode cX10_keySign 38 = .ok (.iload_n 2, 1) := by decide +kernel
theorem dX10_keySign_39 : decode cX10_keySign 39 = .ok (.aload_n 0, 1) := by decide +kernel
theorem dX10_keySign_40 : decode cX10_keySign 40 = .ok (.getfield 28, 3) := by decide +kernel
theorem dX10_keySign_43 : decode cX10_keySign 43 = .ok (.iload_n 1, 1) := by decide +kernel
theorem dX10_keySign_44 : decode cX10_keySign 44 = .ok (.iaload, 1) := by decide +kernel
theorem dX10_keySign_45 : decode cX10_keySign 45 = .ok (.if_icmp .ge 17, 3) := by decide +kernel
theorem dX10_keySign_48 : decode cX10_keySign 48 = .ok (.aload_n 0, 1) := by decide +kernel
theorem dX10_keySign_49 : decode cX10_keySign 49 = .ok (.getfield 31, 3) := by decide +kernel
theorem dX10_keySign_52 : decode cX10_keySign 52 = .ok (.iload_n 1, 1) := by decide +kernel
theorem dX10_keySign_53 : decode cX10_keySign 53 = .ok (.bipush 12, 2) := by decide +kernel
theorem dX10_keySign_55 : decode cX10_keySign 55 = .ok (.imul, 1) := by decide +kernel
theorem dX10_keySign_56 : decode cX10_keySign 56 = .ok (.iload_n 2, 1) := by decide +kernel
theorem dX10_keySign_57 : decode cX10_keySign 57 = .ok (.iadd, 1) := by decide +kernel
theorem dX10_keySign_58 : decode cX10_keySign 58 = .ok (.caload, 1) := by decide +kernel
theorem dX10_keySign_59 : decode cX10_keySign 59 = .ok (.goto 4, 3) := by decide +kernel
theorem dX10_keySign_62 : decode cX10_keySign 62 = .ok (.iconst (-1), 1) := by decide +kernel
theorem dX10_keySign_63 : decode cX10_keySign 63 = .ok (.ireturn, 1) := by decide +kernel
theorem dX10_addKeySign_0 : decode cX10_addKeySign 0 = .ok (.iload_n 1, 1) := by decide +kernel
theorem dX10_addKeySign_1 : decode cX10_addKeySign 1 = .ok (.ifCond .lt 30, 3) := by decide +kernel
theorem dX10_addKeySign_4 : decode cX10_addKeySign 4 = .ok (.iload_n 1, 1) := by decide +kernel
theorem dX10_addKeySign_5 : decode cX10_addKeySign 5 = .ok (.aload_n 0, 1) := by decide +kernel
theorem dX10_addKeySign_6 : decode cX10_addKeySign 6 = .ok (.getfield 34, 3) := by decide +kernel
theorem dX10_addKeySign_9 : decode cX10_addKeySign 9 = .ok (.if_icmp .ge 22, 3) := by decide +kernel
theorem dX10_addKeySign_12 : decode cX10_addKeySign 12 = .ok (.iload_n 1, 1) := by decide +kernel
theorem dX10_addKeySign_13 : decode cX10_addKeySign 13 = .ok (.bipush 100, 2) := by decide +kernel
theorem dX10_addKeySign_15 : decode cX10_addKeySign 15 = .ok (.if_icmp .ge 16, 3) := by decide +kernel
theorem dX10_addKeySign_18 : decode cX10_addKeySign 18 = .ok (.aload_n 0, 1) := by decide +kernel
theorem dX10_addKeySign_19 : decode cX10_addKeySign 19 = .ok (.getfield 28, 3) := by decide +kernel
theorem dX10_addKeySign_22 : decode cX10_addKeySign 22 = .ok (.iload_n 1, 1) := by decide +kernel
theorem dX10_addKeySign_23 : decode cX10_addKeySign 23 = .ok (.iaload, 1) := by decide +kernel
theorem dX10_addKeySign_24 : decode cX10_addKeySign 24 = .ok (.ifCond .lt 7, 3) := by decide +kernel
theorem dX10_addKeySign_27 : decode cX10_addKeySign 27 = .ok (.iconst 1, 1) := by decide +kernel
theorem dX10_addKeySign_28 : decode cX10_addKeySign 28 = .ok (.goto 4, 3) := by decide +kernel
theorem dX10_addKeySign_31 : decode cX10_addKeySign 31 = .ok (.iconst 0, 1) := by decide +kernel
theorem dX10_addKeySign_32 : decode cX10_addKeySign 32 = .ok (.istore_n 3, 1) := by decide +kernel
theorem dX10_addKeySign_33 : decode cX10_addKeySign 33 = .ok (.iload_n 3, 1) := by decide +kernel
theorem dX10_addKeySign_34 : decode cX10_addKeySign 34 = .ok (.ifCond .eq 45, 3) := by decide +kernel
theorem dX10_addKeySign_37 : decode cX10_addKeySign 37 = .ok (.aload_n 0, 1) := by decide +kernel
theorem dX10_addKeySign_38 : decode cX10_addKeySign 38 = .ok (.getfield 28, 3) := by decide +kernel
theorem dX10_addKeySign_41 : decode cX10_addKeySign 41 = .ok (.iload_n 1, 1) := by decide +kernel
theorem dX10_addKeySign_42 : decode cX10_addKeySign 42 = .ok (.iaload, 1) := by decide +kernel
theorem dX10_addKeySign_43 : decode cX10_addKeySign 43 = .ok (.bipush 12, 2) := by decide +kernel
theorem dX10_addKeySign_45 : decode cX10_addKeySign 45 = .ok (.if_icmp .ge 34, 3) := by decide +kernel
theorem dX10_addKeySign_48 : decode cX10_addKeySign 48 = .ok (.aload_n 0, 1) := by decide +kernel
theorem dX10_addKeySign_49 : decode cX10_addKeySign 49 = .ok (.getfield 31, 3) := by decide +kernel
theorem dX10_addKeySign_52 : decode cX10_addKeySign 52 = .ok (.iload_n 1, 1) := by decide +kernel
theorem dX10_addKeySign_53 : decode cX10_addKeySign 53 = .ok (.bipush 12, 2) := by decide +kernel
theorem dX10_addKeySign_55 : decode cX10_addKeySign 55 = .ok (.imul, 1) := by decide +kernel
theorem dX10_addKeySign_56 : decode cX10_addKeySign 56 = .ok (.aload_n 0, 1) := by decide +kernel
theorem dX10_addKeySign_57 : decode cX10_addKeySign 57 = .ok (.getfield 28, 3) := by decide +kernel
theorem dX10_addKeySign_60 : decode cX10_addKeySign 60 = .ok (.iload_n 1, 1) := by decide +kernel
theorem dX10_addKeySign_61 : decode cX10_addKeySign 61 = .ok (.iaload, 1) := by decide +kernel
theorem dX10_addKeySign_62 : decode cX10_addKeySign 62 = .ok (.iadd, 1) := by decide +kernel
theorem dX10_addKeySign_63 : decode cX10_addKeySign 63 = .ok (.iload_n 2, 1) := by decide +kernel
theorem dX10_addKeySign_64 : decode cX10_addKeySign 64 = .ok (.i2c, 1) := by decide +kernel
theorem dX10_addKeySign_65 : decode cX10_addKeySign 65 = .ok (.castore, 1) := by decide +kernel
theorem dX10_addKeySign_66 : decode cX10_addKeySign 66 = .ok (.aload_n 0, 1) := by decide +kernel
theorem dX10_addKeySign_67 : decode cX10_addKeySign 67 = .ok (.getfield 28, 3) := by decide +kernel
theorem dX10_addKeySign_70 : decode cX10_addKeySign 70 = .ok (.iload_n 1, 1) := by decide +kernel
theorem dX10_addKeySign_71 : decode cX10_addKeySign 71 = .ok (.dup2, 1) := by decide +kernel
theorem dX10_addKeySign_72 : decode cX10_addKeySign 72 = .ok (.iaload, 1) := by decide +kernel
theorem dX10_addKeySign_73 : decode cX10_addKeySign 73 = .ok (.iconst 1, 1) := by decide +kernel
theorem dX10_addKeySign_74 : decode cX10_addKeySign 74 = .ok (.iadd, 1) := by decide +kernel
theorem dX10_addKeySign_75 : decode cX10_addKeySign 75 = .ok (.iastore, 1) := by decide +kernel
theorem dX10_addKeySign_76 : decode cX10_addKeySign 76 = .ok (.goto 8, 3) := by decide +kernel
theorem dX10_addKeySign_79 : decode cX10_addKeySign 79 = .ok (.aload_n 0, 1) := by decide +kernel
theorem dX10_addKeySign_80 : decode cX10_addKeySign 80 = .ok (.iconst 1, 1) := by decide +kernel
theorem dX10_addKeySign_81 : decode cX10_addKeySign 81 = .ok (.putfield 38, 3) := by decide +kernel
theorem dX10_addKeySign_84 : decode cX10_addKeySign 84 = .ok (.return_, 1) := by decide +kernel
theorem dX10_clearKey_0 : decode cX10_clearKey 0 = .ok (.iload_n 1, 1) := by decide +kernel
theorem dX10_clearKey_1 : decode cX10_clearKey 1 = .ok (.ifCond .lt 24, 3) := by decide +kernel
theorem dX10_clearKey_4 : decode cX10_clearKey 4 = .ok (.iload_n 1, 1) := by decide +kernel
theorem dX10_clearKey_5 : decode cX10_clearKey 5 = .ok (.aload_n 0, 1) := by decide +kernel
theorem dX10_clearKey_6 : decode cX10_clearKey 6 = .ok (.getfield 34, 3) := by decide +kernel
theorem dX10_clearKey_9 : decode cX10_clearKey 9 = .ok (.if_icmp .ge 16, 3) := by decide +kernel
theorem dX10_clearKey_12 : decode cX10_clearKey 12 = .ok (.iload_n 1, 1) := by decide +kernel
theorem dX10_clearKey_13 : decode cX10_clearKey 13 = .ok (.bipush 100, 2) := by decide +kernel
theorem dX10_clearKey_15 : decode cX10_clearKey 15 = .ok (.if_icmp .ge 10, 3) := by decide +kernel
theorem dX10_clearKey_18 : decode cX10_clearKey 18 = .ok (.aload_n 0, 1) := by decide +kernel
theorem dX10_clearKey_19 : decode cX10_clearKey 19 = .ok (.getfield 28, 3) := by decide +kernel
theorem dX10_clearKey_22 : decode cX10_clearKey 22 = .ok (.iload_n 1, 1) := by decide +kernel
theorem dX10_clearKey_23 : decode cX10_clearKey 23 = .ok (.iconst 0, 1) := by decide +kernel
theorem dX10_clearKey_24 : decode cX10_clearKey 24 = .ok (.iastore, 1) := by decide +kernel
theorem dX10_clearKey_25 : decode cX10_clearKey 25 = .ok (.return_, 1) := by decide +kernel
theorem dX10_setKey_0 : decode cX10_setKey 0 = .ok (.aload_n 0, 1) := by decide +kernel
theorem dX10_setKey_1 : decode cX10_setKey 1 = .ok (.iload_n 1, 1) := by decide +kernel
theorem dX10_setKey_2 : decode cX10_setKey 2 = .ok (.invokevirtual 156, 3) := by decide +kernel
theorem dX10_setKey_5 : decode cX10_setKey 5 = .ok (.iconst 0, 1) := by decide +kernel
theorem dX10_setKey_6 : decode cX10_setKey 6 = .ok (.istore_n 3, 1) := by decide +kernel
theorem dX10_setKey_7 : decode cX10_setKey 7 = .ok (.iload_n 3, 1) := by decide +kernel
theorem dX10_setKey_8 : decode cX10_setKey 8 = .ok (.aload_n 2, 1) := by decide +kernel
theorem dX10_setKey_9 : decode cX10_setKey 9 = .ok (.invokevirtual 124, 3) := by decide +kernel
theorem dX10_setKey_12 : decode cX10_setKey 12 = .ok (.if_icmp .ge 19, 3) := by decide +kernel
theorem dX10_setKey_15 : decode cX10_setKey 15 = .ok (.aload_n 0, 1) := by decide +kernel
theorem dX10_setKey_16 : decode cX10_setKey 16 = .ok (.iload_n 1, 1) := by decide +kernel
theorem dX10_setKey_17 : decode cX10_setKey 17 = .ok (.aload_n 2, 1) := by decide +kernel
theorem dX10_setKey_18 : decode cX10_setKey 18 = .ok (.iload_n 3, 1) := by decide +kernel
theorem dX10_setKey_19 : decode cX10_setKey 19 = .ok (.invokevirtual 129, 3) := by decide +kernel
theorem dX10_setKey_22 : decode cX10_setKey 22 = .ok (.invokevirtual 159, 3) := by decide +kernel
theorem dX10_setKey_25 : decode cX10_setKey 25 = .ok (.iinc 3 1, 3) := by decide +kernel
theorem dX10_setKey_28 : decode cX10_setKey 28 = .ok (.goto (-21), 3) := by decide +kernel
theorem dX10_setKey_31 : decode cX10_setKey 31 = .ok (.return_, 1) := by decide +kernel
theorem dX10_setKeyWord_0 : decode cX10_setKeyWord 0 = .ok (.aload_n 0, 1) := by decide +kernel
theorem dX10_setKeyWord_1 : decode cX10_setKeyWord 1 = .ok (.iload_n 1, 1) := by decide +kernel
theorem dX10_setKeyWord_2 : decode cX10_setKeyWord 2 = .ok (.invokevirtual 156, 3) := by decide +kernel
theorem dX10_setKeyWord_5 : decode cX10_setKeyWord 5 = .ok (.iconst 0, 1) := by decide +kernel
theorem dX10_setKeyWord_6 : decode cX10_setKeyWord 6 = .ok (.istore_n 3, 1) := by decide +kernel
theorem dX10_setKeyWord_7 : decode cX10_setKeyWord 7 = .ok (.iload_n 3, 1) := by decide +kernel
theorem dX10_setKeyWord_8 : decode cX10_setKeyWord 8 = .ok (.aload_n 2, 1) := by decide +kernel
theorem dX10_setKeyWord_9 : decode cX10_setKeyWord 9 = .ok (.invokevirtual 149, 3) := by decide +kernel
theorem dX10_setKeyWord_12 : decode cX10_setKeyWord 12 = .ok (.if_icmp .ge 19, 3) := by decide +kernel
theorem dX10_setKeyWord_15 : decode cX10_setKeyWord 15 = .ok (.aload_n 0, 1) := by decide +kernel
theorem dX10_setKeyWord_16 : decode cX10_setKeyWord 16 = .ok (.iload_n 1, 1) := by decide +kernel
theorem dX10_setKeyWord_17 : decode cX10_setKeyWord 17 = .ok (.aload_n 2, 1) := by decide +kernel
theorem dX10_setKeyWord_18 : decode cX10_setKeyWord 18 = .ok (.iload_n 3, 1) := by decide +kernel
theorem dX10_setKeyWord_19 : decode cX10_setKeyWord 19 = .ok (.invokevirtual 152, 3) := by decide +kernel
theorem dX10_setKeyWord_22 : decode cX10_setKeyWord 22 = .ok (.invokevirtual 159, 3) := by decide +kernel
theorem dX10_setKeyWord_25 : decode cX10_setKeyWord 25 = .ok (.iinc 3 1, 3) := by decide +kernel
theorem dX10_setKeyWord_28 : decode cX10_setKeyWord 28 = .ok (.goto (-21), 3) := by decide +kernel
theorem dX10_setKeyWord_31 : decode cX10_setKeyWord 31 = .ok (.return_, 1) := by decide +kernel
theorem dX10_setKeyLike_0 : decode cX10_setKeyLike 0 = .ok (.aload_n 0, 1) := by decide +kernel
theorem dX10_setKeyLike_1 : decode cX10_setKeyLike 1 = .ok (.iload_n 1, 1) := by decide +kernel
theorem dX10_setKeyLike_2 : decode cX10_setKeyLike 2 = .ok (.invokevirtual 156, 3) := by decide +kernel
theorem dX10_setKeyLike_5 : decode cX10_setKeyLike 5 = .ok (.iconst 0, 1) := by decide +kernel
theorem dX10_setKeyLike_6 : decode cX10_setKeyLike 6 = .ok (.istore 4, 2) := by decide +kernel
theorem dX10_setKeyLike_8 : decode cX10_setKeyLike 8 = .ok (.iload 4, 2) := by decide +kernel
theorem dX10_setKeyLike_10 : decode cX10_setKeyLike 10 = .ok (.aload_n 2, 1) := by decide +kernel
theorem dX10_setKeyLike_11 : decode cX10_setKeyLike 11 = .ok (.iload_n 3, 1) := by decide +kernel
theorem dX10_setKeyLike_12 : decode cX10_setKeyLike 12 = .ok (.invokevirtual 117, 3) := by decide +kernel
theorem dX10_setKeyLike_15 : decode cX10_setKeyLike 15 = .ok (.if_icmp .ge 21, 3) := by decide +kernel
theorem dX10_setKeyLike_18 : decode cX10_setKeyLike 18 = .ok (.aload_n 0, 1) := by decide +kernel
theorem dX10_setKeyLike_19 : decode cX10_setKeyLike 19 = .ok (.iload_n 1, 1) := by decide +kernel
theorem dX10_setKeyLike_20 : decode cX10_setKeyLike 20 = .ok (.aload_n 2, 1) := by decide +kernel
theorem dX10_setKeyLike_21 : decode cX10_setKeyLike 21 = .ok (.iload_n 3, 1) := by decide +kernel
theorem dX10_setKeyLike_22 : decode cX10_setKeyLike 22 = .ok (.iload 4, 2) := by decide +kernel
theorem dX10_setKeyLike_24 : decode cX10_setKeyLike 24 = .ok (.invokevirtual 162, 3) := by decide +kernel
theorem dX10_setKeyLike_27 : decode cX10_setKeyLike 27 = .ok (.invokevirtual 159, 3) := by decide +kernel
theorem dX10_setKeyLike_30 : decode cX10_setKeyLike 30 = .ok (.iinc 4 1, 3) := by decide +kernel
theorem dX10_setKeyLike_33 : decode cX10_setKeyLike 33 = .ok (.goto (-25), 3) := by decide +kernel
theorem dX10_setKeyLike_36 : decode cX10_setKeyLike 36 = .ok (.return_, 1) := by decide +kernel
theorem dX10_keyTo_0 : decode cX10_keyTo 0 = .ok (.iconst 0, 1) := by decide +kernel
theorem dX10_keyTo_1 : decode cX10_keyTo 1 = .ok (.istore_n 3, 1) := by decide +kernel
theorem dX10_keyTo_2 : decode cX10_keyTo 2 = .ok (.iload_n 3, 1) := by decide +kernel
theorem dX10_keyTo_3 : decode cX10_keyTo 3 = .ok (.aload_n 0, 1) := by decide +kernel
theorem dX10_keyTo_4 : decode cX10_keyTo 4 = .ok (.iload_n 1, 1) := by decide +kernel
theorem dX10_keyTo_5 : decode cX10_keyTo 5 = .ok (.invokevirtual 117, 3) := by decide +kernel
theorem dX10_keyTo_8 : decode cX10_keyTo 8 = .ok (.if_icmp .ge 19, 3) := by decide +kernel
theorem dX10_keyTo_11 : decode cX10_keyTo 11 = .ok (.aload_n 2, 1) := by decide +kernel
theorem dX10_keyTo_12 : decode cX10_keyTo 12 = .ok (.aload_n 0, 1) := by decide +kernel
theorem dX10_keyTo_13 : decode cX10_keyTo 13 = .ok (.iload_n 1, 1) := by decide +kernel
theorem dX10_keyTo_14 : decode cX10_keyTo 14 = .ok (.iload_n 3, 1) := by decide +kernel
theorem dX10_keyTo_15 : decode cX10_keyTo 15 = .ok (.invokevirtual 162, 3) := by decide +kernel
theorem dX10_keyTo_18 : decode cX10_keyTo 18 = .ok (.invokevirtual 145, 3) := by decide +kernel
theorem dX10_keyTo_21 : decode cX10_keyTo 21 = .ok (.iinc 3 1, 3) := by decide +kernel
theorem dX10_keyTo_24 : decode cX10_keyTo 24 = .ok (.goto (-22), 3) := by decide +kernel
theorem dX10_keyTo_27 : decode cX10_keyTo 27 = .ok (.return_, 1) := by decide +kernel
theorem dX10_orderOfKeys_0 : decode cX10_orderOfKeys 0 = .ok (.iload_n 1, 1) := by decide +kernel
theorem dX10_orderOfKeys_1 : decode cX10_orderOfKeys 1 = .ok (.ifCond .lt 19, 3) := by decide +kernel
theorem dX10_orderOfKeys_4 : decode cX10_orderOfKeys 4 = .ok (.iload_n 1, 1) := by decide +kernel
theorem dX10_orderOfKeys_5 : decode cX10_orderOfKeys 5 = .ok (.bipush 100, 2) := by decide +kernel
theorem dX10_orderOfKeys_7 : decode cX10_orderOfKeys 7 = .ok (.if_icmp .ge 13, 3) := by decide +kernel
theorem dX10_orderOfKeys_10 : decode cX10_orderOfKeys 10 = .ok (.iload_n 3, 1) := by decide +kernel
theorem dX10_orderOfKeys_11 : decode cX10_orderOfKeys 11 = .ok (.ifCond .lt 9, 3) := by decide +kernel
theorem dX10_orderOfKeys_14 : decode cX10_orderOfKeys 14 = .ok (.iload_n 3, 1) := by decide +kernel
theorem dX10_orderOfKeys_15 : decode cX10_orderOfKeys 15 = .ok (.bipush 100, 2) := by decide +kernel
theorem dX10_orderOfKeys_17 : decode cX10_orderOfKeys 17 = .ok (.if_icmp .lt 5, 3) := by decide +kernel
theorem dX10_orderOfKeys_20 : decode cX10_orderOfKeys 20 = .ok (.iconst (-1), 1) := by decide +kernel
theorem dX10_orderOfKeys_21 : decode cX10_orderOfKeys 21 = .ok (.ireturn, 1) := by decide +kernel
theorem dX10_orderOfKeys_22 : decode cX10_orderOfKeys 22 = .ok (.aload_n 0, 1) := by decide +kernel
theorem dX10_orderOfKeys_23 : decode cX10_orderOfKeys 23 = .ok (.getfield 28, 3) := by decide +kernel
theorem dX10_orderOfKeys_26 : decode cX10_orderOfKeys 26 = .ok (.iload_n 1, 1) := by decide +kernel
theorem dX10_orderOfKeys_27 : decode cX10_orderOfKeys 27 = .ok (.iaload, 1) := by decide +kernel
theorem dX10_orderOfKeys_28 : decode cX10_orderOfKeys 28 = .ok (.aload_n 2, 1) := by decide +kernel
theorem dX10_orderOfKeys_29 : decode cX10_orderOfKeys 29 = .ok (.getfield 28, 3) := by decide +kernel
theorem dX10_orderOfKeys_32 : decode cX10_orderOfKeys 32 = .ok (.iload_n 3, 1) := by decide +kernel
theorem dX10_orderOfKeys_33 : decode cX10_orderOfKeys 33 = .ok (.iaload, 1) := by decide +kernel
theorem dX10_orderOfKeys_34 : decode cX10_orderOfKeys 34 = .ok (.invokestatic 66, 3) := by decide +kernel
theorem dX10_orderOfKeys_37 : decode cX10_orderOfKeys 37 = .ok (.bipush 12, 2) := by decide +kernel
theorem dX10_orderOfKeys_39 : decode cX10_orderOfKeys 39 = .ok (.invokestatic 66, 3) := by decide +kernel
theorem dX10_orderOfKeys_42 : decode cX10_orderOfKeys 42 = .ok (.istore 4, 2) := by decide +kernel
theorem dX10_orderOfKeys_44 : decode cX10_orderOfKeys 44 = .ok (.iconst 0, 1) := by decide +kernel
theorem dX10_orderOfKeys_45 : decode cX10_orderOfKeys 45 = .ok (.istore 5, 2) := by decide +kernel
theorem dX10_orderOfKeys_47 : decode cX10_orderOfKeys 47 = .ok (.iload 5, 2) := by decide +kernel
theorem dX10_orderOfKeys_49 : decode cX10_orderOfKeys 49 = .ok (.iload 4, 2) := by decide +kernel
theorem dX10_orderOfKeys_51 : decode cX10_orderOfKeys 51 = .ok (.if_icmp .ge 52, 3) := by decide +kernel
theorem dX10_orderOfKeys_54 : decode cX10_orderOfKeys 54 = .ok (.aload_n 0, 1) := by decide +kernel
theorem dX10_orderOfKeys_55 : decode cX10_orderOfKeys 55 = .ok (.getfield 31, 3) := by decide +kernel
theorem dX10_orderOfKeys_58 : decode cX10_orderOfKeys 58 = .ok (.iload_n 1, 1) := by decide +kernel
theorem dX10_orderOfKeys_59 : decode cX10_orderOfKeys 59 = .ok (.bipush 12, 2) := by decide +kernel
theorem dX10_orderOfKeys_61 : decode cX10_orderOfKeys 61 = .ok (.imul, 1) := by decide +kernel
theorem dX10_orderOfKeys_62 : decode cX10_orderOfKeys 62 = .ok (.iload 5, 2) := by decide +kernel
theorem dX10_orderOfKeys_64 : decode cX10_orderOfKeys 64 = .ok (.iadd, 1) := by decide +kernel
theorem dX10_orderOfKeys_65 : decode cX10_orderOfKeys 65 = .ok (.caload, 1) := by decide +kernel
theorem dX10_orderOfKeys_66 : decode cX10_orderOfKeys 66 = .ok (.aload_n 2, 1) := by decide +kernel
theorem dX10_orderOfKeys_67 : decode cX10_orderOfKeys 67 = .ok (.getfield 31, 3) := by decide +kernel
theorem dX10_orderOfKeys_70 : decode cX10_orderOfKeys 70 = .ok (.iload_n 3, 1) := by decide +kernel
theorem dX10_orderOfKeys_71 : decode cX10_orderOfKeys 71 = .ok (.bipush 12, 2) := by decide +kernel
theorem dX10_orderOfKeys_73 : decode cX10_orderOfKeys 73 = .ok (.imul, 1) := by decide +kernel
theorem dX10_orderOfKeys_74 : decode cX10_orderOfKeys 74 = .ok (.iload 5, 2) := by decide +kernel
theorem dX10_orderOfKeys_76 : decode cX10_orderOfKeys 76 = .ok (.iadd, 1) := by decide +kernel
theorem dX10_orderOfKeys_77 : decode cX10_orderOfKeys 77 = .ok (.caload, 1) := by decide +kernel
theorem dX10_orderOfKeys_78 : decode cX10_orderOfKeys 78 = .ok (.isub, 1) := by decide +kernel
theorem dX10_orderOfKeys_79 : decode cX10_orderOfKeys 79 = .ok (.istore 6, 2) := by decide +kernel
theorem dX10_orderOfKeys_81 : decode cX10_orderOfKeys 81 = .ok (.iload 6, 2) := by decide +kernel
theorem dX10_orderOfKeys_83 : decode cX10_orderOfKeys 83 = .ok (.ifCond .eq 14, 3) := by decide +kernel
theorem dX10_orderOfKeys_86 : decode cX10_orderOfKeys 86 = .ok (.iload 6, 2) := by decide +kernel
theorem dX10_orderOfKeys_88 : decode cX10_orderOfKeys 88 = .ok (.ifCond .ge 7, 3) := by decide +kernel
theorem dX10_orderOfKeys_91 : decode cX10_orderOfKeys 91 = .ok (.iconst (-1), 1) := by decide +kernel
theorem dX10_orderOfKeys_92 : decode cX10_orderOfKeys 92 = .ok (.goto 4, 3) := by decide +kernel
theorem dX10_orderOfKeys_95 : decode cX10_orderOfKeys 95 = .ok (.iconst 1, 1) := by decide +kernel
theorem dX10_orderOfKeys_96 : decode cX10_orderOfKeys 96 = .ok (.ireturn, 1) := by decide +kernel
theorem dX10_orderOfKeys_97 : decode cX10_orderOfKeys 97 = .ok (.iinc 5 1, 3) := by decide +kernel
theorem dX10_orderOfKeys_100 : decode cX10_orderOfKeys 100 = .ok (.goto (-53), 3) := by decide +kernel
theorem dX10_orderOfKeys_103 : decode cX10_orderOfKeys 103 = .ok (.iconst (-1), 1) := by decide +kernel
theorem dX10_orderOfKeys_104 : decode cX10_orderOfKeys 104 = .ok (.iconst 1, 1) := by decide +kernel
theorem dX10_orderOfKeys_105 : decode cX10_orderOfKeys 105 = .ok (.aload_n 0, 1) := by decide +kernel
theorem dX10_orderOfKeys_106 : decode cX10_orderOfKeys 106 = .ok (.getfield 28, 3) := by decide +kernel
theorem dX10_orderOfKeys_109 : decode cX10_orderOfKeys 109 = .ok (.iload_n 1, 1) := by decide +kernel
theorem dX10_orderOfKeys_110 : decode cX10_orderOfKeys 110 = .ok (.iaload, 1) := by decide +kernel
theorem dX10_orderOfKeys_111 : decode cX10_orderOfKeys 111 = .ok (.aload_n 2, 1) := by decide +kernel
theorem dX10_orderOfKeys_112 : decode cX10_orderOfKeys 112 = .ok (.getfield 28, 3) := by decide +kernel
theorem dX10_orderOfKeys_115 : decode cX10_orderOfKeys 115 = .ok (.iload_n 3, 1) := by decide +kernel
theorem dX10_orderOfKeys_116 : decode cX10_orderOfKeys 116 = .ok (.iaload, 1) := by decide +kernel
theorem dX10_orderOfKeys_117 : decode cX10_orderOfKeys 117 = .ok (.isub, 1) := by decide +kernel
theorem dX10_orderOfKeys_118 : decode cX10_orderOfKeys 118 = .ok (.invokestatic 66, 3) := by decide +kernel
theorem dX10_orderOfKeys_121 : decode cX10_orderOfKeys 121 = .ok (.invokestatic 46, 3) := by decide +kernel
theorem dX10_orderOfKeys_124 : decode cX10_orderOfKeys 124 = .ok (.ireturn, 1) := by decide +kernel
theorem dX10_valueLike_0 : decode cX10_valueLike 0 = .ok (.aload_n 0, 1) := by decide +kernel
theorem dX10_valueLike_1 : decode cX10_valueLike 1 = .ok (.iload_n 1, 1) := by decide +kernel
theorem dX10_valueLike_2 : decode cX10_valueLike 2 = .ok (.invokevirtual 114, 3) := by decide +kernel
theorem dX10_valueLike_5 : decode cX10_valueLike 5 = .ok (.istore 4, 2) := by decide +kernel
theorem dX10_valueLike_7 : decode cX10_valueLike 7 = .ok (.iconst 0, 1) := by decide +kernel
theorem dX10_valueLike_8 : decode cX10_valueLike 8 = .ok (.istore 5, 2) := by decide +kernel
theorem dX10_valueLike_10 : decode cX10_valueLike 10 = .ok (.iload 4, 2) := by decide +kernel
theorem dX10_valueLike_12 : decode cX10_valueLike 12 = .ok (.iconst (-1), 1) := by decide +kernel
theorem dX10_valueLike_13 : decode cX10_valueLike 13 = .ok (.if_icmp .eq 39, 3) := by decide +kernel
theorem dX10_valueLike_16 : decode cX10_valueLike 16 = .ok (.iload 5, 2) := by decide +kernel
theorem dX10_valueLike_18 : decode cX10_valueLike 18 = .ok (.bipush 100, 2) := by decide +kernel
theorem dX10_valueLike_20 : decode cX10_valueLike 20 = .ok (.if_icmp .ge 32, 3) := by decide +kernel
theorem dX10_valueLike_23 : decode cX10_valueLike 23 = .ok (.aload_n 0, 1) := by decide +kernel
theorem dX10_valueLike_24 : decode cX10_valueLike 24 = .ok (.iload 4, 2) := by decide +kernel
theorem dX10_valueLike_26 : decode cX10_valueLike 26 = .ok (.aload_n 2, 1) := by decide +kernel
theorem dX10_valueLike_27 : decode cX10_valueLike 27 = .ok (.iload_n 3, 1) := by decide +kernel
theorem dX10_valueLike_28 : decode cX10_valueLike 28 = .ok (.invokevirtual 165, 3) := by decide +kernel
theorem dX10_valueLike_31 : decode cX10_valueLike 31 = .ok (.ifCond .ne 6, 3) := by decide +kernel
theorem dX10_valueLike_34 : decode cX10_valueLike 34 = .ok (.iload 4, 2) := by decide +kernel
theorem dX10_valueLike_36 : decode cX10_valueLike 36 = .ok (.ireturn, 1) := by decide +kernel
theorem dX10_valueLike_37 : decode cX10_valueLike 37 = .ok (.aload_n 0, 1) := by decide +kernel
theorem dX10_valueLike_38 : decode cX10_valueLike 38 = .ok (.iload_n 1, 1) := by decide +kernel
theorem dX10_valueLike_39 : decode cX10_valueLike 39 = .ok (.iload 4, 2) := by decide +kernel
theorem dX10_valueLike_41 : decode cX10_valueLike 41 = .ok (.invokevirtual 56, 3) := by decide +kernel
theorem dX10_valueLike_44 : decode cX10_valueLike 44 = .ok (.istore 4, 2) := by decide +kernel
theorem dX10_valueLike_46 : decode cX10_valueLike 46 = .ok (.iinc 5 1, 3) := by decide +kernel
theorem dX10_valueLike_49 : decode cX10_valueLike 49 = .ok (.goto (-39), 3) := by decide +kernel
theorem dX10_valueLike_52 : decode cX10_valueLike 52 = .ok (.iconst (-1), 1) := by decide +kernel
theorem dX10_valueLike_53 : decode cX10_valueLike 53 = .ok (.ireturn, 1) := by decide +kernel
theorem dX10_valueOf_0 : decode cX10_valueOf 0 = .ok (.aload_n 0, 1) := by decide +kernel
theorem dX10_valueOf_1 : decode cX10_valueOf 1 = .ok (.iload_n 1, 1) := by decide +kernel
theorem dX10_valueOf_2 : decode cX10_valueOf 2 = .ok (.invokevirtual 114, 3) := by decide +kernel
theorem dX10_valueOf_5 : decode cX10_valueOf 5 = .ok (.istore_n 3, 1) := by decide +kernel
theorem dX10_valueOf_6 : decode cX10_valueOf 6 = .ok (.iconst 0, 1) := by decide +kernel
theorem dX10_valueOf_7 : decode cX10_valueOf 7 = .ok (.istore 4, 2) := by decide +kernel
theorem dX10_valueOf_9 : decode cX10_valueOf 9 = .ok (.iload_n 3, 1) := by decide +kernel
theorem dX10_valueOf_10 : decode cX10_valueOf 10 = .ok (.iconst (-1), 1) := by decide +kernel
theorem dX10_valueOf_11 : decode cX10_valueOf 11 = .ok (.if_icmp .eq 34, 3) := by decide +kernel
theorem dX10_valueOf_14 : decode cX10_valueOf 14 = .ok (.iload 4, 2) := by decide +kernel
theorem dX10_valueOf_16 : decode cX10_valueOf 16 = .ok (.bipush 100, 2) := by decide +kernel
theorem dX10_valueOf_18 : decode cX10_valueOf 18 = .ok (.if_icmp .ge 27, 3) := by decide +kernel
theorem dX10_valueOf_21 : decode cX10_valueOf 21 = .ok (.aload_n 0, 1) := by decide +kernel
theorem dX10_valueOf_22 : decode cX10_valueOf 22 = .ok (.iload_n 3, 1) := by decide +kernel
theorem dX10_valueOf_23 : decode cX10_valueOf 23 = .ok (.aload_n 2, 1) := by decide +kernel
theorem dX10_valueOf_24 : decode cX10_valueOf 24 = .ok (.invokevirtual 168, 3) := by decide +kernel
theorem dX10_valueOf_27 : decode cX10_valueOf 27 = .ok (.ifCond .eq 5, 3) := by decide +kernel
theorem dX10_valueOf_30 : decode cX10_valueOf 30 = .ok (.iload_n 3, 1) := by decide +kernel
theorem dX10_valueOf_31 : decode cX10_valueOf 31 = .ok (.ireturn, 1) := by decide +kernel
theorem dX10_valueOf_32 : decode cX10_valueOf 32 = .ok (.aload_n 0, 1) := by decide +kernel
theorem dX10_valueOf_33 : decode cX10_valueOf 33 = .ok (.iload_n 1, 1) := by decide +kernel
theorem dX10_valueOf_34 : decode cX10_valueOf 34 = .ok (.iload_n 3, 1) := by decide +kernel
theorem dX10_valueOf_35 : decode cX10_valueOf 35 = .ok (.invokevirtual 56, 3) := by decide +kernel
theorem dX10_valueOf_38 : decode cX10_valueOf 38 = .ok (.istore_n 3, 1) := by decide +kernel
theorem dX10_valueOf_39 : decode cX10_valueOf 39 = .ok (.iinc 4 1, 3) := by decide +kernel
theorem dX10_valueOf_42 : decode cX10_valueOf 42 = .ok (.goto (-33), 3) := by decide +kernel
theorem dX10_valueOf_45 : decode cX10_valueOf 45 = .ok (.iconst (-1), 1) := by decide +kernel
theorem dX10_valueOf_46 : decode cX10_valueOf 46 = .ok (.ireturn, 1) := by decide +kernel
theorem dX10_hasKey_0 : decode cX10_hasKey 0 = .ok (.aload_n 0, 1) := by decide +kernel
theorem dX10_hasKey_1 : decode cX10_hasKey 1 = .ok (.iload_n 1, 1) := by decide +kernel
theorem dX10_hasKey_2 : decode cX10_hasKey 2 = .ok (.invokevirtual 117, 3) := by decide +kernel
theorem dX10_hasKey_5 : decode cX10_hasKey 5 = .ok (.aload_n 2, 1) := by decide +kernel
theorem dX10_hasKey_6 : decode cX10_hasKey 6 = .ok (.invokevirtual 124, 3) := by decide +kernel
theorem dX10_hasKey_9 : decode cX10_hasKey 9 = .ok (.if_icmp .ne 7, 3) := by decide +kernel
theorem dX10_hasKey_12 : decode cX10_hasKey 12 = .ok (.iconst 1, 1) := by decide +kernel
theorem dX10_hasKey_13 : decode cX10_hasKey 13 = .ok (.goto 4, 3) := by decide +kernel
theorem dX10_hasKey_16 : decode cX10_hasKey 16 = .ok (.iconst 0, 1) := by decide +kernel
theorem dX10_hasKey_17 : decode cX10_hasKey 17 = .ok (.istore_n 3, 1) := by decide +kernel
theorem dX10_hasKey_18 : decode cX10_hasKey 18 = .ok (.iconst 0, 1) := by decide +kernel
theorem dX10_hasKey_19 : decode cX10_hasKey 19 = .ok (.istore 4, 2) := by decide +kernel
theorem dX10_hasKey_21 : decode cX10_hasKey 21 = .ok (.iload 4, 2) := by decide +kernel
theorem dX10_hasKey_23 : decode cX10_hasKey 23 = .ok (.aload_n 2, 1) := by decide +kernel
theorem dX10_hasKey_24 : decode cX10_hasKey 24 = .ok (.invokevirtual 124, 3) := by decide +kernel
theorem dX10_hasKey_27 : decode cX10_hasKey 27 = .ok (.if_icmp .ge 35, 3) := by decide +kernel
theorem dX10_hasKey_30 : decode cX10_hasKey 30 = .ok (.iload_n 3, 1) := by decide +kernel
theorem dX10_hasKey_31 : decode cX10_hasKey 31 = .ok (.ifCond .eq 31, 3) := by decide +kernel
theorem dX10_hasKey_34 : decode cX10_hasKey 34 = .ok (.aload_n 0, 1) := by decide +kernel
theorem dX10_hasKey_35 : decode cX10_hasKey 35 = .ok (.iload_n 1, 1) := by decide +kernel
theorem dX10_hasKey_36 : decode cX10_hasKey 36 = .ok (.iload 4, 2) := by decide +kernel
theorem dX10_hasKey_38 : decode cX10_hasKey 38 = .ok (.invokevirtual 162, 3) := by decide +kernel
theorem dX10_hasKey_41 : decode cX10_hasKey 41 = .ok (.aload_n 2, 1) := by decide +kernel
theorem dX10_hasKey_42 : decode cX10_hasKey 42 = .ok (.iload 4, 2) := by decide +kernel
theorem dX10_hasKey_44 : decode cX10_hasKey 44 = .ok (.invokevirtual 129, 3) := by decide +kernel
theorem dX10_hasKey_47 : decode cX10_hasKey 47 = .ok (.if_icmp .ne 7, 3) := by decide +kernel
theorem dX10_hasKey_50 : decode cX10_hasKey 50 = .ok (.iconst 1, 1) := by decide +kernel
theorem dX10_hasKey_51 : decode cX10_hasKey 51 = .ok (.goto 4, 3) := by decide +kernel
theorem dX10_hasKey_54 : decode cX10_hasKey 54 = .ok (.iconst 0, 1) := by decide +kernel
theorem dX10_hasKey_55 : decode cX10_hasKey 55 = .ok (.istore_n 3, 1) := by decide +kernel
theorem dX10_hasKey_56 : decode cX10_hasKey 56 = .ok (.iinc 4 1, 3) := by decide +kernel
theorem dX10_hasKey_59 : decode cX10_hasKey 59 = .ok (.goto (-38), 3) := by decide +kernel
theorem dX10_hasKey_62 : decode cX10_hasKey 62 = .ok (.iload_n 3, 1) := by decide +kernel
theorem dX10_hasKey_63 : decode cX10_hasKey 63 = .ok (.ireturn, 1) := by decide +kernel
theorem dX10_valueNamed_0 : decode cX10_valueNamed 0 = .ok (.aload_n 0, 1) := by decide +kernel
theorem dX10_valueNamed_1 : decode cX10_valueNamed 1 = .ok (.iload_n 1, 1) := by decide +kernel
theorem dX10_valueNamed_2 : decode cX10_valueNamed 2 = .ok (.invokevirtual 114, 3) := by decide +kernel
theorem dX10_valueNamed_5 : decode cX10_valueNamed 5 = .ok (.istore_n 3, 1) := by decide +kernel
theorem dX10_valueNamed_6 : decode cX10_valueNamed 6 = .ok (.iconst 0, 1) := by decide +kernel
theorem dX10_valueNamed_7 : decode cX10_valueNamed 7 = .ok (.istore 4, 2) := by decide +kernel
theorem dX10_valueNamed_9 : decode cX10_valueNamed 9 = .ok (.iload_n 3, 1) := by decide +kernel
theorem dX10_valueNamed_10 : decode cX10_valueNamed 10 = .ok (.iconst (-1), 1) := by decide +kernel
theorem dX10_valueNamed_11 : decode cX10_valueNamed 11 = .ok (.if_icmp .eq 34, 3) := by decide +kernel
theorem dX10_valueNamed_14 : decode cX10_valueNamed 14 = .ok (.iload 4, 2) := by decide +kernel
theorem dX10_valueNamed_16 : decode cX10_valueNamed 16 = .ok (.bipush 100, 2) := by decide +kernel
theorem dX10_valueNamed_18 : decode cX10_valueNamed 18 = .ok (.if_icmp .ge 27, 3) := by decide +kernel
theorem dX10_valueNamed_21 : decode cX10_valueNamed 21 = .ok (.aload_n 0, 1) := by decide +kernel
theorem dX10_valueNamed_22 : decode cX10_valueNamed 22 = .ok (.iload_n 3, 1) := by decide +kernel
theorem dX10_valueNamed_23 : decode cX10_valueNamed 23 = .ok (.aload_n 2, 1) := by decide +kernel
theorem dX10_valueNamed_24 : decode cX10_valueNamed 24 = .ok (.invokevirtual 172, 3) := by decide +kernel
theorem dX10_valueNamed_27 : decode cX10_valueNamed 27 = .ok (.ifCond .eq 5, 3) := by decide +kernel
theorem dX10_valueNamed_30 : decode cX10_valueNamed 30 = .ok (.iload_n 3, 1) := by decide +kernel
theorem dX10_valueNamed_31 : decode cX10_valueNamed 31 = .ok (.ireturn, 1) := by decide +kernel
theorem dX10_valueNamed_32 : decode cX10_valueNamed 32 = .ok (.aload_n 0, 1) := by decide +kernel
theorem dX10_valueNamed_33 : decode cX10_valueNamed 33 = .ok (.iload_n 1, 1) := by decide +kernel
theorem dX10_valueNamed_34 : decode cX10_valueNamed 34 = .ok (.iload_n 3, 1) := by decide +kernel
theorem dX10_valueNamed_35 : decode cX10_valueNamed 35 = .ok (.invokevirtual 56, 3) := by decide +kernel
theorem dX10_valueNamed_38 : decode cX10_valueNamed 38 = .ok (.istore_n 3, 1) := by decide +kernel
theorem dX10_valueNamed_39 : decode cX10_valueNamed 39 = .ok (.iinc 4 1, 3) := by decide +kernel
theorem dX10_valueNamed_42 : decode cX10_valueNamed 42 = .ok (.goto (-33), 3) := by decide +kernel
theorem dX10_valueNamed_45 : decode cX10_valueNamed 45 = .ok (.iconst (-1), 1) := by decide +kernel
theorem dX10_valueNamed_46 : decode cX10_valueNamed 46 = .ok (.ireturn, 1) := by decide +kernel
theorem dX10_hasKeyWord_0 : decode cX10_hasKeyWord 0 = .ok (.aload_n 0, 1) := by decide +kernel
theorem dX10_hasKeyWord_1 : decode cX10_hasKeyWord 1 = .ok (.iload_n 1, 1) := by decide +kernel
theorem dX10_hasKeyWord_2 : decode cX10_hasKeyWord 2 = .ok (.invokevirtual 117, 3) := by decide +kernel
theorem dX10_hasKeyWord_5 : decode cX10_hasKeyWord 5 = .ok (.aload_n 2, 1) := by decide +kernel
theorem dX10_hasKeyWord_6 : decode cX10_hasKeyWord 6 = .ok (.invokevirtual 149, 3) := by decide +kernel
theorem dX10_hasKeyWord_9 : decode cX10_hasKeyWord 9 = .ok (.if_icmp .ne 7, 3) := by decide +kernel
theorem dX10_hasKeyWord_12 : decode cX10_hasKeyWord 12 = .ok (.iconst 1, 1) := by decide +kernel
theorem dX10_hasKeyWord_13 : decode cX10_hasKeyWord 13 = .ok (.goto 4, 3) := by decide +kernel
theorem dX10_hasKeyWord_16 : decode cX10_hasKeyWord 16 = .ok (.iconst 0, 1) := by decide +kernel
theorem dX10_hasKeyWord_17 : decode cX10_hasKeyWord 17 = .ok (.istore_n 3, 1) := by decide +kernel
theorem dX10_hasKeyWord_18 : decode cX10_hasKeyWord 18 = .ok (.iconst 0, 1) := by decide +kernel
theorem dX10_hasKeyWord_19 : decode cX10_hasKeyWord 19 = .ok (.istore 4, 2) := by decide +kernel
theorem dX10_hasKeyWord_21 : decode cX10_hasKeyWord 21 = .ok (.iload 4, 2) := by decide +kernel
theorem dX10_hasKeyWord_23 : decode cX10_hasKeyWord 23 = .ok (.aload_n 2, 1) := by decide +kernel
theorem dX10_hasKeyWord_24 : decode cX10_hasKeyWord 24 = .ok (.invokevirtual 149, 3) := by decide +kernel
theorem dX10_hasKeyWord_27 : decode cX10_hasKeyWord 27 = .ok (.if_icmp .ge 35, 3) := by decide +kernel
theorem dX10_hasKeyWord_30 : decode cX10_hasKeyWord 30 = .ok (.iload_n 3, 1) := by decide +kernel
theorem dX10_hasKeyWord_31 : decode cX10_hasKeyWord 31 = .ok (.ifCond .eq 31, 3) := by decide +kernel
theorem dX10_hasKeyWord_34 : decode cX10_hasKeyWord 34 = .ok (.aload_n 0, 1) := by decide +kernel
theorem dX10_hasKeyWord_35 : decode cX10_hasKeyWord 35 = .ok (.iload_n 1, 1) := by decide +kernel
theorem dX10_hasKeyWord_36 : decode cX10_hasKeyWord 36 = .ok (.iload 4, 2) := by decide +kernel
theorem dX10_hasKeyWord_38 : decode cX10_hasKeyWord 38 = .ok (.invokevirtual 162, 3) := by decide +kernel
theorem dX10_hasKeyWord_41 : decode cX10_hasKeyWord 41 = .ok (.aload_n 2, 1) := by decide +kernel
theorem dX10_hasKeyWord_42 : decode cX10_hasKeyWord 42 = .ok (.iload 4, 2) := by decide +kernel
theorem dX10_hasKeyWord_44 : decode cX10_hasKeyWord 44 = .ok (.invokevirtual 152, 3) := by decide +kernel
theorem dX10_hasKeyWord_47 : decode cX10_hasKeyWord 47 = .ok (.if_icmp .ne 7, 3) := by decide +kernel
theorem dX10_hasKeyWord_50 : decode cX10_hasKeyWord 50 = .ok (.iconst 1, 1) := by decide +kernel
theorem dX10_hasKeyWord_51 : decode cX10_hasKeyWord 51 = .ok (.goto 4, 3) := by decide +kernel
theorem dX10_hasKeyWord_54 : decode cX10_hasKeyWord 54 = .ok (.iconst 0, 1) := by decide +kernel
theorem dX10_hasKeyWord_55 : decode cX10_hasKeyWord 55 = .ok (.istore_n 3, 1) := by decide +kernel
theorem dX10_hasKeyWord_56 : decode cX10_hasKeyWord 56 = .ok (.iinc 4 1, 3) := by decide +kernel
theorem dX10_hasKeyWord_59 : decode cX10_hasKeyWord 59 = .ok (.goto (-38), 3) := by decide +kernel
theorem dX10_hasKeyWord_62 : decode cX10_hasKeyWord 62 = .ok (.iload_n 3, 1) := by decide +kernel
theorem dX10_hasKeyWord_63 : decode cX10_hasKeyWord 63 = .ok (.ireturn, 1) := by decide +kernel
theorem dX10_nextByKey_0 : decode cX10_nextByKey 0 = .ok (.iconst (-1), 1) := by decide +kernel
theorem dX10_nextByKey_1 : decode cX10_nextByKey 1 = .ok (.istore_n 3, 1) := by decide +kernel
theorem dX10_nextByKey_2 : decode cX10_nextByKey 2 = .ok (.aload_n 0, 1) := by decide +kernel
theorem dX10_nextByKey_3 : decode cX10_nextByKey 3 = .ok (.iload_n 1, 1) := by decide +kernel
theorem dX10_nextByKey_4 : decode cX10_nextByKey 4 = .ok (.invokevirtual 114, 3) := by decide +kernel
theorem dX10_nextByKey_7 : decode cX10_nextByKey 7 = .ok (.istore 4, 2) := by decide +kernel
theorem dX10_nextByKey_9 : decode cX10_nextByKey 9 = .ok (.iconst 0, 1) := by decide +kernel
theorem dX10_nextByKey_10 : decode cX10_nextByKey 10 = .ok (.istore 5, 2) := by decide +kernel
theorem dX10_nextByKey_12 : decode cX10_nextByKey 12 = .ok (.iload 4, 2) := by decide +kernel
theorem dX10_nextByKey_14 : decode cX10_nextByKey 14 = .ok (.iconst (-1), 1) := by decide +kernel
theorem dX10_nextByKey_15 : decode cX10_nextByKey 15 = .ok (.if_icmp .eq 72, 3) := by decide +kernel
theorem dX10_nextByKey_18 : decode cX10_nextByKey 18 = .ok (.iload 5, 2) := by decide +kernel
theorem dX10_nextByKey_20 : decode cX10_nextByKey 20 = .ok (.bipush 100, 2) := by decide +kernel
theorem dX10_nextByKey_22 : decode cX10_nextByKey 22 = .ok (.if_icmp .ge 65, 3) := by decide +kernel
theorem dX10_nextByKey_25 : decode cX10_nextByKey 25 = .ok (.iload_n 2, 1) := by decide +kernel
theorem dX10_nextByKey_26 : decode cX10_nextByKey 26 = .ok (.iconst (-1), 1) := by decide +kernel
theorem dX10_nextByKey_27 : decode cX10_nextByKey 27 = .ok (.if_icmp .eq 14, 3) := by decide +kernel
theorem dX10_nextByKey_30 : decode cX10_nextByKey 30 = .ok (.aload_n 0, 1) := by decide +kernel
theorem dX10_nextByKey_31 : decode cX10_nextByKey 31 = .ok (.iload 4, 2) := by decide +kernel
theorem dX10_nextByKey_33 : decode cX10_nextByKey 33 = .ok (.aload_n 0, 1) := by decide +kernel
theorem dX10_nextByKey_34 : decode cX10_nextByKey 34 = .ok (.iload_n 2, 1) := by decide +kernel
theorem dX10_nextByKey_35 : decode cX10_nextByKey 35 = .ok (.invokevirtual 165, 3) := by decide +kernel
theorem dX10_nextByKey_38 : decode cX10_nextByKey 38 = .ok (.ifCond .le 7, 3) := by decide +kernel
theorem dX10_nextByKey_41 : decode cX10_nextByKey 41 = .ok (.iconst 1, 1) := by decide +kernel
theorem dX10_nextByKey_42 : decode cX10_nextByKey 42 = .ok (.goto 4, 3) := by decide +kernel
theorem dX10_nextByKey_45 : decode cX10_nextByKey 45 = .ok (.iconst 0, 1) := by decide +kernel
theorem dX10_nextByKey_46 : decode cX10_nextByKey 46 = .ok (.istore 6, 2) := by decide +kernel
theorem dX10_nextByKey_48 : decode cX10_nextByKey 48 = .ok (.iload 6, 2) := by decide +kernel
theorem dX10_nextByKey_50 : decode cX10_nextByKey 50 = .ok (.ifCond .eq 22, 3) := by decide +kernel
theorem dX10_nextByKey_53 : decode cX10_nextByKey 53 = .ok (.iload_n 3, 1) := by decide +kernel
theorem dX10_nextByKey_54 : decode cX10_nextByKey 54 = .ok (.iconst (-1), 1) := by decide +kernel
theorem dX10_nextByKey_55 : decode cX10_nextByKey 55 = .ok (.if_icmp .eq 14, 3) := by decide +kernel
theorem dX10_nextByKey_58 : decode cX10_nextByKey 58 = .ok (.aload_n 0, 1) := by decide +kernel
theorem dX10_nextByKey_59 : decode cX10_nextByKey 59 = .ok (.iload 4, 2) := by decide +kernel
theorem dX10_nextByKey_61 : decode cX10_nextByKey 61 = .ok (.aload_n 0, 1) := by decide +kernel
theorem dX10_nextByKey_62 : decode cX10_nextByKey 62 = .ok (.iload_n 3, 1) := by decide +kernel
theorem dX10_nextByKey_63 : decode cX10_nextByKey 63 = .ok (.invokevirtual 165, 3) := by decide +kernel
theorem dX10_nextByKey_66 : decode cX10_nextByKey 66 = .ok (.ifCond .ge 6, 3) := by decide +kernel
theorem dX10_nextByKey_69 : decode cX10_nextByKey 69 = .ok (.iload 4, 2) := by decide +kernel
theorem dX10_nextByKey_71 : decode cX10_nextByKey 71 = .ok (.istore_n 3, 1) := by decide +kernel
theorem dX10_nextByKey_72 : decode cX10_nextByKey 72 = .ok (.aload_n 0, 1) := by decide +kernel
theorem dX10_nextByKey_73 : decode cX10_nextByKey 73 = .ok (.iload_n 1, 1) := by decide +kernel
theorem dX10_nextByKey_74 : decode cX10_nextByKey 74 = .ok (.iload 4, 2) := by decide +kernel
theorem dX10_nextByKey_76 : decode cX10_nextByKey 76 = .ok (.invokevirtual 56, 3) := by decide +kernel
theorem dX10_nextByKey_79 : decode cX10_nextByKey 79 = .ok (.istore 4, 2) := by decide +kernel
theorem dX10_nextByKey_81 : decode cX10_nextByKey 81 = .ok (.iinc 5 1, 3) := by decide +kernel
theorem dX10_nextByKey_84 : decode cX10_nextByKey 84 = .ok (.goto (-72), 3) := by decide +kernel
theorem dX10_nextByKey_87 : decode cX10_nextByKey 87 = .ok (.iload_n 3, 1) := by decide +kernel
theorem dX10_nextByKey_88 : decode cX10_nextByKey 88 = .ok (.ireturn, 1) := by decide +kernel
theorem dX10_same_0 : decode cX10_same 0 = .ok (.aload_n 0, 1) := by decide +kernel
theorem dX10_same_1 : decode cX10_same 1 = .ok (.iload_n 1, 1) := by decide +kernel
theorem dX10_same_2 : decode cX10_same 2 = .ok (.invokevirtual 105, 3) := by decide +kernel
theorem dX10_same_5 : decode cX10_same 5 = .ok (.ifCond .eq 36, 3) := by decide +kernel
theorem dX10_same_8 : decode cX10_same 8 = .ok (.aload_n 0, 1) := by decide +kernel
theorem dX10_same_9 : decode cX10_same 9 = .ok (.iload_n 1, 1) := by decide +kernel
theorem dX10_same_10 : decode cX10_same 10 = .ok (.invokevirtual 75, 3) := by decide +kernel
theorem dX10_same_13 : decode cX10_same 13 = .ok (.aload_n 2, 1) := by decide +kernel
theorem dX10_same_14 : decode cX10_same 14 = .ok (.iload_n 3, 1) := by decide +kernel
theorem dX10_same_15 : decode cX10_same 15 = .ok (.invokevirtual 75, 3) := by decide +kernel
theorem dX10_same_18 : decode cX10_same 18 = .ok (.if_icmp .ne 23, 3) := by decide +kernel
theorem dX10_same_21 : decode cX10_same 21 = .ok (.aload_n 0, 1) := by decide +kernel
theorem dX10_same_22 : decode cX10_same 22 = .ok (.iload_n 1, 1) := by decide +kernel
theorem dX10_same_23 : decode cX10_same 23 = .ok (.invokevirtual 81, 3) := by decide +kernel
theorem dX10_same_26 : decode cX10_same 26 = .ok (.aload_n 2, 1) := by decide +kernel
theorem dX10_same_27 : decode cX10_same 27 = .ok (.iload_n 3, 1) := by decide +kernel
theorem dX10_same_28 : decode cX10_same 28 = .ok (.invokevirtual 81, 3) := by decide +kernel
theorem dX10_same_31 : decode cX10_same 31 = .ok (.if_icmp .ne 10, 3) := by decide +kernel
theorem dX10_same_34 : decode cX10_same 34 = .ok (.iload 4, 2) := by decide +kernel
theorem dX10_same_36 : decode cX10_same 36 = .ok (.bipush 12, 2) := by decide +kernel
theorem dX10_same_38 : decode cX10_same 38 = .ok (.if_icmp .le 5, 3) := by decide +kernel
theorem dX10_same_41 : decode cX10_same 41 = .ok (.iconst 0, 1) := by decide +kernel
theorem dX10_same_42 : decode cX10_same 42 = .ok (.ireturn, 1) := by decide +kernel
theorem dX10_same_43 : decode cX10_same 43 = .ok (.aload_n 0, 1) := by decide +kernel
theorem dX10_same_44 : decode cX10_same 44 = .ok (.iload_n 1, 1) := by decide +kernel
theorem dX10_same_45 : decode cX10_same 45 = .ok (.invokevirtual 59, 3) := by decide +kernel
theorem dX10_same_48 : decode cX10_same 48 = .ok (.ifCond .ne 11, 3) := by decide +kernel
theorem dX10_same_51 : decode cX10_same 51 = .ok (.aload_n 0, 1) := by decide +kernel
theorem dX10_same_52 : decode cX10_same 52 = .ok (.iload_n 1, 1) := by decide +kernel
theorem dX10_same_53 : decode cX10_same 53 = .ok (.aload_n 2, 1) := by decide +kernel
theorem dX10_same_54 : decode cX10_same 54 = .ok (.iload_n 3, 1) := by decide +kernel
theorem dX10_same_55 : decode cX10_same 55 = .ok (.invokevirtual 176, 3) := by decide +kernel
theorem dX10_same_58 : decode cX10_same 58 = .ok (.ireturn, 1) := by decide +kernel
theorem dX10_same_59 : decode cX10_same 59 = .ok (.aload_n 0, 1) := by decide +kernel
theorem dX10_same_60 : decode cX10_same 60 = .ok (.iload_n 1, 1) := by decide +kernel
theorem dX10_same_61 : decode cX10_same 61 = .ok (.iconst 4, 1) := by decide +kernel
theorem dX10_same_62 : decode cX10_same 62 = .ok (.invokevirtual 42, 3) := by decide +kernel
theorem dX10_same_65 : decode cX10_same 65 = .ok (.istore 5, 2) := by decide +kernel
theorem dX10_same_67 : decode cX10_same 67 = .ok (.aload_n 0, 1) := by decide +kernel
theorem dX10_same_68 : decode cX10_same 68 = .ok (.iload_n 1, 1) := by decide +kernel
theorem dX10_same_69 : decode cX10_same 69 = .ok (.invokevirtual 63, 3) := by decide +kernel
theorem dX10_same_72 : decode cX10_same 72 = .ok (.aload_n 2, 1) := by decide +kernel
theorem dX10_same_73 : decode cX10_same 73 = .ok (.iload_n 3, 1) := by decide +kernel
theorem dX10_same_74 : decode cX10_same 74 = .ok (.invokevirtual 63, 3) := by decide +kernel
theorem dX10_same_77 : decode cX10_same 77 = .ok (.if_icmp .ne 7, 3) := by decide +kernel
theorem dX10_same_80 : decode cX10_same 80 = .ok (.iconst 1, 1) := by decide +kernel
theorem dX10_same_81 : decode cX10_same 81 = .ok (.goto 4, 3) := by decide +kernel
theorem dX10_same_84 : decode cX10_same 84 = .ok (.iconst 0, 1) := by decide +kernel
theorem dX10_same_85 : decode cX10_same 85 = .ok (.istore 6, 2) := by decide +kernel
theorem dX10_same_87 : decode cX10_same 87 = .ok (.aload_n 2, 1) := by decide +kernel
theorem dX10_same_88 : decode cX10_same 88 = .ok (.iload_n 3, 1) := by decide +kernel
theorem dX10_same_89 : decode cX10_same 89 = .ok (.invokevirtual 52, 3) := by decide +kernel
theorem dX10_same_92 : decode cX10_same 92 = .ok (.istore 7, 2) := by decide +kernel
theorem dX10_same_94 : decode cX10_same 94 = .ok (.aload_n 0, 1) := by decide +kernel
theorem dX10_same_95 : decode cX10_same 95 = .ok (.iload_n 1, 1) := by decide +kernel
theorem dX10_same_96 : decode cX10_same 96 = .ok (.invokevirtual 52, 3) := by decide +kernel
theorem dX10_same_99 : decode cX10_same 99 = .ok (.istore 8, 2) := by decide +kernel
theorem dX10_same_101 : decode cX10_same 101 = .ok (.iconst 0, 1) := by decide +kernel
theorem dX10_same_102 : decode cX10_same 102 = .ok (.istore 9, 2) := by decide +kernel
theorem dX10_same_104 : decode cX10_same 104 = .ok (.iload 8, 2) := by decide +kernel
theorem dX10_same_106 : decode cX10_same 106 = .ok (.iconst (-1), 1) := by decide +kernel
theorem dX10_same_107 : decode cX10_same 107 = .ok (.if_icmp .eq 70, 3) := by decide +kernel
theorem dX10_same_110 : decode cX10_same 110 = .ok (.iload 9, 2) := by decide +kernel
theorem dX10_same_112 : decode cX10_same 112 = .ok (.bipush 100, 2) := by decide +kernel
theorem dX10_same_114 : decode cX10_same 114 = .ok (.if_icmp .ge 63, 3) := by decide +kernel
theorem dX10_same_117 : decode cX10_same 117 = .ok (.iload 6, 2) := by decide +kernel
theorem dX10_same_119 : decode cX10_same 119 = .ok (.ifCond .eq 58, 3) := by decide +kernel
theorem dX10_same_122 : decode cX10_same 122 = .ok (.aload_n 0, 1) := by decide +kernel
theorem dX10_same_123 : decode cX10_same 123 = .ok (.iload 8, 2) := by decide +kernel
theorem dX10_same_125 : decode cX10_same 125 = .ok (.aload_n 2, 1) := by decide +kernel
theorem dX10_same_126 : decode cX10_same 126 = .ok (.iload 5, 2) := by decide +kernel
theorem dX10_same_128 : decode cX10_same 128 = .ok (.ifCond .eq 8, 3) := by decide +kernel
theorem dX10_same_131 : decode cX10_same 131 = .ok (.iload 7, 2) := by decide +kernel
theorem dX10_same_133 : decode cX10_same 133 = .ok (.goto 11, 3) := by decide +kernel
theorem dX10_same_136 : decode cX10_same 136 = .ok (.aload_n 2, 1) := by decide +kernel
theorem dX10_same_137 : decode cX10_same 137 = .ok (.iload_n 3, 1) := by decide +kernel
theorem dX10_same_138 : decode cX10_same 138 = .ok (.aload_n 0, 1) := by decide +kernel
theorem dX10_same_139 : decode cX10_same 139 = .ok (.iload 8, 2) := by decide +kernel
theorem dX10_same_141 : decode cX10_same 141 = .ok (.invokevirtual 120, 3) := by decide +kernel
theorem dX10_same_144 : decode cX10_same 144 = .ok (.iload 4, 2) := by decide +kernel
theorem dX10_same_146 : decode cX10_same 146 = .ok (.iconst 1, 1) := by decide +kernel
theorem dX10_same_147 : decode cX10_same 147 = .ok (.iadd, 1) := by decide +kernel
theorem dX10_same_148 : decode cX10_same 148 = .ok (.invokevirtual 180, 3) := by decide +kernel
theorem dX10_same_151 : decode cX10_same 151 = .ok (.istore 6, 2) := by decide +kernel
theorem dX10_same_153 : decode cX10_same 153 = .ok (.aload_n 2, 1) := by decide +kernel
theorem dX10_same_154 : decode cX10_same 154 = .ok (.iload_n 3, 1) := by decide +kernel
theorem dX10_same_155 : decode cX10_same 155 = .ok (.iload 7, 2) := by decide +kernel
theorem dX10_same_157 : decode cX10_same 157 = .ok (.invokevirtual 56, 3) := by decide +kernel
theorem dX10_same_160 : decode cX10_same 160 = .ok (.istore 7, 2) := by decide +kernel
theorem dX10_same_162 : decode cX10_same 162 = .ok (.aload_n 0, 1) := by decide +kernel
theorem dX10_same_163 : decode cX10_same 163 = .ok (.iload_n 1, 1) := by decide +kernel
theorem dX10_same_164 : decode cX10_same 164 = .ok (.iload 8, 2) := by decide +kernel
theorem dX10_same_166 : decode cX10_same 166 = .ok (.invokevirtual 56, 3) := by decide +kernel
theorem dX10_same_169 : decode cX10_same 169 = .ok (.istore 8, 2) := by decide +kernel
theorem dX10_same_171 : decode cX10_same 171 = .ok (.iinc 9 1, 3) := by decide +kernel
theorem dX10_same_174 : decode cX10_same 174 = .ok (.goto (-70), 3) := by decide +kernel
theorem dX10_same_177 : decode cX10_same 177 = .ok (.iload 6, 2) := by decide +kernel
theorem dX10_same_179 : decode cX10_same 179 = .ok (.ireturn, 1) := by decide +kernel
theorem dX10_sameSigns_0 : decode cX10_sameSigns 0 = .ok (.aload_n 0, 1) := by decide +kernel
theorem dX10_sameSigns_1 : decode cX10_sameSigns 1 = .ok (.iload_n 1, 1) := by decide +kernel
theorem dX10_sameSigns_2 : decode cX10_sameSigns 2 = .ok (.invokevirtual 184, 3) := by decide +kernel
theorem dX10_sameSigns_5 : decode cX10_sameSigns 5 = .ok (.aload_n 2, 1) := by decide +kernel
theorem dX10_sameSigns_6 : decode cX10_sameSigns 6 = .ok (.iload_n 3, 1) := by decide +kernel
theorem dX10_sameSigns_7 : decode cX10_sameSigns 7 = .ok (.invokevirtual 184, 3) := by decide +kernel
theorem dX10_sameSigns_10 : decode cX10_sameSigns 10 = .ok (.if_icmp .ne 20, 3) := by decide +kernel
theorem dX10_sameSigns_13 : decode cX10_sameSigns 13 = .ok (.aload_n 0, 1) := by decide +kernel
theorem dX10_sameSigns_14 : decode cX10_sameSigns 14 = .ok (.iload_n 1, 1) := by decide +kernel
theorem dX10_sameSigns_15 : decode cX10_sameSigns 15 = .ok (.invokevirtual 139, 3) := by decide +kernel
theorem dX10_sameSigns_18 : decode cX10_sameSigns 18 = .ok (.aload_n 2, 1) := by decide +kernel
theorem dX10_sameSigns_19 : decode cX10_sameSigns 19 = .ok (.iload_n 3, 1) := by decide +kernel
theorem dX10_sameSigns_20 : decode cX10_sameSigns 20 = .ok (.invokevirtual 139, 3) := by decide +kernel
theorem dX10_sameSigns_23 : decode cX10_sameSigns 23 = .ok (.if_icmp .ne 7, 3) := by decide +kernel
theorem dX10_sameSigns_26 : decode cX10_sameSigns 26 = .ok (.iconst 1, 1) := by decide +kernel
theorem dX10_sameSigns_27 : decode cX10_sameSigns 27 = .ok (.goto 4, 3) := by decide +kernel
theorem dX10_sameSigns_30 : decode cX10_sameSigns 30 = .ok (.iconst 0, 1) := by decide +kernel
theorem dX10_sameSigns_31 : decode cX10_sameSigns 31 = .ok (.istore 4, 2) := by decide +kernel
theorem dX10_sameSigns_33 : decode cX10_sameSigns 33 = .ok (.iconst 0, 1) := by decide +kernel
theorem dX10_sameSigns_34 : decode cX10_sameSigns 34 = .ok (.istore 5, 2) := by decide +kernel
theorem dX10_sameSigns_36 : decode cX10_sameSigns 36 = .ok (.iload 5, 2) := by decide +kernel
theorem dX10_sameSigns_38 : decode cX10_sameSigns 38 = .ok (.aload_n 0, 1) := by decide +kernel
theorem dX10_sameSigns_39 : decode cX10_sameSigns 39 = .ok (.iload_n 1, 1) := by decide +kernel
theorem dX10_sameSigns_40 : decode cX10_sameSigns 40 = .ok (.invokevirtual 139, 3) := by decide +kernel
theorem dX10_sameSigns_43 : decode cX10_sameSigns 43 = .ok (.if_icmp .ge 38, 3) := by decide +kernel
theorem dX10_sameSigns_46 : decode cX10_sameSigns 46 = .ok (.iload 4, 2) := by decide +kernel
theorem dX10_sameSigns_48 : decode cX10_sameSigns 48 = .ok (.ifCond .eq 33, 3) := by decide +kernel
theorem dX10_sameSigns_51 : decode cX10_sameSigns 51 = .ok (.aload_n 0, 1) := by decide +kernel
theorem dX10_sameSigns_52 : decode cX10_sameSigns 52 = .ok (.iload_n 1, 1) := by decide +kernel
theorem dX10_sameSigns_53 : decode cX10_sameSigns 53 = .ok (.iload 5, 2) := by decide +kernel
theorem dX10_sameSigns_55 : decode cX10_sameSigns 55 = .ok (.invokevirtual 136, 3) := by decide +kernel
theorem dX10_sameSigns_58 : decode cX10_sameSigns 58 = .ok (.aload_n 2, 1) := by decide +kernel
theorem dX10_sameSigns_59 : decode cX10_sameSigns 59 = .ok (.iload_n 3, 1) := by decide +kernel
theorem dX10_sameSigns_60 : decode cX10_sameSigns 60 = .ok (.iload 5, 2) := by decide +kernel
theorem dX10_sameSigns_62 : decode cX10_sameSigns 62 = .ok (.invokevirtual 136, 3) := by decide +kernel
theorem dX10_sameSigns_65 : decode cX10_sameSigns 65 = .ok (.if_icmp .ne 7, 3) := by decide +kernel
theorem dX10_sameSigns_68 : decode cX10_sameSigns 68 = .ok (.iconst 1, 1) := by decide +kernel
theorem dX10_sameSigns_69 : decode cX10_sameSigns 69 = .ok (.goto 4, 3) := by decide +kernel
theorem dX10_sameSigns_72 : decode cX10_sameSigns 72 = .ok (.iconst 0, 1) := by decide +kernel
theorem dX10_sameSigns_73 : decode cX10_sameSigns 73 = .ok (.istore 4, 2) := by decide +kernel
theorem dX10_sameSigns_75 : decode cX10_sameSigns 75 = .ok (.iinc 5 1, 3) := by decide +kernel
theorem dX10_sameSigns_78 : decode cX10_sameSigns 78 = .ok (.goto (-42), 3) := by decide +kernel
theorem dX10_sameSigns_81 : decode cX10_sameSigns 81 = .ok (.iload 4, 2) := by decide +kernel
theorem dX10_sameSigns_83 : decode cX10_sameSigns 83 = .ok (.ireturn, 1) := by decide +kernel
theorem dX10_powerOrTruth_0 : decode cX10_powerOrTruth 0 = .ok (.iload_n 1, 1) := by decide +kernel
theorem dX10_powerOrTruth_1 : decode cX10_powerOrTruth 1 = .ok (.ifCond .lt 26, 3) := by decide +kernel
theorem dX10_powerOrTruth_4 : decode cX10_powerOrTruth 4 = .ok (.iload_n 1, 1) := by decide +kernel
theorem dX10_powerOrTruth_5 : decode cX10_powerOrTruth 5 = .ok (.aload_n 0, 1) := by decide +kernel
theorem dX10_powerOrTruth_6 : decode cX10_powerOrTruth 6 = .ok (.getfield 34, 3) := by decide +kernel
theorem dX10_powerOrTruth_9 : decode cX10_powerOrTruth 9 = .ok (.if_icmp .ge 18, 3) := by decide +kernel
theorem dX10_powerOrTruth_12 : decode cX10_powerOrTruth 12 = .ok (.iload_n 1, 1) := by decide +kernel
theorem dX10_powerOrTruth_13 : decode cX10_powerOrTruth 13 = .ok (.bipush 100, 2) := by decide +kernel
theorem dX10_powerOrTruth_15 : decode cX10_powerOrTruth 15 = .ok (.if_icmp .ge 12, 3) := by decide +kernel
theorem dX10_powerOrTruth_18 : decode cX10_powerOrTruth 18 = .ok (.aload_n 0, 1) := by decide +kernel
theorem dX10_powerOrTruth_19 : decode cX10_powerOrTruth 19 = .ok (.getfield 18, 3) := by decide +kernel
theorem dX10_powerOrTruth_22 : decode cX10_powerOrTruth 22 = .ok (.iload_n 1, 1) := by decide +kernel
theorem dX10_powerOrTruth_23 : decode cX10_powerOrTruth 23 = .ok (.iaload, 1) := by decide +kernel
theorem dX10_powerOrTruth_24 : decode cX10_powerOrTruth 24 = .ok (.goto 4, 3) := by decide +kernel
theorem dX10_powerOrTruth_27 : decode cX10_powerOrTruth 27 = .ok (.iconst 0, 1) := by decide +kernel
theorem dX10_powerOrTruth_28 : decode cX10_powerOrTruth 28 = .ok (.ireturn, 1) := by decide +kernel
theorem dX10_pathTo_0 : decode cX10_pathTo 0 = .ok (.iconst 1, 1) := by decide +kernel
theorem dX10_pathTo_1 : decode cX10_pathTo 1 = .ok (.istore_n 3, 1) := by decide +kernel
theorem dX10_pathTo_2 : decode cX10_pathTo 2 = .ok (.iload_n 3, 1) := by decide +kernel
theorem dX10_pathTo_3 : decode cX10_pathTo 3 = .ok (.iload_n 1, 1) := by decide +kernel
theorem dX10_pathTo_4 : decode cX10_pathTo 4 = .ok (.if_icmp .gt 32, 3) := by decide +kernel
theorem dX10_pathTo_7 : decode cX10_pathTo 7 = .ok (.iload_n 3, 1) := by decide +kernel
theorem dX10_pathTo_8 : decode cX10_pathTo 8 = .ok (.aload_n 0, 1) := by decide +kernel
theorem dX10_pathTo_9 : decode cX10_pathTo 9 = .ok (.getfield 34, 3) := by decide +kernel
theorem dX10_pathTo_12 : decode cX10_pathTo 12 = .ok (.if_icmp .ge 24, 3) := by decide +kernel
theorem dX10_pathTo_15 : decode cX10_pathTo 15 = .ok (.aload_n 0, 1) := by decide +kernel
theorem dX10_pathTo_16 : decode cX10_pathTo 16 = .ok (.iload_n 3, 1) := by decide +kernel
theorem dX10_pathTo_17 : decode cX10_pathTo 17 = .ok (.invokevirtual 69, 3) := by decide +kernel
theorem dX10_pathTo_20 : decode cX10_pathTo 20 = .ok (.iload_n 1, 1) := by decide +kernel
theorem dX10_pathTo_21 : decode cX10_pathTo 21 = .ok (.if_icmp .le 9, 3) := by decide +kernel
theorem dX10_pathTo_24 : decode cX10_pathTo 24 = .ok (.aload_n 0, 1) := by decide +kernel
theorem dX10_pathTo_25 : decode cX10_pathTo 25 = .ok (.iload_n 3, 1) := by decide +kernel
theorem dX10_pathTo_26 : decode cX10_pathTo 26 = .ok (.aload_n 2, 1) := by decide +kernel
theorem dX10_pathTo_27 : decode cX10_pathTo 27 = .ok (.invokevirtual 187, 3) := by decide +kernel
theorem dX10_pathTo_30 : decode cX10_pathTo 30 = .ok (.iinc 3 1, 3) := by decide +kernel
theorem dX10_pathTo_33 : decode cX10_pathTo 33 = .ok (.goto (-31), 3) := by decide +kernel
theorem dX10_pathTo_36 : decode cX10_pathTo 36 = .ok (.return_, 1) := by decide +kernel
theorem dX10_stepTo_0 : decode cX10_stepTo 0 = .ok (.aload_n 2, 1) := by decide +kernel
theorem dX10_stepTo_1 : decode cX10_stepTo 1 = .ok (.bipush 47, 2) := by decide +kernel
theorem dX10_stepTo_3 : decode cX10_stepTo 3 = .ok (.invokevirtual 145, 3) := by decide +kernel
theorem dX10_stepTo_6 : decode cX10_stepTo 6 = .ok (.aload_n 0, 1) := by decide +kernel
theorem dX10_stepTo_7 : decode cX10_stepTo 7 = .ok (.aload_n 0, 1) := by decide +kernel
theorem dX10_stepTo_8 : decode cX10_stepTo 8 = .ok (.iload_n 1, 1) := by decide +kernel
theorem dX10_stepTo_9 : decode cX10_stepTo 9 = .ok (.invokevirtual 72, 3) := by decide +kernel
theorem dX10_stepTo_12 : decode cX10_stepTo 12 = .ok (.iconst 5, 1) := by decide +kernel
theorem dX10_stepTo_13 : decode cX10_stepTo 13 = .ok (.invokevirtual 42, 3) := by decide +kernel
theorem dX10_stepTo_16 : decode cX10_stepTo 16 = .ok (.ifCond .ne 17, 3) := by decide +kernel
theorem dX10_stepTo_19 : decode cX10_stepTo 19 = .ok (.aload_n 2, 1) := by decide +kernel
theorem dX10_stepTo_20 : decode cX10_stepTo 20 = .ok (.iconst 0, 1) := by decide +kernel
theorem dX10_stepTo_21 : decode cX10_stepTo 21 = .ok (.aload_n 0, 1) := by decide +kernel
theorem dX10_stepTo_22 : decode cX10_stepTo 22 = .ok (.iload_n 1, 1) := by decide +kernel
theorem dX10_stepTo_23 : decode cX10_stepTo 23 = .ok (.invokevirtual 96, 3) := by decide +kernel
theorem dX10_stepTo_26 : decode cX10_stepTo 26 = .ok (.invokestatic 46, 3) := by decide +kernel
theorem dX10_stepTo_29 : decode cX10_stepTo 29 = .ok (.invokevirtual 191, 3) := by decide +kernel
theorem dX10_stepTo_32 : decode cX10_stepTo 32 = .ok (.return_, 1) := by decide +kernel
theorem dX10_stepTo_33 : decode cX10_stepTo 33 = .ok (.iconst 0, 1) := by decide +kernel
theorem dX10_stepTo_34 : decode cX10_stepTo 34 = .ok (.istore_n 3, 1) := by decide +kernel
theorem dX10_stepTo_35 : decode cX10_stepTo 35 = .ok (.iload_n 3, 1) := by decide +kernel
theorem dX10_stepTo_36 : decode cX10_stepTo 36 = .ok (.aload_n 0, 1) := by decide +kernel
theorem dX10_stepTo_37 : decode cX10_stepTo 37 = .ok (.iload_n 1, 1) := by decide +kernel
theorem dX10_stepTo_38 : decode cX10_stepTo 38 = .ok (.invokevirtual 117, 3) := by decide +kernel
theorem dX10_stepTo_41 : decode cX10_stepTo 41 = .ok (.if_icmp .ge 64, 3) := by decide +kernel
theorem dX10_stepTo_44 : decode cX10_stepTo 44 = .ok (.aload_n 0, 1) := by decide +kernel
theorem dX10_stepTo_45 : decode cX10_stepTo 45 = .ok (.iload_n 1, 1) := by decide +kernel
theorem dX10_stepTo_46 : decode cX10_stepTo 46 = .ok (.iload_n 3, 1) := by decide +kernel
theorem dX10_stepTo_47 : decode cX10_stepTo 47 = .ok (.invokevirtual 162, 3) := by decide +kernel
theorem dX10_stepTo_50 : decode cX10_stepTo 50 = .ok (.istore 4, 2) := by decide +kernel
theorem dX10_stepTo_52 : decode cX10_stepTo 52 = .ok (.iload 4, 2) := by decide +kernel
theorem dX10_stepTo_54 : decode cX10_stepTo 54 = .ok (.bipush 126, 2) := by decide +kernel
theorem dX10_stepTo_56 : decode cX10_stepTo 56 = .ok (.if_icmp .eq 10, 3) := by decide +kernel
theorem dX10_stepTo_59 : decode cX10_stepTo 59 = .ok (.iload 4, 2) := by decide +kernel
theorem dX10_stepTo_61 : decode cX10_stepTo 61 = .ok (.bipush 47, 2) := by decide +kernel
theorem dX10_stepTo_63 : decode cX10_stepTo 63 = .ok (.if_icmp .ne 30, 3) := by decide +kernel
theorem dX10_stepTo_66 : decode cX10_stepTo 66 = .ok (.aload_n 2, 1) := by decide +kernel
theorem dX10_stepTo_67 : decode cX10_stepTo 67 = .ok (.bipush 126, 2) := by decide +kernel
theorem dX10_stepTo_69 : decode cX10_stepTo 69 = .ok (.invokevirtual 145, 3) := by decide +kernel
theorem dX10_stepTo_72 : decode cX10_stepTo 72 = .ok (.aload_n 2, 1) := by decide +kernel
theorem dX10_stepTo_73 : decode cX10_stepTo 73 = .ok (.iload 4, 2) := by decide +kernel
theorem dX10_stepTo_75 : decode cX10_stepTo 75 = .ok (.bipush 126, 2) := by decide +kernel
theorem dX10_stepTo_77 : decode cX10_stepTo 77 = .ok (.if_icmp .ne 8, 3) := by decide +kernel
theorem dX10_stepTo_80 : decode cX10_stepTo 80 = .ok (.bipush 48, 2) := by decide +kernel
theorem dX10_stepTo_82 : decode cX10_stepTo 82 = .ok (.goto 5, 3) := by decide +kernel
theorem dX10_stepTo_85 : decode cX10_stepTo 85 = .ok (.bipush 49, 2) := by decide +kernel
theorem dX10_stepTo_87 : decode cX10_stepTo 87 = .ok (.invokevirtual 145, 3) := by decide +kernel
theorem dX10_stepTo_90 : decode cX10_stepTo 90 = .ok (.goto 9, 3) := by decide +kernel
theorem dX10_stepTo_93 : decode cX10_stepTo 93 = .ok (.aload_n 2, 1) := by decide +kernel
theorem dX10_stepTo_94 : decode cX10_stepTo 94 = .ok (.iload 4, 2) := by decide +kernel
theorem dX10_stepTo_96 : decode cX10_stepTo 96 = .ok (.invokevirtual 145, 3) := by decide +kernel
theorem dX10_stepTo_99 : decode cX10_stepTo 99 = .ok (.iinc 3 1, 3) := by decide +kernel
theorem dX10_stepTo_102 : decode cX10_stepTo 102 = .ok (.goto (-67), 3) := by decide +kernel
theorem dX10_stepTo_105 : decode cX10_stepTo 105 = .ok (.return_, 1) := by decide +kernel
theorem dX10_add_0 : decode cX10_add 0 = .ok (.aload_n 0, 1) := by decide +kernel
theorem dX10_add_1 : decode cX10_add 1 = .ok (.getfield 34, 3) := by decide +kernel
theorem dX10_add_4 : decode cX10_add 4 = .ok (.ifCond .lt 12, 3) := by decide +kernel
theorem dX10_add_7 : decode cX10_add 7 = .ok (.aload_n 0, 1) := by decide +kernel
theorem dX10_add_8 : decode cX10_add 8 = .ok (.getfield 34, 3) := by decide +kernel
theorem dX10_add_11 : decode cX10_add 11 = .ok (.bipush 100, 2) := by decide +kernel
theorem dX10_add_13 : decode cX10_add 13 = .ok (.if_icmp .lt 10, 3) := by decide +kernel
theorem dX10_add_16 : decode cX10_add 16 = .ok (.aload_n 0, 1) := by decide +kernel
theorem dX10_add_17 : decode cX10_add 17 = .ok (.iconst 1, 1) := by decide +kernel
theorem dX10_add_18 : decode cX10_add 18 = .ok (.putfield 38, 3) := by decide +kernel
theorem dX10_add_21 : decode cX10_add 21 = .ok (.iconst (-1), 1) := by decide +kernel
theorem dX10_add_22 : decode cX10_add 22 = .ok (.ireturn, 1) := by decide +kernel
theorem dX10_add_23 : decode cX10_add 23 = .ok (.aload_n 0, 1) := by decide +kernel
theorem dX10_add_24 : decode cX10_add 24 = .ok (.getfield 9, 3) := by decide +kernel
theorem dX10_add_27 : decode cX10_add 27 = .ok (.aload_n 0, 1) := by decide +kernel
theorem dX10_add_28 : decode cX10_add 28 = .ok (.getfield 34, 3) := by decide +kernel
theorem dX10_add_31 : decode cX10_add 31 = .ok (.iload_n 1, 1) := by decide +kernel
theorem dX10_add_32 : decode cX10_add 32 = .ok (.iastore, 1) := by decide +kernel
theorem dX10_add_33 : decode cX10_add 33 = .ok (.aload_n 0, 1) := by decide +kernel
theorem dX10_add_34 : decode cX10_add 34 = .ok (.getfield 15, 3) := by decide +kernel
theorem dX10_add_37 : decode cX10_add 37 = .ok (.aload_n 0, 1) := by decide +kernel
theorem dX10_add_38 : decode cX10_add 38 = .ok (.getfield 34, 3) := by decide +kernel
theorem dX10_add_41 : decode cX10_add 41 = .ok (.iconst 1, 1) := by decide +kernel
theorem dX10_add_42 : decode cX10_add 42 = .ok (.iastore, 1) := by decide +kernel
theorem dX10_add_43 : decode cX10_add 43 = .ok (.aload_n 0, 1) := by decide +kernel
theorem dX10_add_44 : decode cX10_add 44 = .ok (.getfield 18, 3) := by decide +kernel
theorem dX10_add_47 : decode cX10_add 47 = .ok (.aload_n 0, 1) := by decide +kernel
theorem dX10_add_48 : decode cX10_add 48 = .ok (.getfield 34, 3) := by decide +kernel
theorem dX10_add_51 : decode cX10_add 51 = .ok (.iconst 0, 1) := by decide +kernel
theorem dX10_add_52 : decode cX10_add 52 = .ok (.iastore, 1) := by decide +kernel
theorem dX10_add_53 : decode cX10_add 53 = .ok (.aload_n 0, 1) := by decide +kernel
theorem dX10_add_54 : decode cX10_add 54 = .ok (.getfield 21, 3) := by decide +kernel
theorem dX10_add_57 : decode cX10_add 57 = .ok (.aload_n 0, 1) := by decide +kernel
theorem dX10_add_58 : decode cX10_add 58 = .ok (.getfield 34, 3) := by decide +kernel
theorem dX10_add_61 : decode cX10_add 61 = .ok (.iconst 0, 1) := by decide +kernel
theorem dX10_add_62 : decode cX10_add 62 = .ok (.iastore, 1) := by decide +kernel
theorem dX10_add_63 : decode cX10_add 63 = .ok (.aload_n 0, 1) := by decide +kernel
theorem dX10_add_64 : decode cX10_add 64 = .ok (.getfield 28, 3) := by decide +kernel
theorem dX10_add_67 : decode cX10_add 67 = .ok (.aload_n 0, 1) := by decide +kernel
theorem dX10_add_68 : decode cX10_add 68 = .ok (.getfield 34, 3) := by decide +kernel
theorem dX10_add_71 : decode cX10_add 71 = .ok (.iconst 0, 1) := by decide +kernel
theorem dX10_add_72 : decode cX10_add 72 = .ok (.iastore, 1) := by decide +kernel
theorem dX10_add_73 : decode cX10_add 73 = .ok (.aload_n 0, 1) := by decide +kernel
theorem dX10_add_74 : decode cX10_add 74 = .ok (.dup, 1) := by decide +kernel
theorem dX10_add_75 : decode cX10_add 75 = .ok (.getfield 34, 3) := by decide +kernel
theorem dX10_add_78 : decode cX10_add 78 = .ok (.iconst 1, 1) := by decide +kernel
theorem dX10_add_79 : decode cX10_add 79 = .ok (.iadd, 1) := by decide +kernel
theorem dX10_add_80 : decode cX10_add 80 = .ok (.putfield 34, 3) := by decide +kernel
theorem dX10_add_83 : decode cX10_add 83 = .ok (.aload_n 0, 1) := by decide +kernel
theorem dX10_add_84 : decode cX10_add 84 = .ok (.getfield 34, 3) := by decide +kernel
theorem dX10_add_87 : decode cX10_add 87 = .ok (.iconst 1, 1) := by decide +kernel
theorem dX10_add_88 : decode cX10_add 88 = .ok (.isub, 1) := by decide +kernel
theorem dX10_add_89 : decode cX10_add 89 = .ok (.ireturn, 1) := by decide +kernel
theorem dX10_addTruth_0 : decode cX10_addTruth 0 = .ok (.aload_n 0, 1) := by decide +kernel
theorem dX10_addTruth_1 : decode cX10_addTruth 1 = .ok (.iconst 1, 1) := by decide +kernel
theorem dX10_addTruth_2 : decode cX10_addTruth 2 = .ok (.invokevirtual 194, 3) := by decide +kernel
theorem dX10_addTruth_5 : decode cX10_addTruth 5 = .ok (.istore_n 2, 1) := by decide +kernel
theorem dX10_addTruth_6 : decode cX10_addTruth 6 = .ok (.aload_n 0, 1) := by decide +kernel
theorem dX10_addTruth_7 : decode cX10_addTruth 7 = .ok (.iload_n 2, 1) := by decide +kernel
theorem dX10_addTruth_8 : decode cX10_addTruth 8 = .ok (.invokevirtual 105, 3) := by decide +kernel
theorem dX10_addTruth_11 : decode cX10_addTruth 11 = .ok (.ifCond .eq 14, 3) := by decide +kernel
theorem dX10_addTruth_14 : decode cX10_addTruth 14 = .ok (.iload_n 1, 1) := by decide +kernel
theorem dX10_addTruth_15 : decode cX10_addTruth 15 = .ok (.ifCond .eq 10, 3) := by decide +kernel
theorem dX10_addTruth_18 : decode cX10_addTruth 18 = .ok (.aload_n 0, 1) := by decide +kernel
theorem dX10_addTruth_19 : decode cX10_addTruth 19 = .ok (.getfield 18, 3) := by decide +kernel
theorem dX10_addTruth_22 : decode cX10_addTruth 22 = .ok (.iload_n 2, 1) := by decide +kernel
theorem dX10_addTruth_23 : decode cX10_addTruth 23 = .ok (.iconst 1, 1) := by decide +kernel
theorem dX10_addTruth_24 : decode cX10_addTruth 24 = .ok (.iastore, 1) := by decide +kernel
theorem dX10_addTruth_25 : decode cX10_addTruth 25 = .ok (.iload_n 2, 1) := by decide +kernel
theorem dX10_addTruth_26 : decode cX10_addTruth 26 = .ok (.ireturn, 1) := by decide +kernel
theorem dX10_close_0 : decode cX10_close 0 = .ok (.aload_n 0, 1) := by decide +kernel
theorem dX10_close_1 : decode cX10_close 1 = .ok (.iload_n 1, 1) := by decide +kernel
theorem dX10_close_2 : decode cX10_close 2 = .ok (.invokevirtual 105, 3) := by decide +kernel
theorem dX10_close_5 : decode cX10_close 5 = .ok (.ifCond .eq 15, 3) := by decide +kernel
theorem dX10_close_8 : decode cX10_close 8 = .ok (.aload_n 0, 1) := by decide +kernel
theorem dX10_close_9 : decode cX10_close 9 = .ok (.getfield 15, 3) := by decide +kernel
theorem dX10_close_12 : decode cX10_close 12 = .ok (.iload_n 1, 1) := by decide +kernel
theorem dX10_close_13 : decode cX10_close 13 = .ok (.aload_n 0, 1) := by decide +kernel
theorem dX10_close_14 : decode cX10_close 14 = .ok (.getfield 34, 3) := by decide +kernel
theorem dX10_close_17 : decode cX10_close 17 = .ok (.iload_n 1, 1) := by decide +kernel
theorem dX10_close_18 : decode cX10_close 18 = .ok (.isub, 1) := by decide +kernel
theorem dX10_close_19 : decode cX10_close 19 = .ok (.iastore, 1) := by decide +kernel
theorem dX10_close_20 : decode cX10_close 20 = .ok (.return_, 1) := by decide +kernel
theorem dX10_dropFrom_0 : decode cX10_dropFrom 0 = .ok (.aload_n 0, 1) := by decide +kernel
theorem dX10_dropFrom_1 : decode cX10_dropFrom 1 = .ok (.iload_n 1, 1) := by decide +kernel
theorem dX10_dropFrom_2 : decode cX10_dropFrom 2 = .ok (.invokevirtual 105, 3) := by decide +kernel
theorem dX10_dropFrom_5 : decode cX10_dropFrom 5 = .ok (.ifCond .eq 8, 3) := by decide +kernel
theorem dX10_dropFrom_8 : decode cX10_dropFrom 8 = .ok (.aload_n 0, 1) := by decide +kernel
theorem dX10_dropFrom_9 : decode cX10_dropFrom 9 = .ok (.iload_n 1, 1) := by decide +kernel
theorem dX10_dropFrom_10 : decode cX10_dropFrom 10 = .ok (.putfield 34, 3) := by decide +kernel
theorem dX10_dropFrom_13 : decode cX10_dropFrom 13 = .ok (.return_, 1) := by decide +kernel
theorem dX10_append_0 : decode cX10_append 0 = .ok (.aload_n 1, 1) := by decide +kernel
theorem dX10_append_1 : decode cX10_append 1 = .ok (.iload_n 2, 1) := by decide +kernel
theorem dX10_append_2 : decode cX10_append 2 = .ok (.invokevirtual 81, 3) := by decide +kernel
theorem dX10_append_5 : decode cX10_append 5 = .ok (.istore_n 3, 1) := by decide +kernel
theorem dX10_append_6 : decode cX10_append 6 = .ok (.aload_n 1, 1) := by decide +kernel
theorem dX10_append_7 : decode cX10_append 7 = .ok (.invokevirtual 196, 3) := by decide +kernel
theorem dX10_append_10 : decode cX10_append 10 = .ok (.ifCond .ne 19, 3) := by decide +kernel
theorem dX10_append_13 : decode cX10_append 13 = .ok (.iload_n 3, 1) := by decide +kernel
theorem dX10_append_14 : decode cX10_append 14 = .ok (.iconst 1, 1) := by decide +kernel
theorem dX10_append_15 : decode cX10_append 15 = .ok (.if_icmp .lt 14, 3) := by decide +kernel
theorem dX10_append_18 : decode cX10_append 18 = .ok (.aload_n 0, 1) := by decide +kernel
theorem dX10_append_19 : decode cX10_append 19 = .ok (.getfield 34, 3) := by decide +kernel
theorem dX10_append_22 : decode cX10_append 22 = .ok (.iload_n 3, 1) := by decide +kernel
theorem dX10_append_23 : decode cX10_append 23 = .ok (.iadd, 1) := by decide +kernel
theorem dX10_append_24 : decode cX10_append 24 = .ok (.bipush 100, 2) := by decide +kernel
theorem dX10_append_26 : decode cX10_append 26 = .ok (.if_icmp .le 10, 3) := by decide +kernel
theorem dX10_append_29 : decode cX10_append 29 = .ok (.aload_n 0, 1) := by decide +kernel
theorem dX10_append_30 : decode cX10_append 30 = .ok (.iconst 1, 1) := by decide +kernel
theorem dX10_append_31 : decode cX10_append 31 = .ok (.putfield 38, 3) := by decide +kernel
theorem dX10_append_34 : decode cX10_append 34 = .ok (.iconst (-1), 1) := by decide +kernel
theorem dX10_append_35 : decode cX10_append 35 = .ok (.ireturn, 1) := by decide +kernel
theorem dX10_append_36 : decode cX10_append 36 = .ok (.aload_n 0, 1) := by decide +kernel
theorem dX10_append_37 : decode cX10_append 37 = .ok (.aload_n 0, 1) := by decide +kernel
theorem dX10_append_38 : decode cX10_append 38 = .ok (.getfield 34, 3) := by decide +kernel
theorem dX10_append_41 : decode cX10_append 41 = .ok (.aload_n 1, 1) := by decide +kernel
theorem dX10_append_42 : decode cX10_append 42 = .ok (.iload_n 2, 1) := by decide +kernel
theorem dX10_append_43 : decode cX10_append 43 = .ok (.iload_n 3, 1) := by decide +kernel
theorem dX10_append_44 : decode cX10_append 44 = .ok (.invokevirtual 200, 3) := by decide +kernel
theorem dX10_append_47 : decode cX10_append 47 = .ok (.aload_n 0, 1) := by decide +kernel
theorem dX10_append_48 : decode cX10_append 48 = .ok (.dup, 1) := by decide +kernel
theorem dX10_append_49 : decode cX10_append 49 = .ok (.getfield 34, 3) := by decide +kernel
theorem dX10_append_52 : decode cX10_append 52 = .ok (.iload_n 3, 1) := by decide +kernel
theorem dX10_append_53 : decode cX10_append 53 = .ok (.iadd, 1) := by decide +kernel
theorem dX10_append_54 : decode cX10_append 54 = .ok (.putfield 34, 3) := by decide +kernel
theorem dX10_append_57 : decode cX10_append 57 = .ok (.aload_n 0, 1) := by decide +kernel
theorem dX10_append_58 : decode cX10_append 58 = .ok (.getfield 34, 3) := by decide +kernel
theorem dX10_append_61 : decode cX10_append 61 = .ok (.iload_n 3, 1) := by decide +kernel
theorem dX10_append_62 : decode cX10_append 62 = .ok (.isub, 1) := by decide +kernel
theorem dX10_append_63 : decode cX10_append 63 = .ok (.ireturn, 1) := by decide +kernel
theorem dX10_copyOf_0 : decode cX10_copyOf 0 = .ok (.aload_n 0, 1) := by decide +kernel
theorem dX10_copyOf_1 : decode cX10_copyOf 1 = .ok (.invokevirtual 204, 3) := by decide +kernel
theorem dX10_copyOf_4 : decode cX10_copyOf 4 = .ok (.aload_n 0, 1) := by decide +kernel
theorem dX10_copyOf_5 : decode cX10_copyOf 5 = .ok (.aload_n 1, 1) := by decide +kernel
theorem dX10_copyOf_6 : decode cX10_copyOf 6 = .ok (.iload_n 2, 1) := by decide +kernel
theorem dX10_copyOf_7 : decode cX10_copyOf 7 = .ok (.invokevirtual 207, 3) := by decide +kernel
theorem dX10_copyOf_10 : decode cX10_copyOf 10 = .ok (.pop, 1) := by decide +kernel
theorem dX10_copyOf_11 : decode cX10_copyOf 11 = .ok (.aload_n 0, 1) := by decide +kernel
theorem dX10_copyOf_12 : decode cX10_copyOf 12 = .ok (.iconst 0, 1) := by decide +kernel
theorem dX10_copyOf_13 : decode cX10_copyOf 13 = .ok (.invokevirtual 156, 3) := by decide +kernel
theorem dX10_copyOf_16 : decode cX10_copyOf 16 = .ok (.return_, 1) := by decide +kernel
theorem dX10_appendInOrder_0 : decode cX10_appendInOrder 0 = .ok (.aload_n 1, 1) := by decide +kernel
theorem dX10_appendInOrder_1 : decode cX10_appendInOrder 1 = .ok (.iload_n 2, 1) := by decide +kernel
theorem dX10_appendInOrder_2 : decode cX10_appendInOrder 2 = .ok (.invokevirtual 105, 3) := by decide +kernel
theorem dX10_appendInOrder_5 : decode cX10_appendInOrder 5 = .ok (.ifCond .eq 18, 3) := by decide +kernel
theorem dX10_appendInOrder_8 : decode cX10_appendInOrder 8 = .ok (.aload_n 0, 1) := by decide +kernel
theorem dX10_appendInOrder_9 : decode cX10_appendInOrder 9 = .ok (.getfield 34, 3) := by decide +kernel
theorem dX10_appendInOrder_12 : decode cX10_appendInOrder 12 = .ok (.bipush 100, 2) := by decide +kernel
theorem dX10_appendInOrder_14 : decode cX10_appendInOrder 14 = .ok (.if_icmp .ge 9, 3) := by decide +kernel
theorem dX10_appendInOrder_17 : decode cX10_appendInOrder 17 = .ok (.iload_n 3, 1) := by decide +kernel
theorem dX10_appendInOrder_18 : decode cX10_appendInOrder 18 = .ok (.bipush 12, 2) := by decide +kernel
theorem dX10_appendInOrder_20 : decode cX10_appendInOrder 20 = .ok (.if_icmp .le 9, 3) := by decide +kernel
theorem dX10_appendInOrder_23 : decode cX10_appendInOrder 23 = .ok (.aload_n 0, 1) := by decide +kernel
theorem dX10_appendInOrder_24 : decode cX10_appendInOrder 24 = .ok (.iconst 1, 1) := by decide +kernel
theorem dX10_appendInOrder_25 : decode cX10_appendInOrder 25 = .ok (.putfield 38, 3) := by decide +kernel
theorem dX10_appendInOrder_28 : decode cX10_appendInOrder 28 = .ok (.return_, 1) := by decide +kernel
theorem dX10_appendInOrder_29 : decode cX10_appendInOrder 29 = .ok (.aload_n 0, 1) := by decide +kernel
theorem dX10_appendInOrder_30 : decode cX10_appendInOrder 30 = .ok (.getfield 34, 3) := by decide +kernel
theorem dX10_appendInOrder_33 : decode cX10_appendInOrder 33 = .ok (.istore 4, 2) := by decide +kernel
theorem dX10_appendInOrder_35 : decode cX10_appendInOrder 35 = .ok (.aload_n 0, 1) := by decide +kernel
theorem dX10_appendInOrder_36 : decode cX10_appendInOrder 36 = .ok (.iload 4, 2) := by decide +kernel
theorem dX10_appendInOrder_38 : decode cX10_appendInOrder 38 = .ok (.aload_n 1, 1) := by decide +kernel
theorem dX10_appendInOrder_39 : decode cX10_appendInOrder 39 = .ok (.iload_n 2, 1) := by decide +kernel
theorem dX10_appendInOrder_40 : decode cX10_appendInOrder 40 = .ok (.iconst 1, 1) := by decide +kernel
theorem dX10_appendInOrder_41 : decode cX10_appendInOrder 41 = .ok (.invokevirtual 200, 3) := by decide +kernel
theorem dX10_appendInOrder_44 : decode cX10_appendInOrder 44 = .ok (.aload_n 0, 1) := by decide +kernel
theorem dX10_appendInOrder_45 : decode cX10_appendInOrder 45 = .ok (.dup, 1) := by decide +kernel
theorem dX10_appendInOrder_46 : decode cX10_appendInOrder 46 = .ok (.getfield 34, 3) := by decide +kernel
theorem dX10_appendInOrder_49 : decode cX10_appendInOrder 49 = .ok (.iconst 1, 1) := by decide +kernel
theorem dX10_appendInOrder_50 : decode cX10_appendInOrder 50 = .ok (.iadd, 1) := by decide +kernel
theorem dX10_appendInOrder_51 : decode cX10_appendInOrder 51 = .ok (.putfield 34, 3) := by decide +kernel
theorem dX10_appendInOrder_54 : decode cX10_appendInOrder 54 = .ok (.aload_n 1, 1) := by decide +kernel
theorem dX10_appendInOrder_55 : decode cX10_appendInOrder 55 = .ok (.iload_n 2, 1) := by decide +kernel
theorem dX10_appendInOrder_56 : decode cX10_appendInOrder 56 = .ok (.iconst 4, 1) := by decide +kernel
theorem dX10_appendInOrder_57 : decode cX10_appendInOrder 57 = .ok (.invokevirtual 42, 3) := by decide +kernel
theorem dX10_appendInOrder_60 : decode cX10_appendInOrder 60 = .ok (.istore 5, 2) := by decide +kernel
theorem dX10_appendInOrder_62 : decode cX10_appendInOrder 62 = .ok (.iload 5, 2) := by decide +kernel
theorem dX10_appendInOrder_64 : decode cX10_appendInOrder 64 = .ok (.ifCond .eq 11, 3) := by decide +kernel
theorem dX10_appendInOrder_67 : decode cX10_appendInOrder 67 = .ok (.aload_n 1, 1) := by decide +kernel
theorem dX10_appendInOrder_68 : decode cX10_appendInOrder 68 = .ok (.iload_n 2, 1) := by decide +kernel
theorem dX10_appendInOrder_69 : decode cX10_appendInOrder 69 = .ok (.invokevirtual 52, 3) := by decide +kernel
theorem dX10_appendInOrder_72 : decode cX10_appendInOrder 72 = .ok (.goto 9, 3) := by decide +kernel
theorem dX10_appendInOrder_75 : decode cX10_appendInOrder 75 = .ok (.aload_n 1, 1) := by decide +kernel
theorem dX10_appendInOrder_76 : decode cX10_appendInOrder 76 = .ok (.iload_n 2, 1) := by decide +kernel
theorem dX10_appendInOrder_77 : decode cX10_appendInOrder 77 = .ok (.iconst (-1), 1) := by decide +kernel
theorem dX10_appendInOrder_78 : decode cX10_appendInOrder 78 = .ok (.invokevirtual 211, 3) := by decide +kernel
theorem dX10_appendInOrder_81 : decode cX10_appendInOrder 81 = .ok (.istore 6, 2) := by decide +kernel
theorem dX10_appendInOrder_83 : decode cX10_appendInOrder 83 = .ok (.iconst 0, 1) := by decide +kernel
theorem dX10_appendInOrder_84 : decode cX10_appendInOrder 84 = .ok (.istore 7, 2) := by decide +kernel
theorem dX10_appendInOrder_86 : decode cX10_appendInOrder 86 = .ok (.iload 7, 2) := by decide +kernel
theorem dX10_appendInOrder_88 : decode cX10_appendInOrder 88 = .ok (.bipush 100, 2) := by decide +kernel
theorem dX10_appendInOrder_90 : decode cX10_appendInOrder 90 = .ok (.if_icmp .ge 49, 3) := by decide +kernel
theorem dX10_appendInOrder_93 : decode cX10_appendInOrder 93 = .ok (.iload 6, 2) := by decide +kernel
theorem dX10_appendInOrder_95 : decode cX10_appendInOrder 95 = .ok (.iconst (-1), 1) := by decide +kernel
theorem dX10_appendInOrder_96 : decode cX10_appendInOrder 96 = .ok (.if_icmp .eq 43, 3) := by decide +kernel
theorem dX10_appendInOrder_99 : decode cX10_appendInOrder 99 = .ok (.aload_n 0, 1) := by decide +kernel
theorem dX10_appendInOrder_100 : decode cX10_appendInOrder 100 = .ok (.aload_n 1, 1) := by decide +kernel
theorem dX10_appendInOrder_101 : decode cX10_appendInOrder 101 = .ok (.iload 6, 2) := by decide +kernel
theorem dX10_appendInOrder_103 : decode cX10_appendInOrder 103 = .ok (.iload_n 3, 1) := by decide +kernel
theorem dX10_appendInOrder_104 : decode cX10_appendInOrder 104 = .ok (.iconst 1, 1) := by decide +kernel
theorem dX10_appendInOrder_105 : decode cX10_appendInOrder 105 = .ok (.iadd, 1) := by decide +kernel
theorem dX10_appendInOrder_106 : decode cX10_appendInOrder 106 = .ok (.invokevirtual 214, 3) := by decide +kernel
theorem dX10_appendInOrder_109 : decode cX10_appendInOrder 109 = .ok (.iload 5, 2) := by decide +kernel
theorem dX10_appendInOrder_111 : decode cX10_appendInOrder 111 = .ok (.ifCond .eq 13, 3) := by decide +kernel
theorem dX10_appendInOrder_114 : decode cX10_appendInOrder 114 = .ok (.aload_n 1, 1) := by decide +kernel
theorem dX10_appendInOrder_115 : decode cX10_appendInOrder 115 = .ok (.iload_n 2, 1) := by decide +kernel
theorem dX10_appendInOrder_116 : decode cX10_appendInOrder 116 = .ok (.iload 6, 2) := by decide +kernel
theorem dX10_appendInOrder_118 : decode cX10_appendInOrder 118 = .ok (.invokevirtual 56, 3) := by decide +kernel
theorem dX10_appendInOrder_121 : decode cX10_appendInOrder 121 = .ok (.goto 10, 3) := by decide +kernel
theorem dX10_appendInOrder_124 : decode cX10_appendInOrder 124 = .ok (.aload_n 1, 1) := by decide +kernel
theorem dX10_appendInOrder_125 : decode cX10_appendInOrder 125 = .ok (.iload_n 2, 1) := by decide +kernel
theorem dX10_appendInOrder_126 : decode cX10_appendInOrder 126 = .ok (.iload 6, 2) := by decide +kernel
theorem dX10_appendInOrder_128 : decode cX10_appendInOrder 128 = .ok (.invokevirtual 211, 3) := by decide +kernel
theorem dX10_appendInOrder_131 : decode cX10_appendInOrder 131 = .ok (.istore 6, 2) := by decide +kernel
theorem dX10_appendInOrder_133 : decode cX10_appendInOrder 133 = .ok (.iinc 7 1, 3) := by decide +kernel
theorem dX10_appendInOrder_136 : decode cX10_appendInOrder 136 = .ok (.goto (-50), 3) := by decide +kernel
theorem dX10_appendInOrder_139 : decode cX10_appendInOrder 139 = .ok (.aload_n 0, 1) := by decide +kernel
theorem dX10_appendInOrder_140 : decode cX10_appendInOrder 140 = .ok (.iload 4, 2) := by decide +kernel
theorem dX10_appendInOrder_142 : decode cX10_appendInOrder 142 = .ok (.invokevirtual 218, 3) := by decide +kernel
theorem dX10_appendInOrder_145 : decode cX10_appendInOrder 145 = .ok (.return_, 1) := by decide +kernel
theorem dX10_copyNodes_0 : decode cX10_copyNodes 0 = .ok (.iload_n 1, 1) := by decide +kernel
theorem dX10_copyNodes_1 : decode cX10_copyNodes 1 = .ok (.ifCond .lt 31, 3) := by decide +kernel
theorem dX10_copyNodes_4 : decode cX10_copyNodes 4 = .ok (.iload_n 3, 1) := by decide +kernel
theorem dX10_copyNodes_5 : decode cX10_copyNodes 5 = .ok (.ifCond .lt 27, 3) := by decide +kernel
theorem dX10_copyNodes_8 : decode cX10_copyNodes 8 = .ok (.iload 4, 2) := by decide +kernel
theorem dX10_copyNodes_10 : decode cX10_copyNodes 10 = .ok (.iconst 1, 1) := by decide +kernel
theorem dX10_copyNodes_11 : decode cX10_copyNodes 11 = .ok (.if_icmp .lt 21, 3) := by decide +kernel
theorem dX10_copyNodes_14 : decode cX10_copyNodes 14 = .ok (.iload_n 1, 1) := by decide +kernel
theorem dX10_copyNodes_15 : decode cX10_copyNodes 15 = .ok (.iload 4, 2) := by decide +kernel
theorem dX10_copyNodes_17 : decode cX10_copyNodes 17 = .ok (.iadd, 1) := by decide +kernel
theorem dX10_copyNodes_18 : decode cX10_copyNodes 18 = .ok (.bipush 100, 2) := by decide +kernel
theorem dX10_copyNodes_20 : decode cX10_copyNodes 20 = .ok (.if_icmp .gt 12, 3) := by decide +kernel
theorem dX10_copyNodes_23 : decode cX10_copyNodes 23 = .ok (.iload_n 3, 1) := by decide +kernel
theorem dX10_copyNodes_24 : decode cX10_copyNodes 24 = .ok (.iload 4, 2) := by decide +kernel
theorem dX10_copyNodes_26 : decode cX10_copyNodes 26 = .ok (.iadd, 1) := by decide +kernel
theorem dX10_copyNodes_27 : decode cX10_copyNodes 27 = .ok (.bipush 100, 2) := by decide +kernel
theorem dX10_copyNodes_29 : decode cX10_copyNodes 29 = .ok (.if_icmp .le 4, 3) := by decide +kernel
theorem dX10_copyNodes_32 : decode cX10_copyNodes 32 = .ok (.return_, 1) := by decide +kernel
theorem dX10_copyNodes_33 : decode cX10_copyNodes 33 = .ok (.aload_n 2, 1) := by decide +kernel
theorem dX10_copyNodes_34 : decode cX10_copyNodes 34 = .ok (.getfield 9, 3) := by decide +kernel
theorem dX10_copyNodes_37 : decode cX10_copyNodes 37 = .ok (.iload_n 3, 1) := by decide +kernel
theorem dX10_copyNodes_38 : decode cX10_copyNodes 38 = .ok (.aload_n 0, 1) := by decide +kernel
theorem dX10_copyNodes_39 : decode cX10_copyNodes 39 = .ok (.getfield 9, 3) := by decide +kernel
theorem dX10_copyNodes_42 : decode cX10_copyNodes 42 = .ok (.iload_n 1, 1) := by decide +kernel
theorem dX10_copyNodes_43 : decode cX10_copyNodes 43 = .ok (.iload 4, 2) := by decide +kernel
theorem dX10_copyNodes_45 : decode cX10_copyNodes 45 = .ok (.invokestatic 221, 3) := by decide +kernel
theorem dX10_copyNodes_48 : decode cX10_copyNodes 48 = .ok (.aload_n 2, 1) := by decide +kernel
theorem dX10_copyNodes_49 : decode cX10_copyNodes 49 = .ok (.getfield 15, 3) := by decide +kernel
theorem dX10_copyNodes_52 : decode cX10_copyNodes 52 = .ok (.iload_n 3, 1) := by decide +kernel
theorem dX10_copyNodes_53 : decode cX10_copyNodes 53 = .ok (.aload_n 0, 1) := by decide +kernel
theorem dX10_copyNodes_54 : decode cX10_copyNodes 54 = .ok (.getfield 15, 3) := by decide +kernel
theorem dX10_copyNodes_57 : decode cX10_copyNodes 57 = .ok (.iload_n 1, 1) := by decide +kernel
theorem dX10_copyNodes_58 : decode cX10_copyNodes 58 = .ok (.iload 4, 2) := by decide +kernel
theorem dX10_copyNodes_60 : decode cX10_copyNodes 60 = .ok (.invokestatic 221, 3) := by decide +kernel
theorem dX10_copyNodes_63 : decode cX10_copyNodes 63 = .ok (.aload_n 2, 1) := by decide +kernel
theorem dX10_copyNodes_64 : decode cX10_copyNodes 64 = .ok (.getfield 18, 3) := by decide +kernel
theorem dX10_copyNodes_67 : decode cX10_copyNodes 67 = .ok (.iload_n 3, 1) := by decide +kernel
theorem dX10_copyNodes_68 : decode cX10_copyNodes 68 = .ok (.aload_n 0, 1) := by decide +kernel
theorem dX10_copyNodes_69 : decode cX10_copyNodes 69 = .ok (.getfield 18, 3) := by decide +kernel
theorem dX10_copyNodes_72 : decode cX10_copyNodes 72 = .ok (.iload_n 1, 1) := by decide +kernel
theorem dX10_copyNodes_73 : decode cX10_copyNodes 73 = .ok (.iload 4, 2) := by decide +kernel
theorem dX10_copyNodes_75 : decode cX10_copyNodes 75 = .ok (.invokestatic 221, 3) := by decide +kernel
theorem dX10_copyNodes_78 : decode cX10_copyNodes 78 = .ok (.aload_n 2, 1) := by decide +kernel
theorem dX10_copyNodes_79 : decode cX10_copyNodes 79 = .ok (.getfield 21, 3) := by decide +kernel
theorem dX10_copyNodes_82 : decode cX10_copyNodes 82 = .ok (.iload_n 3, 1) := by decide +kernel
theorem dX10_copyNodes_83 : decode cX10_copyNodes 83 = .ok (.aload_n 0, 1) := by decide +kernel
theorem dX10_copyNodes_84 : decode cX10_copyNodes 84 = .ok (.getfield 21, 3) := by decide +kernel
theorem dX10_copyNodes_87 : decode cX10_copyNodes 87 = .ok (.iload_n 1, 1) := by decide +kernel
theorem dX10_copyNodes_88 : decode cX10_copyNodes 88 = .ok (.iload 4, 2) := by decide +kernel
theorem dX10_copyNodes_90 : decode cX10_copyNodes 90 = .ok (.invokestatic 221, 3) := by decide +kernel
theorem dX10_copyNodes_93 : decode cX10_copyNodes 93 = .ok (.aload_n 2, 1) := by decide +kernel
theorem dX10_copyNodes_94 : decode cX10_copyNodes 94 = .ok (.getfield 24, 3) := by decide +kernel
theorem dX10_copyNodes_97 : decode cX10_copyNodes 97 = .ok (.iload_n 3, 1) := by decide +kernel
theorem dX10_copyNodes_98 : decode cX10_copyNodes 98 = .ok (.bipush 40, 2) := by decide +kernel
theorem dX10_copyNodes_100 : decode cX10_copyNodes 100 = .ok (.imul, 1) := by decide +kernel
theorem dX10_copyNodes_101 : decode cX10_copyNodes 101 = .ok (.aload_n 0, 1) := by decide +kernel
theorem dX10_copyNodes_102 : decode cX10_copyNodes 102 = .ok (.getfield 24, 3) := by decide +kernel
theorem dX10_copyNodes_105 : decode cX10_copyNodes 105 = .ok (.iload_n 1, 1) := by decide +kernel
theorem dX10_copyNodes_106 : decode cX10_copyNodes 106 = .ok (.bipush 40, 2) := by decide +kernel
theorem dX10_copyNodes_108 : decode cX10_copyNodes 108 = .ok (.imul, 1) := by decide +kernel
theorem dX10_copyNodes_109 : decode cX10_copyNodes 109 = .ok (.iload 4, 2) := by decide +kernel
theorem dX10_copyNodes_111 : decode cX10_copyNodes 111 = .ok (.bipush 40, 2) := by decide +kernel
theorem dX10_copyNodes_113 : decode cX10_copyNodes 113 = .ok (.imul, 1) := by decide +kernel
theorem dX10_copyNodes_114 : decode cX10_copyNodes 114 = .ok (.invokestatic 221, 3) := by decide +kernel
theorem dX10_copyNodes_117 : decode cX10_copyNodes 117 = .ok (.aload_n 2, 1) := by decide +kernel
theorem dX10_copyNodes_118 : decode cX10_copyNodes 118 = .ok (.getfield 28, 3) := by decide +kernel
theorem dX10_copyNodes_121 : decode cX10_copyNodes 121 = .ok (.iload_n 3, 1) := by decide +kernel
theorem dX10_copyNodes_122 : decode cX10_copyNodes 122 = .ok (.aload_n 0, 1) := by decide +kernel
theorem dX10_copyNodes_123 : decode cX10_copyNodes 123 = .ok (.getfield 28, 3) := by decide +kernel
theorem dX10_copyNodes_126 : decode cX10_copyNodes 126 = .ok (.iload_n 1, 1) := by decide +kernel
theorem dX10_copyNodes_127 : decode cX10_copyNodes 127 = .ok (.iload 4, 2) := by decide +kernel
theorem dX10_copyNodes_129 : decode cX10_copyNodes 129 = .ok (.invokestatic 221, 3) := by decide +kernel
theorem dX10_copyNodes_132 : decode cX10_copyNodes 132 = .ok (.aload_n 2, 1) := by decide +kernel
theorem dX10_copyNodes_133 : decode cX10_copyNodes 133 = .ok (.getfield 31, 3) := by decide +kernel
theorem dX10_copyNodes_136 : decode cX10_copyNodes 136 = .ok (.iload_n 3, 1) := by decide +kernel
theorem dX10_copyNodes_137 : decode cX10_copyNodes 137 = .ok (.bipush 12, 2) := by decide +kernel
theorem dX10_copyNodes_139 : decode cX10_copyNodes 139 = .ok (.imul, 1) := by decide +kernel
theorem dX10_copyNodes_140 : decode cX10_copyNodes 140 = .ok (.aload_n 0, 1) := by decide +kernel
theorem dX10_copyNodes_141 : decode cX10_copyNodes 141 = .ok (.getfield 31, 3) := by decide +kernel
theorem dX10_copyNodes_144 : decode cX10_copyNodes 144 = .ok (.iload_n 1, 1) := by decide +kernel
theorem dX10_copyNodes_145 : decode cX10_copyNodes 145 = .ok (.bipush 12, 2) := by decide +kernel
theorem dX10_copyNodes_147 : decode cX10_copyNodes 147 = .ok (.imul, 1) := by decide +kernel
theorem dX10_copyNodes_148 : decode cX10_copyNodes 148 = .ok (.iload 4, 2) := by decide +kernel
theorem dX10_copyNodes_150 : decode cX10_copyNodes 150 = .ok (.bipush 12, 2) := by decide +kernel
theorem dX10_copyNodes_152 : decode cX10_copyNodes 152 = .ok (.imul, 1) := by decide +kernel
theorem dX10_copyNodes_153 : decode cX10_copyNodes 153 = .ok (.invokestatic 221, 3) := by decide +kernel
theorem dX10_copyNodes_156 : decode cX10_copyNodes 156 = .ok (.return_, 1) := by decide +kernel
theorem dX10_splice_0 : decode cX10_splice 0 = .ok (.iload_n 2, 1) := by decide +kernel
theorem dX10_splice_1 : decode cX10_splice 1 = .ok (.iload_n 3, 1) := by decide +kernel
theorem dX10_splice_2 : decode cX10_splice 2 = .ok (.iadd, 1) := by decide +kernel
theorem dX10_splice_3 : decode cX10_splice 3 = .ok (.istore 7, 2) := by decide +kernel
theorem dX10_splice_5 : decode cX10_splice 5 = .ok (.aload_n 0, 1) := by decide +kernel
theorem dX10_splice_6 : decode cX10_splice 6 = .ok (.iload_n 1, 1) := by decide +kernel
theorem dX10_splice_7 : decode cX10_splice 7 = .ok (.invokevirtual 105, 3) := by decide +kernel
theorem dX10_splice_10 : decode cX10_splice 10 = .ok (.ifCond .eq 25, 3) := by decide +kernel
theorem dX10_splice_13 : decode cX10_splice 13 = .ok (.iload_n 2, 1) := by decide +kernel
theorem dX10_splice_14 : decode cX10_splice 14 = .ok (.ifCond .lt 21, 3) := by decide +kernel
theorem dX10_splice_17 : decode cX10_splice 17 = .ok (.iload_n 3, 1) := by decide +kernel
theorem dX10_splice_18 : decode cX10_splice 18 = .ok (.ifCond .lt 17, 3) := by decide +kernel
theorem dX10_splice_21 : decode cX10_splice 21 = .ok (.iload 6, 2) := by decide +kernel
theorem dX10_splice_23 : decode cX10_splice 23 = .ok (.ifCond .lt 12, 3) := by decide +kernel
theorem dX10_splice_26 : decode cX10_splice 26 = .ok (.iload 7, 2) := by decide +kernel
theorem dX10_splice_28 : decode cX10_splice 28 = .ok (.aload_n 0, 1) := by decide +kernel
theorem dX10_splice_29 : decode cX10_splice 29 = .ok (.getfield 34, 3) := by decide +kernel
theorem dX10_splice_32 : decode cX10_splice 32 = .ok (.if_icmp .le 5, 3) := by decide +kernel
theorem dX10_splice_35 : decode cX10_splice 35 = .ok (.iconst 0, 1) := by decide +kernel
theorem dX10_splice_36 : decode cX10_splice 36 = .ok (.ireturn, 1) := by decide +kernel
theorem dX10_splice_37 : decode cX10_splice 37 = .ok (.aload 4, 2) := by decide +kernel
theorem dX10_splice_39 : decode cX10_splice 39 = .ok (.invokevirtual 196, 3) := by decide +kernel
theorem dX10_splice_42 : decode cX10_splice 42 = .ok (.ifCond .ne 17, 3) := by decide +kernel
theorem dX10_splice_45 : decode cX10_splice 45 = .ok (.aload_n 0, 1) := by decide +kernel
theorem dX10_splice_46 : decode cX10_splice 46 = .ok (.getfield 34, 3) := by decide +kernel
theorem dX10_splice_49 : decode cX10_splice 49 = .ok (.iload_n 3, 1) := by decide +kernel
theorem dX10_splice_50 : decode cX10_splice 50 = .ok (.isub, 1) := by decide +kernel
theorem dX10_splice_51 : decode cX10_splice 51 = .ok (.iload 6, 2) := by decide +kernel
theorem dX10_splice_53 : decode cX10_splice 53 = .ok (.iadd, 1) := by decide +kernel
theorem dX10_splice_54 : decode cX10_splice 54 = .ok (.bipush 100, 2) := by decide +kernel
theorem dX10_splice_56 : decode cX10_splice 56 = .ok (.if_icmp .le 10, 3) := by decide +kernel
theorem dX10_splice_59 : decode cX10_splice 59 = .ok (.aload_n 0, 1) := by decide +kernel
theorem dX10_splice_60 : decode cX10_splice 60 = .ok (.iconst 1, 1) := by decide +kernel
theorem dX10_splice_61 : decode cX10_splice 61 = .ok (.putfield 38, 3) := by decide +kernel
theorem dX10_splice_64 : decode cX10_splice 64 = .ok (.iconst 0, 1) := by decide +kernel
theorem dX10_splice_65 : decode cX10_splice 65 = .ok (.ireturn, 1) := by decide +kernel
theorem dX10_splice_66 : decode cX10_splice 66 = .ok (.aload_n 0, 1) := by decide +kernel
theorem dX10_splice_67 : decode cX10_splice 67 = .ok (.iload_n 2, 1) := by decide +kernel
theorem dX10_splice_68 : decode cX10_splice 68 = .ok (.iload 6, 2) := by decide +kernel
theorem dX10_splice_70 : decode cX10_splice 70 = .ok (.iadd, 1) := by decide +kernel
theorem dX10_splice_71 : decode cX10_splice 71 = .ok (.aload_n 0, 1) := by decide +kernel
theorem dX10_splice_72 : decode cX10_splice 72 = .ok (.iload 7, 2) := by decide +kernel
theorem dX10_splice_74 : decode cX10_splice 74 = .ok (.aload_n 0, 1) := by decide +kernel
theorem dX10_splice_75 : decode cX10_splice 75 = .ok (.getfield 34, 3) := by decide +kernel
theorem dX10_splice_78 : decode cX10_splice 78 = .ok (.iload 7, 2) := by decide +kernel
theorem dX10_splice_80 : decode cX10_splice 80 = .ok (.isub, 1) := by decide +kernel
theorem dX10_splice_81 : decode cX10_splice 81 = .ok (.invokevirtual 200, 3) := by decide +kernel
theorem dX10_splice_84 : decode cX10_splice 84 = .ok (.aload_n 0, 1) := by decide +kernel
theorem dX10_splice_85 : decode cX10_splice 85 = .ok (.iload_n 2, 1) := by decide +kernel
theorem dX10_splice_86 : decode cX10_splice 86 = .ok (.aload 4, 2) := by decide +kernel
theorem dX10_splice_88 : decode cX10_splice 88 = .ok (.iload 5, 2) := by decide +kernel
theorem dX10_splice_90 : decode cX10_splice 90 = .ok (.iload 6, 2) := by decide +kernel
theorem dX10_splice_92 : decode cX10_splice 92 = .ok (.invokevirtual 200, 3) := by decide +kernel
theorem dX10_splice_95 : decode cX10_splice 95 = .ok (.aload_n 0, 1) := by decide +kernel
theorem dX10_splice_96 : decode cX10_splice 96 = .ok (.dup, 1) := by decide +kernel
theorem dX10_splice_97 : decode cX10_splice 97 = .ok (.getfield 34, 3) := by decide +kernel
theorem dX10_splice_100 : decode cX10_splice 100 = .ok (.iload 6, 2) := by decide +kernel
theorem dX10_splice_102 : decode cX10_splice 102 = .ok (.iload_n 3, 1) := by decide +kernel
theorem dX10_splice_103 : decode cX10_splice 103 = .ok (.isub, 1) := by decide +kernel
theorem dX10_splice_104 : decode cX10_splice 104 = .ok (.iadd, 1) := by decide +kernel
theorem dX10_splice_105 : decode cX10_splice 105 = .ok (.putfield 34, 3) := by decide +kernel
theorem dX10_splice_108 : decode cX10_splice 108 = .ok (.iconst 0, 1) := by decide +kernel
theorem dX10_splice_109 : decode cX10_splice 109 = .ok (.istore 8, 2) := by decide +kernel
theorem dX10_splice_111 : decode cX10_splice 111 = .ok (.iload 8, 2) := by decide +kernel
theorem dX10_splice_113 : decode cX10_splice 113 = .ok (.iload_n 1, 1) := by decide +kernel
theorem dX10_splice_114 : decode cX10_splice 114 = .ok (.if_icmp .gt 37, 3) := by decide +kernel
theorem dX10_splice_117 : decode cX10_splice 117 = .ok (.iload 8, 2) := by decide +kernel
theorem dX10_splice_119 : decode cX10_splice 119 = .ok (.aload_n 0, 1) := by decide +kernel
theorem dX10_splice_120 : decode cX10_splice 120 = .ok (.getfield 15, 3) := by decide +kernel
theorem dX10_splice_123 : decode cX10_splice 123 = .ok (.iload 8, 2) := by decide +kernel
theorem dX10_splice_125 : decode cX10_splice 125 = .ok (.iaload, 1) := by decide +kernel
theorem dX10_splice_126 : decode cX10_splice 126 = .ok (.iadd, 1) := by decide +kernel
theorem dX10_splice_127 : decode cX10_splice 127 = .ok (.iload_n 1, 1) := by decide +kernel
theorem dX10_splice_128 : decode cX10_splice 128 = .ok (.if_icmp .le 17, 3) := by decide +kernel
theorem dX10_splice_131 : decode cX10_splice 131 = .ok (.aload_n 0, 1) := by decide +kernel
theorem dX10_splice_132 : decode cX10_splice 132 = .ok (.getfield 15, 3) := by decide +kernel
theorem dX10_splice_135 : decode cX10_splice 135 = .ok (.iload 8, 2) := by decide +kernel
theorem dX10_splice_137 : decode cX10_splice 137 = .ok (.dup2, 1) := by decide +kernel
theorem dX10_splice_138 : decode cX10_splice 138 = .ok (.iaload, 1) := by decide +kernel
theorem dX10_splice_139 : decode cX10_splice 139 = .ok (.iload 6, 2) := by decide +kernel
theorem dX10_splice_141 : decode cX10_splice 141 = .ok (.iload_n 3, 1) := by decide +kernel
theorem dX10_splice_142 : decode cX10_splice 142 = .ok (.isub, 1) := by decide +kernel
theorem dX10_splice_143 : decode cX10_splice 143 = .ok (.iadd, 1) := by decide +kernel
theorem dX10_splice_144 : decode cX10_splice 144 = .ok (.iastore, 1) := by decide +kernel
theorem dX10_splice_145 : decode cX10_splice 145 = .ok (.iinc 8 1, 3) := by decide +kernel
theorem dX10_splice_148 : decode cX10_splice 148 = .ok (.goto (-37), 3) := by decide +kernel
theorem dX10_splice_151 : decode cX10_splice 151 = .ok (.iconst 1, 1) := by decide +kernel
theorem dX10_splice_152 : decode cX10_splice 152 = .ok (.ireturn, 1) := by decide +kernel
theorem dX10_replace_0 : decode cX10_replace 0 = .ok (.aload_n 0, 1) := by decide +kernel
theorem dX10_replace_1 : decode cX10_replace 1 = .ok (.iload_n 1, 1) := by decide +kernel
theorem dX10_replace_2 : decode cX10_replace 2 = .ok (.invokevirtual 105, 3) := by decide +kernel
theorem dX10_replace_5 : decode cX10_replace 5 = .ok (.ifCond .eq 11, 3) := by decide +kernel
theorem dX10_replace_8 : decode cX10_replace 8 = .ok (.aload_n 2, 1) := by decide +kernel
theorem dX10_replace_9 : decode cX10_replace 9 = .ok (.iload_n 3, 1) := by decide +kernel
theorem dX10_replace_10 : decode cX10_replace 10 = .ok (.invokevirtual 105, 3) := by decide +kernel
theorem dX10_replace_13 : decode cX10_replace 13 = .ok (.ifCond .ne 9, 3) := by decide +kernel
theorem dX10_replace_16 : decode cX10_replace 16 = .ok (.aload_n 0, 1) := by decide +kernel
theorem dX10_replace_17 : decode cX10_replace 17 = .ok (.iconst 1, 1) := by decide +kernel
theorem dX10_replace_18 : decode cX10_replace 18 = .ok (.putfield 38, 3) := by decide +kernel
theorem dX10_replace_21 : decode cX10_replace 21 = .ok (.return_, 1) := by decide +kernel
theorem dX10_replace_22 : decode cX10_replace 22 = .ok (.aload_n 0, 1) := by decide +kernel
theorem dX10_replace_23 : decode cX10_replace 23 = .ok (.iload_n 1, 1) := by decide +kernel
theorem dX10_replace_24 : decode cX10_replace 24 = .ok (.iload_n 1, 1) := by decide +kernel
theorem dX10_replace_25 : decode cX10_replace 25 = .ok (.iconst 1, 1) := by decide +kernel
theorem dX10_replace_26 : decode cX10_replace 26 = .ok (.iadd, 1) := by decide +kernel
theorem dX10_replace_27 : decode cX10_replace 27 = .ok (.aload_n 0, 1) := by decide +kernel
theorem dX10_replace_28 : decode cX10_replace 28 = .ok (.iload_n 1, 1) := by decide +kernel
theorem dX10_replace_29 : decode cX10_replace 29 = .ok (.invokevirtual 81, 3) := by decide +kernel
theorem dX10_replace_32 : decode cX10_replace 32 = .ok (.iconst 1, 1) := by decide +kernel
theorem dX10_replace_33 : decode cX10_replace 33 = .ok (.isub, 1) := by decide +kernel
theorem dX10_replace_34 : decode cX10_replace 34 = .ok (.aload_n 2, 1) := by decide +kernel
theorem dX10_replace_35 : decode cX10_replace 35 = .ok (.iload_n 3, 1) := by decide +kernel
theorem dX10_replace_36 : decode cX10_replace 36 = .ok (.iconst 1, 1) := by decide +kernel
theorem dX10_replace_37 : decode cX10_replace 37 = .ok (.iadd, 1) := by decide +kernel
theorem dX10_replace_38 : decode cX10_replace 38 = .ok (.aload_n 2, 1) := by decide +kernel
theorem dX10_replace_39 : decode cX10_replace 39 = .ok (.iload_n 3, 1) := by decide +kernel
theorem dX10_replace_40 : decode cX10_replace 40 = .ok (.invokevirtual 81, 3) := by decide +kernel
theorem dX10_replace_43 : decode cX10_replace 43 = .ok (.iconst 1, 1) := by decide +kernel
theorem dX10_replace_44 : decode cX10_replace 44 = .ok (.isub, 1) := by decide +kernel
theorem dX10_replace_45 : decode cX10_replace 45 = .ok (.invokevirtual 227, 3) := by decide +kernel
theorem dX10_replace_48 : decode cX10_replace 48 = .ok (.ifCond .eq 60, 3) := by decide +kernel
theorem dX10_replace_51 : decode cX10_replace 51 = .ok (.aload_n 0, 1) := by decide +kernel
theorem dX10_replace_52 : decode cX10_replace 52 = .ok (.getfield 9, 3) := by decide +kernel
theorem dX10_replace_55 : decode cX10_replace 55 = .ok (.iload_n 1, 1) := by decide +kernel
theorem dX10_replace_56 : decode cX10_replace 56 = .ok (.aload_n 2, 1) := by decide +kernel
theorem dX10_replace_57 : decode cX10_replace 57 = .ok (.getfield 9, 3) := by decide +kernel
theorem dX10_replace_60 : decode cX10_replace 60 = .ok (.iload_n 3, 1) := by decide +kernel
theorem dX10_replace_61 : decode cX10_replace 61 = .ok (.iaload, 1) := by decide +kernel
theorem dX10_replace_62 : decode cX10_replace 62 = .ok (.iastore, 1) := by decide +kernel
theorem dX10_replace_63 : decode cX10_replace 63 = .ok (.aload_n 0, 1) := by decide +kernel
theorem dX10_replace_64 : decode cX10_replace 64 = .ok (.getfield 18, 3) := by decide +kernel
theorem dX10_replace_67 : decode cX10_replace 67 = .ok (.iload_n 1, 1) := by decide +kernel
theorem dX10_replace_68 : decode cX10_replace 68 = .ok (.aload_n 2, 1) := by decide +kernel
theorem dX10_replace_69 : decode cX10_replace 69 = .ok (.getfield 18, 3) := by decide +kernel
theorem dX10_replace_72 : decode cX10_replace 72 = .ok (.iload_n 3, 1) := by decide +kernel
theorem dX10_replace_73 : decode cX10_replace 73 = .ok (.iaload, 1) := by decide +kernel
theorem dX10_replace_74 : decode cX10_replace 74 = .ok (.iastore, 1) := by decide +kernel
theorem dX10_replace_75 : decode cX10_replace 75 = .ok (.aload_n 0, 1) := by decide +kernel
theorem dX10_replace_76 : decode cX10_replace 76 = .ok (.getfield 21, 3) := by decide +kernel
theorem dX10_replace_79 : decode cX10_replace 79 = .ok (.iload_n 1, 1) := by decide +kernel
theorem dX10_replace_80 : decode cX10_replace 80 = .ok (.aload_n 2, 1) := by decide +kernel
theorem dX10_replace_81 : decode cX10_replace 81 = .ok (.getfield 21, 3) := by decide +kernel
theorem dX10_replace_84 : decode cX10_replace 84 = .ok (.iload_n 3, 1) := by decide +kernel
theorem dX10_replace_85 : decode cX10_replace 85 = .ok (.iaload, 1) := by decide +kernel
theorem dX10_replace_86 : decode cX10_replace 86 = .ok (.iastore, 1) := by decide +kernel
theorem dX10_replace_87 : decode cX10_replace 87 = .ok (.aload_n 2, 1) := by decide +kernel
theorem dX10_replace_88 : decode cX10_replace 88 = .ok (.getfield 24, 3) := by decide +kernel
theorem dX10_replace_91 : decode cX10_replace 91 = .ok (.iload_n 3, 1) := by decide +kernel
theorem dX10_replace_92 : decode cX10_replace 92 = .ok (.bipush 40, 2) := by decide +kernel
theorem dX10_replace_94 : decode cX10_replace 94 = .ok (.imul, 1) := by decide +kernel
theorem dX10_replace_95 : decode cX10_replace 95 = .ok (.aload_n 0, 1) := by decide +kernel
theorem dX10_replace_96 : decode cX10_replace 96 = .ok (.getfield 24, 3) := by decide +kernel
theorem dX10_replace_99 : decode cX10_replace 99 = .ok (.iload_n 1, 1) := by decide +kernel
theorem dX10_replace_100 : decode cX10_replace 100 = .ok (.bipush 40, 2) := by decide +kernel
theorem dX10_replace_102 : decode cX10_replace 102 = .ok (.imul, 1) := by decide +kernel
theorem dX10_replace_103 : decode cX10_replace 103 = .ok (.bipush 40, 2) := by decide +kernel
theorem dX10_replace_105 : decode cX10_replace 105 = .ok (.invokestatic 221, 3) := by decide +kernel
theorem dX10_replace_108 : decode cX10_replace 108 = .ok (.return_, 1) := by decide +kernel
theorem dX10_insert_0 : decode cX10_insert 0 = .ok (.aload_n 0, 1) := by decide +kernel
theorem dX10_insert_1 : decode cX10_insert 1 = .ok (.iload_n 1, 1) := by decide +kernel
theorem dX10_insert_2 : decode cX10_insert 2 = .ok (.iload_n 2, 1) := by decide +kernel
theorem dX10_insert_3 : decode cX10_insert 3 = .ok (.iconst 0, 1) := by decide +kernel
theorem dX10_insert_4 : decode cX10_insert 4 = .ok (.aload_n 3, 1) := by decide +kernel
theorem dX10_insert_5 : decode cX10_insert 5 = .ok (.iload 4, 2) := by decide +kernel
theorem dX10_insert_7 : decode cX10_insert 7 = .ok (.aload_n 3, 1) := by decide +kernel
theorem dX10_insert_8 : decode cX10_insert 8 = .ok (.iload 4, 2) := by decide +kernel
theorem dX10_insert_10 : decode cX10_insert 10 = .ok (.invokevirtual 81, 3) := by decide +kernel
theorem dX10_insert_13 : decode cX10_insert 13 = .ok (.invokevirtual 227, 3) := by decide +kernel
theorem dX10_insert_16 : decode cX10_insert 16 = .ok (.pop, 1) := by decide +kernel
theorem dX10_insert_17 : decode cX10_insert 17 = .ok (.return_, 1) := by decide +kernel
theorem dX10_remove_0 : decode cX10_remove 0 = .ok (.aload_n 0, 1) := by decide +kernel
theorem dX10_remove_1 : decode cX10_remove 1 = .ok (.aload_n 0, 1) := by decide +kernel
theorem dX10_remove_2 : decode cX10_remove 2 = .ok (.iload_n 1, 1) := by decide +kernel
theorem dX10_remove_3 : decode cX10_remove 3 = .ok (.invokevirtual 72, 3) := by decide +kernel
theorem dX10_remove_6 : decode cX10_remove 6 = .ok (.iload_n 1, 1) := by decide +kernel
theorem dX10_remove_7 : decode cX10_remove 7 = .ok (.aload_n 0, 1) := by decide +kernel
theorem dX10_remove_8 : decode cX10_remove 8 = .ok (.iload_n 1, 1) := by decide +kernel
theorem dX10_remove_9 : decode cX10_remove 9 = .ok (.invokevirtual 81, 3) := by decide +kernel
theorem dX10_remove_12 : decode cX10_remove 12 = .ok (.aload_n 0, 1) := by decide +kernel
theorem dX10_remove_13 : decode cX10_remove 13 = .ok (.iload_n 1, 1) := by decide +kernel
theorem dX10_remove_14 : decode cX10_remove 14 = .ok (.iconst 0, 1) := by decide +kernel
theorem dX10_remove_15 : decode cX10_remove 15 = .ok (.invokevirtual 227, 3) := by decide +kernel
theorem dX10_remove_18 : decode cX10_remove 18 = .ok (.pop, 1) := by decide +kernel
theorem dX10_remove_19 : decode cX10_remove 19 = .ok (.return_, 1) := by decide +kernel
theorem dX10_replaceByLast_0 : decode cX10_replaceByLast 0 = .ok (.aload_n 3, 1) := by decide +kernel
theorem dX10_replaceByLast_1 : decode cX10_replaceByLast 1 = .ok (.aload_n 0, 1) := by decide +kernel
theorem dX10_replaceByLast_2 : decode cX10_replaceByLast 2 = .ok (.iload_n 2, 1) := by decide +kernel
theorem dX10_replaceByLast_3 : decode cX10_replaceByLast 3 = .ok (.invokevirtual 231, 3) := by decide +kernel
theorem dX10_replaceByLast_6 : decode cX10_replaceByLast 6 = .ok (.aload_n 0, 1) := by decide +kernel
theorem dX10_replaceByLast_7 : decode cX10_replaceByLast 7 = .ok (.iload_n 2, 1) := by decide +kernel
theorem dX10_replaceByLast_8 : decode cX10_replaceByLast 8 = .ok (.invokevirtual 235, 3) := by decide +kernel
theorem dX10_replaceByLast_11 : decode cX10_replaceByLast 11 = .ok (.aload_n 0, 1) := by decide +kernel
theorem dX10_replaceByLast_12 : decode cX10_replaceByLast 12 = .ok (.iload_n 1, 1) := by decide +kernel
theorem dX10_replaceByLast_13 : decode cX10_replaceByLast 13 = .ok (.aload_n 3, 1) := by decide +kernel
theorem dX10_replaceByLast_14 : decode cX10_replaceByLast 14 = .ok (.iconst 0, 1) := by decide +kernel
theorem dX10_replaceByLast_15 : decode cX10_replaceByLast 15 = .ok (.invokevirtual 238, 3) := by decide +kernel
theorem dX10_replaceByLast_18 : decode cX10_replaceByLast 18 = .ok (.return_, 1) := by decide +kernel
