theorem dX12_thrown_0 : decode cX12_thrown 0 = .ok (.aload_n 0, 1) := by decide +kernel
theorem dX12_thrown_1 : decode cX12_thrown 1 = .ok (.getfield 1, 3) := by decide +kernel
theorem dX12_thrown_4 : decode cX12_thrown 4 = .ok (.ireturn, 1) := by decide +kernel
theorem dX12_fails_0 : decode cX12_fails 0 = .ok (.aload_n 0, 1) := by decide +kernel
theorem dX12_fails_1 : decode cX12_fails 1 = .ok (.iload_n 1, 1) := by decide +kernel
theorem dX12_fails_2 : decode cX12_fails 2 = .ok (.ifCond .eq 7, 3) := by decide +kernel
theorem dX12_fails_5 : decode cX12_fails 5 = .ok (.iconst 0, 1) := by decide +kernel
theorem dX12_fails_6 : decode cX12_fails 6 = .ok (.goto 4, 3) := by decide +kernel
theorem dX12_fails_9 : decode cX12_fails 9 = .ok (.iload_n 2, 1) := by decide +kernel
theorem dX12_fails_10 : decode cX12_fails 10 = .ok (.putfield 1, 3) := by decide +kernel
theorem dX12_fails_13 : decode cX12_fails 13 = .ok (.iload_n 1, 1) := by decide +kernel
theorem dX12_fails_14 : decode cX12_fails 14 = .ok (.ifCond .ne 7, 3) := by decide +kernel
theorem dX12_fails_17 : decode cX12_fails 17 = .ok (.iconst 1, 1) := by decide +kernel
theorem dX12_fails_18 : decode cX12_fails 18 = .ok (.goto 4, 3) := by decide +kernel
theorem dX12_fails_21 : decode cX12_fails 21 = .ok (.iconst 0, 1) := by decide +kernel
theorem dX12_fails_22 : decode cX12_fails 22 = .ok (.ireturn, 1) := by decide +kernel
theorem dX12_in_0 : decode cX12_in 0 = .ok (.iload_n 0, 1) := by decide +kernel
theorem dX12_in_1 : decode cX12_in 1 = .ok (.iload_n 1, 1) := by decide +kernel
theorem dX12_in_2 : decode cX12_in 2 = .ok (.if_icmp .lt 12, 3) := by decide +kernel
theorem dX12_in_5 : decode cX12_in 5 = .ok (.iload_n 0, 1) := by decide +kernel
theorem dX12_in_6 : decode cX12_in 6 = .ok (.iload_n 2, 1) := by decide +kernel
theorem dX12_in_7 : decode cX12_in 7 = .ok (.if_icmp .gt 7, 3) := by decide +kernel
theorem dX12_in_10 : decode cX12_in 10 = .ok (.iconst 1, 1) := by decide +kernel
theorem dX12_in_11 : decode cX12_in 11 = .ok (.goto 4, 3) := by decide +kernel
theorem dX12_in_14 : decode cX12_in 14 = .ok (.iconst 0, 1) := by decide +kernel
theorem dX12_in_15 : decode cX12_in 15 = .ok (.ireturn, 1) := by decide +kernel
theorem dX12_at_0 : decode cX12_at 0 = .ok (.bipush 101, 2) := by decide +kernel
theorem dX12_at_2 : decode cX12_at 2 = .ok (.iload_n 0, 1) := by decide +kernel
theorem dX12_at_3 : decode cX12_at 3 = .ok (.imul, 1) := by decide +kernel
theorem dX12_at_4 : decode cX12_at 4 = .ok (.iload_n 1, 1) := by decide +kernel
theorem dX12_at_5 : decode cX12_at 5 = .ok (.iadd, 1) := by decide +kernel
theorem dX12_at_6 : decode cX12_at 6 = .ok (.bipush 61, 2) := by decide +kernel
theorem dX12_at_8 : decode cX12_at 8 = .ok (.imul, 1) := by decide +kernel
theorem dX12_at_9 : decode cX12_at 9 = .ok (.ireturn, 1) := by decide +kernel
theorem dX12_kind_0 : decode cX12_kind 0 = .ok (.aload_n 0, 1) := by decide +kernel
theorem dX12_kind_1 : decode cX12_kind 1 = .ok (.getfield 7, 3) := by decide +kernel
theorem dX12_kind_4 : decode cX12_kind 4 = .ok (.iload_n 1, 1) := by decide +kernel
theorem dX12_kind_5 : decode cX12_kind 5 = .ok (.iload_n 2, 1) := by decide +kernel
theorem dX12_kind_6 : decode cX12_kind 6 = .ok (.invokestatic 11, 3) := by decide +kernel
theorem dX12_kind_9 : decode cX12_kind 9 = .ok (.iaload, 1) := by decide +kernel
theorem dX12_kind_10 : decode cX12_kind 10 = .ok (.ireturn, 1) := by decide +kernel
theorem dX12_part_0 : decode cX12_part 0 = .ok (.aload_n 0, 1) := by decide +kernel
theorem dX12_part_1 : decode cX12_part 1 = .ok (.getfield 7, 3) := by decide +kernel
theorem dX12_part_4 : decode cX12_part 4 = .ok (.iload_n 1, 1) := by decide +kernel
theorem dX12_part_5 : decode cX12_part 5 = .ok (.iload_n 2, 1) := by decide +kernel
theorem dX12_part_6 : decode cX12_part 6 = .ok (.invokestatic 11, 3) := by decide +kernel
theorem dX12_part_9 : decode cX12_part 9 = .ok (.iload_n 3, 1) := by decide +kernel
theorem dX12_part_10 : decode cX12_part 10 = .ok (.iadd, 1) := by decide +kernel
theorem dX12_part_11 : decode cX12_part 11 = .ok (.iaload, 1) := by decide +kernel
theorem dX12_part_12 : decode cX12_part 12 = .ok (.ireturn, 1) := by decide +kernel
theorem dX12_isDoc_0 : decode cX12_isDoc 0 = .ok (.iload_n 1, 1) := by decide +kernel
theorem dX12_isDoc_1 : decode cX12_isDoc 1 = .ok (.iconst 0, 1) := by decide +kernel
theorem dX12_isDoc_2 : decode cX12_isDoc 2 = .ok (.aload_n 0, 1) := by decide +kernel
theorem dX12_isDoc_3 : decode cX12_isDoc 3 = .ok (.getfield 15, 3) := by decide +kernel
theorem dX12_isDoc_6 : decode cX12_isDoc 6 = .ok (.iconst 1, 1) := by decide +kernel
theorem dX12_isDoc_7 : decode cX12_isDoc 7 = .ok (.isub, 1) := by decide +kernel
theorem dX12_isDoc_8 : decode cX12_isDoc 8 = .ok (.invokestatic 18, 3) := by decide +kernel
theorem dX12_isDoc_11 : decode cX12_isDoc 11 = .ok (.ireturn, 1) := by decide +kernel
theorem dX12_isNode_0 : decode cX12_isNode 0 = .ok (.aload_n 0, 1) := by decide +kernel
theorem dX12_isNode_1 : decode cX12_isNode 1 = .ok (.iload_n 1, 1) := by decide +kernel
theorem dX12_isNode_2 : decode cX12_isNode 2 = .ok (.invokevirtual 22, 3) := by decide +kernel
theorem dX12_isNode_5 : decode cX12_isNode 5 = .ok (.ifCond .eq 23, 3) := by decide +kernel
theorem dX12_isNode_8 : decode cX12_isNode 8 = .ok (.iload_n 2, 1) := by decide +kernel
theorem dX12_isNode_9 : decode cX12_isNode 9 = .ok (.iconst 0, 1) := by decide +kernel
theorem dX12_isNode_10 : decode cX12_isNode 10 = .ok (.aload_n 0, 1) := by decide +kernel
theorem dX12_isNode_11 : decode cX12_isNode 11 = .ok (.getfield 26, 3) := by decide +kernel
theorem dX12_isNode_14 : decode cX12_isNode 14 = .ok (.iload_n 1, 1) := by decide +kernel
theorem dX12_isNode_15 : decode cX12_isNode 15 = .ok (.iaload, 1) := by decide +kernel
theorem dX12_isNode_16 : decode cX12_isNode 16 = .ok (.iconst 1, 1) := by decide +kernel
theorem dX12_isNode_17 : decode cX12_isNode 17 = .ok (.isub, 1) := by decide +kernel
theorem dX12_isNode_18 : decode cX12_isNode 18 = .ok (.invokestatic 18, 3) := by decide +kernel
theorem dX12_isNode_21 : decode cX12_isNode 21 = .ok (.ifCond .eq 7, 3) := by decide +kernel
theorem dX12_isNode_24 : decode cX12_isNode 24 = .ok (.iconst 1, 1) := by decide +kernel
theorem dX12_isNode_25 : decode cX12_isNode 25 = .ok (.goto 4, 3) := by decide +kernel
theorem dX12_isNode_28 : decode cX12_isNode 28 = .ok (.iconst 0, 1) := by decide +kernel
theorem dX12_isNode_29 : decode cX12_isNode 29 = .ok (.ireturn, 1) := by decide +kernel
theorem dX12_begin_0 : decode cX12_begin 0 = .ok (.aload_n 0, 1) := by decide +kernel
theorem dX12_begin_1 : decode cX12_begin 1 = .ok (.getfield 26, 3) := by decide +kernel
theorem dX12_begin_4 : decode cX12_begin 4 = .ok (.iload_n 1, 1) := by decide +kernel
theorem dX12_begin_5 : decode cX12_begin 5 = .ok (.iconst 0, 1) := by decide +kernel
theorem dX12_begin_6 : decode cX12_begin 6 = .ok (.iastore, 1) := by decide +kernel
theorem dX12_begin_7 : decode cX12_begin 7 = .ok (.aload_n 0, 1) := by decide +kernel
theorem dX12_begin_8 : decode cX12_begin 8 = .ok (.iconst 0, 1) := by decide +kernel
theorem dX12_begin_9 : decode cX12_begin 9 = .ok (.putfield 29, 3) := by decide +kernel
theorem dX12_begin_12 : decode cX12_begin 12 = .ok (.return_, 1) := by decide +kernel
theorem dX12_added_0 : decode cX12_added 0 = .ok (.aload_n 0, 1) := by decide +kernel
theorem dX12_added_1 : decode cX12_added 1 = .ok (.getfield 26, 3) := by decide +kernel
theorem dX12_added_4 : decode cX12_added 4 = .ok (.iload_n 1, 1) := by decide +kernel
theorem dX12_added_5 : decode cX12_added 5 = .ok (.iaload, 1) := by decide +kernel
theorem dX12_added_6 : decode cX12_added 6 = .ok (.istore_n 3, 1) := by decide +kernel
theorem dX12_added_7 : decode cX12_added 7 = .ok (.iload_n 1, 1) := by decide +kernel
theorem dX12_added_8 : decode cX12_added 8 = .ok (.iload_n 3, 1) := by decide +kernel
theorem dX12_added_9 : decode cX12_added 9 = .ok (.invokestatic 11, 3) := by decide +kernel
theorem dX12_added_12 : decode cX12_added 12 = .ok (.istore 4, 2) := by decide +kernel
theorem dX12_added_14 : decode cX12_added 14 = .ok (.iload 4, 2) := by decide +kernel
theorem dX12_added_16 : decode cX12_added 16 = .ok (.iload_n 1, 1) := by decide +kernel
theorem dX12_added_17 : decode cX12_added 17 = .ok (.iload_n 3, 1) := by decide +kernel
theorem dX12_added_18 : decode cX12_added 18 = .ok (.invokestatic 11, 3) := by decide +kernel
theorem dX12_added_21 : decode cX12_added 21 = .ok (.bipush 61, 2) := by decide +kernel
theorem dX12_added_23 : decode cX12_added 23 = .ok (.iadd, 1) := by decide +kernel
theorem dX12_added_24 : decode cX12_added 24 = .ok (.if_icmp .ge 17, 3) := by decide +kernel
theorem dX12_added_27 : decode cX12_added 27 = .ok (.aload_n 0, 1) := by decide +kernel
theorem dX12_added_28 : decode cX12_added 28 = .ok (.getfield 7, 3) := by decide +kernel
theorem dX12_added_31 : decode cX12_added 31 = .ok (.iload 4, 2) := by decide +kernel
theorem dX12_added_33 : decode cX12_added 33 = .ok (.iconst 0, 1) := by decide +kernel
theorem dX12_added_34 : decode cX12_added 34 = .ok (.iastore, 1) := by decide +kernel
theorem dX12_added_35 : decode cX12_added 35 = .ok (.iinc 4 1, 3) := by decide +kernel
theorem dX12_added_38 : decode cX12_added 38 = .ok (.goto (-24), 3) := by decide +kernel
theorem dX12_added_41 : decode cX12_added 41 = .ok (.aload_n 0, 1) := by decide +kernel
theorem dX12_added_42 : decode cX12_added 42 = .ok (.getfield 7, 3) := by decide +kernel
theorem dX12_added_45 : decode cX12_added 45 = .ok (.iload_n 1, 1) := by decide +kernel
theorem dX12_added_46 : decode cX12_added 46 = .ok (.iload_n 3, 1) := by decide +kernel
theorem dX12_added_47 : decode cX12_added 47 = .ok (.invokestatic 11, 3) := by decide +kernel
theorem dX12_added_50 : decode cX12_added 50 = .ok (.iload_n 2, 1) := by decide +kernel
theorem dX12_added_51 : decode cX12_added 51 = .ok (.iastore, 1) := by decide +kernel
theorem dX12_added_52 : decode cX12_added 52 = .ok (.aload_n 0, 1) := by decide +kernel
theorem dX12_added_53 : decode cX12_added 53 = .ok (.aload_n 0, 1) := by decide +kernel
theorem dX12_added_54 : decode cX12_added 54 = .ok (.getfield 29, 3) := by decide +kernel
theorem dX12_added_57 : decode cX12_added 57 = .ok (.ifCond .ne 9, 3) := by decide +kernel
theorem dX12_added_60 : decode cX12_added 60 = .ok (.iload_n 3, 1) := by decide +kernel
theorem dX12_added_61 : decode cX12_added 61 = .ok (.bipush 100, 2) := by decide +kernel
theorem dX12_added_63 : decode cX12_added 63 = .ok (.if_icmp .ne 7, 3) := by decide +kernel
theorem dX12_added_66 : decode cX12_added 66 = .ok (.iconst 1, 1) := by decide +kernel
theorem dX12_added_67 : decode cX12_added 67 = .ok (.goto 4, 3) := by decide +kernel
theorem dX12_added_70 : decode cX12_added 70 = .ok (.iconst 0, 1) := by decide +kernel
theorem dX12_added_71 : decode cX12_added 71 = .ok (.putfield 29, 3) := by decide +kernel
theorem dX12_added_74 : decode cX12_added 74 = .ok (.aload_n 0, 1) := by decide +kernel
theorem dX12_added_75 : decode cX12_added 75 = .ok (.getfield 26, 3) := by decide +kernel
theorem dX12_added_78 : decode cX12_added 78 = .ok (.iload_n 1, 1) := by decide +kernel
theorem dX12_added_79 : decode cX12_added 79 = .ok (.dup2, 1) := by decide +kernel
theorem dX12_added_80 : decode cX12_added 80 = .ok (.iaload, 1) := by decide +kernel
theorem dX12_added_81 : decode cX12_added 81 = .ok (.iload_n 3, 1) := by decide +kernel
theorem dX12_added_82 : decode cX12_added 82 = .ok (.bipush 100, 2) := by decide +kernel
theorem dX12_added_84 : decode cX12_added 84 = .ok (.if_icmp .ne 7, 3) := by decide +kernel
theorem dX12_added_87 : decode cX12_added 87 = .ok (.iconst 0, 1) := by decide +kernel
theorem dX12_added_88 : decode cX12_added 88 = .ok (.goto 4, 3) := by decide +kernel
theorem dX12_added_91 : decode cX12_added 91 = .ok (.iconst 1, 1) := by decide +kernel
theorem dX12_added_92 : decode cX12_added 92 = .ok (.iadd, 1) := by decide +kernel
theorem dX12_added_93 : decode cX12_added 93 = .ok (.iastore, 1) := by decide +kernel
theorem dX12_added_94 : decode cX12_added 94 = .ok (.iload_n 3, 1) := by decide +kernel
theorem dX12_added_95 : decode cX12_added 95 = .ok (.ireturn, 1) := by decide +kernel
theorem dX12_like_0 : decode cX12_like 0 = .ok (.aload_n 0, 1) := by decide +kernel
theorem dX12_like_1 : decode cX12_like 1 = .ok (.iload_n 1, 1) := by decide +kernel
theorem dX12_like_2 : decode cX12_like 2 = .ok (.iconst 0, 1) := by decide +kernel
theorem dX12_like_3 : decode cX12_like 3 = .ok (.invokevirtual 33, 3) := by decide +kernel
theorem dX12_like_6 : decode cX12_like 6 = .ok (.istore 4, 2) := by decide +kernel
theorem dX12_like_8 : decode cX12_like 8 = .ok (.iconst 0, 1) := by decide +kernel
theorem dX12_like_9 : decode cX12_like 9 = .ok (.istore 5, 2) := by decide +kernel
theorem dX12_like_11 : decode cX12_like 11 = .ok (.iload 5, 2) := by decide +kernel
theorem dX12_like_13 : decode cX12_like 13 = .ok (.bipush 61, 2) := by decide +kernel
theorem dX12_like_15 : decode cX12_like 15 = .ok (.if_icmp .ge 36, 3) := by decide +kernel
theorem dX12_like_18 : decode cX12_like 18 = .ok (.aload_n 0, 1) := by decide +kernel
theorem dX12_like_19 : decode cX12_like 19 = .ok (.getfield 7, 3) := by decide +kernel
theorem dX12_like_22 : decode cX12_like 22 = .ok (.iload_n 1, 1) := by decide +kernel
theorem dX12_like_23 : decode cX12_like 23 = .ok (.iload 4, 2) := by decide +kernel
theorem dX12_like_25 : decode cX12_like 25 = .ok (.invokestatic 11, 3) := by decide +kernel
theorem dX12_like_28 : decode cX12_like 28 = .ok (.iload 5, 2) := by decide +kernel
theorem dX12_like_30 : decode cX12_like 30 = .ok (.iadd, 1) := by decide +kernel
theorem dX12_like_31 : decode cX12_like 31 = .ok (.aload_n 0, 1) := by decide +kernel
theorem dX12_like_32 : decode cX12_like 32 = .ok (.getfield 7, 3) := by decide +kernel
theorem dX12_like_35 : decode cX12_like 35 = .ok (.iload_n 2, 1) := by decide +kernel
theorem dX12_like_36 : decode cX12_like 36 = .ok (.iload_n 3, 1) := by decide +kernel
theorem dX12_like_37 : decode cX12_like 37 = .ok (.invokestatic 11, 3) := by decide +kernel
theorem dX12_like_40 : decode cX12_like 40 = .ok (.iload 5, 2) := by decide +kernel
theorem dX12_like_42 : decode cX12_like 42 = .ok (.iadd, 1) := by decide +kernel
theorem dX12_like_43 : decode cX12_like 43 = .ok (.iaload, 1) := by decide +kernel
theorem dX12_like_44 : decode cX12_like 44 = .ok (.iastore, 1) := by decide +kernel
theorem dX12_like_45 : decode cX12_like 45 = .ok (.iinc 5 1, 3) := by decide +kernel
theorem dX12_like_48 : decode cX12_like 48 = .ok (.goto (-37), 3) := by decide +kernel
theorem dX12_like_51 : decode cX12_like 51 = .ok (.aload_n 0, 1) := by decide +kernel
theorem dX12_like_52 : decode cX12_like 52 = .ok (.getfield 7, 3) := by decide +kernel
theorem dX12_like_55 : decode cX12_like 55 = .ok (.iload_n 1, 1) := by decide +kernel
theorem dX12_like_56 : decode cX12_like 56 = .ok (.iload 4, 2) := by decide +kernel
theorem dX12_like_58 : decode cX12_like 58 = .ok (.invokestatic 11, 3) := by decide +kernel
theorem dX12_like_61 : decode cX12_like 61 = .ok (.iconst 3, 1) := by decide +kernel
theorem dX12_like_62 : decode cX12_like 62 = .ok (.iadd, 1) := by decide +kernel
theorem dX12_like_63 : decode cX12_like 63 = .ok (.iconst 0, 1) := by decide +kernel
theorem dX12_like_64 : decode cX12_like 64 = .ok (.iastore, 1) := by decide +kernel
theorem dX12_like_65 : decode cX12_like 65 = .ok (.iload 4, 2) := by decide +kernel
theorem dX12_like_67 : decode cX12_like 67 = .ok (.ireturn, 1) := by decide +kernel
theorem dX12_copies_0 : decode cX12_copies 0 = .ok (.iload_n 3, 1) := by decide +kernel
theorem dX12_copies_1 : decode cX12_copies 1 = .ok (.istore 5, 2) := by decide +kernel
theorem dX12_copies_3 : decode cX12_copies 3 = .ok (.iload 5, 2) := by decide +kernel
theorem dX12_copies_5 : decode cX12_copies 5 = .ok (.iload 4, 2) := by decide +kernel
theorem dX12_copies_7 : decode cX12_copies 7 = .ok (.if_icmp .ge 44, 3) := by decide +kernel
theorem dX12_copies_10 : decode cX12_copies 10 = .ok (.aload_n 0, 1) := by decide +kernel
theorem dX12_copies_11 : decode cX12_copies 11 = .ok (.iload_n 2, 1) := by decide +kernel
theorem dX12_copies_12 : decode cX12_copies 12 = .ok (.iload 5, 2) := by decide +kernel
theorem dX12_copies_14 : decode cX12_copies 14 = .ok (.iconst 3, 1) := by decide +kernel
theorem dX12_copies_15 : decode cX12_copies 15 = .ok (.invokevirtual 36, 3) := by decide +kernel
theorem dX12_copies_18 : decode cX12_copies 18 = .ok (.istore 6, 2) := by decide +kernel
theorem dX12_copies_20 : decode cX12_copies 20 = .ok (.aload_n 0, 1) := by decide +kernel
theorem dX12_copies_21 : decode cX12_copies 21 = .ok (.iload_n 1, 1) := by decide +kernel
theorem dX12_copies_22 : decode cX12_copies 22 = .ok (.iload_n 2, 1) := by decide +kernel
theorem dX12_copies_23 : decode cX12_copies 23 = .ok (.iload 5, 2) := by decide +kernel
theorem dX12_copies_25 : decode cX12_copies 25 = .ok (.invokevirtual 40, 3) := by decide +kernel
theorem dX12_copies_28 : decode cX12_copies 28 = .ok (.istore 7, 2) := by decide +kernel
theorem dX12_copies_30 : decode cX12_copies 30 = .ok (.aload_n 0, 1) := by decide +kernel
theorem dX12_copies_31 : decode cX12_copies 31 = .ok (.getfield 7, 3) := by decide +kernel
theorem dX12_copies_34 : decode cX12_copies 34 = .ok (.iload_n 1, 1) := by decide +kernel
theorem dX12_copies_35 : decode cX12_copies 35 = .ok (.iload 7, 2) := by decide +kernel
theorem dX12_copies_37 : decode cX12_copies 37 = .ok (.invokestatic 11, 3) := by decide +kernel
theorem dX12_copies_40 : decode cX12_copies 40 = .ok (.iconst 3, 1) := by decide +kernel
theorem dX12_copies_41 : decode cX12_copies 41 = .ok (.iadd, 1) := by decide +kernel
theorem dX12_copies_42 : decode cX12_copies 42 = .ok (.iload 6, 2) := by decide +kernel
theorem dX12_copies_44 : decode cX12_copies 44 = .ok (.iastore, 1) := by decide +kernel
theorem dX12_copies_45 : decode cX12_copies 45 = .ok (.iinc 5 1, 3) := by decide +kernel
theorem dX12_copies_48 : decode cX12_copies 48 = .ok (.goto (-45), 3) := by decide +kernel
theorem dX12_copies_51 : decode cX12_copies 51 = .ok (.return_, 1) := by decide +kernel
theorem dX12_endOf_0 : decode cX12_endOf 0 = .ok (.iload_n 2, 1) := by decide +kernel
theorem dX12_endOf_1 : decode cX12_endOf 1 = .ok (.aload_n 0, 1) := by decide +kernel
theorem dX12_endOf_2 : decode cX12_endOf 2 = .ok (.iload_n 1, 1) := by decide +kernel
theorem dX12_endOf_3 : decode cX12_endOf 3 = .ok (.iload_n 2, 1) := by decide +kernel
theorem dX12_endOf_4 : decode cX12_endOf 4 = .ok (.iconst 4, 1) := by decide +kernel
theorem dX12_endOf_5 : decode cX12_endOf 5 = .ok (.invokevirtual 36, 3) := by decide +kernel
theorem dX12_endOf_8 : decode cX12_endOf 8 = .ok (.iadd, 1) := by decide +kernel
theorem dX12_endOf_9 : decode cX12_endOf 9 = .ok (.ireturn, 1) := by decide +kernel
theorem dX12_noKey_0 : decode cX12_noKey 0 = .ok (.aload_n 0, 1) := by decide +kernel
theorem dX12_noKey_1 : decode cX12_noKey 1 = .ok (.getfield 7, 3) := by decide +kernel
theorem dX12_noKey_4 : decode cX12_noKey 4 = .ok (.iload_n 1, 1) := by decide +kernel
theorem dX12_noKey_5 : decode cX12_noKey 5 = .ok (.iload_n 2, 1) := by decide +kernel
theorem dX12_noKey_6 : decode cX12_noKey 6 = .ok (.invokestatic 11, 3) := by decide +kernel
theorem dX12_noKey_9 : decode cX12_noKey 9 = .ok (.iconst 5, 1) := by decide +kernel
theorem dX12_noKey_10 : decode cX12_noKey 10 = .ok (.iadd, 1) := by decide +kernel
theorem dX12_noKey_11 : decode cX12_noKey 11 = .ok (.iconst 0, 1) := by decide +kernel
theorem dX12_noKey_12 : decode cX12_noKey 12 = .ok (.iastore, 1) := by decide +kernel
theorem dX12_noKey_13 : decode cX12_noKey 13 = .ok (.return_, 1) := by decide +kernel
theorem dX12_link_0 : decode cX12_link 0 = .ok (.iconst 0, 1) := by decide +kernel
theorem dX12_link_1 : decode cX12_link 1 = .ok (.istore_n 2, 1) := by decide +kernel
theorem dX12_link_2 : decode cX12_link 2 = .ok (.iconst 0, 1) := by decide +kernel
theorem dX12_link_3 : decode cX12_link 3 = .ok (.istore_n 3, 1) := by decide +kernel
theorem dX12_link_4 : decode cX12_link 4 = .ok (.iload_n 3, 1) := by decide +kernel
theorem dX12_link_5 : decode cX12_link 5 = .ok (.aload_n 0, 1) := by decide +kernel
theorem dX12_link_6 : decode cX12_link 6 = .ok (.getfield 26, 3) := by decide +kernel
theorem dX12_link_9 : decode cX12_link 9 = .ok (.iload_n 1, 1) := by decide +kernel
theorem dX12_link_10 : decode cX12_link 10 = .ok (.iaload, 1) := by decide +kernel
theorem dX12_link_11 : decode cX12_link 11 = .ok (.if_icmp .ge 192, 3) := by decide +kernel
theorem dX12_link_14 : decode cX12_link 14 = .ok (.iload_n 1, 1) := by decide +kernel
theorem dX12_link_15 : decode cX12_link 15 = .ok (.iload_n 3, 1) := by decide +kernel
theorem dX12_link_16 : decode cX12_link 16 = .ok (.invokestatic 11, 3) := by decide +kernel
theorem dX12_link_19 : decode cX12_link 19 = .ok (.istore 4, 2) := by decide +kernel
theorem dX12_link_21 : decode cX12_link 21 = .ok (.aload_n 0, 1) := by decide +kernel
theorem dX12_link_22 : decode cX12_link 22 = .ok (.getfield 7, 3) := by decide +kernel
theorem dX12_link_25 : decode cX12_link 25 = .ok (.iload 4, 2) := by decide +kernel
theorem dX12_link_27 : decode cX12_link 27 = .ok (.iconst 1, 1) := by decide +kernel
theorem dX12_link_28 : decode cX12_link 28 = .ok (.iadd, 1) := by decide +kernel
theorem dX12_link_29 : decode cX12_link 29 = .ok (.iload_n 2, 1) := by decide +kernel
theorem dX12_link_30 : decode cX12_link 30 = .ok (.ifCond .ne 7, 3) := by decide +kernel
theorem dX12_link_33 : decode cX12_link 33 = .ok (.iconst (-1), 1) := by decide +kernel
theorem dX12_link_34 : decode cX12_link 34 = .ok (.goto 11, 3) := by decide +kernel
theorem dX12_link_37 : decode cX12_link 37 = .ok (.aload_n 0, 1) := by decide +kernel
theorem dX12_link_38 : decode cX12_link 38 = .ok (.getfield 43, 3) := by decide +kernel
theorem dX12_link_41 : decode cX12_link 41 = .ok (.iload_n 2, 1) := by decide +kernel
theorem dX12_link_42 : decode cX12_link 42 = .ok (.iconst 1, 1) := by decide +kernel
theorem dX12_link_43 : decode cX12_link 43 = .ok (.isub, 1) := by decide +kernel
theorem dX12_link_44 : decode cX12_link 44 = .ok (.iaload, 1) := by decide +kernel
theorem dX12_link_45 : decode cX12_link 45 = .ok (.iastore, 1) := by decide +kernel
theorem dX12_link_46 : decode cX12_link 46 = .ok (.aload_n 0, 1) := by decide +kernel
theorem dX12_link_47 : decode cX12_link 47 = .ok (.getfield 7, 3) := by decide +kernel
theorem dX12_link_50 : decode cX12_link 50 = .ok (.iload 4, 2) := by decide +kernel
theorem dX12_link_52 : decode cX12_link 52 = .ok (.iconst 2, 1) := by decide +kernel
theorem dX12_link_53 : decode cX12_link 53 = .ok (.iadd, 1) := by decide +kernel
theorem dX12_link_54 : decode cX12_link 54 = .ok (.iload_n 2, 1) := by decide +kernel
theorem dX12_link_55 : decode cX12_link 55 = .ok (.ifCond .ne 7, 3) := by decide +kernel
theorem dX12_link_58 : decode cX12_link 58 = .ok (.iconst (-1), 1) := by decide +kernel
theorem dX12_link_59 : decode cX12_link 59 = .ok (.goto 26, 3) := by decide +kernel
theorem dX12_link_62 : decode cX12_link 62 = .ok (.aload_n 0, 1) := by decide +kernel
theorem dX12_link_63 : decode cX12_link 63 = .ok (.iload_n 1, 1) := by decide +kernel
theorem dX12_link_64 : decode cX12_link 64 = .ok (.aload_n 0, 1) := by decide +kernel
theorem dX12_link_65 : decode cX12_link 65 = .ok (.getfield 43, 3) := by decide +kernel
theorem dX12_link_68 : decode cX12_link 68 = .ok (.iload_n 2, 1) := by decide +kernel
theorem dX12_link_69 : decode cX12_link 69 = .ok (.iconst 1, 1) := by decide +kernel
theorem dX12_link_70 : decode cX12_link 70 = .ok (.isub, 1) := by decide +kernel
theorem dX12_link_71 : decode cX12_link 71 = .ok (.iaload, 1) := by decide +kernel
theorem dX12_link_72 : decode cX12_link 72 = .ok (.iconst 3, 1) := by decide +kernel
theorem dX12_link_73 : decode cX12_link 73 = .ok (.invokevirtual 36, 3) := by decide +kernel
theorem dX12_link_76 : decode cX12_link 76 = .ok (.aload_n 0, 1) := by decide +kernel
theorem dX12_link_77 : decode cX12_link 77 = .ok (.getfield 46, 3) := by decide +kernel
theorem dX12_link_80 : decode cX12_link 80 = .ok (.iload_n 2, 1) := by decide +kernel
theorem dX12_link_81 : decode cX12_link 81 = .ok (.iconst 1, 1) := by decide +kernel
theorem dX12_link_82 : decode cX12_link 82 = .ok (.isub, 1) := by decide +kernel
theorem dX12_link_83 : decode cX12_link 83 = .ok (.iaload, 1) := by decide +kernel
theorem dX12_link_84 : decode cX12_link 84 = .ok (.isub, 1) := by decide +kernel
theorem dX12_link_85 : decode cX12_link 85 = .ok (.iastore, 1) := by decide +kernel
theorem dX12_link_86 : decode cX12_link 86 = .ok (.aload_n 0, 1) := by decide +kernel
theorem dX12_link_87 : decode cX12_link 87 = .ok (.getfield 7, 3) := by decide +kernel
theorem dX12_link_90 : decode cX12_link 90 = .ok (.iload 4, 2) := by decide +kernel
theorem dX12_link_92 : decode cX12_link 92 = .ok (.iconst 4, 1) := by decide +kernel
theorem dX12_link_93 : decode cX12_link 93 = .ok (.iadd, 1) := by decide +kernel
theorem dX12_link_94 : decode cX12_link 94 = .ok (.iconst 1, 1) := by decide +kernel
theorem dX12_link_95 : decode cX12_link 95 = .ok (.iastore, 1) := by decide +kernel
theorem dX12_link_96 : decode cX12_link 96 = .ok (.iload_n 2, 1) := by decide +kernel
theorem dX12_link_97 : decode cX12_link 97 = .ok (.ifCond .le 15, 3) := by decide +kernel
theorem dX12_link_100 : decode cX12_link 100 = .ok (.aload_n 0, 1) := by decide +kernel
theorem dX12_link_101 : decode cX12_link 101 = .ok (.getfield 46, 3) := by decide +kernel
theorem dX12_link_104 : decode cX12_link 104 = .ok (.iload_n 2, 1) := by decide +kernel
theorem dX12_link_105 : decode cX12_link 105 = .ok (.iconst 1, 1) := by decide +kernel
theorem dX12_link_106 : decode cX12_link 106 = .ok (.isub, 1) := by decide +kernel
theorem dX12_link_107 : decode cX12_link 107 = .ok (.dup2, 1) := by decide +kernel
theorem dX12_link_108 : decode cX12_link 108 = .ok (.iaload, 1) := by decide +kernel
theorem dX12_link_109 : decode cX12_link 109 = .ok (.iconst 1, 1) := by decide +kernel
theorem dX12_link_110 : decode cX12_link 110 = .ok (.isub, 1) := by decide +kernel
theorem dX12_link_111 : decode cX12_link 111 = .ok (.iastore, 1) := by decide +kernel
theorem dX12_link_112 : decode cX12_link 112 = .ok (.aload_n 0, 1) := by decide +kernel
theorem dX12_link_113 : decode cX12_link 113 = .ok (.getfield 7, 3) := by decide +kernel
theorem dX12_link_116 : decode cX12_link 116 = .ok (.iload 4, 2) := by decide +kernel
theorem dX12_link_118 : decode cX12_link 118 = .ok (.iconst 3, 1) := by decide +kernel
theorem dX12_link_119 : decode cX12_link 119 = .ok (.iadd, 1) := by decide +kernel
theorem dX12_link_120 : decode cX12_link 120 = .ok (.iaload, 1) := by decide +kernel
theorem dX12_link_121 : decode cX12_link 121 = .ok (.ifCond .le 28, 3) := by decide +kernel
theorem dX12_link_124 : decode cX12_link 124 = .ok (.aload_n 0, 1) := by decide +kernel
theorem dX12_link_125 : decode cX12_link 125 = .ok (.getfield 43, 3) := by decide +kernel
theorem dX12_link_128 : decode cX12_link 128 = .ok (.iload_n 2, 1) := by decide +kernel
theorem dX12_link_129 : decode cX12_link 129 = .ok (.iload_n 3, 1) := by decide +kernel
theorem dX12_link_130 : decode cX12_link 130 = .ok (.iastore, 1) := by decide +kernel
theorem dX12_link_131 : decode cX12_link 131 = .ok (.aload_n 0, 1) := by decide +kernel
theorem dX12_link_132 : decode cX12_link 132 = .ok (.getfield 46, 3) := by decide +kernel
theorem dX12_link_135 : decode cX12_link 135 = .ok (.iload_n 2, 1) := by decide +kernel
theorem dX12_link_136 : decode cX12_link 136 = .ok (.aload_n 0, 1) := by decide +kernel
theorem dX12_link_137 : decode cX12_link 137 = .ok (.getfield 7, 3) := by decide +kernel
theorem dX12_link_140 : decode cX12_link 140 = .ok (.iload 4, 2) := by decide +kernel
theorem dX12_link_142 : decode cX12_link 142 = .ok (.iconst 3, 1) := by decide +kernel
theorem dX12_link_143 : decode cX12_link 143 = .ok (.iadd, 1) := by decide +kernel
theorem dX12_link_144 : decode cX12_link 144 = .ok (.iaload, 1) := by decide +kernel
theorem dX12_link_145 : decode cX12_link 145 = .ok (.iastore, 1) := by decide +kernel
theorem dX12_link_146 : decode cX12_link 146 = .ok (.iinc 2 1, 3) := by decide +kernel
theorem dX12_link_149 : decode cX12_link 149 = .ok (.iload_n 2, 1) := by decide +kernel
theorem dX12_link_150 : decode cX12_link 150 = .ok (.ifCond .le 47, 3) := by decide +kernel
theorem dX12_link_153 : decode cX12_link 153 = .ok (.aload_n 0, 1) := by decide +kernel
theorem dX12_link_154 : decode cX12_link 154 = .ok (.getfield 46, 3) := by decide +kernel
theorem dX12_link_157 : decode cX12_link 157 = .ok (.iload_n 2, 1) := by decide +kernel
theorem dX12_link_158 : decode cX12_link 158 = .ok (.iconst 1, 1) := by decide +kernel
theorem dX12_link_159 : decode cX12_link 159 = .ok (.isub, 1) := by decide +kernel
theorem dX12_link_160 : decode cX12_link 160 = .ok (.iaload, 1) := by decide +kernel
theorem dX12_link_161 : decode cX12_link 161 = .ok (.ifCond .ne 36, 3) := by decide +kernel
theorem dX12_link_164 : decode cX12_link 164 = .ok (.iinc 2 (-1), 3) := by decide +kernel
theorem dX12_link_167 : decode cX12_link 167 = .ok (.aload_n 0, 1) := by decide +kernel
theorem dX12_link_168 : decode cX12_link 168 = .ok (.getfield 7, 3) := by decide +kernel
theorem dX12_link_171 : decode cX12_link 171 = .ok (.iload_n 1, 1) := by decide +kernel
theorem dX12_link_172 : decode cX12_link 172 = .ok (.aload_n 0, 1) := by decide +kernel
theorem dX12_link_173 : decode cX12_link 173 = .ok (.getfield 43, 3) := by decide +kernel
theorem dX12_link_176 : decode cX12_link 176 = .ok (.iload_n 2, 1) := by decide +kernel
theorem dX12_link_177 : decode cX12_link 177 = .ok (.iaload, 1) := by decide +kernel
theorem dX12_link_178 : decode cX12_link 178 = .ok (.invokestatic 11, 3) := by decide +kernel
theorem dX12_link_181 : decode cX12_link 181 = .ok (.iconst 4, 1) := by decide +kernel
theorem dX12_link_182 : decode cX12_link 182 = .ok (.iadd, 1) := by decide +kernel
theorem dX12_link_183 : decode cX12_link 183 = .ok (.iload_n 3, 1) := by decide +kernel
theorem dX12_link_184 : decode cX12_link 184 = .ok (.iconst 1, 1) := by decide +kernel
theorem dX12_link_185 : decode cX12_link 185 = .ok (.iadd, 1) := by decide +kernel
theorem dX12_link_186 : decode cX12_link 186 = .ok (.aload_n 0, 1) := by decide +kernel
theorem dX12_link_187 : decode cX12_link 187 = .ok (.getfield 43, 3) := by decide +kernel
theorem dX12_link_190 : decode cX12_link 190 = .ok (.iload_n 2, 1) := by decide +kernel
theorem dX12_link_191 : decode cX12_link 191 = .ok (.iaload, 1) := by decide +kernel
theorem dX12_link_192 : decode cX12_link 192 = .ok (.isub, 1) := by decide +kernel
theorem dX12_link_193 : decode cX12_link 193 = .ok (.iastore, 1) := by decide +kernel
theorem dX12_link_194 : decode cX12_link 194 = .ok (.goto (-45), 3) := by decide +kernel
theorem dX12_link_197 : decode cX12_link 197 = .ok (.iinc 3 1, 3) := by decide +kernel
theorem dX12_link_200 : decode cX12_link 200 = .ok (.goto (-196), 3) := by decide +kernel
theorem dX12_link_203 : decode cX12_link 203 = .ok (.return_, 1) := by decide +kernel
theorem dX12_deepOf_0 : decode cX12_deepOf 0 = .ok (.iconst 0, 1) := by decide +kernel
theorem dX12_deepOf_1 : decode cX12_deepOf 1 = .ok (.istore_n 3, 1) := by decide +kernel
theorem dX12_deepOf_2 : decode cX12_deepOf 2 = .ok (.iload_n 2, 1) := by decide +kernel
theorem dX12_deepOf_3 : decode cX12_deepOf 3 = .ok (.istore 4, 2) := by decide +kernel
theorem dX12_deepOf_5 : decode cX12_deepOf 5 = .ok (.iload 4, 2) := by decide +kernel
theorem dX12_deepOf_7 : decode cX12_deepOf 7 = .ok (.aload_n 0, 1) := by decide +kernel
theorem dX12_deepOf_8 : decode cX12_deepOf 8 = .ok (.iload_n 1, 1) := by decide +kernel
theorem dX12_deepOf_9 : decode cX12_deepOf 9 = .ok (.iload_n 2, 1) := by decide +kernel
theorem dX12_deepOf_10 : decode cX12_deepOf 10 = .ok (.invokevirtual 49, 3) := by decide +kernel
theorem dX12_deepOf_13 : decode cX12_deepOf 13 = .ok (.if_icmp .ge 62, 3) := by decide +kernel
theorem dX12_deepOf_16 : decode cX12_deepOf 16 = .ok (.iconst 1, 1) := by decide +kernel
theorem dX12_deepOf_17 : decode cX12_deepOf 17 = .ok (.istore 5, 2) := by decide +kernel
theorem dX12_deepOf_19 : decode cX12_deepOf 19 = .ok (.iload 4, 2) := by decide +kernel
theorem dX12_deepOf_21 : decode cX12_deepOf 21 = .ok (.istore 6, 2) := by decide +kernel
theorem dX12_deepOf_23 : decode cX12_deepOf 23 = .ok (.iload 6, 2) := by decide +kernel
theorem dX12_deepOf_25 : decode cX12_deepOf 25 = .ok (.iload_n 2, 1) := by decide +kernel
theorem dX12_deepOf_26 : decode cX12_deepOf 26 = .ok (.if_icmp .eq 19, 3) := by decide +kernel
theorem dX12_deepOf_29 : decode cX12_deepOf 29 = .ok (.iinc 5 1, 3) := by decide +kernel
theorem dX12_deepOf_32 : decode cX12_deepOf 32 = .ok (.aload_n 0, 1) := by decide +kernel
theorem dX12_deepOf_33 : decode cX12_deepOf 33 = .ok (.iload_n 1, 1) := by decide +kernel
theorem dX12_deepOf_34 : decode cX12_deepOf 34 = .ok (.iload 6, 2) := by decide +kernel
theorem dX12_deepOf_36 : decode cX12_deepOf 36 = .ok (.iconst 1, 1) := by decide +kernel
theorem dX12_deepOf_37 : decode cX12_deepOf 37 = .ok (.invokevirtual 36, 3) := by decide +kernel
theorem dX12_deepOf_40 : decode cX12_deepOf 40 = .ok (.istore 6, 2) := by decide +kernel
theorem dX12_deepOf_42 : decode cX12_deepOf 42 = .ok (.goto (-19), 3) := by decide +kernel
theorem dX12_deepOf_45 : decode cX12_deepOf 45 = .ok (.aload_n 0, 1) := by decide +kernel
theorem dX12_deepOf_46 : decode cX12_deepOf 46 = .ok (.iload_n 1, 1) := by decide +kernel
theorem dX12_deepOf_47 : decode cX12_deepOf 47 = .ok (.iload 4, 2) := by decide +kernel
theorem dX12_deepOf_49 : decode cX12_deepOf 49 = .ok (.invokevirtual 52, 3) := by decide +kernel
theorem dX12_deepOf_52 : decode cX12_deepOf 52 = .ok (.iconst 4, 1) := by decide +kernel
theorem dX12_deepOf_53 : decode cX12_deepOf 53 = .ok (.if_icmp .lt 14, 3) := by decide +kernel
theorem dX12_deepOf_56 : decode cX12_deepOf 56 = .ok (.iload 5, 2) := by decide +kernel
theorem dX12_deepOf_58 : decode cX12_deepOf 58 = .ok (.iload_n 3, 1) := by decide +kernel
theorem dX12_deepOf_59 : decode cX12_deepOf 59 = .ok (.if_icmp .le 8, 3) := by decide +kernel
theorem dX12_deepOf_62 : decode cX12_deepOf 62 = .ok (.iload 5, 2) := by decide +kernel
theorem dX12_deepOf_64 : decode cX12_deepOf 64 = .ok (.goto 4, 3) := by decide +kernel
theorem dX12_deepOf_67 : decode cX12_deepOf 67 = .ok (.iload_n 3, 1) := by decide +kernel
theorem dX12_deepOf_68 : decode cX12_deepOf 68 = .ok (.istore_n 3, 1) := by decide +kernel
theorem dX12_deepOf_69 : decode cX12_deepOf 69 = .ok (.iinc 4 1, 3) := by decide +kernel
theorem dX12_deepOf_72 : decode cX12_deepOf 72 = .ok (.goto (-67), 3) := by decide +kernel
theorem dX12_deepOf_75 : decode cX12_deepOf 75 = .ok (.iload_n 3, 1) := by decide +kernel
theorem dX12_deepOf_76 : decode cX12_deepOf 76 = .ok (.ireturn, 1) := by decide +kernel
theorem dX12_isWhole_0 : decode cX12_isWhole 0 = .ok (.aload_n 0, 1) := by decide +kernel
theorem dX12_isWhole_1 : decode cX12_isWhole 1 = .ok (.getfield 29, 3) := by decide +kernel
theorem dX12_isWhole_4 : decode cX12_isWhole 4 = .ok (.ifCond .ne 12, 3) := by decide +kernel
theorem dX12_isWhole_7 : decode cX12_isWhole 7 = .ok (.aload_n 0, 1) := by decide +kernel
theorem dX12_isWhole_8 : decode cX12_isWhole 8 = .ok (.getfield 26, 3) := by decide +kernel
theorem dX12_isWhole_11 : decode cX12_isWhole 11 = .ok (.iload_n 1, 1) := by decide +kernel
theorem dX12_isWhole_12 : decode cX12_isWhole 12 = .ok (.iaload, 1) := by decide +kernel
theorem dX12_isWhole_13 : decode cX12_isWhole 13 = .ok (.ifCond .ne 5, 3) := by decide +kernel
theorem dX12_isWhole_16 : decode cX12_isWhole 16 = .ok (.iconst 0, 1) := by decide +kernel
theorem dX12_isWhole_17 : decode cX12_isWhole 17 = .ok (.ireturn, 1) := by decide +kernel
theorem dX12_isWhole_18 : decode cX12_isWhole 18 = .ok (.aload_n 0, 1) := by decide +kernel
theorem dX12_isWhole_19 : decode cX12_isWhole 19 = .ok (.iload_n 1, 1) := by decide +kernel
theorem dX12_isWhole_20 : decode cX12_isWhole 20 = .ok (.invokevirtual 55, 3) := by decide +kernel
theorem dX12_isWhole_23 : decode cX12_isWhole 23 = .ok (.aload_n 0, 1) := by decide +kernel
theorem dX12_isWhole_24 : decode cX12_isWhole 24 = .ok (.iload_n 1, 1) := by decide +kernel
theorem dX12_isWhole_25 : decode cX12_isWhole 25 = .ok (.iconst 0, 1) := by decide +kernel
theorem dX12_isWhole_26 : decode cX12_isWhole 26 = .ok (.invokevirtual 59, 3) := by decide +kernel
theorem dX12_isWhole_29 : decode cX12_isWhole 29 = .ok (.bipush 12, 2) := by decide +kernel
theorem dX12_isWhole_31 : decode cX12_isWhole 31 = .ok (.if_icmp .gt 7, 3) := by decide +kernel
theorem dX12_isWhole_34 : decode cX12_isWhole 34 = .ok (.iconst 1, 1) := by decide +kernel
theorem dX12_isWhole_35 : decode cX12_isWhole 35 = .ok (.goto 4, 3) := by decide +kernel
theorem dX12_isWhole_38 : decode cX12_isWhole 38 = .ok (.iconst 0, 1) := by decide +kernel
theorem dX12_isWhole_39 : decode cX12_isWhole 39 = .ok (.ireturn, 1) := by decide +kernel
theorem dX12_keeps_0 : decode cX12_keeps 0 = .ok (.aload_n 0, 1) := by decide +kernel
theorem dX12_keeps_1 : decode cX12_keeps 1 = .ok (.getfield 26, 3) := by decide +kernel
theorem dX12_keeps_4 : decode cX12_keeps 4 = .ok (.aload_n 0, 1) := by decide +kernel
theorem dX12_keeps_5 : decode cX12_keeps 5 = .ok (.getfield 15, 3) := by decide +kernel
theorem dX12_keeps_8 : decode cX12_keeps 8 = .ok (.aload_n 0, 1) := by decide +kernel
theorem dX12_keeps_9 : decode cX12_keeps 9 = .ok (.getfield 26, 3) := by decide +kernel
theorem dX12_keeps_12 : decode cX12_keeps 12 = .ok (.iload_n 1, 1) := by decide +kernel
theorem dX12_keeps_13 : decode cX12_keeps 13 = .ok (.iaload, 1) := by decide +kernel
theorem dX12_keeps_14 : decode cX12_keeps 14 = .ok (.iastore, 1) := by decide +kernel
theorem dX12_keeps_15 : decode cX12_keeps 15 = .ok (.iconst 0, 1) := by decide +kernel
theorem dX12_keeps_16 : decode cX12_keeps 16 = .ok (.istore_n 2, 1) := by decide +kernel
theorem dX12_keeps_17 : decode cX12_keeps 17 = .ok (.iload_n 2, 1) := by decide +kernel
theorem dX12_keeps_18 : decode cX12_keeps 18 = .ok (.aload_n 0, 1) := by decide +kernel
theorem dX12_keeps_19 : decode cX12_keeps 19 = .ok (.getfield 26, 3) := by decide +kernel
theorem dX12_keeps_22 : decode cX12_keeps 22 = .ok (.iload_n 1, 1) := by decide +kernel
theorem dX12_keeps_23 : decode cX12_keeps 23 = .ok (.iaload, 1) := by decide +kernel
theorem dX12_keeps_24 : decode cX12_keeps 24 = .ok (.bipush 61, 2) := by decide +kernel
theorem dX12_keeps_26 : decode cX12_keeps 26 = .ok (.imul, 1) := by decide +kernel
theorem dX12_keeps_27 : decode cX12_keeps 27 = .ok (.if_icmp .ge 36, 3) := by decide +kernel
theorem dX12_keeps_30 : decode cX12_keeps 30 = .ok (.aload_n 0, 1) := by decide +kernel
theorem dX12_keeps_31 : decode cX12_keeps 31 = .ok (.getfield 7, 3) := by decide +kernel
theorem dX12_keeps_34 : decode cX12_keeps 34 = .ok (.aload_n 0, 1) := by decide +kernel
theorem dX12_keeps_35 : decode cX12_keeps 35 = .ok (.getfield 15, 3) := by decide +kernel
theorem dX12_keeps_38 : decode cX12_keeps 38 = .ok (.iconst 0, 1) := by decide +kernel
theorem dX12_keeps_39 : decode cX12_keeps 39 = .ok (.invokestatic 11, 3) := by decide +kernel
theorem dX12_keeps_42 : decode cX12_keeps 42 = .ok (.iload_n 2, 1) := by decide +kernel
theorem dX12_keeps_43 : decode cX12_keeps 43 = .ok (.iadd, 1) := by decide +kernel
theorem dX12_keeps_44 : decode cX12_keeps 44 = .ok (.aload_n 0, 1) := by decide +kernel
theorem dX12_keeps_45 : decode cX12_keeps 45 = .ok (.getfield 7, 3) := by decide +kernel
theorem dX12_keeps_48 : decode cX12_keeps 48 = .ok (.iload_n 1, 1) := by decide +kernel
theorem dX12_keeps_49 : decode cX12_keeps 49 = .ok (.iconst 0, 1) := by decide +kernel
theorem dX12_keeps_50 : decode cX12_keeps 50 = .ok (.invokestatic 11, 3) := by decide +kernel
theorem dX12_keeps_53 : decode cX12_keeps 53 = .ok (.iload_n 2, 1) := by decide +kernel
theorem dX12_keeps_54 : decode cX12_keeps 54 = .ok (.iadd, 1) := by decide +kernel
theorem dX12_keeps_55 : decode cX12_keeps 55 = .ok (.iaload, 1) := by decide +kernel
theorem dX12_keeps_56 : decode cX12_keeps 56 = .ok (.iastore, 1) := by decide +kernel
theorem dX12_keeps_57 : decode cX12_keeps 57 = .ok (.iinc 2 1, 3) := by decide +kernel
theorem dX12_keeps_60 : decode cX12_keeps 60 = .ok (.goto (-43), 3) := by decide +kernel
theorem dX12_keeps_63 : decode cX12_keeps 63 = .ok (.aload_n 0, 1) := by decide +kernel
theorem dX12_keeps_64 : decode cX12_keeps 64 = .ok (.dup, 1) := by decide +kernel
theorem dX12_keeps_65 : decode cX12_keeps 65 = .ok (.getfield 15, 3) := by decide +kernel
theorem dX12_keeps_68 : decode cX12_keeps 68 = .ok (.iconst 1, 1) := by decide +kernel
theorem dX12_keeps_69 : decode cX12_keeps 69 = .ok (.iadd, 1) := by decide +kernel
theorem dX12_keeps_70 : decode cX12_keeps 70 = .ok (.putfield 15, 3) := by decide +kernel
theorem dX12_keeps_73 : decode cX12_keeps 73 = .ok (.aload_n 0, 1) := by decide +kernel
theorem dX12_keeps_74 : decode cX12_keeps 74 = .ok (.getfield 15, 3) := by decide +kernel
theorem dX12_keeps_77 : decode cX12_keeps 77 = .ok (.iconst 1, 1) := by decide +kernel
theorem dX12_keeps_78 : decode cX12_keeps 78 = .ok (.isub, 1) := by decide +kernel
theorem dX12_keeps_79 : decode cX12_keeps 79 = .ok (.ireturn, 1) := by decide +kernel
theorem dX12_becomes_0 : decode cX12_becomes 0 = .ok (.aload_n 0, 1) := by decide +kernel
theorem dX12_becomes_1 : decode cX12_becomes 1 = .ok (.getfield 26, 3) := by decide +kernel
theorem dX12_becomes_4 : decode cX12_becomes 4 = .ok (.iload_n 1, 1) := by decide +kernel
theorem dX12_becomes_5 : decode cX12_becomes 5 = .ok (.aload_n 0, 1) := by decide +kernel
theorem dX12_becomes_6 : decode cX12_becomes 6 = .ok (.getfield 26, 3) := by decide +kernel
theorem dX12_becomes_9 : decode cX12_becomes 9 = .ok (.iload_n 2, 1) := by decide +kernel
theorem dX12_becomes_10 : decode cX12_becomes 10 = .ok (.iaload, 1) := by decide +kernel
theorem dX12_becomes_11 : decode cX12_becomes 11 = .ok (.iastore, 1) := by decide +kernel
theorem dX12_becomes_12 : decode cX12_becomes 12 = .ok (.iconst 0, 1) := by decide +kernel
theorem dX12_becomes_13 : decode cX12_becomes 13 = .ok (.istore_n 3, 1) := by decide +kernel
theorem dX12_becomes_14 : decode cX12_becomes 14 = .ok (.iload_n 3, 1) := by decide +kernel
theorem dX12_becomes_15 : decode cX12_becomes 15 = .ok (.aload_n 0, 1) := by decide +kernel
theorem dX12_becomes_16 : decode cX12_becomes 16 = .ok (.getfield 26, 3) := by decide +kernel
theorem dX12_becomes_19 : decode cX12_becomes 19 = .ok (.iload_n 2, 1) := by decide +kernel
theorem dX12_becomes_20 : decode cX12_becomes 20 = .ok (.iaload, 1) := by decide +kernel
theorem dX12_becomes_21 : decode cX12_becomes 21 = .ok (.bipush 61, 2) := by decide +kernel
theorem dX12_becomes_23 : decode cX12_becomes 23 = .ok (.imul, 1) := by decide +kernel
theorem dX12_becomes_24 : decode cX12_becomes 24 = .ok (.if_icmp .ge 33, 3) := by decide +kernel
theorem dX12_becomes_27 : decode cX12_becomes 27 = .ok (.aload_n 0, 1) := by decide +kernel
theorem dX12_becomes_28 : decode cX12_becomes 28 = .ok (.getfield 7, 3) := by decide +kernel
theorem dX12_becomes_31 : decode cX12_becomes 31 = .ok (.iload_n 1, 1) := by decide +kernel
theorem dX12_becomes_32 : decode cX12_becomes 32 = .ok (.iconst 0, 1) := by decide +kernel
theorem dX12_becomes_33 : decode cX12_becomes 33 = .ok (.invokestatic 11, 3) := by decide +kernel
theorem dX12_becomes_36 : decode cX12_becomes 36 = .ok (.iload_n 3, 1) := by decide +kernel
theorem dX12_becomes_37 : decode cX12_becomes 37 = .ok (.iadd, 1) := by decide +kernel
theorem dX12_becomes_38 : decode cX12_becomes 38 = .ok (.aload_n 0, 1) := by decide +kernel
theorem dX12_becomes_39 : decode cX12_becomes 39 = .ok (.getfield 7, 3) := by decide +kernel
theorem dX12_becomes_42 : decode cX12_becomes 42 = .ok (.iload_n 2, 1) := by decide +kernel
theorem dX12_becomes_43 : decode cX12_becomes 43 = .ok (.iconst 0, 1) := by decide +kernel
theorem dX12_becomes_44 : decode cX12_becomes 44 = .ok (.invokestatic 11, 3) := by decide +kernel
theorem dX12_becomes_47 : decode cX12_becomes 47 = .ok (.iload_n 3, 1) := by decide +kernel
theorem dX12_becomes_48 : decode cX12_becomes 48 = .ok (.iadd, 1) := by decide +kernel
theorem dX12_becomes_49 : decode cX12_becomes 49 = .ok (.iaload, 1) := by decide +kernel
theorem dX12_becomes_50 : decode cX12_becomes 50 = .ok (.iastore, 1) := by decide +kernel
theorem dX12_becomes_51 : decode cX12_becomes 51 = .ok (.iinc 3 1, 3) := by decide +kernel
theorem dX12_becomes_54 : decode cX12_becomes 54 = .ok (.goto (-40), 3) := by decide +kernel
theorem dX12_becomes_57 : decode cX12_becomes 57 = .ok (.return_, 1) := by decide +kernel
theorem dX12_childAt_0 : decode cX12_childAt 0 = .ok (.iload_n 2, 1) := by decide +kernel
theorem dX12_childAt_1 : decode cX12_childAt 1 = .ok (.iconst 1, 1) := by decide +kernel
theorem dX12_childAt_2 : decode cX12_childAt 2 = .ok (.iadd, 1) := by decide +kernel
theorem dX12_childAt_3 : decode cX12_childAt 3 = .ok (.istore 4, 2) := by decide +kernel
theorem dX12_childAt_5 : decode cX12_childAt 5 = .ok (.iconst 0, 1) := by decide +kernel
theorem dX12_childAt_6 : decode cX12_childAt 6 = .ok (.istore 5, 2) := by decide +kernel
theorem dX12_childAt_8 : decode cX12_childAt 8 = .ok (.iload 5, 2) := by decide +kernel
theorem dX12_childAt_10 : decode cX12_childAt 10 = .ok (.iload_n 3, 1) := by decide +kernel
theorem dX12_childAt_11 : decode cX12_childAt 11 = .ok (.if_icmp .ge 18, 3) := by decide +kernel
theorem dX12_childAt_14 : decode cX12_childAt 14 = .ok (.aload_n 0, 1) := by decide +kernel
theorem dX12_childAt_15 : decode cX12_childAt 15 = .ok (.iload_n 1, 1) := by decide +kernel
theorem dX12_childAt_16 : decode cX12_childAt 16 = .ok (.iload 4, 2) := by decide +kernel
theorem dX12_childAt_18 : decode cX12_childAt 18 = .ok (.invokevirtual 49, 3) := by decide +kernel
theorem dX12_childAt_21 : decode cX12_childAt 21 = .ok (.istore 4, 2) := by decide +kernel
theorem dX12_childAt_23 : decode cX12_childAt 23 = .ok (.iinc 5 1, 3) := by decide +kernel
theorem dX12_childAt_26 : decode cX12_childAt 26 = .ok (.goto (-18), 3) := by decide +kernel
theorem dX12_childAt_29 : decode cX12_childAt 29 = .ok (.iload 4, 2) := by decide +kernel
theorem dX12_childAt_31 : decode cX12_childAt 31 = .ok (.ireturn, 1) := by decide +kernel
theorem dX12_byKeys_0 : decode cX12_byKeys 0 = .ok (.iload_n 1, 1) := by decide +kernel
theorem dX12_byKeys_1 : decode cX12_byKeys 1 = .ok (.iload_n 2, 1) := by decide +kernel
theorem dX12_byKeys_2 : decode cX12_byKeys 2 = .ok (.invokestatic 11, 3) := by decide +kernel
theorem dX12_byKeys_5 : decode cX12_byKeys 5 = .ok (.istore 5, 2) := by decide +kernel
theorem dX12_byKeys_7 : decode cX12_byKeys 7 = .ok (.iload_n 3, 1) := by decide +kernel
theorem dX12_byKeys_8 : decode cX12_byKeys 8 = .ok (.iload 4, 2) := by decide +kernel
theorem dX12_byKeys_10 : decode cX12_byKeys 10 = .ok (.invokestatic 11, 3) := by decide +kernel
theorem dX12_byKeys_13 : decode cX12_byKeys 13 = .ok (.istore 6, 2) := by decide +kernel
theorem dX12_byKeys_15 : decode cX12_byKeys 15 = .ok (.iconst 0, 1) := by decide +kernel
theorem dX12_byKeys_16 : decode cX12_byKeys 16 = .ok (.istore 7, 2) := by decide +kernel
theorem dX12_byKeys_18 : decode cX12_byKeys 18 = .ok (.iload 7, 2) := by decide +kernel
theorem dX12_byKeys_20 : decode cX12_byKeys 20 = .ok (.aload_n 0, 1) := by decide +kernel
theorem dX12_byKeys_21 : decode cX12_byKeys 21 = .ok (.getfield 7, 3) := by decide +kernel
theorem dX12_byKeys_24 : decode cX12_byKeys 24 = .ok (.iload 5, 2) := by decide +kernel
theorem dX12_byKeys_26 : decode cX12_byKeys 26 = .ok (.iconst 5, 1) := by decide +kernel
theorem dX12_byKeys_27 : decode cX12_byKeys 27 = .ok (.iadd, 1) := by decide +kernel
theorem dX12_byKeys_28 : decode cX12_byKeys 28 = .ok (.iaload, 1) := by decide +kernel
theorem dX12_byKeys_29 : decode cX12_byKeys 29 = .ok (.if_icmp .ge 87, 3) := by decide +kernel
theorem dX12_byKeys_32 : decode cX12_byKeys 32 = .ok (.iload 7, 2) := by decide +kernel
theorem dX12_byKeys_34 : decode cX12_byKeys 34 = .ok (.aload_n 0, 1) := by decide +kernel
theorem dX12_byKeys_35 : decode cX12_byKeys 35 = .ok (.getfield 7, 3) := by decide +kernel
theorem dX12_byKeys_38 : decode cX12_byKeys 38 = .ok (.iload 6, 2) := by decide +kernel
theorem dX12_byKeys_40 : decode cX12_byKeys 40 = .ok (.iconst 5, 1) := by decide +kernel
theorem dX12_byKeys_41 : decode cX12_byKeys 41 = .ok (.iadd, 1) := by decide +kernel
theorem dX12_byKeys_42 : decode cX12_byKeys 42 = .ok (.iaload, 1) := by decide +kernel
theorem dX12_byKeys_43 : decode cX12_byKeys 43 = .ok (.if_icmp .ge 73, 3) := by decide +kernel
theorem dX12_byKeys_46 : decode cX12_byKeys 46 = .ok (.aload_n 0, 1) := by decide +kernel
theorem dX12_byKeys_47 : decode cX12_byKeys 47 = .ok (.getfield 7, 3) := by decide +kernel
theorem dX12_byKeys_50 : decode cX12_byKeys 50 = .ok (.iload 5, 2) := by decide +kernel
theorem dX12_byKeys_52 : decode cX12_byKeys 52 = .ok (.bipush 6, 2) := by decide +kernel
theorem dX12_byKeys_54 : decode cX12_byKeys 54 = .ok (.iadd, 1) := by decide +kernel
theorem dX12_byKeys_55 : decode cX12_byKeys 55 = .ok (.iload 7, 2) := by decide +kernel
theorem dX12_byKeys_57 : decode cX12_byKeys 57 = .ok (.iadd, 1) := by decide +kernel
theorem dX12_byKeys_58 : decode cX12_byKeys 58 = .ok (.iaload, 1) := by decide +kernel
theorem dX12_byKeys_59 : decode cX12_byKeys 59 = .ok (.aload_n 0, 1) := by decide +kernel
theorem dX12_byKeys_60 : decode cX12_byKeys 60 = .ok (.getfield 7, 3) := by decide +kernel
theorem dX12_byKeys_63 : decode cX12_byKeys 63 = .ok (.iload 6, 2) := by decide +kernel
theorem dX12_byKeys_65 : decode cX12_byKeys 65 = .ok (.bipush 6, 2) := by decide +kernel
theorem dX12_byKeys_67 : decode cX12_byKeys 67 = .ok (.iadd, 1) := by decide +kernel
theorem dX12_byKeys_68 : decode cX12_byKeys 68 = .ok (.iload 7, 2) := by decide +kernel
theorem dX12_byKeys_70 : decode cX12_byKeys 70 = .ok (.iadd, 1) := by decide +kernel
theorem dX12_byKeys_71 : decode cX12_byKeys 71 = .ok (.iaload, 1) := by decide +kernel
theorem dX12_byKeys_72 : decode cX12_byKeys 72 = .ok (.if_icmp .eq 38, 3) := by decide +kernel
theorem dX12_byKeys_75 : decode cX12_byKeys 75 = .ok (.aload_n 0, 1) := by decide +kernel
theorem dX12_byKeys_76 : decode cX12_byKeys 76 = .ok (.getfield 7, 3) := by decide +kernel
theorem dX12_byKeys_79 : decode cX12_byKeys 79 = .ok (.iload 5, 2) := by decide +kernel
theorem dX12_byKeys_81 : decode cX12_byKeys 81 = .ok (.bipush 6, 2) := by decide +kernel
theorem dX12_byKeys_83 : decode cX12_byKeys 83 = .ok (.iadd, 1) := by decide +kernel
theorem dX12_byKeys_84 : decode cX12_byKeys 84 = .ok (.iload 7, 2) := by decide +kernel
theorem dX12_byKeys_86 : decode cX12_byKeys 86 = .ok (.iadd, 1) := by decide +kernel
theorem dX12_byKeys_87 : decode cX12_byKeys 87 = .ok (.iaload, 1) := by decide +kernel
theorem dX12_byKeys_88 : decode cX12_byKeys 88 = .ok (.aload_n 0, 1) := by decide +kernel
theorem dX12_byKeys_89 : decode cX12_byKeys 89 = .ok (.getfield 7, 3) := by decide +kernel
theorem dX12_byKeys_92 : decode cX12_byKeys 92 = .ok (.iload 6, 2) := by decide +kernel
theorem dX12_byKeys_94 : decode cX12_byKeys 94 = .ok (.bipush 6, 2) := by decide +kernel
theorem dX12_byKeys_96 : decode cX12_byKeys 96 = .ok (.iadd, 1) := by decide +kernel
theorem dX12_byKeys_97 : decode cX12_byKeys 97 = .ok (.iload 7, 2) := by decide +kernel
theorem dX12_byKeys_99 : decode cX12_byKeys 99 = .ok (.iadd, 1) := by decide +kernel
theorem dX12_byKeys_100 : decode cX12_byKeys 100 = .ok (.iaload, 1) := by decide +kernel
theorem dX12_byKeys_101 : decode cX12_byKeys 101 = .ok (.if_icmp .ge 7, 3) := by decide +kernel
theorem dX12_byKeys_104 : decode cX12_byKeys 104 = .ok (.iconst (-1), 1) := by decide +kernel
theorem dX12_byKeys_105 : decode cX12_byKeys 105 = .ok (.goto 4, 3) := by decide +kernel
theorem dX12_byKeys_108 : decode cX12_byKeys 108 = .ok (.iconst 1, 1) := by decide +kernel
theorem dX12_byKeys_109 : decode cX12_byKeys 109 = .ok (.ireturn, 1) := by decide +kernel
theorem dX12_byKeys_110 : decode cX12_byKeys 110 = .ok (.iinc 7 1, 3) := by decide +kernel
theorem dX12_byKeys_113 : decode cX12_byKeys 113 = .ok (.goto (-95), 3) := by decide +kernel
theorem dX12_byKeys_116 : decode cX12_byKeys 116 = .ok (.aload_n 0, 1) := by decide +kernel
theorem dX12_byKeys_117 : decode cX12_byKeys 117 = .ok (.getfield 7, 3) := by decide +kernel
theorem dX12_byKeys_120 : decode cX12_byKeys 120 = .ok (.iload 5, 2) := by decide +kernel
theorem dX12_byKeys_122 : decode cX12_byKeys 122 = .ok (.iconst 5, 1) := by decide +kernel
theorem dX12_byKeys_123 : decode cX12_byKeys 123 = .ok (.iadd, 1) := by decide +kernel
theorem dX12_byKeys_124 : decode cX12_byKeys 124 = .ok (.iaload, 1) := by decide +kernel
theorem dX12_byKeys_125 : decode cX12_byKeys 125 = .ok (.aload_n 0, 1) := by decide +kernel
theorem dX12_byKeys_126 : decode cX12_byKeys 126 = .ok (.getfield 7, 3) := by decide +kernel
theorem dX12_byKeys_129 : decode cX12_byKeys 129 = .ok (.iload 6, 2) := by decide +kernel
theorem dX12_byKeys_131 : decode cX12_byKeys 131 = .ok (.iconst 5, 1) := by decide +kernel
theorem dX12_byKeys_132 : decode cX12_byKeys 132 = .ok (.iadd, 1) := by decide +kernel
theorem dX12_byKeys_133 : decode cX12_byKeys 133 = .ok (.iaload, 1) := by decide +kernel
theorem dX12_byKeys_134 : decode cX12_byKeys 134 = .ok (.isub, 1) := by decide +kernel
theorem dX12_byKeys_135 : decode cX12_byKeys 135 = .ok (.ireturn, 1) := by decide +kernel
theorem dX12_childLike_0 : decode cX12_childLike 0 = .ok (.iload_n 2, 1) := by decide +kernel
theorem dX12_childLike_1 : decode cX12_childLike 1 = .ok (.iconst 1, 1) := by decide +kernel
theorem dX12_childLike_2 : decode cX12_childLike 2 = .ok (.iadd, 1) := by decide +kernel
theorem dX12_childLike_3 : decode cX12_childLike 3 = .ok (.istore 5, 2) := by decide +kernel
theorem dX12_childLike_5 : decode cX12_childLike 5 = .ok (.iconst 0, 1) := by decide +kernel
theorem dX12_childLike_6 : decode cX12_childLike 6 = .ok (.istore 6, 2) := by decide +kernel
theorem dX12_childLike_8 : decode cX12_childLike 8 = .ok (.iload 6, 2) := by decide +kernel
theorem dX12_childLike_10 : decode cX12_childLike 10 = .ok (.aload_n 0, 1) := by decide +kernel
theorem dX12_childLike_11 : decode cX12_childLike 11 = .ok (.iload_n 1, 1) := by decide +kernel
theorem dX12_childLike_12 : decode cX12_childLike 12 = .ok (.iload_n 2, 1) := by decide +kernel
theorem dX12_childLike_13 : decode cX12_childLike 13 = .ok (.iconst 3, 1) := by decide +kernel
theorem dX12_childLike_14 : decode cX12_childLike 14 = .ok (.invokevirtual 36, 3) := by decide +kernel
theorem dX12_childLike_17 : decode cX12_childLike 17 = .ok (.if_icmp .ge 34, 3) := by decide +kernel
theorem dX12_childLike_20 : decode cX12_childLike 20 = .ok (.aload_n 0, 1) := by decide +kernel
theorem dX12_childLike_21 : decode cX12_childLike 21 = .ok (.iload_n 1, 1) := by decide +kernel
theorem dX12_childLike_22 : decode cX12_childLike 22 = .ok (.iload 5, 2) := by decide +kernel
theorem dX12_childLike_24 : decode cX12_childLike 24 = .ok (.iload_n 3, 1) := by decide +kernel
theorem dX12_childLike_25 : decode cX12_childLike 25 = .ok (.iload 4, 2) := by decide +kernel
theorem dX12_childLike_27 : decode cX12_childLike 27 = .ok (.invokevirtual 62, 3) := by decide +kernel
theorem dX12_childLike_30 : decode cX12_childLike 30 = .ok (.ifCond .ne 6, 3) := by decide +kernel
theorem dX12_childLike_33 : decode cX12_childLike 33 = .ok (.iload 5, 2) := by decide +kernel
theorem dX12_childLike_35 : decode cX12_childLike 35 = .ok (.ireturn, 1) := by decide +kernel
theorem dX12_childLike_36 : decode cX12_childLike 36 = .ok (.aload_n 0, 1) := by decide +kernel
theorem dX12_childLike_37 : decode cX12_childLike 37 = .ok (.iload_n 1, 1) := by decide +kernel
theorem dX12_childLike_38 : decode cX12_childLike 38 = .ok (.iload 5, 2) := by decide +kernel
theorem dX12_childLike_40 : decode cX12_childLike 40 = .ok (.invokevirtual 49, 3) := by decide +kernel
theorem dX12_childLike_43 : decode cX12_childLike 43 = .ok (.istore 5, 2) := by decide +kernel
theorem dX12_childLike_45 : decode cX12_childLike 45 = .ok (.iinc 6 1, 3) := by decide +kernel
theorem dX12_childLike_48 : decode cX12_childLike 48 = .ok (.goto (-40), 3) := by decide +kernel
theorem dX12_childLike_51 : decode cX12_childLike 51 = .ok (.iconst (-1), 1) := by decide +kernel
theorem dX12_childLike_52 : decode cX12_childLike 52 = .ok (.ireturn, 1) := by decide +kernel
theorem dX12_childByWord_0 : decode cX12_childByWord 0 = .ok (.iload_n 2, 1) := by decide +kernel
theorem dX12_childByWord_1 : decode cX12_childByWord 1 = .ok (.iconst 1, 1) := by decide +kernel
theorem dX12_childByWord_2 : decode cX12_childByWord 2 = .ok (.iadd, 1) := by decide +kernel
theorem dX12_childByWord_3 : decode cX12_childByWord 3 = .ok (.istore_n 3, 1) := by decide +kernel
theorem dX12_childByWord_4 : decode cX12_childByWord 4 = .ok (.iconst 0, 1) := by decide +kernel
theorem dX12_childByWord_5 : decode cX12_childByWord 5 = .ok (.istore 4, 2) := by decide +kernel
theorem dX12_childByWord_7 : decode cX12_childByWord 7 = .ok (.iload 4, 2) := by decide +kernel
theorem dX12_childByWord_9 : decode cX12_childByWord 9 = .ok (.aload_n 0, 1) := by decide +kernel
theorem dX12_childByWord_10 : decode cX12_childByWord 10 = .ok (.iload_n 1, 1) := by decide +kernel
theorem dX12_childByWord_11 : decode cX12_childByWord 11 = .ok (.iload_n 2, 1) := by decide +kernel
theorem dX12_childByWord_12 : decode cX12_childByWord 12 = .ok (.iconst 3, 1) := by decide +kernel
theorem dX12_childByWord_13 : decode cX12_childByWord 13 = .ok (.invokevirtual 36, 3) := by decide +kernel
theorem dX12_childByWord_16 : decode cX12_childByWord 16 = .ok (.if_icmp .ge 95, 3) := by decide +kernel
theorem dX12_childByWord_19 : decode cX12_childByWord 19 = .ok (.aload_n 0, 1) := by decide +kernel
theorem dX12_childByWord_20 : decode cX12_childByWord 20 = .ok (.iload_n 1, 1) := by decide +kernel
theorem dX12_childByWord_21 : decode cX12_childByWord 21 = .ok (.iload_n 3, 1) := by decide +kernel
theorem dX12_childByWord_22 : decode cX12_childByWord 22 = .ok (.iconst 5, 1) := by decide +kernel
theorem dX12_childByWord_23 : decode cX12_childByWord 23 = .ok (.invokevirtual 36, 3) := by decide +kernel
theorem dX12_childByWord_26 : decode cX12_childByWord 26 = .ok (.aload_n 0, 1) := by decide +kernel
theorem dX12_childByWord_27 : decode cX12_childByWord 27 = .ok (.getfield 66, 3) := by decide +kernel
theorem dX12_childByWord_30 : decode cX12_childByWord 30 = .ok (.if_icmp .ne 7, 3) := by decide +kernel
theorem dX12_childByWord_33 : decode cX12_childByWord 33 = .ok (.iconst 1, 1) := by decide +kernel
theorem dX12_childByWord_34 : decode cX12_childByWord 34 = .ok (.goto 4, 3) := by decide +kernel
theorem dX12_childByWord_37 : decode cX12_childByWord 37 = .ok (.iconst 0, 1) := by decide +kernel
theorem dX12_childByWord_38 : decode cX12_childByWord 38 = .ok (.istore 5, 2) := by decide +kernel
theorem dX12_childByWord_40 : decode cX12_childByWord 40 = .ok (.iconst 0, 1) := by decide +kernel
theorem dX12_childByWord_41 : decode cX12_childByWord 41 = .ok (.istore 6, 2) := by decide +kernel
theorem dX12_childByWord_43 : decode cX12_childByWord 43 = .ok (.iload 6, 2) := by decide +kernel
theorem dX12_childByWord_45 : decode cX12_childByWord 45 = .ok (.aload_n 0, 1) := by decide +kernel
theorem dX12_childByWord_46 : decode cX12_childByWord 46 = .ok (.getfield 66, 3) := by decide +kernel
theorem dX12_childByWord_49 : decode cX12_childByWord 49 = .ok (.if_icmp .ge 42, 3) := by decide +kernel
theorem dX12_childByWord_52 : decode cX12_childByWord 52 = .ok (.iload 5, 2) := by decide +kernel
theorem dX12_childByWord_54 : decode cX12_childByWord 54 = .ok (.ifCond .eq 37, 3) := by decide +kernel
theorem dX12_childByWord_57 : decode cX12_childByWord 57 = .ok (.aload_n 0, 1) := by decide +kernel
theorem dX12_childByWord_58 : decode cX12_childByWord 58 = .ok (.iload_n 1, 1) := by decide +kernel
theorem dX12_childByWord_59 : decode cX12_childByWord 59 = .ok (.iload_n 3, 1) := by decide +kernel
theorem dX12_childByWord_60 : decode cX12_childByWord 60 = .ok (.bipush 6, 2) := by decide +kernel
theorem dX12_childByWord_62 : decode cX12_childByWord 62 = .ok (.iload 6, 2) := by decide +kernel
theorem dX12_childByWord_64 : decode cX12_childByWord 64 = .ok (.iadd, 1) := by decide +kernel
theorem dX12_childByWord_65 : decode cX12_childByWord 65 = .ok (.invokevirtual 36, 3) := by decide +kernel
theorem dX12_childByWord_68 : decode cX12_childByWord 68 = .ok (.aload_n 0, 1) := by decide +kernel
theorem dX12_childByWord_69 : decode cX12_childByWord 69 = .ok (.getfield 69, 3) := by decide +kernel
theorem dX12_childByWord_72 : decode cX12_childByWord 72 = .ok (.iload 6, 2) := by decide +kernel
theorem dX12_childByWord_74 : decode cX12_childByWord 74 = .ok (.iaload, 1) := by decide +kernel
theorem dX12_childByWord_75 : decode cX12_childByWord 75 = .ok (.if_icmp .ne 7, 3) := by decide +kernel
theorem dX12_childByWord_78 : decode cX12_childByWord 78 = .ok (.iconst 1, 1) := by decide +kernel
theorem dX12_childByWord_79 : decode cX12_childByWord 79 = .ok (.goto 4, 3) := by decide +kernel
theorem dX12_childByWord_82 : decode cX12_childByWord 82 = .ok (.iconst 0, 1) := by decide +kernel
theorem dX12_childByWord_83 : decode cX12_childByWord 83 = .ok (.istore 5, 2) := by decide +kernel
theorem dX12_childByWord_85 : decode cX12_childByWord 85 = .ok (.iinc 6 1, 3) := by decide +kernel
theorem dX12_childByWord_88 : decode cX12_childByWord 88 = .ok (.goto (-45), 3) := by decide +kernel
theorem dX12_childByWord_91 : decode cX12_childByWord 91 = .ok (.iload 5, 2) := by decide +kernel
theorem dX12_childByWord_93 : decode cX12_childByWord 93 = .ok (.ifCond .eq 5, 3) := by decide +kernel
theorem dX12_childByWord_96 : decode cX12_childByWord 96 = .ok (.iload_n 3, 1) := by decide +kernel
theorem dX12_childByWord_97 : decode cX12_childByWord 97 = .ok (.ireturn, 1) := by decide +kernel
theorem dX12_childByWord_98 : decode cX12_childByWord 98 = .ok (.aload_n 0, 1) := by decide +kernel
theorem dX12_childByWord_99 : decode cX12_childByWord 99 = .ok (.iload_n 1, 1) := by decide +kernel
theorem dX12_childByWord_100 : decode cX12_childByWord 100 = .ok (.iload_n 3, 1) := by decide +kernel
theorem dX12_childByWord_101 : decode cX12_childByWord 101 = .ok (.invokevirtual 49, 3) := by decide +kernel
theorem dX12_childByWord_104 : decode cX12_childByWord 104 = .ok (.istore_n 3, 1) := by decide +kernel
theorem dX12_childByWord_105 : decode cX12_childByWord 105 = .ok (.iinc 4 1, 3) := by decide +kernel
theorem dX12_childByWord_108 : decode cX12_childByWord 108 = .ok (.goto (-101), 3) := by decide +kernel
theorem dX12_childByWord_111 : decode cX12_childByWord 111 = .ok (.iconst (-1), 1) := by decide +kernel
theorem dX12_childByWord_112 : decode cX12_childByWord 112 = .ok (.ireturn, 1) := by decide +kernel
theorem dX12_says_0 : decode cX12_says 0 = .ok (.aload_n 0, 1) := by decide +kernel
theorem dX12_says_1 : decode cX12_says 1 = .ok (.iconst 0, 1) := by decide +kernel
theorem dX12_says_2 : decode cX12_says 2 = .ok (.putfield 66, 3) := by decide +kernel
theorem dX12_says_5 : decode cX12_says 5 = .ok (.bipush 7, 2) := by decide +kernel
theorem dX12_says_7 : decode cX12_says 7 = .ok (.istore_n 3, 1) := by decide +kernel
theorem dX12_says_8 : decode cX12_says 8 = .ok (.iload_n 3, 1) := by decide +kernel
theorem dX12_says_9 : decode cX12_says 9 = .ok (.ifCond .lt 48, 3) := by decide +kernel
theorem dX12_says_12 : decode cX12_says 12 = .ok (.lload_n 1, 1) := by decide +kernel
theorem dX12_says_13 : decode cX12_says 13 = .ok (.bipush 8, 2) := by decide +kernel
theorem dX12_says_15 : decode cX12_says 15 = .ok (.iload_n 3, 1) := by decide +kernel
theorem dX12_says_16 : decode cX12_says 16 = .ok (.imul, 1) := by decide +kernel
theorem dX12_says_17 : decode cX12_says 17 = .ok (.lshr, 1) := by decide +kernel
theorem dX12_says_18 : decode cX12_says 18 = .ok (.ldc2_w 72, 3) := by decide +kernel
theorem dX12_says_21 : decode cX12_says 21 = .ok (.land, 1) := by decide +kernel
theorem dX12_says_22 : decode cX12_says 22 = .ok (.l2i, 1) := by decide +kernel
theorem dX12_says_23 : decode cX12_says 23 = .ok (.istore 4, 2) := by decide +kernel
theorem dX12_says_25 : decode cX12_says 25 = .ok (.iload 4, 2) := by decide +kernel
theorem dX12_says_27 : decode cX12_says 27 = .ok (.ifCond .eq 24, 3) := by decide +kernel
theorem dX12_says_30 : decode cX12_says 30 = .ok (.aload_n 0, 1) := by decide +kernel
theorem dX12_says_31 : decode cX12_says 31 = .ok (.getfield 69, 3) := by decide +kernel
theorem dX12_says_34 : decode cX12_says 34 = .ok (.aload_n 0, 1) := by decide +kernel
theorem dX12_says_35 : decode cX12_says 35 = .ok (.getfield 66, 3) := by decide +kernel
theorem dX12_says_38 : decode cX12_says 38 = .ok (.iload 4, 2) := by decide +kernel
theorem dX12_says_40 : decode cX12_says 40 = .ok (.iastore, 1) := by decide +kernel
theorem dX12_says_41 : decode cX12_says 41 = .ok (.aload_n 0, 1) := by decide +kernel
theorem dX12_says_42 : decode cX12_says 42 = .ok (.dup, 1) := by decide +kernel
theorem dX12_says_43 : decode cX12_says 43 = .ok (.getfield 66, 3) := by decide +kernel
theorem dX12_says_46 : decode cX12_says 46 = .ok (.iconst 1, 1) := by decide +kernel
theorem dX12_says_47 : decode cX12_says 47 = .ok (.iadd, 1) := by decide +kernel
theorem dX12_says_48 : decode cX12_says 48 = .ok (.putfield 66, 3) := by decide +kernel
theorem dX12_says_51 : decode cX12_says 51 = .ok (.iinc 3 (-1), 3) := by decide +kernel
theorem dX12_says_54 : decode cX12_says 54 = .ok (.goto (-46), 3) := by decide +kernel
theorem dX12_says_57 : decode cX12_says 57 = .ok (.return_, 1) := by decide +kernel
theorem dX12_childNamed_0 : decode cX12_childNamed 0 = .ok (.aload_n 0, 1) := by decide +kernel
theorem dX12_childNamed_1 : decode cX12_childNamed 1 = .ok (.lload_n 3, 1) := by decide +kernel
theorem dX12_childNamed_2 : decode cX12_childNamed 2 = .ok (.invokevirtual 74, 3) := by decide +kernel
theorem dX12_childNamed_5 : decode cX12_childNamed 5 = .ok (.aload_n 0, 1) := by decide +kernel
theorem dX12_childNamed_6 : decode cX12_childNamed 6 = .ok (.iload_n 1, 1) := by decide +kernel
theorem dX12_childNamed_7 : decode cX12_childNamed 7 = .ok (.iload_n 2, 1) := by decide +kernel
theorem dX12_childNamed_8 : decode cX12_childNamed 8 = .ok (.invokevirtual 78, 3) := by decide +kernel
theorem dX12_childNamed_11 : decode cX12_childNamed 11 = .ok (.ireturn, 1) := by decide +kernel
theorem dX12_isText_0 : decode cX12_isText 0 = .ok (.aload_n 0, 1) := by decide +kernel
theorem dX12_isText_1 : decode cX12_isText 1 = .ok (.lload_n 3, 1) := by decide +kernel
theorem dX12_isText_2 : decode cX12_isText 2 = .ok (.invokevirtual 74, 3) := by decide +kernel
theorem dX12_isText_5 : decode cX12_isText 5 = .ok (.aload_n 0, 1) := by decide +kernel
theorem dX12_isText_6 : decode cX12_isText 6 = .ok (.iload_n 1, 1) := by decide +kernel
theorem dX12_isText_7 : decode cX12_isText 7 = .ok (.iload_n 2, 1) := by decide +kernel
theorem dX12_isText_8 : decode cX12_isText 8 = .ok (.invokevirtual 52, 3) := by decide +kernel
theorem dX12_isText_11 : decode cX12_isText 11 = .ok (.iconst 3, 1) := by decide +kernel
theorem dX12_isText_12 : decode cX12_isText 12 = .ok (.if_icmp .ne 22, 3) := by decide +kernel
theorem dX12_isText_15 : decode cX12_isText 15 = .ok (.aload_n 0, 1) := by decide +kernel
theorem dX12_isText_16 : decode cX12_isText 16 = .ok (.iload_n 1, 1) := by decide +kernel
theorem dX12_isText_17 : decode cX12_isText 17 = .ok (.iload_n 2, 1) := by decide +kernel
theorem dX12_isText_18 : decode cX12_isText 18 = .ok (.bipush 18, 2) := by decide +kernel
theorem dX12_isText_20 : decode cX12_isText 20 = .ok (.invokevirtual 36, 3) := by decide +kernel
theorem dX12_isText_23 : decode cX12_isText 23 = .ok (.aload_n 0, 1) := by decide +kernel
theorem dX12_isText_24 : decode cX12_isText 24 = .ok (.getfield 66, 3) := by decide +kernel
theorem dX12_isText_27 : decode cX12_isText 27 = .ok (.if_icmp .ne 7, 3) := by decide +kernel
theorem dX12_isText_30 : decode cX12_isText 30 = .ok (.iconst 1, 1) := by decide +kernel
theorem dX12_isText_31 : decode cX12_isText 31 = .ok (.goto 4, 3) := by decide +kernel
theorem dX12_isText_34 : decode cX12_isText 34 = .ok (.iconst 0, 1) := by decide +kernel
theorem dX12_isText_35 : decode cX12_isText 35 = .ok (.istore 5, 2) := by decide +kernel
theorem dX12_isText_37 : decode cX12_isText 37 = .ok (.iconst 0, 1) := by decide +kernel
theorem dX12_isText_38 : decode cX12_isText 38 = .ok (.istore 6, 2) := by decide +kernel
theorem dX12_isText_40 : decode cX12_isText 40 = .ok (.iload 6, 2) := by decide +kernel
theorem dX12_isText_42 : decode cX12_isText 42 = .ok (.aload_n 0, 1) := by decide +kernel
theorem dX12_isText_43 : decode cX12_isText 43 = .ok (.getfield 66, 3) := by decide +kernel
theorem dX12_isText_46 : decode cX12_isText 46 = .ok (.if_icmp .ge 42, 3) := by decide +kernel
theorem dX12_isText_49 : decode cX12_isText 49 = .ok (.iload 5, 2) := by decide +kernel
theorem dX12_isText_51 : decode cX12_isText 51 = .ok (.ifCond .eq 37, 3) := by decide +kernel
theorem dX12_isText_54 : decode cX12_isText 54 = .ok (.aload_n 0, 1) := by decide +kernel
theorem dX12_isText_55 : decode cX12_isText 55 = .ok (.iload_n 1, 1) := by decide +kernel
theorem dX12_isText_56 : decode cX12_isText 56 = .ok (.iload_n 2, 1) := by decide +kernel
theorem dX12_isText_57 : decode cX12_isText 57 = .ok (.bipush 21, 2) := by decide +kernel
theorem dX12_isText_59 : decode cX12_isText 59 = .ok (.iload 6, 2) := by decide +kernel
theorem dX12_isText_61 : decode cX12_isText 61 = .ok (.iadd, 1) := by decide +kernel
theorem dX12_isText_62 : decode cX12_isText 62 = .ok (.invokevirtual 36, 3) := by decide +kernel
theorem dX12_isText_65 : decode cX12_isText 65 = .ok (.aload_n 0, 1) := by decide +kernel
theorem dX12_isText_66 : decode cX12_isText 66 = .ok (.getfield 69, 3) := by decide +kernel
theorem dX12_isText_69 : decode cX12_isText 69 = .ok (.iload 6, 2) := by decide +kernel
theorem dX12_isText_71 : decode cX12_isText 71 = .ok (.iaload, 1) := by decide +kernel
theorem dX12_isText_72 : decode cX12_isText 72 = .ok (.if_icmp .ne 7, 3) := by decide +kernel
theorem dX12_isText_75 : decode cX12_isText 75 = .ok (.iconst 1, 1) := by decide +kernel
theorem dX12_isText_76 : decode cX12_isText 76 = .ok (.goto 4, 3) := by decide +kernel
theorem dX12_isText_79 : decode cX12_isText 79 = .ok (.iconst 0, 1) := by decide +kernel
theorem dX12_isText_80 : decode cX12_isText 80 = .ok (.istore 5, 2) := by decide +kernel
theorem dX12_isText_82 : decode cX12_isText 82 = .ok (.iinc 6 1, 3) := by decide +kernel
theorem dX12_isText_85 : decode cX12_isText 85 = .ok (.goto (-45), 3) := by decide +kernel
theorem dX12_isText_88 : decode cX12_isText 88 = .ok (.iload 5, 2) := by decide +kernel
theorem dX12_isText_90 : decode cX12_isText 90 = .ok (.ireturn, 1) := by decide +kernel
theorem dX12_keyIs_0 : decode cX12_keyIs 0 = .ok (.aload_n 0, 1) := by decide +kernel
theorem dX12_keyIs_1 : decode cX12_keyIs 1 = .ok (.getfield 7, 3) := by decide +kernel
theorem dX12_keyIs_4 : decode cX12_keyIs 4 = .ok (.iload_n 1, 1) := by decide +kernel
theorem dX12_keyIs_5 : decode cX12_keyIs 5 = .ok (.iload_n 2, 1) := by decide +kernel
theorem dX12_keyIs_6 : decode cX12_keyIs 6 = .ok (.invokestatic 11, 3) := by decide +kernel
theorem dX12_keyIs_9 : decode cX12_keyIs 9 = .ok (.iconst 5, 1) := by decide +kernel
theorem dX12_keyIs_10 : decode cX12_keyIs 10 = .ok (.iadd, 1) := by decide +kernel
theorem dX12_keyIs_11 : decode cX12_keyIs 11 = .ok (.aload_n 0, 1) := by decide +kernel
theorem dX12_keyIs_12 : decode cX12_keyIs 12 = .ok (.getfield 66, 3) := by decide +kernel
theorem dX12_keyIs_15 : decode cX12_keyIs 15 = .ok (.iastore, 1) := by decide +kernel
theorem dX12_keyIs_16 : decode cX12_keyIs 16 = .ok (.iconst 0, 1) := by decide +kernel
theorem dX12_keyIs_17 : decode cX12_keyIs 17 = .ok (.istore_n 3, 1) := by decide +kernel
theorem dX12_keyIs_18 : decode cX12_keyIs 18 = .ok (.iload_n 3, 1) := by decide +kernel
theorem dX12_keyIs_19 : decode cX12_keyIs 19 = .ok (.aload_n 0, 1) := by decide +kernel
theorem dX12_keyIs_20 : decode cX12_keyIs 20 = .ok (.getfield 66, 3) := by decide +kernel
theorem dX12_keyIs_23 : decode cX12_keyIs 23 = .ok (.if_icmp .ge 36, 3) := by decide +kernel
theorem dX12_keyIs_26 : decode cX12_keyIs 26 = .ok (.iload_n 3, 1) := by decide +kernel
theorem dX12_keyIs_27 : decode cX12_keyIs 27 = .ok (.bipush 12, 2) := by decide +kernel
theorem dX12_keyIs_29 : decode cX12_keyIs 29 = .ok (.if_icmp .ge 30, 3) := by decide +kernel
theorem dX12_keyIs_32 : decode cX12_keyIs 32 = .ok (.aload_n 0, 1) := by decide +kernel
theorem dX12_keyIs_33 : decode cX12_keyIs 33 = .ok (.getfield 7, 3) := by decide +kernel
theorem dX12_keyIs_36 : decode cX12_keyIs 36 = .ok (.iload_n 1, 1) := by decide +kernel
theorem dX12_keyIs_37 : decode cX12_keyIs 37 = .ok (.iload_n 2, 1) := by decide +kernel
theorem dX12_keyIs_38 : decode cX12_keyIs 38 = .ok (.invokestatic 11, 3) := by decide +kernel
theorem dX12_keyIs_41 : decode cX12_keyIs 41 = .ok (.bipush 6, 2) := by decide +kernel
theorem dX12_keyIs_43 : decode cX12_keyIs 43 = .ok (.iadd, 1) := by decide +kernel
theorem dX12_keyIs_44 : decode cX12_keyIs 44 = .ok (.iload_n 3, 1) := by decide +kernel
theorem dX12_keyIs_45 : decode cX12_keyIs 45 = .ok (.iadd, 1) := by decide +kernel
theorem dX12_keyIs_46 : decode cX12_keyIs 46 = .ok (.aload_n 0, 1) := by decide +kernel
theorem dX12_keyIs_47 : decode cX12_keyIs 47 = .ok (.getfield 69, 3) := by decide +kernel
theorem dX12_keyIs_50 : decode cX12_keyIs 50 = .ok (.iload_n 3, 1) := by decide +kernel
theorem dX12_keyIs_51 : decode cX12_keyIs 51 = .ok (.iaload, 1) := by decide +kernel
theorem dX12_keyIs_52 : decode cX12_keyIs 52 = .ok (.iastore, 1) := by decide +kernel
theorem dX12_keyIs_53 : decode cX12_keyIs 53 = .ok (.iinc 3 1, 3) := by decide +kernel
theorem dX12_keyIs_56 : decode cX12_keyIs 56 = .ok (.goto (-38), 3) := by decide +kernel
theorem dX12_keyIs_59 : decode cX12_keyIs 59 = .ok (.return_, 1) := by decide +kernel
theorem dX12_init_0 : decode cX12_init 0 = .ok (.aload_n 0, 1) := by decide +kernel
theorem dX12_init_1 : decode cX12_init 1 = .ok (.invokespecial 81, 3) := by decide +kernel
theorem dX12_init_4 : decode cX12_init 4 = .ok (.aload_n 0, 1) := by decide +kernel
theorem dX12_init_5 : decode cX12_init 5 = .ok (.ldc 87, 2) := by decide +kernel
theorem dX12_init_7 : decode cX12_init 7 = .ok (.newarray .int, 2) := by decide +kernel
theorem dX12_init_9 : decode cX12_init 9 = .ok (.putfield 7, 3) := by decide +kernel
theorem dX12_init_12 : decode cX12_init 12 = .ok (.aload_n 0, 1) := by decide +kernel
theorem dX12_init_13 : decode cX12_init 13 = .ok (.bipush 48, 2) := by decide +kernel
theorem dX12_init_15 : decode cX12_init 15 = .ok (.newarray .int, 2) := by decide +kernel
theorem dX12_init_17 : decode cX12_init 17 = .ok (.putfield 26, 3) := by decide +kernel
theorem dX12_init_20 : decode cX12_init 20 = .ok (.aload_n 0, 1) := by decide +kernel
theorem dX12_init_21 : decode cX12_init 21 = .ok (.sipush 400, 3) := by decide +kernel
theorem dX12_init_24 : decode cX12_init 24 = .ok (.newarray .int, 2) := by decide +kernel
theorem dX12_init_26 : decode cX12_init 26 = .ok (.putfield 88, 3) := by decide +kernel
theorem dX12_init_29 : decode cX12_init 29 = .ok (.aload_n 0, 1) := by decide +kernel
theorem dX12_init_30 : decode cX12_init 30 = .ok (.ldc 91, 2) := by decide +kernel
theorem dX12_init_32 : decode cX12_init 32 = .ok (.newarray .int, 2) := by decide +kernel
theorem dX12_init_34 : decode cX12_init 34 = .ok (.putfield 92, 3) := by decide +kernel
theorem dX12_init_37 : decode cX12_init 37 = .ok (.aload_n 0, 1) := by decide +kernel
theorem dX12_init_38 : decode cX12_init 38 = .ok (.sipush 128, 3) := by decide +kernel
theorem dX12_init_41 : decode cX12_init 41 = .ok (.newarray .int, 2) := by decide +kernel
theorem dX12_init_43 : decode cX12_init 43 = .ok (.putfield 43, 3) := by decide +kernel
theorem dX12_init_46 : decode cX12_init 46 = .ok (.aload_n 0, 1) := by decide +kernel
theorem dX12_init_47 : decode cX12_init 47 = .ok (.sipush 128, 3) := by decide +kernel
theorem dX12_init_50 : decode cX12_init 50 = .ok (.newarray .int, 2) := by decide +kernel
theorem dX12_init_52 : decode cX12_init 52 = .ok (.putfield 46, 3) := by decide +kernel
theorem dX12_init_55 : decode cX12_init 55 = .ok (.aload_n 0, 1) := by decide +kernel
theorem dX12_init_56 : decode cX12_init 56 = .ok (.sipush 1000, 3) := by decide +kernel
theorem dX12_init_59 : decode cX12_init 59 = .ok (.newarray .int, 2) := by decide +kernel
theorem dX12_init_61 : decode cX12_init 61 = .ok (.putfield 69, 3) := by decide +kernel
theorem dX12_init_64 : decode cX12_init 64 = .ok (.aload_n 0, 1) := by decide +kernel
theorem dX12_init_65 : decode cX12_init 65 = .ok (.sipush 1000, 3) := by decide +kernel
theorem dX12_init_68 : decode cX12_init 68 = .ok (.newarray .int, 2) := by decide +kernel
theorem dX12_init_70 : decode cX12_init 70 = .ok (.putfield 95, 3) := by decide +kernel
theorem dX12_init_73 : decode cX12_init 73 = .ok (.aload_n 0, 1) := by decide +kernel
theorem dX12_init_74 : decode cX12_init 74 = .ok (.bipush 81, 2) := by decide +kernel
theorem dX12_init_76 : decode cX12_init 76 = .ok (.newarray .long, 2) := by decide +kernel
theorem dX12_init_78 : decode cX12_init 78 = .ok (.dup, 1) := by decide +kernel
theorem dX12_init_79 : decode cX12_init 79 = .ok (.iconst 0, 1) := by decide +kernel
theorem dX12_init_80 : decode cX12_init 80 = .ok (.ldc2_w 98, 3) := by decide +kernel
theorem dX12_init_83 : decode cX12_init 83 = .ok (.lastore, 1) := by decide +kernel
theorem dX12_init_84 : decode cX12_init 84 = .ok (.dup, 1) := by decide +kernel
theorem dX12_init_85 : decode cX12_init 85 = .ok (.iconst 1, 1) := by decide +kernel
theorem dX12_init_86 : decode cX12_init 86 = .ok (.ldc2_w 100, 3) := by decide +kernel
theorem dX12_init_89 : decode cX12_init 89 = .ok (.lastore, 1) := by decide +kernel
theorem dX12_init_90 : decode cX12_init 90 = .ok (.dup, 1) := by decide +kernel
theorem dX12_init_91 : decode cX12_init 91 = .ok (.iconst 2, 1) := by decide +kernel
theorem dX12_init_92 : decode cX12_init 92 = .ok (.ldc2_w 102, 3) := by decide +kernel
theorem dX12_init_95 : decode cX12_init 95 = .ok (.lastore, 1) := by decide +kernel
theorem dX12_init_96 : decode cX12_init 96 = .ok (.dup, 1) := by decide +kernel
theorem dX12_init_97 : decode cX12_init 97 = .ok (.iconst 3, 1) := by decide +kernel
theorem dX12_init_98 : decode cX12_init 98 = .ok (.ldc2_w 104, 3) := by decide +kernel
theorem dX12_init_101 : decode cX12_init 101 = .ok (.lastore, 1) := by decide +kernel
theorem dX12_init_102 : decode cX12_init 102 = .ok (.dup, 1) := by decide +kernel
theorem dX12_init_103 : decode cX12_init 103 = .ok (.iconst 4, 1) := by decide +kernel
theorem dX12_init_104 : decode cX12_init 104 = .ok (.ldc2_w 106, 3) := by decide +kernel
theorem dX12_init_107 : decode cX12_init 107 = .ok (.lastore, 1) := by decide +kernel
theorem dX12_init_108 : decode cX12_init 108 = .ok (.dup, 1) := by decide +kernel
theorem dX12_init_109 : decode cX12_init 109 = .ok (.iconst 5, 1) := by decide +kernel
theorem dX12_init_110 : decode cX12_init 110 = .ok (.ldc2_w 108, 3) := by decide +kernel
theorem dX12_init_113 : decode cX12_init 113 = .ok (.lastore, 1) := by decide +kernel
theorem dX12_init_114 : decode cX12_init 114 = .ok (.dup, 1) := by decide +kernel
theorem dX12_init_115 : decode cX12_init 115 = .ok (.bipush 6, 2) := by decide +kernel
theorem dX12_init_117 : decode cX12_init 117 = .ok (.ldc2_w 110, 3) := by decide +kernel
theorem dX12_init_120 : decode cX12_init 120 = .ok (.lastore, 1) := by decide +kernel
theorem dX12_init_121 : decode cX12_init 121 = .ok (.dup, 1) := by decide +kernel
theorem dX12_init_122 : decode cX12_init 122 = .ok (.bipush 7, 2) := by decide +kernel
theorem dX12_init_124 : decode cX12_init 124 = .ok (.ldc2_w 112, 3) := by decide +kernel
theorem dX12_init_127 : decode cX12_init 127 = .ok (.lastore, 1) := by decide +kernel
theorem dX12_init_128 : decode cX12_init 128 = .ok (.dup, 1) := by decide +kernel
theorem dX12_init_129 : decode cX12_init 129 = .ok (.bipush 8, 2) := by decide +kernel
theorem dX12_init_131 : decode cX12_init 131 = .ok (.ldc2_w 114, 3) := by decide +kernel
theorem dX12_init_134 : decode cX12_init 134 = .ok (.lastore, 1) := by decide +kernel
theorem dX12_init_135 : decode cX12_init 135 = .ok (.dup, 1) := by decide +kernel
theorem dX12_init_136 : decode cX12_init 136 = .ok (.bipush 9, 2) := by decide +kernel
theorem dX12_init_138 : decode cX12_init 138 = .ok (.ldc2_w 116, 3) := by decide +kernel
theorem dX12_init_141 : decode cX12_init 141 = .ok (.lastore, 1) := by decide +kernel
theorem dX12_init_142 : decode cX12_init 142 = .ok (.dup, 1) := by decide +kernel
theorem dX12_init_143 : decode cX12_init 143 = .ok (.bipush 10, 2) := by decide +kernel
theorem dX12_init_145 : decode cX12_init 145 = .ok (.ldc2_w 118, 3) := by decide +kernel
theorem dX12_init_148 : decode cX12_init 148 = .ok (.lastore, 1) := by decide +kernel
theorem dX12_init_149 : decode cX12_init 149 = .ok (.dup, 1) := by decide +kernel
theorem dX12_init_150 : decode cX12_init 150 = .ok (.bipush 11, 2) := by decide +kernel
theorem dX12_init_152 : decode cX12_init 152 = .ok (.ldc2_w 120, 3) := by decide +kernel
theorem dX12_init_155 : decode cX12_init 155 = .ok (.lastore, 1) := by decide +kernel
theorem dX12_init_156 : decode cX12_init 156 = .ok (.dup, 1) := by decide +kernel
theorem dX12_init_157 : decode cX12_init 157 = .ok (.bipush 12, 2) := by decide +kernel
theorem dX12_init_159 : decode cX12_init 159 = .ok (.ldc2_w 122, 3) := by decide +kernel
theorem dX12_init_162 : decode cX12_init 162 = .ok (.lastore, 1) := by decide +kernel
theorem dX12_init_163 : decode cX12_init 163 = .ok (.dup, 1) := by decide +kernel
theorem dX12_init_164 : decode cX12_init 164 = .ok (.bipush 13, 2) := by decide +kernel
theorem dX12_init_166 : decode cX12_init 166 = .ok (.ldc2_w 124, 3) := by decide +kernel
theorem dX12_init_169 : decode cX12_init 169 = .ok (.lastore, 1) := by decide +kernel
theorem dX12_init_170 : decode cX12_init 170 = .ok (.dup, 1) := by decide +kernel
theorem dX12_init_171 : decode cX12_init 171 = .ok (.bipush 14, 2) := by decide +kernel
theorem dX12_init_173 : decode cX12_init 173 = .ok (.ldc2_w 126, 3) := by decide +kernel
theorem dX12_init_176 : decode cX12_init 176 = .ok (.lastore, 1) := by decide +kernel
theorem dX12_init_177 : decode cX12_init 177 = .ok (.dup, 1) := by decide +kernel
theorem dX12_init_178 : decode cX12_init 178 = .ok (.bipush 15, 2) := by decide +kernel
theorem dX12_init_180 : decode cX12_init 180 = .ok (.ldc2_w 128, 3) := by decide +kernel
theorem dX12_init_183 : decode cX12_init 183 = .ok (.lastore, 1) := by decide +kernel
theorem dX12_init_184 : decode cX12_init 184 = .ok (.dup, 1) := by decide +kernel
theorem dX12_init_185 : decode cX12_init 185 = .ok (.bipush 16, 2) := by decide +kernel
theorem dX12_init_187 : decode cX12_init 187 = .ok (.ldc2_w 130, 3) := by decide +kernel
theorem dX12_init_190 : decode cX12_init 190 = .ok (.lastore, 1) := by decide +kernel
theorem dX12_init_191 : decode cX12_init 191 = .ok (.dup, 1) := by decide +kernel
theorem dX12_init_192 : decode cX12_init 192 = .ok (.bipush 17, 2) := by decide +kernel
theorem dX12_init_194 : decode cX12_init 194 = .ok (.ldc2_w 104, 3) := by decide +kernel
theorem dX12_init_197 : decode cX12_init 197 = .ok (.lastore, 1) := by decide +kernel
theorem dX12_init_198 : decode cX12_init 198 = .ok (.dup, 1) := by decide +kernel
theorem dX12_init_199 : decode cX12_init 199 = .ok (.bipush 18, 2) := by decide +kernel
theorem dX12_init_201 : decode cX12_init 201 = .ok (.ldc2_w 132, 3) := by decide +kernel
theorem dX12_init_204 : decode cX12_init 204 = .ok (.lastore, 1) := by decide +kernel
theorem dX12_init_205 : decode cX12_init 205 = .ok (.dup, 1) := by decide +kernel
theorem dX12_init_206 : decode cX12_init 206 = .ok (.bipush 19, 2) := by decide +kernel
theorem dX12_init_208 : decode cX12_init 208 = .ok (.ldc2_w 134, 3) := by decide +kernel
theorem dX12_init_211 : decode cX12_init 211 = .ok (.lastore, 1) := by decide +kernel
theorem dX12_init_212 : decode cX12_init 212 = .ok (.dup, 1) := by decide +kernel
theorem dX12_init_213 : decode cX12_init 213 = .ok (.bipush 20, 2) := by decide +kernel
theorem dX12_init_215 : decode cX12_init 215 = .ok (.ldc2_w 108, 3) := by decide +kernel
theorem dX12_init_218 : decode cX12_init 218 = .ok (.lastore, 1) := by decide +kernel
theorem dX12_init_219 : decode cX12_init 219 = .ok (.dup, 1) := by decide +kernel
theorem dX12_init_220 : decode cX12_init 220 = .ok (.bipush 21, 2) := by decide +kernel
theorem dX12_init_222 : decode cX12_init 222 = .ok (.ldc2_w 136, 3) := by decide +kernel
theorem dX12_init_225 : decode cX12_init 225 = .ok (.lastore, 1) := by decide +kernel
theorem dX12_init_226 : decode cX12_init 226 = .ok (.dup, 1) := by decide +kernel
theorem dX12_init_227 : decode cX12_init 227 = .ok (.bipush 22, 2) := by decide +kernel
theorem dX12_init_229 : decode cX12_init 229 = .ok (.ldc2_w 138, 3) := by decide +kernel
theorem dX12_init_232 : decode cX12_init 232 = .ok (.lastore, 1) := by decide +kernel
theorem dX12_init_233 : decode cX12_init 233 = .ok (.dup, 1) := by decide +kernel
theorem dX12_init_234 : decode cX12_init 234 = .ok (.bipush 23, 2) := by decide +kernel
theorem dX12_init_236 : decode cX12_init 236 = .ok (.ldc2_w 140, 3) := by decide +kernel
theorem dX12_init_239 : decode cX12_init 239 = .ok (.lastore, 1) := by decide +kernel
theorem dX12_init_240 : decode cX12_init 240 = .ok (.dup, 1) := by decide +kernel
theorem dX12_init_241 : decode cX12_init 241 = .ok (.bipush 24, 2) := by decide +kernel
theorem dX12_init_243 : decode cX12_init 243 = .ok (.ldc2_w 142, 3) := by decide +kernel
theorem dX12_init_246 : decode cX12_init 246 = .ok (.lastore, 1) := by decide +kernel
theorem dX12_init_247 : decode cX12_init 247 = .ok (.dup, 1) := by decide +kernel
theorem dX12_init_248 : decode cX12_init 248 = .ok (.bipush 25, 2) := by decide +kernel
theorem dX12_init_250 : decode cX12_init 250 = .ok (.ldc2_w 144, 3) := by decide +kernel
theorem dX12_init_253 : decode cX12_init 253 = .ok (.lastore, 1) := by decide +kernel
theorem dX12_init_254 : decode cX12_init 254 = .ok (.dup, 1) := by decide +kernel
theorem dX12_init_255 : decode cX12_init 255 = .ok (.bipush 26, 2) := by decide +kernel
theorem dX12_init_257 : decode cX12_init 257 = .ok (.ldc2_w 146, 3) := by decide +kernel
theorem dX12_init_260 : decode cX12_init 260 = .ok (.lastore, 1) := by decide +kernel
theorem dX12_init_261 : decode cX12_init 261 = .ok (.dup, 1) := by decide +kernel
theorem dX12_init_262 : decode cX12_init 262 = .ok (.bipush 27, 2) := by decide +kernel
theorem dX12_init_264 : decode cX12_init 264 = .ok (.ldc2_w 148, 3) := by decide +kernel
theorem dX12_init_267 : decode cX12_init 267 = .ok (.lastore, 1) := by decide +kernel
theorem dX12_init_268 : decode cX12_init 268 = .ok (.dup, 1) := by decide +kernel
theorem dX12_init_269 : decode cX12_init 269 = .ok (.bipush 28, 2) := by decide +kernel
theorem dX12_init_271 : decode cX12_init 271 = .ok (.ldc2_w 150, 3) := by decide +kernel
theorem dX12_init_274 : decode cX12_init 274 = .ok (.lastore, 1) := by decide +kernel
theorem dX12_init_275 : decode cX12_init 275 = .ok (.dup, 1) := by decide +kernel
theorem dX12_init_276 : decode cX12_init 276 = .ok (.bipush 29, 2) := by decide +kernel
theorem dX12_init_278 : decode cX12_init 278 = .ok (.ldc2_w 152, 3) := by decide +kernel
theorem dX12_init_281 : decode cX12_init 281 = .ok (.lastore, 1) := by decide +kernel
theorem dX12_init_282 : decode cX12_init 282 = .ok (.dup, 1) := by decide +kernel
theorem dX12_init_283 : decode cX12_init 283 = .ok (.bipush 30, 2) := by decide +kernel
theorem dX12_init_285 : decode cX12_init 285 = .ok (.ldc2_w 154, 3) := by decide +kernel
theorem dX12_init_288 : decode cX12_init 288 = .ok (.lastore, 1) := by decide +kernel
theorem dX12_init_289 : decode cX12_init 289 = .ok (.dup, 1) := by decide +kernel
theorem dX12_init_290 : decode cX12_init 290 = .ok (.bipush 31, 2) := by decide +kernel
theorem dX12_init_292 : decode cX12_init 292 = .ok (.ldc2_w 156, 3) := by decide +kernel
theorem dX12_init_295 : decode cX12_init 295 = .ok (.lastore, 1) := by decide +kernel
theorem dX12_init_296 : decode cX12_init 296 = .ok (.dup, 1) := by decide +kernel
theorem dX12_init_297 : decode cX12_init 297 = .ok (.bipush 32, 2) := by decide +kernel
theorem dX12_init_299 : decode cX12_init 299 = .ok (.ldc2_w 158, 3) := by decide +kernel
theorem dX12_init_302 : decode cX12_init 302 = .ok (.lastore, 1) := by decide +kernel
theorem dX12_init_303 : decode cX12_init 303 = .ok (.dup, 1) := by decide +kernel
theorem dX12_init_304 : decode cX12_init 304 = .ok (.bipush 33, 2) := by decide +kernel
theorem dX12_init_306 : decode cX12_init 306 = .ok (.ldc2_w 148, 3) := by decide +kernel
theorem dX12_init_309 : decode cX12_init 309 = .ok (.lastore, 1) := by decide +kernel
theorem dX12_init_310 : decode cX12_init 310 = .ok (.dup, 1) := by decide +kernel
theorem dX12_init_311 : decode cX12_init 311 = .ok (.bipush 34, 2) := by decide +kernel
theorem dX12_init_313 : decode cX12_init 313 = .ok (.ldc2_w 160, 3) := by decide +kernel
theorem dX12_init_316 : decode cX12_init 316 = .ok (.lastore, 1) := by decide +kernel
theorem dX12_init_317 : decode cX12_init 317 = .ok (.dup, 1) := by decide +kernel
theorem dX12_init_318 : decode cX12_init 318 = .ok (.bipush 35, 2) := by decide +kernel
theorem dX12_init_320 : decode cX12_init 320 = .ok (.ldc2_w 162, 3) := by decide +kernel
theorem dX12_init_323 : decode cX12_init 323 = .ok (.lastore, 1) := by decide +kernel
theorem dX12_init_324 : decode cX12_init 324 = .ok (.dup, 1) := by decide +kernel
theorem dX12_init_325 : decode cX12_init 325 = .ok (.bipush 36, 2) := by decide +kernel
theorem dX12_init_327 : decode cX12_init 327 = .ok (.ldc2_w 164, 3) := by decide +kernel
theorem dX12_init_330 : decode cX12_init 330 = .ok (.lastore, 1) := by decide +kernel
theorem dX12_init_331 : decode cX12_init 331 = .ok (.dup, 1) := by decide +kernel
theorem dX12_init_332 : decode cX12_init 332 = .ok (.bipush 37, 2) := by decide +kernel
theorem dX12_init_334 : decode cX12_init 334 = .ok (.ldc2_w 166, 3) := by decide +kernel
theorem dX12_init_337 : decode cX12_init 337 = .ok (.lastore, 1) := by decide +kernel
theorem dX12_init_338 : decode cX12_init 338 = .ok (.dup, 1) := by decide +kernel
theorem dX12_init_339 : decode cX12_init 339 = .ok (.bipush 38, 2) := by decide +kernel
theorem dX12_init_341 : decode cX12_init 341 = .ok (.ldc2_w 168, 3) := by decide +kernel
theorem dX12_init_344 : decode cX12_init 344 = .ok (.lastore, 1) := by decide +kernel
theorem dX12_init_345 : decode cX12_init 345 = .ok (.dup, 1) := by decide +kernel
theorem dX12_init_346 : decode cX12_init 346 = .ok (.bipush 39, 2) := by decide +kernel
theorem dX12_init_348 : decode cX12_init 348 = .ok (.ldc2_w 170, 3) := by decide +kernel
theorem dX12_init_351 : decode cX12_init 351 = .ok (.lastore, 1) := by decide +kernel
theorem dX12_init_352 : decode cX12_init 352 = .ok (.dup, 1) := by decide +kernel
theorem dX12_init_353 : decode cX12_init 353 = .ok (.bipush 40, 2) := by decide +kernel
theorem dX12_init_355 : decode cX12_init 355 = .ok (.ldc2_w 172, 3) := by decide +kernel
theorem dX12_init_358 : decode cX12_init 358 = .ok (.lastore, 1) := by decide +kernel
theorem dX12_init_359 : decode cX12_init 359 = .ok (.dup, 1) := by decide +kernel
theorem dX12_init_360 : decode cX12_init 360 = .ok (.bipush 41, 2) := by decide +kernel
theorem dX12_init_362 : decode cX12_init 362 = .ok (.ldc2_w 174, 3) := by decide +kernel
theorem dX12_init_365 : decode cX12_init 365 = .ok (.lastore, 1) := by decide +kernel
theorem dX12_init_366 : decode cX12_init 366 = .ok (.dup, 1) := by decide +kernel
theorem dX12_init_367 : decode cX12_init 367 = .ok (.bipush 42, 2) := by decide +kernel
theorem dX12_init_369 : decode cX12_init 369 = .ok (.ldc2_w 176, 3) := by decide +kernel
theorem dX12_init_372 : decode cX12_init 372 = .ok (.lastore, 1) := by decide +kernel
theorem dX12_init_373 : decode cX12_init 373 = .ok (.dup, 1) := by decide +kernel
theorem dX12_init_374 : decode cX12_init 374 = .ok (.bipush 43, 2) := by decide +kernel
theorem dX12_init_376 : decode cX12_init 376 = .ok (.ldc2_w 178, 3) := by decide +kernel
theorem dX12_init_379 : decode cX12_init 379 = .ok (.lastore, 1) := by decide +kernel
theorem dX12_init_380 : decode cX12_init 380 = .ok (.dup, 1) := by decide +kernel
theorem dX12_init_381 : decode cX12_init 381 = .ok (.bipush 44, 2) := by decide +kernel
theorem dX12_init_383 : decode cX12_init 383 = .ok (.ldc2_w 180, 3) := by decide +kernel
theorem dX12_init_386 : decode cX12_init 386 = .ok (.lastore, 1) := by decide +kernel
theorem dX12_init_387 : decode cX12_init 387 = .ok (.dup, 1) := by decide +kernel
theorem dX12_init_388 : decode cX12_init 388 = .ok (.bipush 45, 2) := by decide +kernel
theorem dX12_init_390 : decode cX12_init 390 = .ok (.ldc2_w 182, 3) := by decide +kernel
theorem dX12_init_393 : decode cX12_init 393 = .ok (.lastore, 1) := by decide +kernel
theorem dX12_init_394 : decode cX12_init 394 = .ok (.dup, 1) := by decide +kernel
theorem dX12_init_395 : decode cX12_init 395 = .ok (.bipush 46, 2) := by decide +kernel
theorem dX12_init_397 : decode cX12_init 397 = .ok (.ldc2_w 174, 3) := by decide +kernel
theorem dX12_init_400 : decode cX12_init 400 = .ok (.lastore, 1) := by decide +kernel
theorem dX12_init_401 : decode cX12_init 401 = .ok (.dup, 1) := by decide +kernel
theorem dX12_init_402 : decode cX12_init 402 = .ok (.bipush 47, 2) := by decide +kernel
theorem dX12_init_404 : decode cX12_init 404 = .ok (.ldc2_w 184, 3) := by decide +kernel
theorem dX12_init_407 : decode cX12_init 407 = .ok (.lastore, 1) := by decide +kernel
theorem dX12_init_408 : decode cX12_init 408 = .ok (.dup, 1) := by decide +kernel
theorem dX12_init_409 : decode cX12_init 409 = .ok (.bipush 48, 2) := by decide +kernel
theorem dX12_init_411 : decode cX12_init 411 = .ok (.ldc2_w 186, 3) := by decide +kernel
theorem dX12_init_414 : decode cX12_init 414 = .ok (.lastore, 1) := by decide +kernel
theorem dX12_init_415 : decode cX12_init 415 = .ok (.dup, 1) := by decide +kernel
theorem dX12_init_416 : decode cX12_init 416 = .ok (.bipush 49, 2) := by decide +kernel
theorem dX12_init_418 : decode cX12_init 418 = .ok (.ldc2_w 188, 3) := by decide +kernel
theorem dX12_init_421 : decode cX12_init 421 = .ok (.lastore, 1) := by decide +kernel
theorem dX12_init_422 : decode cX12_init 422 = .ok (.dup, 1) := by decide +kernel
theorem dX12_init_423 : decode cX12_init 423 = .ok (.bipush 50, 2) := by decide +kernel
theorem dX12_init_425 : decode cX12_init 425 = .ok (.ldc2_w 190, 3) := by decide +kernel
theorem dX12_init_428 : decode cX12_init 428 = .ok (.lastore, 1) := by decide +kernel
theorem dX12_init_429 : decode cX12_init 429 = .ok (.dup, 1) := by decide +kernel
theorem dX12_init_430 : decode cX12_init 430 = .ok (.bipush 51, 2) := by decide +kernel
theorem dX12_init_432 : decode cX12_init 432 = .ok (.ldc2_w 192, 3) := by decide +kernel
theorem dX12_init_435 : decode cX12_init 435 = .ok (.lastore, 1) := by decide +kernel
theorem dX12_init_436 : decode cX12_init 436 = .ok (.dup, 1) := by decide +kernel
theorem dX12_init_437 : decode cX12_init 437 = .ok (.bipush 52, 2) := by decide +kernel
theorem dX12_init_439 : decode cX12_init 439 = .ok (.ldc2_w 194, 3) := by decide +kernel
theorem dX12_init_442 : decode cX12_init 442 = .ok (.lastore, 1) := by decide +kernel
theorem dX12_init_443 : decode cX12_init 443 = .ok (.dup, 1) := by decide +kernel
theorem dX12_init_444 : decode cX12_init 444 = .ok (.bipush 53, 2) := by decide +kernel
theorem dX12_init_446 : decode cX12_init 446 = .ok (.ldc2_w 164, 3) := by decide +kernel
theorem dX12_init_449 : decode cX12_init 449 = .ok (.lastore, 1) := by decide +kernel
theorem dX12_init_450 : decode cX12_init 450 = .ok (.dup, 1) := by decide +kernel
theorem dX12_init_451 : decode cX12_init 451 = .ok (.bipush 54, 2) := by decide +kernel
theorem dX12_init_453 : decode cX12_init 453 = .ok (.ldc2_w 196, 3) := by decide +kernel
theorem dX12_init_456 : decode cX12_init 456 = .ok (.lastore, 1) := by decide +kernel
theorem dX12_init_457 : decode cX12_init 457 = .ok (.dup, 1) := by decide +kernel
theorem dX12_init_458 : decode cX12_init 458 = .ok (.bipush 55, 2) := by decide +kernel
theorem dX12_init_460 : decode cX12_init 460 = .ok (.ldc2_w 198, 3) := by decide +kernel
theorem dX12_init_463 : decode cX12_init 463 = .ok (.lastore, 1) := by decide +kernel
theorem dX12_init_464 : decode cX12_init 464 = .ok (.dup, 1) := by decide +kernel
theorem dX12_init_465 : decode cX12_init 465 = .ok (.bipush 56, 2) := by decide +kernel
theorem dX12_init_467 : decode cX12_init 467 = .ok (.ldc2_w 200, 3) := by decide +kernel
theorem dX12_init_470 : decode cX12_init 470 = .ok (.lastore, 1) := by decide +kernel
theorem dX12_init_471 : decode cX12_init 471 = .ok (.dup, 1) := by decide +kernel
theorem dX12_init_472 : decode cX12_init 472 = .ok (.bipush 57, 2) := by decide +kernel
theorem dX12_init_474 : decode cX12_init 474 = .ok (.ldc2_w 202, 3) := by decide +kernel
theorem dX12_init_477 : decode cX12_init 477 = .ok (.lastore, 1) := by decide +kernel
theorem dX12_init_478 : decode cX12_init 478 = .ok (.dup, 1) := by decide +kernel
theorem dX12_init_479 : decode cX12_init 479 = .ok (.bipush 58, 2) := by decide +kernel
theorem dX12_init_481 : decode cX12_init 481 = .ok (.ldc2_w 204, 3) := by decide +kernel
theorem dX12_init_484 : decode cX12_init 484 = .ok (.lastore, 1) := by decide +kernel
theorem dX12_init_485 : decode cX12_init 485 = .ok (.dup, 1) := by decide +kernel
theorem dX12_init_486 : decode cX12_init 486 = .ok (.bipush 59, 2) := by decide +kernel
theorem dX12_init_488 : decode cX12_init 488 = .ok (.ldc2_w 206, 3) := by decide +kernel
theorem dX12_init_491 : decode cX12_init 491 = .ok (.lastore, 1) := by decide +kernel
theorem dX12_init_492 : decode cX12_init 492 = .ok (.dup, 1) := by decide +kernel
theorem dX12_init_493 : decode cX12_init 493 = .ok (.bipush 60, 2) := by decide +kernel
theorem dX12_init_495 : decode cX12_init 495 = .ok (.ldc2_w 208, 3) := by decide +kernel
theorem dX12_init_498 : decode cX12_init 498 = .ok (.lastore, 1) := by decide +kernel
theorem dX12_init_499 : decode cX12_init 499 = .ok (.dup, 1) := by decide +kernel
theorem dX12_init_500 : decode cX12_init 500 = .ok (.bipush 61, 2) := by decide +kernel
theorem dX12_init_502 : decode cX12_init 502 = .ok (.ldc2_w 210, 3) := by decide +kernel
theorem dX12_init_505 : decode cX12_init 505 = .ok (.lastore, 1) := by decide +kernel
theorem dX12_init_506 : decode cX12_init 506 = .ok (.dup, 1) := by decide +kernel
theorem dX12_init_507 : decode cX12_init 507 = .ok (.bipush 62, 2) := by decide +kernel
theorem dX12_init_509 : decode cX12_init 509 = .ok (.ldc2_w 212, 3) := by decide +kernel
theorem dX12_init_512 : decode cX12_init 512 = .ok (.lastore, 1) := by decide +kernel
theorem dX12_init_513 : decode cX12_init 513 = .ok (.dup, 1) := by decide +kernel
theorem dX12_init_514 : decode cX12_init 514 = .ok (.bipush 63, 2) := by decide +kernel
theorem dX12_init_516 : decode cX12_init 516 = .ok (.ldc2_w 214, 3) := by decide +kernel
theorem dX12_init_519 : decode cX12_init 519 = .ok (.lastore, 1) := by decide +kernel
theorem dX12_init_520 : decode cX12_init 520 = .ok (.dup, 1) := by decide +kernel
theorem dX12_init_521 : decode cX12_init 521 = .ok (.bipush 64, 2) := by decide +kernel
theorem dX12_init_523 : decode cX12_init 523 = .ok (.ldc2_w 216, 3) := by decide +kernel
theorem dX12_init_526 : decode cX12_init 526 = .ok (.lastore, 1) := by decide +kernel
theorem dX12_init_527 : decode cX12_init 527 = .ok (.dup, 1) := by decide +kernel
theorem dX12_init_528 : decode cX12_init 528 = .ok (.bipush 65, 2) := by decide +kernel
theorem dX12_init_530 : decode cX12_init 530 = .ok (.ldc2_w 218, 3) := by decide +kernel
theorem dX12_init_533 : decode cX12_init 533 = .ok (.lastore, 1) := by decide +kernel
theorem dX12_init_534 : decode cX12_init 534 = .ok (.dup, 1) := by decide +kernel
theorem dX12_init_535 : decode cX12_init 535 = .ok (.bipush 66, 2) := by decide +kernel
theorem dX12_init_537 : decode cX12_init 537 = .ok (.ldc2_w 220, 3) := by decide +kernel
theorem dX12_init_540 : decode cX12_init 540 = .ok (.lastore, 1) := by decide +kernel
theorem dX12_init_541 : decode cX12_init 541 = .ok (.dup, 1) := by decide +kernel
theorem dX12_init_542 : decode cX12_init 542 = .ok (.bipush 67, 2) := by decide +kernel
theorem dX12_init_544 : decode cX12_init 544 = .ok (.ldc2_w 222, 3) := by decide +kernel
theorem dX12_init_547 : decode cX12_init 547 = .ok (.lastore, 1) := by decide +kernel
theorem dX12_init_548 : decode cX12_init 548 = .ok (.dup, 1) := by decide +kernel
theorem dX12_init_549 : decode cX12_init 549 = .ok (.bipush 68, 2) := by decide +kernel
theorem dX12_init_551 : decode cX12_init 551 = .ok (.ldc2_w 224, 3) := by decide +kernel
theorem dX12_init_554 : decode cX12_init 554 = .ok (.lastore, 1) := by decide +kernel
theorem dX12_init_555 : decode cX12_init 555 = .ok (.dup, 1) := by decide +kernel
theorem dX12_init_556 : decode cX12_init 556 = .ok (.bipush 69, 2) := by decide +kernel
theorem dX12_init_558 : decode cX12_init 558 = .ok (.ldc2_w 226, 3) := by decide +kernel
theorem dX12_init_561 : decode cX12_init 561 = .ok (.lastore, 1) := by decide +kernel
theorem dX12_init_562 : decode cX12_init 562 = .ok (.dup, 1) := by decide +kernel
theorem dX12_init_563 : decode cX12_init 563 = .ok (.bipush 70, 2) := by decide +kernel
theorem dX12_init_565 : decode cX12_init 565 = .ok (.ldc2_w 228, 3) := by decide +kernel
theorem dX12_init_568 : decode cX12_init 568 = .ok (.lastore, 1) := by decide +kernel
theorem dX12_init_569 : decode cX12_init 569 = .ok (.dup, 1) := by decide +kernel
theorem dX12_init_570 : decode cX12_init 570 = .ok (.bipush 71, 2) := by decide +kernel
theorem dX12_init_572 : decode cX12_init 572 = .ok (.ldc2_w 230, 3) := by decide +kernel
theorem dX12_init_575 : decode cX12_init 575 = .ok (.lastore, 1) := by decide +kernel
theorem dX12_init_576 : decode cX12_init 576 = .ok (.dup, 1) := by decide +kernel
theorem dX12_init_577 : decode cX12_init 577 = .ok (.bipush 72, 2) := by decide +kernel
theorem dX12_init_579 : decode cX12_init 579 = .ok (.ldc2_w 204, 3) := by decide +kernel
theorem dX12_init_582 : decode cX12_init 582 = .ok (.lastore, 1) := by decide +kernel
theorem dX12_init_583 : decode cX12_init 583 = .ok (.dup, 1) := by decide +kernel
theorem dX12_init_584 : decode cX12_init 584 = .ok (.bipush 73, 2) := by decide +kernel
theorem dX12_init_586 : decode cX12_init 586 = .ok (.ldc2_w 232, 3) := by decide +kernel
theorem dX12_init_589 : decode cX12_init 589 = .ok (.lastore, 1) := by decide +kernel
theorem dX12_init_590 : decode cX12_init 590 = .ok (.dup, 1) := by decide +kernel
theorem dX12_init_591 : decode cX12_init 591 = .ok (.bipush 74, 2) := by decide +kernel
theorem dX12_init_593 : decode cX12_init 593 = .ok (.ldc2_w 234, 3) := by decide +kernel
theorem dX12_init_596 : decode cX12_init 596 = .ok (.lastore, 1) := by decide +kernel
theorem dX12_init_597 : decode cX12_init 597 = .ok (.dup, 1) := by decide +kernel
theorem dX12_init_598 : decode cX12_init 598 = .ok (.bipush 75, 2) := by decide +kernel
theorem dX12_init_600 : decode cX12_init 600 = .ok (.ldc2_w 236, 3) := by decide +kernel
theorem dX12_init_603 : decode cX12_init 603 = .ok (.lastore, 1) := by decide +kernel
theorem dX12_init_604 : decode cX12_init 604 = .ok (.dup, 1) := by decide +kernel
theorem dX12_init_605 : decode cX12_init 605 = .ok (.bipush 76, 2) := by decide +kernel
theorem dX12_init_607 : decode cX12_init 607 = .ok (.ldc2_w 238, 3) := by decide +kernel
theorem dX12_init_610 : decode cX12_init 610 = .ok (.lastore, 1) := by decide +kernel
theorem dX12_init_611 : decode cX12_init 611 = .ok (.dup, 1) := by decide +kernel
theorem dX12_init_612 : decode cX12_init 612 = .ok (.bipush 77, 2) := by decide +kernel
theorem dX12_init_614 : decode cX12_init 614 = .ok (.ldc2_w 174, 3) := by decide +kernel
theorem dX12_init_617 : decode cX12_init 617 = .ok (.lastore, 1) := by decide +kernel
theorem dX12_init_618 : decode cX12_init 618 = .ok (.dup, 1) := by decide +kernel
theorem dX12_init_619 : decode cX12_init 619 = .ok (.bipush 78, 2) := by decide +kernel
theorem dX12_init_621 : decode cX12_init 621 = .ok (.ldc2_w 240, 3) := by decide +kernel
theorem dX12_init_624 : decode cX12_init 624 = .ok (.lastore, 1) := by decide +kernel
theorem dX12_init_625 : decode cX12_init 625 = .ok (.dup, 1) := by decide +kernel
theorem dX12_init_626 : decode cX12_init 626 = .ok (.bipush 79, 2) := by decide +kernel
theorem dX12_init_628 : decode cX12_init 628 = .ok (.ldc2_w 242, 3) := by decide +kernel
theorem dX12_init_631 : decode cX12_init 631 = .ok (.lastore, 1) := by decide +kernel
theorem dX12_init_632 : decode cX12_init 632 = .ok (.dup, 1) := by decide +kernel
theorem dX12_init_633 : decode cX12_init 633 = .ok (.bipush 80, 2) := by decide +kernel
theorem dX12_init_635 : decode cX12_init 635 = .ok (.ldc2_w 244, 3) := by decide +kernel
theorem dX12_init_638 : decode cX12_init 638 = .ok (.lastore, 1) := by decide +kernel
theorem dX12_init_639 : decode cX12_init 639 = .ok (.putfield 246, 3) := by decide +kernel
theorem dX12_init_642 : decode cX12_init 642 = .ok (.aload_n 0, 1) := by decide +kernel
theorem dX12_init_643 : decode cX12_init 643 = .ok (.bipush 24, 2) := by decide +kernel
theorem dX12_init_645 : decode cX12_init 645 = .ok (.newarray .int, 2) := by decide +kernel
theorem dX12_init_647 : decode cX12_init 647 = .ok (.putfield 250, 3) := by decide +kernel
theorem dX12_init_650 : decode cX12_init 650 = .ok (.aload_n 0, 1) := by decide +kernel
theorem dX12_init_651 : decode cX12_init 651 = .ok (.bipush 16, 2) := by decide +kernel
theorem dX12_init_653 : decode cX12_init 653 = .ok (.newarray .int, 2) := by decide +kernel
theorem dX12_init_655 : decode cX12_init 655 = .ok (.putfield 253, 3) := by decide +kernel
theorem dX12_init_658 : decode cX12_init 658 = .ok (.aload_n 0, 1) := by decide +kernel
theorem dX12_init_659 : decode cX12_init 659 = .ok (.bipush 13, 2) := by decide +kernel
theorem dX12_init_661 : decode cX12_init 661 = .ok (.newarray .int, 2) := by decide +kernel
theorem dX12_init_663 : decode cX12_init 663 = .ok (.putfield 256, 3) := by decide +kernel
theorem dX12_init_666 : decode cX12_init 666 = .ok (.aload_n 0, 1) := by decide +kernel
theorem dX12_init_667 : decode cX12_init 667 = .ok (.bipush 16, 2) := by decide +kernel
theorem dX12_init_669 : decode cX12_init 669 = .ok (.newarray .int, 2) := by decide +kernel
theorem dX12_init_671 : decode cX12_init 671 = .ok (.putfield 259, 3) := by decide +kernel
theorem dX12_init_674 : decode cX12_init 674 = .ok (.aload_n 0, 1) := by decide +kernel
theorem dX12_init_675 : decode cX12_init 675 = .ok (.bipush 16, 2) := by decide +kernel
theorem dX12_init_677 : decode cX12_init 677 = .ok (.newarray .int, 2) := by decide +kernel
theorem dX12_init_679 : decode cX12_init 679 = .ok (.putfield 262, 3) := by decide +kernel
theorem dX12_init_682 : decode cX12_init 682 = .ok (.aload_n 0, 1) := by decide +kernel
theorem dX12_init_683 : decode cX12_init 683 = .ok (.bipush 16, 2) := by decide +kernel
theorem dX12_init_685 : decode cX12_init 685 = .ok (.newarray .int, 2) := by decide +kernel
theorem dX12_init_687 : decode cX12_init 687 = .ok (.putfield 265, 3) := by decide +kernel
theorem dX12_init_690 : decode cX12_init 690 = .ok (.aload_n 0, 1) := by decide +kernel
theorem dX12_init_691 : decode cX12_init 691 = .ok (.ldc_w 268, 3) := by decide +kernel
theorem dX12_init_694 : decode cX12_init 694 = .ok (.newarray .int, 2) := by decide +kernel
theorem dX12_init_696 : decode cX12_init 696 = .ok (.putfield 269, 3) := by decide +kernel
theorem dX12_init_699 : decode cX12_init 699 = .ok (.aload_n 0, 1) := by decide +kernel
theorem dX12_init_700 : decode cX12_init 700 = .ok (.iconst 2, 1) := by decide +kernel
theorem dX12_init_701 : decode cX12_init 701 = .ok (.newarray .int, 2) := by decide +kernel
theorem dX12_init_703 : decode cX12_init 703 = .ok (.putfield 272, 3) := by decide +kernel
theorem dX12_init_706 : decode cX12_init 706 = .ok (.aload_n 0, 1) := by decide +kernel
theorem dX12_init_707 : decode cX12_init 707 = .ok (.sipush 1000, 3) := by decide +kernel
theorem dX12_init_710 : decode cX12_init 710 = .ok (.newarray .int, 2) := by decide +kernel
theorem dX12_init_712 : decode cX12_init 712 = .ok (.putfield 275, 3) := by decide +kernel
theorem dX12_init_715 : decode cX12_init 715 = .ok (.aload_n 0, 1) := by decide +kernel
theorem dX12_init_716 : decode cX12_init 716 = .ok (.bipush 101, 2) := by decide +kernel
theorem dX12_init_718 : decode cX12_init 718 = .ok (.newarray .int, 2) := by decide +kernel
theorem dX12_init_720 : decode cX12_init 720 = .ok (.putfield 278, 3) := by decide +kernel
theorem dX12_init_723 : decode cX12_init 723 = .ok (.aload_n 0, 1) := by decide +kernel
theorem dX12_init_724 : decode cX12_init 724 = .ok (.bipush 101, 2) := by decide +kernel
theorem dX12_init_726 : decode cX12_init 726 = .ok (.newarray .int, 2) := by decide +kernel
theorem dX12_init_728 : decode cX12_init 728 = .ok (.putfield 281, 3) := by decide +kernel
theorem dX12_init_731 : decode cX12_init 731 = .ok (.aload_n 0, 1) := by decide +kernel
theorem dX12_init_732 : decode cX12_init 732 = .ok (.bipush 101, 2) := by decide +kernel
theorem dX12_init_734 : decode cX12_init 734 = .ok (.newarray .boolean, 2) := by decide +kernel
theorem dX12_init_736 : decode cX12_init 736 = .ok (.putfield 284, 3) := by decide +kernel
theorem dX12_init_739 : decode cX12_init 739 = .ok (.aload_n 0, 1) := by decide +kernel
theorem dX12_init_740 : decode cX12_init 740 = .ok (.bipush 6, 2) := by decide +kernel
theorem dX12_init_742 : decode cX12_init 742 = .ok (.newarray .long, 2) := by decide +kernel
theorem dX12_init_744 : decode cX12_init 744 = .ok (.dup, 1) := by decide +kernel
theorem dX12_init_745 : decode cX12_init 745 = .ok (.iconst 0, 1) := by decide +kernel
theorem dX12_init_746 : decode cX12_init 746 = .ok (.ldc2_w 288, 3) := by decide +kernel
theorem dX12_init_749 : decode cX12_init 749 = .ok (.lastore, 1) := by decide +kernel
theorem dX12_init_750 : decode cX12_init 750 = .ok (.dup, 1) := by decide +kernel
theorem dX12_init_751 : decode cX12_init 751 = .ok (.iconst 1, 1) := by decide +kernel
theorem dX12_init_752 : decode cX12_init 752 = .ok (.ldc2_w 290, 3) := by decide +kernel
theorem dX12_init_755 : decode cX12_init 755 = .ok (.lastore, 1) := by decide +kernel
theorem dX12_init_756 : decode cX12_init 756 = .ok (.dup, 1) := by decide +kernel
theorem dX12_init_757 : decode cX12_init 757 = .ok (.iconst 2, 1) := by decide +kernel
theorem dX12_init_758 : decode cX12_init 758 = .ok (.ldc2_w 292, 3) := by decide +kernel
theorem dX12_init_761 : decode cX12_init 761 = .ok (.lastore, 1) := by decide +kernel
theorem dX12_init_762 : decode cX12_init 762 = .ok (.dup, 1) := by decide +kernel
theorem dX12_init_763 : decode cX12_init 763 = .ok (.iconst 3, 1) := by decide +kernel
theorem dX12_init_764 : decode cX12_init 764 = .ok (.ldc2_w 294, 3) := by decide +kernel
theorem dX12_init_767 : decode cX12_init 767 = .ok (.lastore, 1) := by decide +kernel
theorem dX12_init_768 : decode cX12_init 768 = .ok (.dup, 1) := by decide +kernel
theorem dX12_init_769 : decode cX12_init 769 = .ok (.iconst 4, 1) := by decide +kernel
theorem dX12_init_770 : decode cX12_init 770 = .ok (.ldc2_w 296, 3) := by decide +kernel
theorem dX12_init_773 : decode cX12_init 773 = .ok (.lastore, 1) := by decide +kernel
theorem dX12_init_774 : decode cX12_init 774 = .ok (.dup, 1) := by decide +kernel
theorem dX12_init_775 : decode cX12_init 775 = .ok (.iconst 5, 1) := by decide +kernel
theorem dX12_init_776 : decode cX12_init 776 = .ok (.ldc2_w 298, 3) := by decide +kernel
theorem dX12_init_779 : decode cX12_init 779 = .ok (.lastore, 1) := by decide +kernel
theorem dX12_init_780 : decode cX12_init 780 = .ok (.putfield 300, 3) := by decide +kernel
theorem dX12_init_783 : decode cX12_init 783 = .ok (.aload_n 0, 1) := by decide +kernel
theorem dX12_init_784 : decode cX12_init 784 = .ok (.sipush 10201, 3) := by decide +kernel
theorem dX12_init_787 : decode cX12_init 787 = .ok (.newarray .int, 2) := by decide +kernel
theorem dX12_init_789 : decode cX12_init 789 = .ok (.putfield 303, 3) := by decide +kernel
theorem dX12_init_792 : decode cX12_init 792 = .ok (.aload_n 0, 1) := by decide +kernel
theorem dX12_init_793 : decode cX12_init 793 = .ok (.bipush 101, 2) := by decide +kernel
theorem dX12_init_795 : decode cX12_init 795 = .ok (.newarray .boolean, 2) := by decide +kernel
theorem dX12_init_797 : decode cX12_init 797 = .ok (.putfield 306, 3) := by decide +kernel
theorem dX12_init_800 : decode cX12_init 800 = .ok (.aload_n 0, 1) := by decide +kernel
theorem dX12_init_801 : decode cX12_init 801 = .ok (.bipush 16, 2) := by decide +kernel
theorem dX12_init_803 : decode cX12_init 803 = .ok (.newarray .int, 2) := by decide +kernel
theorem dX12_init_805 : decode cX12_init 805 = .ok (.putfield 309, 3) := by decide +kernel
theorem dX12_init_808 : decode cX12_init 808 = .ok (.aload_n 0, 1) := by decide +kernel
theorem dX12_init_809 : decode cX12_init 809 = .ok (.bipush 16, 2) := by decide +kernel
theorem dX12_init_811 : decode cX12_init 811 = .ok (.newarray .int, 2) := by decide +kernel
theorem dX12_init_813 : decode cX12_init 813 = .ok (.putfield 312, 3) := by decide +kernel
theorem dX12_init_816 : decode cX12_init 816 = .ok (.aload_n 0, 1) := by decide +kernel
theorem dX12_init_817 : decode cX12_init 817 = .ok (.bipush 16, 2) := by decide +kernel
theorem dX12_init_819 : decode cX12_init 819 = .ok (.newarray .int, 2) := by decide +kernel
theorem dX12_init_821 : decode cX12_init 821 = .ok (.putfield 315, 3) := by decide +kernel
theorem dX12_init_824 : decode cX12_init 824 = .ok (.aload_n 0, 1) := by decide +kernel
theorem dX12_init_825 : decode cX12_init 825 = .ok (.bipush 16, 2) := by decide +kernel
theorem dX12_init_827 : decode cX12_init 827 = .ok (.newarray .int, 2) := by decide +kernel
theorem dX12_init_829 : decode cX12_init 829 = .ok (.putfield 318, 3) := by decide +kernel
theorem dX12_init_832 : decode cX12_init 832 = .ok (.aload_n 0, 1) := by decide +kernel
theorem dX12_init_833 : decode cX12_init 833 = .ok (.bipush 16, 2) := by decide +kernel
theorem dX12_init_835 : decode cX12_init 835 = .ok (.newarray .int, 2) := by decide +kernel
theorem dX12_init_837 : decode cX12_init 837 = .ok (.putfield 321, 3) := by decide +kernel
theorem dX12_init_840 : decode cX12_init 840 = .ok (.aload_n 0, 1) := by decide +kernel
theorem dX12_init_841 : decode cX12_init 841 = .ok (.bipush 16, 2) := by decide +kernel
theorem dX12_init_843 : decode cX12_init 843 = .ok (.newarray .int, 2) := by decide +kernel
theorem dX12_init_845 : decode cX12_init 845 = .ok (.putfield 324, 3) := by decide +kernel
theorem dX12_init_848 : decode cX12_init 848 = .ok (.aload_n 0, 1) := by decide +kernel
theorem dX12_init_849 : decode cX12_init 849 = .ok (.bipush 16, 2) := by decide +kernel
theorem dX12_init_851 : decode cX12_init 851 = .ok (.newarray .int, 2) := by decide +kernel
theorem dX12_init_853 : decode cX12_init 853 = .ok (.putfield 327, 3) := by decide +kernel
theorem dX12_init_856 : decode cX12_init 856 = .ok (.aload_n 0, 1) := by decide +kernel
theorem dX12_init_857 : decode cX12_init 857 = .ok (.bipush 16, 2) := by decide +kernel
theorem dX12_init_859 : decode cX12_init 859 = .ok (.newarray .int, 2) := by decide +kernel
theorem dX12_init_861 : decode cX12_init 861 = .ok (.putfield 330, 3) := by decide +kernel
theorem dX12_init_864 : decode cX12_init 864 = .ok (.aload_n 0, 1) := by decide +kernel
theorem dX12_init_865 : decode cX12_init 865 = .ok (.bipush 16, 2) := by decide +kernel
theorem dX12_init_867 : decode cX12_init 867 = .ok (.newarray .int, 2) := by decide +kernel
theorem dX12_init_869 : decode cX12_init 869 = .ok (.putfield 333, 3) := by decide +kernel
theorem dX12_init_872 : decode cX12_init 872 = .ok (.aload_n 0, 1) := by decide +kernel
theorem dX12_init_873 : decode cX12_init 873 = .ok (.bipush 16, 2) := by decide +kernel
theorem dX12_init_875 : decode cX12_init 875 = .ok (.newarray .int, 2) := by decide +kernel
theorem dX12_init_877 : decode cX12_init 877 = .ok (.putfield 336, 3) := by decide +kernel
theorem dX12_init_880 : decode cX12_init 880 = .ok (.aload_n 0, 1) := by decide +kernel
theorem dX12_init_881 : decode cX12_init 881 = .ok (.sipush 402, 3) := by decide +kernel
theorem dX12_init_884 : decode cX12_init 884 = .ok (.newarray .int, 2) := by decide +kernel
theorem dX12_init_886 : decode cX12_init 886 = .ok (.putfield 339, 3) := by decide +kernel
theorem dX12_init_889 : decode cX12_init 889 = .ok (.aload_n 0, 1) := by decide +kernel
theorem dX12_init_890 : decode cX12_init 890 = .ok (.ldc_w 342, 3) := by decide +kernel
theorem dX12_init_893 : decode cX12_init 893 = .ok (.newarray .int, 2) := by decide +kernel
theorem dX12_init_895 : decode cX12_init 895 = .ok (.putfield 343, 3) := by decide +kernel
theorem dX12_init_898 : decode cX12_init 898 = .ok (.aload_n 0, 1) := by decide +kernel
theorem dX12_init_899 : decode cX12_init 899 = .ok (.sipush 402, 3) := by decide +kernel
theorem dX12_init_902 : decode cX12_init 902 = .ok (.newarray .int, 2) := by decide +kernel
theorem dX12_init_904 : decode cX12_init 904 = .ok (.putfield 346, 3) := by decide +kernel
theorem dX12_init_907 : decode cX12_init 907 = .ok (.aload_n 0, 1) := by decide +kernel
theorem dX12_init_908 : decode cX12_init 908 = .ok (.ldc_w 342, 3) := by decide +kernel
theorem dX12_init_911 : decode cX12_init 911 = .ok (.newarray .int, 2) := by decide +kernel
theorem dX12_init_913 : decode cX12_init 913 = .ok (.putfield 349, 3) := by decide +kernel
theorem dX12_init_916 : decode cX12_init 916 = .ok (.aload_n 0, 1) := by decide +kernel
theorem dX12_init_917 : decode cX12_init 917 = .ok (.bipush 16, 2) := by decide +kernel
theorem dX12_init_919 : decode cX12_init 919 = .ok (.newarray .long, 2) := by decide +kernel
theorem dX12_init_921 : decode cX12_init 921 = .ok (.dup, 1) := by decide +kernel
theorem dX12_init_922 : decode cX12_init 922 = .ok (.iconst 0, 1) := by decide +kernel
theorem dX12_init_923 : decode cX12_init 923 = .ok (.lconst 0, 1) := by decide +kernel
theorem dX12_init_924 : decode cX12_init 924 = .ok (.lastore, 1) := by decide +kernel
theorem dX12_init_925 : decode cX12_init 925 = .ok (.dup, 1) := by decide +kernel
theorem dX12_init_926 : decode cX12_init 926 = .ok (.iconst 1, 1) := by decide +kernel
theorem dX12_init_927 : decode cX12_init 927 = .ok (.ldc2_w 352, 3) := by decide +kernel
theorem dX12_init_930 : decode cX12_init 930 = .ok (.lastore, 1) := by decide +kernel
theorem dX12_init_931 : decode cX12_init 931 = .ok (.dup, 1) := by decide +kernel
theorem dX12_init_932 : decode cX12_init 932 = .ok (.iconst 2, 1) := by decide +kernel
theorem dX12_init_933 : decode cX12_init 933 = .ok (.ldc2_w 354, 3) := by decide +kernel
theorem dX12_init_936 : decode cX12_init 936 = .ok (.lastore, 1) := by decide +kernel
theorem dX12_init_937 : decode cX12_init 937 = .ok (.dup, 1) := by decide +kernel
theorem dX12_init_938 : decode cX12_init 938 = .ok (.iconst 3, 1) := by decide +kernel
theorem dX12_init_939 : decode cX12_init 939 = .ok (.ldc2_w 356, 3) := by decide +kernel
theorem dX12_init_942 : decode cX12_init 942 = .ok (.lastore, 1) := by decide +kernel
theorem dX12_init_943 : decode cX12_init 943 = .ok (.dup, 1) := by decide +kernel
theorem dX12_init_944 : decode cX12_init 944 = .ok (.iconst 4, 1) := by decide +kernel
theorem dX12_init_945 : decode cX12_init 945 = .ok (.ldc2_w 358, 3) := by decide +kernel
theorem dX12_init_948 : decode cX12_init 948 = .ok (.lastore, 1) := by decide +kernel
theorem dX12_init_949 : decode cX12_init 949 = .ok (.dup, 1) := by decide +kernel
theorem dX12_init_950 : decode cX12_init 950 = .ok (.iconst 5, 1) := by decide +kernel
theorem dX12_init_951 : decode cX12_init 951 = .ok (.ldc2_w 360, 3) := by decide +kernel
theorem dX12_init_954 : decode cX12_init 954 = .ok (.lastore, 1) := by decide +kernel
theorem dX12_init_955 : decode cX12_init 955 = .ok (.dup, 1) := by decide +kernel
theorem dX12_init_956 : decode cX12_init 956 = .ok (.bipush 6, 2) := by decide +kernel
theorem dX12_init_958 : decode cX12_init 958 = .ok (.ldc2_w 362, 3) := by decide +kernel
theorem dX12_init_961 : decode cX12_init 961 = .ok (.lastore, 1) := by decide +kernel
theorem dX12_init_962 : decode cX12_init 962 = .ok (.dup, 1) := by decide +kernel
theorem dX12_init_963 : decode cX12_init 963 = .ok (.bipush 7, 2) := by decide +kernel
theorem dX12_init_965 : decode cX12_init 965 = .ok (.ldc2_w 364, 3) := by decide +kernel
theorem dX12_init_968 : decode cX12_init 968 = .ok (.lastore, 1) := by decide +kernel
theorem dX12_init_969 : decode cX12_init 969 = .ok (.dup, 1) := by decide +kernel
theorem dX12_init_970 : decode cX12_init 970 = .ok (.bipush 8, 2) := by decide +kernel
theorem dX12_init_972 : decode cX12_init 972 = .ok (.ldc2_w 366, 3) := by decide +kernel
theorem dX12_init_975 : decode cX12_init 975 = .ok (.lastore, 1) := by decide +kernel
theorem dX12_init_976 : decode cX12_init 976 = .ok (.dup, 1) := by decide +kernel
theorem dX12_init_977 : decode cX12_init 977 = .ok (.bipush 9, 2) := by decide +kernel
theorem dX12_init_979 : decode cX12_init 979 = .ok (.ldc2_w 368, 3) := by decide +kernel
theorem dX12_init_982 : decode cX12_init 982 = .ok (.lastore, 1) := by decide +kernel
theorem dX12_init_983 : decode cX12_init 983 = .ok (.dup, 1) := by decide +kernel
theorem dX12_init_984 : decode cX12_init 984 = .ok (.bipush 10, 2) := by decide +kernel
theorem dX12_init_986 : decode cX12_init 986 = .ok (.ldc2_w 370, 3) := by decide +kernel
theorem dX12_init_989 : decode cX12_init 989 = .ok (.lastore, 1) := by decide +kernel
theorem dX12_init_990 : decode cX12_init 990 = .ok (.dup, 1) := by decide +kernel
theorem dX12_init_991 : decode cX12_init 991 = .ok (.bipush 11, 2) := by decide +kernel
theorem dX12_init_993 : decode cX12_init 993 = .ok (.ldc2_w 372, 3) := by decide +kernel
theorem dX12_init_996 : decode cX12_init 996 = .ok (.lastore, 1) := by decide +kernel
theorem dX12_init_997 : decode cX12_init 997 = .ok (.dup, 1) := by decide +kernel
theorem dX12_init_998 : decode cX12_init 998 = .ok (.bipush 12, 2) := by decide +kernel
theorem dX12_init_1000 : decode cX12_init 1000 = .ok (.ldc2_w 374, 3) := by decide +kernel
theorem dX12_init_1003 : decode cX12_init 1003 = .ok (.lastore, 1) := by decide +kernel
theorem dX12_init_1004 : decode cX12_init 1004 = .ok (.dup, 1) := by decide +kernel
theorem dX12_init_1005 : decode cX12_init 1005 = .ok (.bipush 13, 2) := by decide +kernel
theorem dX12_init_1007 : decode cX12_init 1007 = .ok (.ldc2_w 376, 3) := by decide +kernel
theorem dX12_init_1010 : decode cX12_init 1010 = .ok (.lastore, 1) := by decide +kernel
theorem dX12_init_1011 : decode cX12_init 1011 = .ok (.dup, 1) := by decide +kernel
theorem dX12_init_1012 : decode cX12_init 1012 = .ok (.bipush 14, 2) := by decide +kernel
theorem dX12_init_1014 : decode cX12_init 1014 = .ok (.ldc2_w 378, 3) := by decide +kernel
theorem dX12_init_1017 : decode cX12_init 1017 = .ok (.lastore, 1) := by decide +kernel
theorem dX12_init_1018 : decode cX12_init 1018 = .ok (.dup, 1) := by decide +kernel
theorem dX12_init_1019 : decode cX12_init 1019 = .ok (.bipush 15, 2) := by decide +kernel
theorem dX12_init_1021 : decode cX12_init 1021 = .ok (.ldc2_w 380, 3) := by decide +kernel
theorem dX12_init_1024 : decode cX12_init 1024 = .ok (.lastore, 1) := by decide +kernel
theorem dX12_init_1025 : decode cX12_init 1025 = .ok (.putfield 382, 3) := by decide +kernel
theorem dX12_init_1028 : decode cX12_init 1028 = .ok (.aload_n 0, 1) := by decide +kernel
theorem dX12_init_1029 : decode cX12_init 1029 = .ok (.bipush 7, 2) := by decide +kernel
theorem dX12_init_1031 : decode cX12_init 1031 = .ok (.newarray .long, 2) := by decide +kernel
theorem dX12_init_1033 : decode cX12_init 1033 = .ok (.dup, 1) := by decide +kernel
theorem dX12_init_1034 : decode cX12_init 1034 = .ok (.iconst 0, 1) := by decide +kernel
theorem dX12_init_1035 : decode cX12_init 1035 = .ok (.ldc2_w 385, 3) := by decide +kernel
theorem dX12_init_1038 : decode cX12_init 1038 = .ok (.lastore, 1) := by decide +kernel
theorem dX12_init_1039 : decode cX12_init 1039 = .ok (.dup, 1) := by decide +kernel
theorem dX12_init_1040 : decode cX12_init 1040 = .ok (.iconst 1, 1) := by decide +kernel
theorem dX12_init_1041 : decode cX12_init 1041 = .ok (.ldc2_w 387, 3) := by decide +kernel
theorem dX12_init_1044 : decode cX12_init 1044 = .ok (.lastore, 1) := by decide +kernel
theorem dX12_init_1045 : decode cX12_init 1045 = .ok (.dup, 1) := by decide +kernel
theorem dX12_init_1046 : decode cX12_init 1046 = .ok (.iconst 2, 1) := by decide +kernel
theorem dX12_init_1047 : decode cX12_init 1047 = .ok (.ldc2_w 389, 3) := by decide +kernel
theorem dX12_init_1050 : decode cX12_init 1050 = .ok (.lastore, 1) := by decide +kernel
theorem dX12_init_1051 : decode cX12_init 1051 = .ok (.dup, 1) := by decide +kernel
theorem dX12_init_1052 : decode cX12_init 1052 = .ok (.iconst 3, 1) := by decide +kernel
theorem dX12_init_1053 : decode cX12_init 1053 = .ok (.ldc2_w 391, 3) := by decide +kernel
theorem dX12_init_1056 : decode cX12_init 1056 = .ok (.lastore, 1) := by decide +kernel
theorem dX12_init_1057 : decode cX12_init 1057 = .ok (.dup, 1) := by decide +kernel
theorem dX12_init_1058 : decode cX12_init 1058 = .ok (.iconst 4, 1) := by decide +kernel
theorem dX12_init_1059 : decode cX12_init 1059 = .ok (.ldc2_w 393, 3) := by decide +kernel
theorem dX12_init_1062 : decode cX12_init 1062 = .ok (.lastore, 1) := by decide +kernel
theorem dX12_init_1063 : decode cX12_init 1063 = .ok (.dup, 1) := by decide +kernel
theorem dX12_init_1064 : decode cX12_init 1064 = .ok (.iconst 5, 1) := by decide +kernel
theorem dX12_init_1065 : decode cX12_init 1065 = .ok (.ldc2_w 395, 3) := by decide +kernel
theorem dX12_init_1068 : decode cX12_init 1068 = .ok (.lastore, 1) := by decide +kernel
theorem dX12_init_1069 : decode cX12_init 1069 = .ok (.dup, 1) := by decide +kernel
theorem dX12_init_1070 : decode cX12_init 1070 = .ok (.bipush 6, 2) := by decide +kernel
theorem dX12_init_1072 : decode cX12_init 1072 = .ok (.ldc2_w 397, 3) := by decide +kernel
theorem dX12_init_1075 : decode cX12_init 1075 = .ok (.lastore, 1) := by decide +kernel
theorem dX12_init_1076 : decode cX12_init 1076 = .ok (.putfield 399, 3) := by decide +kernel
theorem dX12_init_1079 : decode cX12_init 1079 = .ok (.aload_n 0, 1) := by decide +kernel
theorem dX12_init_1080 : decode cX12_init 1080 = .ok (.sipush 500, 3) := by decide +kernel
theorem dX12_init_1083 : decode cX12_init 1083 = .ok (.newarray .int, 2) := by decide +kernel
theorem dX12_init_1085 : decode cX12_init 1085 = .ok (.putfield 402, 3) := by decide +kernel
theorem dX12_init_1088 : decode cX12_init 1088 = .ok (.aload_n 0, 1) := by decide +kernel
theorem dX12_init_1089 : decode cX12_init 1089 = .ok (.sipush 500, 3) := by decide +kernel
theorem dX12_init_1092 : decode cX12_init 1092 = .ok (.newarray .int, 2) := by decide +kernel
theorem dX12_init_1094 : decode cX12_init 1094 = .ok (.putfield 405, 3) := by decide +kernel
theorem dX12_init_1097 : decode cX12_init 1097 = .ok (.aload_n 0, 1) := by decide +kernel
theorem dX12_init_1098 : decode cX12_init 1098 = .ok (.sipush 500, 3) := by decide +kernel
theorem dX12_init_1101 : decode cX12_init 1101 = .ok (.newarray .int, 2) := by decide +kernel
theorem dX12_init_1103 : decode cX12_init 1103 = .ok (.putfield 408, 3) := by decide +kernel
theorem dX12_init_1106 : decode cX12_init 1106 = .ok (.aload_n 0, 1) := by decide +kernel
theorem dX12_init_1107 : decode cX12_init 1107 = .ok (.sipush 500, 3) := by decide +kernel
theorem dX12_init_1110 : decode cX12_init 1110 = .ok (.newarray .int, 2) := by decide +kernel
theorem dX12_init_1112 : decode cX12_init 1112 = .ok (.putfield 411, 3) := by decide +kernel
theorem dX12_init_1115 : decode cX12_init 1115 = .ok (.aload_n 0, 1) := by decide +kernel
theorem dX12_init_1116 : decode cX12_init 1116 = .ok (.sipush 500, 3) := by decide +kernel
theorem dX12_init_1119 : decode cX12_init 1119 = .ok (.newarray .int, 2) := by decide +kernel
theorem dX12_init_1121 : decode cX12_init 1121 = .ok (.putfield 414, 3) := by decide +kernel
theorem dX12_init_1124 : decode cX12_init 1124 = .ok (.aload_n 0, 1) := by decide +kernel
theorem dX12_init_1125 : decode cX12_init 1125 = .ok (.sipush 500, 3) := by decide +kernel
theorem dX12_init_1128 : decode cX12_init 1128 = .ok (.newarray .int, 2) := by decide +kernel
theorem dX12_init_1130 : decode cX12_init 1130 = .ok (.putfield 417, 3) := by decide +kernel
theorem dX12_init_1133 : decode cX12_init 1133 = .ok (.aload_n 0, 1) := by decide +kernel
theorem dX12_init_1134 : decode cX12_init 1134 = .ok (.sipush 500, 3) := by decide +kernel
theorem dX12_init_1137 : decode cX12_init 1137 = .ok (.newarray .int, 2) := by decide +kernel
theorem dX12_init_1139 : decode cX12_init 1139 = .ok (.putfield 420, 3) := by decide +kernel
theorem dX12_init_1142 : decode cX12_init 1142 = .ok (.aload_n 0, 1) := by decide +kernel
theorem dX12_init_1143 : decode cX12_init 1143 = .ok (.sipush 500, 3) := by decide +kernel
theorem dX12_init_1146 : decode cX12_init 1146 = .ok (.newarray .boolean, 2) := by decide +kernel
theorem dX12_init_1148 : decode cX12_init 1148 = .ok (.putfield 423, 3) := by decide +kernel
theorem dX12_init_1151 : decode cX12_init 1151 = .ok (.aload_n 0, 1) := by decide +kernel
theorem dX12_init_1152 : decode cX12_init 1152 = .ok (.bipush 16, 2) := by decide +kernel
theorem dX12_init_1154 : decode cX12_init 1154 = .ok (.newarray .int, 2) := by decide +kernel
theorem dX12_init_1156 : decode cX12_init 1156 = .ok (.putfield 426, 3) := by decide +kernel
theorem dX12_init_1159 : decode cX12_init 1159 = .ok (.aload_n 0, 1) := by decide +kernel
theorem dX12_init_1160 : decode cX12_init 1160 = .ok (.bipush 16, 2) := by decide +kernel
theorem dX12_init_1162 : decode cX12_init 1162 = .ok (.newarray .int, 2) := by decide +kernel
theorem dX12_init_1164 : decode cX12_init 1164 = .ok (.putfield 429, 3) := by decide +kernel
theorem dX12_init_1167 : decode cX12_init 1167 = .ok (.aload_n 0, 1) := by decide +kernel
theorem dX12_init_1168 : decode cX12_init 1168 = .ok (.ldc_w 432, 3) := by decide +kernel
theorem dX12_init_1171 : decode cX12_init 1171 = .ok (.newarray .int, 2) := by decide +kernel
theorem dX12_init_1173 : decode cX12_init 1173 = .ok (.putfield 433, 3) := by decide +kernel
theorem dX12_init_1176 : decode cX12_init 1176 = .ok (.aload_n 0, 1) := by decide +kernel
theorem dX12_init_1177 : decode cX12_init 1177 = .ok (.sipush 1000, 3) := by decide +kernel
theorem dX12_init_1180 : decode cX12_init 1180 = .ok (.newarray .int, 2) := by decide +kernel
theorem dX12_init_1182 : decode cX12_init 1182 = .ok (.putfield 436, 3) := by decide +kernel
theorem dX12_init_1185 : decode cX12_init 1185 = .ok (.aload_n 0, 1) := by decide +kernel
theorem dX12_init_1186 : decode cX12_init 1186 = .ok (.bipush 8, 2) := by decide +kernel
theorem dX12_init_1188 : decode cX12_init 1188 = .ok (.newarray .int, 2) := by decide +kernel
theorem dX12_init_1190 : decode cX12_init 1190 = .ok (.putfield 439, 3) := by decide +kernel
theorem dX12_init_1193 : decode cX12_init 1193 = .ok (.aload_n 0, 1) := by decide +kernel
theorem dX12_init_1194 : decode cX12_init 1194 = .ok (.bipush 8, 2) := by decide +kernel
theorem dX12_init_1196 : decode cX12_init 1196 = .ok (.newarray .int, 2) := by decide +kernel
theorem dX12_init_1198 : decode cX12_init 1198 = .ok (.putfield 442, 3) := by decide +kernel
theorem dX12_init_1201 : decode cX12_init 1201 = .ok (.aload_n 0, 1) := by decide +kernel
theorem dX12_init_1202 : decode cX12_init 1202 = .ok (.iconst 0, 1) := by decide +kernel
theorem dX12_init_1203 : decode cX12_init 1203 = .ok (.putfield 445, 3) := by decide +kernel
theorem dX12_init_1206 : decode cX12_init 1206 = .ok (.iconst 0, 1) := by decide +kernel
theorem dX12_init_1207 : decode cX12_init 1207 = .ok (.istore_n 1, 1) := by decide +kernel
theorem dX12_init_1208 : decode cX12_init 1208 = .ok (.iload_n 1, 1) := by decide +kernel
theorem dX12_init_1209 : decode cX12_init 1209 = .ok (.bipush 81, 2) := by decide +kernel
theorem dX12_init_1211 : decode cX12_init 1211 = .ok (.if_icmp .ge 57, 3) := by decide +kernel
theorem dX12_init_1214 : decode cX12_init 1214 = .ok (.bipush 7, 2) := by decide +kernel
theorem dX12_init_1216 : decode cX12_init 1216 = .ok (.istore_n 2, 1) := by decide +kernel
theorem dX12_init_1217 : decode cX12_init 1217 = .ok (.iload_n 2, 1) := by decide +kernel
theorem dX12_init_1218 : decode cX12_init 1218 = .ok (.ifCond .lt 44, 3) := by decide +kernel
theorem dX12_init_1221 : decode cX12_init 1221 = .ok (.aload_n 0, 1) := by decide +kernel
theorem dX12_init_1222 : decode cX12_init 1222 = .ok (.getfield 95, 3) := by decide +kernel
theorem dX12_init_1225 : decode cX12_init 1225 = .ok (.aload_n 0, 1) := by decide +kernel
theorem dX12_init_1226 : decode cX12_init 1226 = .ok (.getfield 445, 3) := by decide +kernel
theorem dX12_init_1229 : decode cX12_init 1229 = .ok (.aload_n 0, 1) := by decide +kernel
theorem dX12_init_1230 : decode cX12_init 1230 = .ok (.getfield 246, 3) := by decide +kernel
theorem dX12_init_1233 : decode cX12_init 1233 = .ok (.iload_n 1, 1) := by decide +kernel
theorem dX12_init_1234 : decode cX12_init 1234 = .ok (.laload, 1) := by decide +kernel
theorem dX12_init_1235 : decode cX12_init 1235 = .ok (.bipush 8, 2) := by decide +kernel
theorem dX12_init_1237 : decode cX12_init 1237 = .ok (.iload_n 2, 1) := by decide +kernel
theorem dX12_init_1238 : decode cX12_init 1238 = .ok (.imul, 1) := by decide +kernel
theorem dX12_init_1239 : decode cX12_init 1239 = .ok (.lshr, 1) := by decide +kernel
theorem dX12_init_1240 : decode cX12_init 1240 = .ok (.ldc2_w 72, 3) := by decide +kernel
theorem dX12_init_1243 : decode cX12_init 1243 = .ok (.land, 1) := by decide +kernel
theorem dX12_init_1244 : decode cX12_init 1244 = .ok (.l2i, 1) := by decide +kernel
theorem dX12_init_1245 : decode cX12_init 1245 = .ok (.iastore, 1) := by decide +kernel
theorem dX12_init_1246 : decode cX12_init 1246 = .ok (.aload_n 0, 1) := by decide +kernel
theorem dX12_init_1247 : decode cX12_init 1247 = .ok (.dup, 1) := by decide +kernel
theorem dX12_init_1248 : decode cX12_init 1248 = .ok (.getfield 445, 3) := by decide +kernel
theorem dX12_init_1251 : decode cX12_init 1251 = .ok (.iconst 1, 1) := by decide +kernel
theorem dX12_init_1252 : decode cX12_init 1252 = .ok (.iadd, 1) := by decide +kernel
theorem dX12_init_1253 : decode cX12_init 1253 = .ok (.putfield 445, 3) := by decide +kernel
theorem dX12_init_1256 : decode cX12_init 1256 = .ok (.iinc 2 (-1), 3) := by decide +kernel
theorem dX12_init_1259 : decode cX12_init 1259 = .ok (.goto (-42), 3) := by decide +kernel
theorem dX12_init_1262 : decode cX12_init 1262 = .ok (.iinc 1 1, 3) := by decide +kernel
theorem dX12_init_1265 : decode cX12_init 1265 = .ok (.goto (-57), 3) := by decide +kernel
theorem dX12_init_1268 : decode cX12_init 1268 = .ok (.aload_n 0, 1) := by decide +kernel
theorem dX12_init_1269 : decode cX12_init 1269 = .ok (.iconst 0, 1) := by decide +kernel
theorem dX12_init_1270 : decode cX12_init 1270 = .ok (.invokevirtual 448, 3) := by decide +kernel
theorem dX12_init_1273 : decode cX12_init 1273 = .ok (.istore_n 1, 1) := by decide +kernel
theorem dX12_init_1274 : decode cX12_init 1274 = .ok (.aload_n 0, 1) := by decide +kernel
theorem dX12_init_1275 : decode cX12_init 1275 = .ok (.bipush 45, 2) := by decide +kernel
theorem dX12_init_1277 : decode cX12_init 1277 = .ok (.bipush 40, 2) := by decide +kernel
theorem dX12_init_1279 : decode cX12_init 1279 = .ok (.invokevirtual 452, 3) := by decide +kernel
theorem dX12_init_1282 : decode cX12_init 1282 = .ok (.return_, 1) := by decide +kernel
theorem dX12_write_0 : decode cX12_write 0 = .ok (.iload_n 1, 1) := by decide +kernel
theorem dX12_write_1 : decode cX12_write 1 = .ok (.iconst 1, 1) := by decide +kernel
theorem dX12_write_2 : decode cX12_write 2 = .ok (.bipush 8, 2) := by decide +kernel
theorem dX12_write_4 : decode cX12_write 4 = .ok (.invokestatic 18, 3) := by decide +kernel
theorem dX12_write_7 : decode cX12_write 7 = .ok (.ifCond .eq 30, 3) := by decide +kernel
theorem dX12_write_10 : decode cX12_write 10 = .ok (.lload_n 2, 1) := by decide +kernel
theorem dX12_write_11 : decode cX12_write 11 = .ok (.lconst 0, 1) := by decide +kernel
theorem dX12_write_12 : decode cX12_write 12 = .ok (.lcmp, 1) := by decide +kernel
theorem dX12_write_13 : decode cX12_write 13 = .ok (.ifCond .lt 24, 3) := by decide +kernel
theorem dX12_write_16 : decode cX12_write 16 = .ok (.iload_n 1, 1) := by decide +kernel
theorem dX12_write_17 : decode cX12_write 17 = .ok (.bipush 8, 2) := by decide +kernel
theorem dX12_write_19 : decode cX12_write 19 = .ok (.if_icmp .eq 14, 3) := by decide +kernel
theorem dX12_write_22 : decode cX12_write 22 = .ok (.lload_n 2, 1) := by decide +kernel
theorem dX12_write_23 : decode cX12_write 23 = .ok (.bipush 8, 2) := by decide +kernel
theorem dX12_write_25 : decode cX12_write 25 = .ok (.iload_n 1, 1) := by decide +kernel
theorem dX12_write_26 : decode cX12_write 26 = .ok (.imul, 1) := by decide +kernel
theorem dX12_write_27 : decode cX12_write 27 = .ok (.lshr, 1) := by decide +kernel
theorem dX12_write_28 : decode cX12_write 28 = .ok (.lconst 0, 1) := by decide +kernel
theorem dX12_write_29 : decode cX12_write 29 = .ok (.lcmp, 1) := by decide +kernel
theorem dX12_write_30 : decode cX12_write 30 = .ok (.ifCond .ne 7, 3) := by decide +kernel
theorem dX12_write_33 : decode cX12_write 33 = .ok (.iconst 1, 1) := by decide +kernel
theorem dX12_write_34 : decode cX12_write 34 = .ok (.goto 4, 3) := by decide +kernel
theorem dX12_write_37 : decode cX12_write 37 = .ok (.iconst 0, 1) := by decide +kernel
theorem dX12_write_38 : decode cX12_write 38 = .ok (.istore 4, 2) := by decide +kernel
theorem dX12_write_40 : decode cX12_write 40 = .ok (.iconst 0, 1) := by decide +kernel
theorem dX12_write_41 : decode cX12_write 41 = .ok (.istore 5, 2) := by decide +kernel
theorem dX12_write_43 : decode cX12_write 43 = .ok (.iload 5, 2) := by decide +kernel
theorem dX12_write_45 : decode cX12_write 45 = .ok (.iload_n 1, 1) := by decide +kernel
theorem dX12_write_46 : decode cX12_write 46 = .ok (.if_icmp .ge 58, 3) := by decide +kernel
theorem dX12_write_49 : decode cX12_write 49 = .ok (.iload 4, 2) := by decide +kernel
theorem dX12_write_51 : decode cX12_write 51 = .ok (.ifCond .eq 53, 3) := by decide +kernel
theorem dX12_write_54 : decode cX12_write 54 = .ok (.lload_n 2, 1) := by decide +kernel
theorem dX12_write_55 : decode cX12_write 55 = .ok (.bipush 8, 2) := by decide +kernel
theorem dX12_write_57 : decode cX12_write 57 = .ok (.iload_n 1, 1) := by decide +kernel
theorem dX12_write_58 : decode cX12_write 58 = .ok (.iconst 1, 1) := by decide +kernel
theorem dX12_write_59 : decode cX12_write 59 = .ok (.isub, 1) := by decide +kernel
theorem dX12_write_60 : decode cX12_write 60 = .ok (.iload 5, 2) := by decide +kernel
theorem dX12_write_62 : decode cX12_write 62 = .ok (.isub, 1) := by decide +kernel
theorem dX12_write_63 : decode cX12_write 63 = .ok (.imul, 1) := by decide +kernel
theorem dX12_write_64 : decode cX12_write 64 = .ok (.lshr, 1) := by decide +kernel
theorem dX12_write_65 : decode cX12_write 65 = .ok (.ldc2_w 72, 3) := by decide +kernel
theorem dX12_write_68 : decode cX12_write 68 = .ok (.land, 1) := by decide +kernel
theorem dX12_write_69 : decode cX12_write 69 = .ok (.l2i, 1) := by decide +kernel
theorem dX12_write_70 : decode cX12_write 70 = .ok (.istore 6, 2) := by decide +kernel
theorem dX12_write_72 : decode cX12_write 72 = .ok (.iload 6, 2) := by decide +kernel
theorem dX12_write_74 : decode cX12_write 74 = .ok (.bipush 10, 2) := by decide +kernel
theorem dX12_write_76 : decode cX12_write 76 = .ok (.if_icmp .eq 15, 3) := by decide +kernel
theorem dX12_write_79 : decode cX12_write 79 = .ok (.iload 6, 2) := by decide +kernel
theorem dX12_write_81 : decode cX12_write 81 = .ok (.bipush 32, 2) := by decide +kernel
theorem dX12_write_83 : decode cX12_write 83 = .ok (.bipush 126, 2) := by decide +kernel
theorem dX12_write_85 : decode cX12_write 85 = .ok (.invokestatic 18, 3) := by decide +kernel
theorem dX12_write_88 : decode cX12_write 88 = .ok (.ifCond .eq 7, 3) := by decide +kernel
theorem dX12_write_91 : decode cX12_write 91 = .ok (.iconst 1, 1) := by decide +kernel
theorem dX12_write_92 : decode cX12_write 92 = .ok (.goto 4, 3) := by decide +kernel
theorem dX12_write_95 : decode cX12_write 95 = .ok (.iconst 0, 1) := by decide +kernel
theorem dX12_write_96 : decode cX12_write 96 = .ok (.istore 4, 2) := by decide +kernel
theorem dX12_write_98 : decode cX12_write 98 = .ok (.iinc 5 1, 3) := by decide +kernel
theorem dX12_write_101 : decode cX12_write 101 = .ok (.goto (-58), 3) := by decide +kernel
theorem dX12_write_104 : decode cX12_write 104 = .ok (.aload_n 0, 1) := by decide +kernel
theorem dX12_write_105 : decode cX12_write 105 = .ok (.iload 4, 2) := by decide +kernel
theorem dX12_write_107 : decode cX12_write 107 = .ok (.iconst 1, 1) := by decide +kernel
theorem dX12_write_108 : decode cX12_write 108 = .ok (.invokevirtual 456, 3) := by decide +kernel
theorem dX12_write_111 : decode cX12_write 111 = .ok (.ifCond .ne 28, 3) := by decide +kernel
theorem dX12_write_114 : decode cX12_write 114 = .ok (.aload_n 0, 1) := by decide +kernel
theorem dX12_write_115 : decode cX12_write 115 = .ok (.aload_n 0, 1) := by decide +kernel
theorem dX12_write_116 : decode cX12_write 116 = .ok (.getfield 460, 3) := by decide +kernel
theorem dX12_write_119 : decode cX12_write 119 = .ok (.iload_n 1, 1) := by decide +kernel
theorem dX12_write_120 : decode cX12_write 120 = .ok (.iadd, 1) := by decide +kernel
theorem dX12_write_121 : decode cX12_write 121 = .ok (.sipush 400, 3) := by decide +kernel
theorem dX12_write_124 : decode cX12_write 124 = .ok (.if_icmp .gt 7, 3) := by decide +kernel
theorem dX12_write_127 : decode cX12_write 127 = .ok (.iconst 1, 1) := by decide +kernel
theorem dX12_write_128 : decode cX12_write 128 = .ok (.goto 4, 3) := by decide +kernel
theorem dX12_write_131 : decode cX12_write 131 = .ok (.iconst 0, 1) := by decide +kernel
theorem dX12_write_132 : decode cX12_write 132 = .ok (.iconst 2, 1) := by decide +kernel
theorem dX12_write_133 : decode cX12_write 133 = .ok (.invokevirtual 456, 3) := by decide +kernel
theorem dX12_write_136 : decode cX12_write 136 = .ok (.ifCond .eq 5, 3) := by decide +kernel
theorem dX12_write_139 : decode cX12_write 139 = .ok (.iconst 0, 1) := by decide +kernel
theorem dX12_write_140 : decode cX12_write 140 = .ok (.ireturn, 1) := by decide +kernel
theorem dX12_write_141 : decode cX12_write 141 = .ok (.iconst 0, 1) := by decide +kernel
theorem dX12_write_142 : decode cX12_write 142 = .ok (.istore 5, 2) := by decide +kernel
theorem dX12_write_144 : decode cX12_write 144 = .ok (.iload 5, 2) := by decide +kernel
theorem dX12_write_146 : decode cX12_write 146 = .ok (.iload_n 1, 1) := by decide +kernel
theorem dX12_write_147 : decode cX12_write 147 = .ok (.if_icmp .ge 44, 3) := by decide +kernel
theorem dX12_write_150 : decode cX12_write 150 = .ok (.aload_n 0, 1) := by decide +kernel
theorem dX12_write_151 : decode cX12_write 151 = .ok (.getfield 88, 3) := by decide +kernel
theorem dX12_write_154 : decode cX12_write 154 = .ok (.aload_n 0, 1) := by decide +kernel
theorem dX12_write_155 : decode cX12_write 155 = .ok (.getfield 460, 3) := by decide +kernel
theorem dX12_write_158 : decode cX12_write 158 = .ok (.lload_n 2, 1) := by decide +kernel
theorem dX12_write_159 : decode cX12_write 159 = .ok (.bipush 8, 2) := by decide +kernel
theorem dX12_write_161 : decode cX12_write 161 = .ok (.iload_n 1, 1) := by decide +kernel
theorem dX12_write_162 : decode cX12_write 162 = .ok (.iconst 1, 1) := by decide +kernel
theorem dX12_write_163 : decode cX12_write 163 = .ok (.isub, 1) := by decide +kernel
theorem dX12_write_164 : decode cX12_write 164 = .ok (.iload 5, 2) := by decide +kernel
theorem dX12_write_166 : decode cX12_write 166 = .ok (.isub, 1) := by decide +kernel
theorem dX12_write_167 : decode cX12_write 167 = .ok (.imul, 1) := by decide +kernel
theorem dX12_write_168 : decode cX12_write 168 = .ok (.lshr, 1) := by decide +kernel
theorem dX12_write_169 : decode cX12_write 169 = .ok (.ldc2_w 72, 3) := by decide +kernel
theorem dX12_write_172 : decode cX12_write 172 = .ok (.land, 1) := by decide +kernel
theorem dX12_write_173 : decode cX12_write 173 = .ok (.l2i, 1) := by decide +kernel
theorem dX12_write_174 : decode cX12_write 174 = .ok (.iastore, 1) := by decide +kernel
theorem dX12_write_175 : decode cX12_write 175 = .ok (.aload_n 0, 1) := by decide +kernel
theorem dX12_write_176 : decode cX12_write 176 = .ok (.dup, 1) := by decide +kernel
theorem dX12_write_177 : decode cX12_write 177 = .ok (.getfield 460, 3) := by decide +kernel
theorem dX12_write_180 : decode cX12_write 180 = .ok (.iconst 1, 1) := by decide +kernel
theorem dX12_write_181 : decode cX12_write 181 = .ok (.iadd, 1) := by decide +kernel
theorem dX12_write_182 : decode cX12_write 182 = .ok (.putfield 460, 3) := by decide +kernel
theorem dX12_write_185 : decode cX12_write 185 = .ok (.iinc 5 1, 3) := by decide +kernel
theorem dX12_write_188 : decode cX12_write 188 = .ok (.goto (-44), 3) := by decide +kernel
theorem dX12_write_191 : decode cX12_write 191 = .ok (.aload_n 0, 1) := by decide +kernel
theorem dX12_write_192 : decode cX12_write 192 = .ok (.getfield 460, 3) := by decide +kernel
theorem dX12_write_195 : decode cX12_write 195 = .ok (.ireturn, 1) := by decide +kernel
theorem dX12_wipe_0 : decode cX12_wipe 0 = .ok (.aload_n 0, 1) := by decide +kernel
theorem dX12_wipe_1 : decode cX12_wipe 1 = .ok (.iconst 0, 1) := by decide +kernel
theorem dX12_wipe_2 : decode cX12_wipe 2 = .ok (.putfield 1, 3) := by decide +kernel
theorem dX12_wipe_5 : decode cX12_wipe 5 = .ok (.aload_n 0, 1) := by decide +kernel
theorem dX12_wipe_6 : decode cX12_wipe 6 = .ok (.getfield 460, 3) := by decide +kernel
theorem dX12_wipe_9 : decode cX12_wipe 9 = .ok (.istore_n 1, 1) := by decide +kernel
theorem dX12_wipe_10 : decode cX12_wipe 10 = .ok (.aload_n 0, 1) := by decide +kernel
theorem dX12_wipe_11 : decode cX12_wipe 11 = .ok (.iconst 0, 1) := by decide +kernel
theorem dX12_wipe_12 : decode cX12_wipe 12 = .ok (.putfield 460, 3) := by decide +kernel
theorem dX12_wipe_15 : decode cX12_wipe 15 = .ok (.iload_n 1, 1) := by decide +kernel
theorem dX12_wipe_16 : decode cX12_wipe 16 = .ok (.ireturn, 1) := by decide +kernel
theorem dX12_paper_0 : decode cX12_paper 0 = .ok (.aload_n 0, 1) := by decide +kernel
theorem dX12_paper_1 : decode cX12_paper 1 = .ok (.iload_n 1, 1) := by decide +kernel
theorem dX12_paper_2 : decode cX12_paper 2 = .ok (.iconst 0, 1) := by decide +kernel
theorem dX12_paper_3 : decode cX12_paper 3 = .ok (.aload_n 0, 1) := by decide +kernel
theorem dX12_paper_4 : decode cX12_paper 4 = .ok (.getfield 463, 3) := by decide +kernel
theorem dX12_paper_7 : decode cX12_paper 7 = .ok (.iconst 1, 1) := by decide +kernel
theorem dX12_paper_8 : decode cX12_paper 8 = .ok (.isub, 1) := by decide +kernel
theorem dX12_paper_9 : decode cX12_paper 9 = .ok (.invokestatic 18, 3) := by decide +kernel
theorem dX12_paper_12 : decode cX12_paper 12 = .ok (.iconst 1, 1) := by decide +kernel
theorem dX12_paper_13 : decode cX12_paper 13 = .ok (.invokevirtual 456, 3) := by decide +kernel
theorem dX12_paper_16 : decode cX12_paper 16 = .ok (.ifCond .ne 36, 3) := by decide +kernel
theorem dX12_paper_19 : decode cX12_paper 19 = .ok (.aload_n 0, 1) := by decide +kernel
theorem dX12_paper_20 : decode cX12_paper 20 = .ok (.iload_n 2, 1) := by decide +kernel
theorem dX12_paper_21 : decode cX12_paper 21 = .ok (.iconst 1, 1) := by decide +kernel
theorem dX12_paper_22 : decode cX12_paper 22 = .ok (.bipush 7, 2) := by decide +kernel
theorem dX12_paper_24 : decode cX12_paper 24 = .ok (.invokestatic 18, 3) := by decide +kernel
theorem dX12_paper_27 : decode cX12_paper 27 = .ok (.ifCond .eq 17, 3) := by decide +kernel
theorem dX12_paper_30 : decode cX12_paper 30 = .ok (.iload_n 1, 1) := by decide +kernel
theorem dX12_paper_31 : decode cX12_paper 31 = .ok (.iload_n 2, 1) := by decide +kernel
theorem dX12_paper_32 : decode cX12_paper 32 = .ok (.iadd, 1) := by decide +kernel
theorem dX12_paper_33 : decode cX12_paper 33 = .ok (.aload_n 0, 1) := by decide +kernel
theorem dX12_paper_34 : decode cX12_paper 34 = .ok (.getfield 463, 3) := by decide +kernel
theorem dX12_paper_37 : decode cX12_paper 37 = .ok (.if_icmp .gt 7, 3) := by decide +kernel
theorem dX12_paper_40 : decode cX12_paper 40 = .ok (.iconst 1, 1) := by decide +kernel
theorem dX12_paper_41 : decode cX12_paper 41 = .ok (.goto 4, 3) := by decide +kernel
theorem dX12_paper_44 : decode cX12_paper 44 = .ok (.iconst 0, 1) := by decide +kernel
theorem dX12_paper_45 : decode cX12_paper 45 = .ok (.iconst 2, 1) := by decide +kernel
theorem dX12_paper_46 : decode cX12_paper 46 = .ok (.invokevirtual 456, 3) := by decide +kernel
theorem dX12_paper_49 : decode cX12_paper 49 = .ok (.ifCond .eq 5, 3) := by decide +kernel
theorem dX12_paper_52 : decode cX12_paper 52 = .ok (.lconst 0, 1) := by decide +kernel
theorem dX12_paper_53 : decode cX12_paper 53 = .ok (.lreturn, 1) := by decide +kernel
theorem dX12_paper_54 : decode cX12_paper 54 = .ok (.lconst 0, 1) := by decide +kernel
theorem dX12_paper_55 : decode cX12_paper 55 = .ok (.lstore_n 3, 1) := by decide +kernel
theorem dX12_paper_56 : decode cX12_paper 56 = .ok (.iconst 0, 1) := by decide +kernel
theorem dX12_paper_57 : decode cX12_paper 57 = .ok (.istore 5, 2) := by decide +kernel
theorem dX12_paper_59 : decode cX12_paper 59 = .ok (.iload 5, 2) := by decide +kernel
theorem dX12_paper_61 : decode cX12_paper 61 = .ok (.iload_n 2, 1) := by decide +kernel
theorem dX12_paper_62 : decode cX12_paper 62 = .ok (.if_icmp .ge 26, 3) := by decide +kernel
theorem dX12_paper_65 : decode cX12_paper 65 = .ok (.ldc2_w 466, 3) := by decide +kernel
theorem dX12_paper_68 : decode cX12_paper 68 = .ok (.lload_n 3, 1) := by decide +kernel
theorem dX12_paper_69 : decode cX12_paper 69 = .ok (.lmul, 1) := by decide +kernel
theorem dX12_paper_70 : decode cX12_paper 70 = .ok (.aload_n 0, 1) := by decide +kernel
theorem dX12_paper_71 : decode cX12_paper 71 = .ok (.getfield 92, 3) := by decide +kernel
theorem dX12_paper_74 : decode cX12_paper 74 = .ok (.iload_n 1, 1) := by decide +kernel
theorem dX12_paper_75 : decode cX12_paper 75 = .ok (.iload 5, 2) := by decide +kernel
theorem dX12_paper_77 : decode cX12_paper 77 = .ok (.iadd, 1) := by decide +kernel
theorem dX12_paper_78 : decode cX12_paper 78 = .ok (.iaload, 1) := by decide +kernel
theorem dX12_paper_79 : decode cX12_paper 79 = .ok (.i2l, 1) := by decide +kernel
theorem dX12_paper_80 : decode cX12_paper 80 = .ok (.ladd, 1) := by decide +kernel
theorem dX12_paper_81 : decode cX12_paper 81 = .ok (.lstore_n 3, 1) := by decide +kernel
theorem dX12_paper_82 : decode cX12_paper 82 = .ok (.iinc 5 1, 3) := by decide +kernel
theorem dX12_paper_85 : decode cX12_paper 85 = .ok (.goto (-26), 3) := by decide +kernel
theorem dX12_paper_88 : decode cX12_paper 88 = .ok (.lload_n 3, 1) := by decide +kernel
theorem dX12_paper_89 : decode cX12_paper 89 = .ok (.lreturn, 1) := by decide +kernel
theorem dX12_isBlank_0 : decode cX12_isBlank 0 = .ok (.aload_n 0, 1) := by decide +kernel
theorem dX12_isBlank_1 : decode cX12_isBlank 1 = .ok (.getfield 468, 3) := by decide +kernel
theorem dX12_isBlank_4 : decode cX12_isBlank 4 = .ok (.aload_n 0, 1) := by decide +kernel
theorem dX12_isBlank_5 : decode cX12_isBlank 5 = .ok (.getfield 445, 3) := by decide +kernel
theorem dX12_isBlank_8 : decode cX12_isBlank 8 = .ok (.if_icmp .ge 35, 3) := by decide +kernel
theorem dX12_isBlank_11 : decode cX12_isBlank 11 = .ok (.aload_n 0, 1) := by decide +kernel
theorem dX12_isBlank_12 : decode cX12_isBlank 12 = .ok (.getfield 95, 3) := by decide +kernel
theorem dX12_isBlank_15 : decode cX12_isBlank 15 = .ok (.aload_n 0, 1) := by decide +kernel
theorem dX12_isBlank_16 : decode cX12_isBlank 16 = .ok (.getfield 468, 3) := by decide +kernel
theorem dX12_isBlank_19 : decode cX12_isBlank 19 = .ok (.iaload, 1) := by decide +kernel
theorem dX12_isBlank_20 : decode cX12_isBlank 20 = .ok (.bipush 32, 2) := by decide +kernel
theorem dX12_isBlank_22 : decode cX12_isBlank 22 = .ok (.if_icmp .eq 17, 3) := by decide +kernel
theorem dX12_isBlank_25 : decode cX12_isBlank 25 = .ok (.aload_n 0, 1) := by decide +kernel
theorem dX12_isBlank_26 : decode cX12_isBlank 26 = .ok (.getfield 95, 3) := by decide +kernel
theorem dX12_isBlank_29 : decode cX12_isBlank 29 = .ok (.aload_n 0, 1) := by decide +kernel
theorem dX12_isBlank_30 : decode cX12_isBlank 30 = .ok (.getfield 468, 3) := by decide +kernel
theorem dX12_isBlank_33 : decode cX12_isBlank 33 = .ok (.iaload, 1) := by decide +kernel
theorem dX12_isBlank_34 : decode cX12_isBlank 34 = .ok (.bipush 10, 2) := by decide +kernel
theorem dX12_isBlank_36 : decode cX12_isBlank 36 = .ok (.if_icmp .ne 7, 3) := by decide +kernel
theorem dX12_isBlank_39 : decode cX12_isBlank 39 = .ok (.iconst 1, 1) := by decide +kernel
theorem dX12_isBlank_40 : decode cX12_isBlank 40 = .ok (.goto 4, 3) := by decide +kernel
theorem dX12_isBlank_43 : decode cX12_isBlank 43 = .ok (.iconst 0, 1) := by decide +kernel
theorem dX12_isBlank_44 : decode cX12_isBlank 44 = .ok (.ireturn, 1) := by decide +kernel
theorem dX12_sign_0 : decode cX12_sign 0 = .ok (.aload_n 0, 1) := by decide +kernel
theorem dX12_sign_1 : decode cX12_sign 1 = .ok (.getfield 468, 3) := by decide +kernel
theorem dX12_sign_4 : decode cX12_sign 4 = .ok (.aload_n 0, 1) := by decide +kernel
theorem dX12_sign_5 : decode cX12_sign 5 = .ok (.getfield 445, 3) := by decide +kernel
theorem dX12_sign_8 : decode cX12_sign 8 = .ok (.if_icmp .ge 15, 3) := by decide +kernel
theorem dX12_sign_11 : decode cX12_sign 11 = .ok (.aload_n 0, 1) := by decide +kernel
theorem dX12_sign_12 : decode cX12_sign 12 = .ok (.getfield 95, 3) := by decide +kernel
theorem dX12_sign_15 : decode cX12_sign 15 = .ok (.aload_n 0, 1) := by decide +kernel
theorem dX12_sign_16 : decode cX12_sign 16 = .ok (.getfield 468, 3) := by decide +kernel
theorem dX12_sign_19 : decode cX12_sign 19 = .ok (.iaload, 1) := by decide +kernel
theorem dX12_sign_20 : decode cX12_sign 20 = .ok (.goto 4, 3) := by decide +kernel
theorem dX12_sign_23 : decode cX12_sign 23 = .ok (.iconst (-1), 1) := by decide +kernel
theorem dX12_sign_24 : decode cX12_sign 24 = .ok (.ireturn, 1) := by decide +kernel
theorem dX12_isFigure_0 : decode cX12_isFigure 0 = .ok (.aload_n 0, 1) := by decide +kernel
theorem dX12_isFigure_1 : decode cX12_isFigure 1 = .ok (.invokevirtual 471, 3) := by decide +kernel
theorem dX12_isFigure_4 : decode cX12_isFigure 4 = .ok (.bipush 48, 2) := by decide +kernel
theorem dX12_isFigure_6 : decode cX12_isFigure 6 = .ok (.bipush 57, 2) := by decide +kernel
theorem dX12_isFigure_8 : decode cX12_isFigure 8 = .ok (.invokestatic 18, 3) := by decide +kernel
theorem dX12_isFigure_11 : decode cX12_isFigure 11 = .ok (.ireturn, 1) := by decide +kernel
theorem dX12_hex_0 : decode cX12_hex 0 = .ok (.iload_n 1, 1) := by decide +kernel
theorem dX12_hex_1 : decode cX12_hex 1 = .ok (.bipush 48, 2) := by decide +kernel
theorem dX12_hex_3 : decode cX12_hex 3 = .ok (.bipush 57, 2) := by decide +kernel
theorem dX12_hex_5 : decode cX12_hex 5 = .ok (.invokestatic 18, 3) := by decide +kernel
theorem dX12_hex_8 : decode cX12_hex 8 = .ok (.ifCond .eq 10, 3) := by decide +kernel
theorem dX12_hex_11 : decode cX12_hex 11 = .ok (.iload_n 1, 1) := by decide +kernel
theorem dX12_hex_12 : decode cX12_hex 12 = .ok (.bipush 48, 2) := by decide +kernel
theorem dX12_hex_14 : decode cX12_hex 14 = .ok (.isub, 1) := by decide +kernel
theorem dX12_hex_15 : decode cX12_hex 15 = .ok (.goto 46, 3) := by decide +kernel
theorem dX12_hex_18 : decode cX12_hex 18 = .ok (.iload_n 1, 1) := by decide +kernel
theorem dX12_hex_19 : decode cX12_hex 19 = .ok (.bipush 97, 2) := by decide +kernel
theorem dX12_hex_21 : decode cX12_hex 21 = .ok (.bipush 102, 2) := by decide +kernel
theorem dX12_hex_23 : decode cX12_hex 23 = .ok (.invokestatic 18, 3) := by decide +kernel
theorem dX12_hex_26 : decode cX12_hex 26 = .ok (.ifCond .eq 13, 3) := by decide +kernel
theorem dX12_hex_29 : decode cX12_hex 29 = .ok (.iload_n 1, 1) := by decide +kernel
theorem dX12_hex_30 : decode cX12_hex 30 = .ok (.bipush 97, 2) := by decide +kernel
theorem dX12_hex_32 : decode cX12_hex 32 = .ok (.isub, 1) := by decide +kernel
theorem dX12_hex_33 : decode cX12_hex 33 = .ok (.bipush 10, 2) := by decide +kernel
theorem dX12_hex_35 : decode cX12_hex 35 = .ok (.iadd, 1) := by decide +kernel
theorem dX12_hex_36 : decode cX12_hex 36 = .ok (.goto 25, 3) := by decide +kernel
theorem dX12_hex_39 : decode cX12_hex 39 = .ok (.iload_n 1, 1) := by decide +kernel
theorem dX12_hex_40 : decode cX12_hex 40 = .ok (.bipush 65, 2) := by decide +kernel
theorem dX12_hex_42 : decode cX12_hex 42 = .ok (.bipush 70, 2) := by decide +kernel
theorem dX12_hex_44 : decode cX12_hex 44 = .ok (.invokestatic 18, 3) := by decide +kernel
theorem dX12_hex_47 : decode cX12_hex 47 = .ok (.ifCond .eq 13, 3) := by decide +kernel
theorem dX12_hex_50 : decode cX12_hex 50 = .ok (.iload_n 1, 1) := by decide +kernel
theorem dX12_hex_51 : decode cX12_hex 51 = .ok (.bipush 65, 2) := by decide +kernel
theorem dX12_hex_53 : decode cX12_hex 53 = .ok (.isub, 1) := by decide +kernel
theorem dX12_hex_54 : decode cX12_hex 54 = .ok (.bipush 10, 2) := by decide +kernel
theorem dX12_hex_56 : decode cX12_hex 56 = .ok (.iadd, 1) := by decide +kernel
theorem dX12_hex_57 : decode cX12_hex 57 = .ok (.goto 4, 3) := by decide +kernel
theorem dX12_hex_60 : decode cX12_hex 60 = .ok (.iconst (-1), 1) := by decide +kernel
theorem dX12_hex_61 : decode cX12_hex 61 = .ok (.ireturn, 1) := by decide +kernel
theorem dX12_readsLetters_0 : decode cX12_readsLetters 0 = .ok (.aload_n 0, 1) := by decide +kernel
theorem dX12_readsLetters_1 : decode cX12_readsLetters 1 = .ok (.lload_n 1, 1) := by decide +kernel
theorem dX12_readsLetters_2 : decode cX12_readsLetters 2 = .ok (.invokevirtual 74, 3) := by decide +kernel
theorem dX12_readsLetters_5 : decode cX12_readsLetters 5 = .ok (.iconst 0, 1) := by decide +kernel
theorem dX12_readsLetters_6 : decode cX12_readsLetters 6 = .ok (.istore_n 3, 1) := by decide +kernel
theorem dX12_readsLetters_7 : decode cX12_readsLetters 7 = .ok (.iload_n 3, 1) := by decide +kernel
theorem dX12_readsLetters_8 : decode cX12_readsLetters 8 = .ok (.aload_n 0, 1) := by decide +kernel
theorem dX12_readsLetters_9 : decode cX12_readsLetters 9 = .ok (.getfield 66, 3) := by decide +kernel
theorem dX12_readsLetters_12 : decode cX12_readsLetters 12 = .ok (.if_icmp .ge 34, 3) := by decide +kernel
theorem dX12_readsLetters_15 : decode cX12_readsLetters 15 = .ok (.aload_n 0, 1) := by decide +kernel
theorem dX12_readsLetters_16 : decode cX12_readsLetters 16 = .ok (.invokevirtual 471, 3) := by decide +kernel
theorem dX12_readsLetters_19 : decode cX12_readsLetters 19 = .ok (.aload_n 0, 1) := by decide +kernel
theorem dX12_readsLetters_20 : decode cX12_readsLetters 20 = .ok (.getfield 69, 3) := by decide +kernel
theorem dX12_readsLetters_23 : decode cX12_readsLetters 23 = .ok (.iload_n 3, 1) := by decide +kernel
theorem dX12_readsLetters_24 : decode cX12_readsLetters 24 = .ok (.iaload, 1) := by decide +kernel
theorem dX12_readsLetters_25 : decode cX12_readsLetters 25 = .ok (.if_icmp .eq 5, 3) := by decide +kernel
theorem dX12_readsLetters_28 : decode cX12_readsLetters 28 = .ok (.iconst 0, 1) := by decide +kernel
theorem dX12_readsLetters_29 : decode cX12_readsLetters 29 = .ok (.ireturn, 1) := by decide +kernel
theorem dX12_readsLetters_30 : decode cX12_readsLetters 30 = .ok (.aload_n 0, 1) := by decide +kernel
theorem dX12_readsLetters_31 : decode cX12_readsLetters 31 = .ok (.dup, 1) := by decide +kernel
theorem dX12_readsLetters_32 : decode cX12_readsLetters 32 = .ok (.getfield 468, 3) := by decide +kernel
theorem dX12_readsLetters_35 : decode cX12_readsLetters 35 = .ok (.iconst 1, 1) := by decide +kernel
theorem dX12_readsLetters_36 : decode cX12_readsLetters 36 = .ok (.iadd, 1) := by decide +kernel
theorem dX12_readsLetters_37 : decode cX12_readsLetters 37 = .ok (.putfield 468, 3) := by decide +kernel
theorem dX12_readsLetters_40 : decode cX12_readsLetters 40 = .ok (.iinc 3 1, 3) := by decide +kernel
theorem dX12_readsLetters_43 : decode cX12_readsLetters 43 = .ok (.goto (-36), 3) := by decide +kernel
theorem dX12_readsLetters_46 : decode cX12_readsLetters 46 = .ok (.iconst 1, 1) := by decide +kernel
theorem dX12_readsLetters_47 : decode cX12_readsLetters 47 = .ok (.ireturn, 1) := by decide +kernel
theorem dX12_escaped_0 : decode cX12_escaped 0 = .ok (.iload_n 1, 1) := by decide +kernel
theorem dX12_escaped_1 : decode cX12_escaped 1 = .ok (.lookupswitch 92 #[(34, 75), (47, 75), (92, 75), (98, 77), (102, 80), (110, 83), (114, 86), (116, 89)], 75) := by decide +kernel
theorem dX12_escaped_76 : decode cX12_escaped 76 = .ok (.iload_n 1, 1) := by decide +kernel
theorem dX12_escaped_77 : decode cX12_escaped 77 = .ok (.ireturn, 1) := by decide +kernel
theorem dX12_escaped_78 : decode cX12_escaped 78 = .ok (.bipush 8, 2) := by decide +kernel
theorem dX12_escaped_80 : decode cX12_escaped 80 = .ok (.ireturn, 1) := by decide +kernel
theorem dX12_escaped_81 : decode cX12_escaped 81 = .ok (.bipush 12, 2) := by decide +kernel
theorem dX12_escaped_83 : decode cX12_escaped 83 = .ok (.ireturn, 1) := by decide +kernel
theorem dX12_escaped_84 : decode cX12_escaped 84 = .ok (.bipush 10, 2) := by decide +kernel
theorem dX12_escaped_86 : decode cX12_escaped 86 = .ok (.ireturn, 1) := by decide +kernel
theorem dX12_escaped_87 : decode cX12_escaped 87 = .ok (.bipush 13, 2) := by decide +kernel
theorem dX12_escaped_89 : decode cX12_escaped 89 = .ok (.ireturn, 1) := by decide +kernel
theorem dX12_escaped_90 : decode cX12_escaped 90 = .ok (.bipush 9, 2) := by decide +kernel
theorem dX12_escaped_92 : decode cX12_escaped 92 = .ok (.ireturn, 1) := by decide +kernel
theorem dX12_escaped_93 : decode cX12_escaped 93 = .ok (.iconst (-1), 1) := by decide +kernel
theorem dX12_escaped_94 : decode cX12_escaped 94 = .ok (.ireturn, 1) := by decide +kernel
theorem dX12_readsText_0 : decode cX12_readsText 0 = .ok (.aload_n 0, 1) := by decide +kernel
theorem dX12_readsText_1 : decode cX12_readsText 1 = .ok (.iconst 0, 1) := by decide +kernel
theorem dX12_readsText_2 : decode cX12_readsText 2 = .ok (.putfield 66, 3) := by decide +kernel
theorem dX12_readsText_5 : decode cX12_readsText 5 = .ok (.aload_n 0, 1) := by decide +kernel
theorem dX12_readsText_6 : decode cX12_readsText 6 = .ok (.dup, 1) := by decide +kernel
theorem dX12_readsText_7 : decode cX12_readsText 7 = .ok (.getfield 468, 3) := by decide +kernel
theorem dX12_readsText_10 : decode cX12_readsText 10 = .ok (.iconst 1, 1) := by decide +kernel
theorem dX12_readsText_11 : decode cX12_readsText 11 = .ok (.iadd, 1) := by decide +kernel
theorem dX12_readsText_12 : decode cX12_readsText 12 = .ok (.putfield 468, 3) := by decide +kernel
theorem dX12_readsText_15 : decode cX12_readsText 15 = .ok (.aload_n 0, 1) := by decide +kernel
theorem dX12_readsText_16 : decode cX12_readsText 16 = .ok (.invokevirtual 471, 3) := by decide +kernel
theorem dX12_readsText_19 : decode cX12_readsText 19 = .ok (.bipush 34, 2) := by decide +kernel
theorem dX12_readsText_21 : decode cX12_readsText 21 = .ok (.if_icmp .eq 194, 3) := by decide +kernel
theorem dX12_readsText_24 : decode cX12_readsText 24 = .ok (.aload_n 0, 1) := by decide +kernel
theorem dX12_readsText_25 : decode cX12_readsText 25 = .ok (.invokevirtual 471, 3) := by decide +kernel
theorem dX12_readsText_28 : decode cX12_readsText 28 = .ok (.istore_n 2, 1) := by decide +kernel
theorem dX12_readsText_29 : decode cX12_readsText 29 = .ok (.iload_n 2, 1) := by decide +kernel
theorem dX12_readsText_30 : decode cX12_readsText 30 = .ok (.bipush 32, 2) := by decide +kernel
theorem dX12_readsText_32 : decode cX12_readsText 32 = .ok (.if_icmp .lt 11, 3) := by decide +kernel
theorem dX12_readsText_35 : decode cX12_readsText 35 = .ok (.aload_n 0, 1) := by decide +kernel
theorem dX12_readsText_36 : decode cX12_readsText 36 = .ok (.getfield 66, 3) := by decide +kernel
theorem dX12_readsText_39 : decode cX12_readsText 39 = .ok (.iload_n 1, 1) := by decide +kernel
theorem dX12_readsText_40 : decode cX12_readsText 40 = .ok (.if_icmp .ne 5, 3) := by decide +kernel
theorem dX12_readsText_43 : decode cX12_readsText 43 = .ok (.iconst 0, 1) := by decide +kernel
theorem dX12_readsText_44 : decode cX12_readsText 44 = .ok (.ireturn, 1) := by decide +kernel
theorem dX12_readsText_45 : decode cX12_readsText 45 = .ok (.aload_n 0, 1) := by decide +kernel
theorem dX12_readsText_46 : decode cX12_readsText 46 = .ok (.dup, 1) := by decide +kernel
theorem dX12_readsText_47 : decode cX12_readsText 47 = .ok (.getfield 468, 3) := by decide +kernel
theorem dX12_readsText_50 : decode cX12_readsText 50 = .ok (.iconst 1, 1) := by decide +kernel
theorem dX12_readsText_51 : decode cX12_readsText 51 = .ok (.iadd, 1) := by decide +kernel
theorem dX12_readsText_52 : decode cX12_readsText 52 = .ok (.putfield 468, 3) := by decide +kernel
theorem dX12_readsText_55 : decode cX12_readsText 55 = .ok (.iload_n 2, 1) := by decide +kernel
theorem dX12_readsText_56 : decode cX12_readsText 56 = .ok (.bipush 92, 2) := by decide +kernel
theorem dX12_readsText_58 : decode cX12_readsText 58 = .ok (.if_icmp .ne 134, 3) := by decide +kernel
theorem dX12_readsText_61 : decode cX12_readsText 61 = .ok (.aload_n 0, 1) := by decide +kernel
theorem dX12_readsText_62 : decode cX12_readsText 62 = .ok (.aload_n 0, 1) := by decide +kernel
theorem dX12_readsText_63 : decode cX12_readsText 63 = .ok (.invokevirtual 471, 3) := by decide +kernel
theorem dX12_readsText_66 : decode cX12_readsText 66 = .ok (.invokevirtual 475, 3) := by decide +kernel
theorem dX12_readsText_69 : decode cX12_readsText 69 = .ok (.istore_n 2, 1) := by decide +kernel
theorem dX12_readsText_70 : decode cX12_readsText 70 = .ok (.aload_n 0, 1) := by decide +kernel
theorem dX12_readsText_71 : decode cX12_readsText 71 = .ok (.invokevirtual 471, 3) := by decide +kernel
theorem dX12_readsText_74 : decode cX12_readsText 74 = .ok (.bipush 117, 2) := by decide +kernel
theorem dX12_readsText_76 : decode cX12_readsText 76 = .ok (.if_icmp .ne 99, 3) := by decide +kernel
theorem dX12_readsText_79 : decode cX12_readsText 79 = .ok (.aload_n 0, 1) := by decide +kernel
theorem dX12_readsText_80 : decode cX12_readsText 80 = .ok (.dup, 1) := by decide +kernel
theorem dX12_readsText_81 : decode cX12_readsText 81 = .ok (.getfield 468, 3) := by decide +kernel
theorem dX12_readsText_84 : decode cX12_readsText 84 = .ok (.iconst 1, 1) := by decide +kernel
theorem dX12_readsText_85 : decode cX12_readsText 85 = .ok (.iadd, 1) := by decide +kernel
theorem dX12_readsText_86 : decode cX12_readsText 86 = .ok (.putfield 468, 3) := by decide +kernel
theorem dX12_readsText_89 : decode cX12_readsText 89 = .ok (.iconst 0, 1) := by decide +kernel
theorem dX12_readsText_90 : decode cX12_readsText 90 = .ok (.istore_n 3, 1) := by decide +kernel
theorem dX12_readsText_91 : decode cX12_readsText 91 = .ok (.iload_n 3, 1) := by decide +kernel
theorem dX12_readsText_92 : decode cX12_readsText 92 = .ok (.iconst 2, 1) := by decide +kernel
theorem dX12_readsText_93 : decode cX12_readsText 93 = .ok (.if_icmp .ge 30, 3) := by decide +kernel
theorem dX12_readsText_96 : decode cX12_readsText 96 = .ok (.aload_n 0, 1) := by decide +kernel
theorem dX12_readsText_97 : decode cX12_readsText 97 = .ok (.invokevirtual 471, 3) := by decide +kernel
theorem dX12_readsText_100 : decode cX12_readsText 100 = .ok (.bipush 48, 2) := by decide +kernel
theorem dX12_readsText_102 : decode cX12_readsText 102 = .ok (.if_icmp .eq 5, 3) := by decide +kernel
theorem dX12_readsText_105 : decode cX12_readsText 105 = .ok (.iconst 0, 1) := by decide +kernel
theorem dX12_readsText_106 : decode cX12_readsText 106 = .ok (.ireturn, 1) := by decide +kernel
theorem dX12_readsText_107 : decode cX12_readsText 107 = .ok (.aload_n 0, 1) := by decide +kernel
theorem dX12_readsText_108 : decode cX12_readsText 108 = .ok (.dup, 1) := by decide +kernel
theorem dX12_readsText_109 : decode cX12_readsText 109 = .ok (.getfield 468, 3) := by decide +kernel
theorem dX12_readsText_112 : decode cX12_readsText 112 = .ok (.iconst 1, 1) := by decide +kernel
theorem dX12_readsText_113 : decode cX12_readsText 113 = .ok (.iadd, 1) := by decide +kernel
theorem dX12_readsText_114 : decode cX12_readsText 114 = .ok (.putfield 468, 3) := by decide +kernel
theorem dX12_readsText_117 : decode cX12_readsText 117 = .ok (.iinc 3 1, 3) := by decide +kernel
theorem dX12_readsText_120 : decode cX12_readsText 120 = .ok (.goto (-29), 3) := by decide +kernel
theorem dX12_readsText_123 : decode cX12_readsText 123 = .ok (.aload_n 0, 1) := by decide +kernel
theorem dX12_readsText_124 : decode cX12_readsText 124 = .ok (.aload_n 0, 1) := by decide +kernel
theorem dX12_readsText_125 : decode cX12_readsText 125 = .ok (.invokevirtual 471, 3) := by decide +kernel
theorem dX12_readsText_128 : decode cX12_readsText 128 = .ok (.invokevirtual 478, 3) := by decide +kernel
theorem dX12_readsText_131 : decode cX12_readsText 131 = .ok (.istore_n 3, 1) := by decide +kernel
theorem dX12_readsText_132 : decode cX12_readsText 132 = .ok (.iload_n 3, 1) := by decide +kernel
theorem dX12_readsText_133 : decode cX12_readsText 133 = .ok (.iconst (-1), 1) := by decide +kernel
theorem dX12_readsText_134 : decode cX12_readsText 134 = .ok (.if_icmp .ne 5, 3) := by decide +kernel
theorem dX12_readsText_137 : decode cX12_readsText 137 = .ok (.iconst 0, 1) := by decide +kernel
theorem dX12_readsText_138 : decode cX12_readsText 138 = .ok (.ireturn, 1) := by decide +kernel
theorem dX12_readsText_139 : decode cX12_readsText 139 = .ok (.aload_n 0, 1) := by decide +kernel
theorem dX12_readsText_140 : decode cX12_readsText 140 = .ok (.dup, 1) := by decide +kernel
theorem dX12_readsText_141 : decode cX12_readsText 141 = .ok (.getfield 468, 3) := by decide +kernel
theorem dX12_readsText_144 : decode cX12_readsText 144 = .ok (.iconst 1, 1) := by decide +kernel
theorem dX12_readsText_145 : decode cX12_readsText 145 = .ok (.iadd, 1) := by decide +kernel
theorem dX12_readsText_146 : decode cX12_readsText 146 = .ok (.putfield 468, 3) := by decide +kernel
theorem dX12_readsText_149 : decode cX12_readsText 149 = .ok (.aload_n 0, 1) := by decide +kernel
theorem dX12_readsText_150 : decode cX12_readsText 150 = .ok (.aload_n 0, 1) := by decide +kernel
theorem dX12_readsText_151 : decode cX12_readsText 151 = .ok (.invokevirtual 471, 3) := by decide +kernel
theorem dX12_readsText_154 : decode cX12_readsText 154 = .ok (.invokevirtual 478, 3) := by decide +kernel
theorem dX12_readsText_157 : decode cX12_readsText 157 = .ok (.istore 4, 2) := by decide +kernel
theorem dX12_readsText_159 : decode cX12_readsText 159 = .ok (.iload 4, 2) := by decide +kernel
theorem dX12_readsText_161 : decode cX12_readsText 161 = .ok (.iconst (-1), 1) := by decide +kernel
theorem dX12_readsText_162 : decode cX12_readsText 162 = .ok (.if_icmp .ne 5, 3) := by decide +kernel
theorem dX12_readsText_165 : decode cX12_readsText 165 = .ok (.iconst 0, 1) := by decide +kernel
theorem dX12_readsText_166 : decode cX12_readsText 166 = .ok (.ireturn, 1) := by decide +kernel
theorem dX12_readsText_167 : decode cX12_readsText 167 = .ok (.bipush 16, 2) := by decide +kernel
theorem dX12_readsText_169 : decode cX12_readsText 169 = .ok (.iload_n 3, 1) := by decide +kernel
theorem dX12_readsText_170 : decode cX12_readsText 170 = .ok (.imul, 1) := by decide +kernel
theorem dX12_readsText_171 : decode cX12_readsText 171 = .ok (.iload 4, 2) := by decide +kernel
theorem dX12_readsText_173 : decode cX12_readsText 173 = .ok (.iadd, 1) := by decide +kernel
theorem dX12_readsText_174 : decode cX12_readsText 174 = .ok (.istore_n 2, 1) := by decide +kernel
theorem dX12_readsText_175 : decode cX12_readsText 175 = .ok (.iload_n 2, 1) := by decide +kernel
theorem dX12_readsText_176 : decode cX12_readsText 176 = .ok (.iconst (-1), 1) := by decide +kernel
theorem dX12_readsText_177 : decode cX12_readsText 177 = .ok (.if_icmp .ne 5, 3) := by decide +kernel
theorem dX12_readsText_180 : decode cX12_readsText 180 = .ok (.iconst 0, 1) := by decide +kernel
theorem dX12_readsText_181 : decode cX12_readsText 181 = .ok (.ireturn, 1) := by decide +kernel
theorem dX12_readsText_182 : decode cX12_readsText 182 = .ok (.aload_n 0, 1) := by decide +kernel
theorem dX12_readsText_183 : decode cX12_readsText 183 = .ok (.dup, 1) := by decide +kernel
theorem dX12_readsText_184 : decode cX12_readsText 184 = .ok (.getfield 468, 3) := by decide +kernel
theorem dX12_readsText_187 : decode cX12_readsText 187 = .ok (.iconst 1, 1) := by decide +kernel
theorem dX12_readsText_188 : decode cX12_readsText 188 = .ok (.iadd, 1) := by decide +kernel
theorem dX12_readsText_189 : decode cX12_readsText 189 = .ok (.putfield 468, 3) := by decide +kernel
theorem dX12_readsText_192 : decode cX12_readsText 192 = .ok (.aload_n 0, 1) := by decide +kernel
theorem dX12_readsText_193 : decode cX12_readsText 193 = .ok (.getfield 69, 3) := by decide +kernel
theorem dX12_readsText_196 : decode cX12_readsText 196 = .ok (.aload_n 0, 1) := by decide +kernel
theorem dX12_readsText_197 : decode cX12_readsText 197 = .ok (.getfield 66, 3) := by decide +kernel
theorem dX12_readsText_200 : decode cX12_readsText 200 = .ok (.iload_n 2, 1) := by decide +kernel
theorem dX12_readsText_201 : decode cX12_readsText 201 = .ok (.iastore, 1) := by decide +kernel
theorem dX12_readsText_202 : decode cX12_readsText 202 = .ok (.aload_n 0, 1) := by decide +kernel
theorem dX12_readsText_203 : decode cX12_readsText 203 = .ok (.dup, 1) := by decide +kernel
theorem dX12_readsText_204 : decode cX12_readsText 204 = .ok (.getfield 66, 3) := by decide +kernel
theorem dX12_readsText_207 : decode cX12_readsText 207 = .ok (.iconst 1, 1) := by decide +kernel
theorem dX12_readsText_208 : decode cX12_readsText 208 = .ok (.iadd, 1) := by decide +kernel
theorem dX12_readsText_209 : decode cX12_readsText 209 = .ok (.putfield 66, 3) := by decide +kernel
theorem dX12_readsText_212 : decode cX12_readsText 212 = .ok (.goto (-197), 3) := by decide +kernel
theorem dX12_readsText_215 : decode cX12_readsText 215 = .ok (.aload_n 0, 1) := by decide +kernel
theorem dX12_readsText_216 : decode cX12_readsText 216 = .ok (.dup, 1) := by decide +kernel
theorem dX12_readsText_217 : decode cX12_readsText 217 = .ok (.getfield 468, 3) := by decide +kernel
theorem dX12_readsText_220 : decode cX12_readsText 220 = .ok (.iconst 1, 1) := by decide +kernel
theorem dX12_readsText_221 : decode cX12_readsText 221 = .ok (.iadd, 1) := by decide +kernel
theorem dX12_readsText_222 : decode cX12_readsText 222 = .ok (.putfield 468, 3) := by decide +kernel
theorem dX12_readsText_225 : decode cX12_readsText 225 = .ok (.iconst 1, 1) := by decide +kernel
theorem dX12_readsText_226 : decode cX12_readsText 226 = .ok (.ireturn, 1) := by decide +kernel
theorem dX12_readsNumber_0 : decode cX12_readsNumber 0 = .ok (.aload_n 0, 1) := by decide +kernel
theorem dX12_readsNumber_1 : decode cX12_readsNumber 1 = .ok (.getfield 468, 3) := by decide +kernel
theorem dX12_readsNumber_4 : decode cX12_readsNumber 4 = .ok (.istore_n 2, 1) := by decide +kernel
theorem dX12_readsNumber_5 : decode cX12_readsNumber 5 = .ok (.aload_n 0, 1) := by decide +kernel
theorem dX12_readsNumber_6 : decode cX12_readsNumber 6 = .ok (.invokevirtual 471, 3) := by decide +kernel
theorem dX12_readsNumber_9 : decode cX12_readsNumber 9 = .ok (.bipush 45, 2) := by decide +kernel
theorem dX12_readsNumber_11 : decode cX12_readsNumber 11 = .ok (.if_icmp .ne 7, 3) := by decide +kernel
theorem dX12_readsNumber_14 : decode cX12_readsNumber 14 = .ok (.iconst 1, 1) := by decide +kernel
theorem dX12_readsNumber_15 : decode cX12_readsNumber 15 = .ok (.goto 4, 3) := by decide +kernel
theorem dX12_readsNumber_18 : decode cX12_readsNumber 18 = .ok (.iconst 0, 1) := by decide +kernel
theorem dX12_readsNumber_19 : decode cX12_readsNumber 19 = .ok (.istore_n 3, 1) := by decide +kernel
theorem dX12_readsNumber_20 : decode cX12_readsNumber 20 = .ok (.aload_n 0, 1) := by decide +kernel
theorem dX12_readsNumber_21 : decode cX12_readsNumber 21 = .ok (.dup, 1) := by decide +kernel
theorem dX12_readsNumber_22 : decode cX12_readsNumber 22 = .ok (.getfield 468, 3) := by decide +kernel
theorem dX12_readsNumber_25 : decode cX12_readsNumber 25 = .ok (.iload_n 3, 1) := by decide +kernel
theorem dX12_readsNumber_26 : decode cX12_readsNumber 26 = .ok (.ifCond .eq 7, 3) := by decide +kernel
theorem dX12_readsNumber_29 : decode cX12_readsNumber 29 = .ok (.iconst 1, 1) := by decide +kernel
theorem dX12_readsNumber_30 : decode cX12_readsNumber 30 = .ok (.goto 4, 3) := by decide +kernel
theorem dX12_readsNumber_33 : decode cX12_readsNumber 33 = .ok (.iconst 0, 1) := by decide +kernel
theorem dX12_readsNumber_34 : decode cX12_readsNumber 34 = .ok (.iadd, 1) := by decide +kernel
theorem dX12_readsNumber_35 : decode cX12_readsNumber 35 = .ok (.putfield 468, 3) := by decide +kernel
theorem dX12_readsNumber_38 : decode cX12_readsNumber 38 = .ok (.iconst 0, 1) := by decide +kernel
theorem dX12_readsNumber_39 : decode cX12_readsNumber 39 = .ok (.istore 4, 2) := by decide +kernel
theorem dX12_readsNumber_41 : decode cX12_readsNumber 41 = .ok (.iconst 0, 1) := by decide +kernel
theorem dX12_readsNumber_42 : decode cX12_readsNumber 42 = .ok (.istore 5, 2) := by decide +kernel
theorem dX12_readsNumber_44 : decode cX12_readsNumber 44 = .ok (.iconst 0, 1) := by decide +kernel
theorem dX12_readsNumber_45 : decode cX12_readsNumber 45 = .ok (.istore 6, 2) := by decide +kernel
theorem dX12_readsNumber_47 : decode cX12_readsNumber 47 = .ok (.aload_n 0, 1) := by decide +kernel
theorem dX12_readsNumber_48 : decode cX12_readsNumber 48 = .ok (.invokevirtual 481, 3) := by decide +kernel
theorem dX12_readsNumber_51 : decode cX12_readsNumber 51 = .ok (.ifCond .ne 5, 3) := by decide +kernel
theorem dX12_readsNumber_54 : decode cX12_readsNumber 54 = .ok (.iconst 0, 1) := by decide +kernel
theorem dX12_readsNumber_55 : decode cX12_readsNumber 55 = .ok (.ireturn, 1) := by decide +kernel
theorem dX12_readsNumber_56 : decode cX12_readsNumber 56 = .ok (.aload_n 0, 1) := by decide +kernel
theorem dX12_readsNumber_57 : decode cX12_readsNumber 57 = .ok (.invokevirtual 471, 3) := by decide +kernel
theorem dX12_readsNumber_60 : decode cX12_readsNumber 60 = .ok (.bipush 48, 2) := by decide +kernel
theorem dX12_readsNumber_62 : decode cX12_readsNumber 62 = .ok (.if_icmp .ne 7, 3) := by decide +kernel
theorem dX12_readsNumber_65 : decode cX12_readsNumber 65 = .ok (.iconst 1, 1) := by decide +kernel
theorem dX12_readsNumber_66 : decode cX12_readsNumber 66 = .ok (.goto 4, 3) := by decide +kernel
theorem dX12_readsNumber_69 : decode cX12_readsNumber 69 = .ok (.iconst 0, 1) := by decide +kernel
theorem dX12_readsNumber_70 : decode cX12_readsNumber 70 = .ok (.istore 7, 2) := by decide +kernel
theorem dX12_readsNumber_72 : decode cX12_readsNumber 72 = .ok (.iconst 1, 1) := by decide +kernel
theorem dX12_readsNumber_73 : decode cX12_readsNumber 73 = .ok (.istore 8, 2) := by decide +kernel
theorem dX12_readsNumber_75 : decode cX12_readsNumber 75 = .ok (.iload 8, 2) := by decide +kernel
theorem dX12_readsNumber_77 : decode cX12_readsNumber 77 = .ok (.ifCond .eq 117, 3) := by decide +kernel
theorem dX12_readsNumber_80 : decode cX12_readsNumber 80 = .ok (.iload 4, 2) := by decide +kernel
theorem dX12_readsNumber_82 : decode cX12_readsNumber 82 = .ok (.bipush 24, 2) := by decide +kernel
theorem dX12_readsNumber_84 : decode cX12_readsNumber 84 = .ok (.if_icmp .ne 5, 3) := by decide +kernel
theorem dX12_readsNumber_87 : decode cX12_readsNumber 87 = .ok (.iconst 0, 1) := by decide +kernel
theorem dX12_readsNumber_88 : decode cX12_readsNumber 88 = .ok (.ireturn, 1) := by decide +kernel
theorem dX12_readsNumber_89 : decode cX12_readsNumber 89 = .ok (.aload_n 0, 1) := by decide +kernel
theorem dX12_readsNumber_90 : decode cX12_readsNumber 90 = .ok (.getfield 250, 3) := by decide +kernel
theorem dX12_readsNumber_93 : decode cX12_readsNumber 93 = .ok (.iload 4, 2) := by decide +kernel
theorem dX12_readsNumber_95 : decode cX12_readsNumber 95 = .ok (.aload_n 0, 1) := by decide +kernel
theorem dX12_readsNumber_96 : decode cX12_readsNumber 96 = .ok (.invokevirtual 471, 3) := by decide +kernel
theorem dX12_readsNumber_99 : decode cX12_readsNumber 99 = .ok (.bipush 48, 2) := by decide +kernel
theorem dX12_readsNumber_101 : decode cX12_readsNumber 101 = .ok (.isub, 1) := by decide +kernel
theorem dX12_readsNumber_102 : decode cX12_readsNumber 102 = .ok (.iastore, 1) := by decide +kernel
theorem dX12_readsNumber_103 : decode cX12_readsNumber 103 = .ok (.iinc 4 1, 3) := by decide +kernel
theorem dX12_readsNumber_106 : decode cX12_readsNumber 106 = .ok (.iload 5, 2) := by decide +kernel
theorem dX12_readsNumber_108 : decode cX12_readsNumber 108 = .ok (.iload 6, 2) := by decide +kernel
theorem dX12_readsNumber_110 : decode cX12_readsNumber 110 = .ok (.ifCond .eq 7, 3) := by decide +kernel
theorem dX12_readsNumber_113 : decode cX12_readsNumber 113 = .ok (.iconst 1, 1) := by decide +kernel
theorem dX12_readsNumber_114 : decode cX12_readsNumber 114 = .ok (.goto 4, 3) := by decide +kernel
theorem dX12_readsNumber_117 : decode cX12_readsNumber 117 = .ok (.iconst 0, 1) := by decide +kernel
theorem dX12_readsNumber_118 : decode cX12_readsNumber 118 = .ok (.iadd, 1) := by decide +kernel
theorem dX12_readsNumber_119 : decode cX12_readsNumber 119 = .ok (.istore 5, 2) := by decide +kernel
theorem dX12_readsNumber_121 : decode cX12_readsNumber 121 = .ok (.aload_n 0, 1) := by decide +kernel
theorem dX12_readsNumber_122 : decode cX12_readsNumber 122 = .ok (.dup, 1) := by decide +kernel
theorem dX12_readsNumber_123 : decode cX12_readsNumber 123 = .ok (.getfield 468, 3) := by decide +kernel
theorem dX12_readsNumber_126 : decode cX12_readsNumber 126 = .ok (.iconst 1, 1) := by decide +kernel
theorem dX12_readsNumber_127 : decode cX12_readsNumber 127 = .ok (.iadd, 1) := by decide +kernel
theorem dX12_readsNumber_128 : decode cX12_readsNumber 128 = .ok (.putfield 468, 3) := by decide +kernel
theorem dX12_readsNumber_131 : decode cX12_readsNumber 131 = .ok (.iload 6, 2) := by decide +kernel
theorem dX12_readsNumber_133 : decode cX12_readsNumber 133 = .ok (.ifCond .ne 34, 3) := by decide +kernel
theorem dX12_readsNumber_136 : decode cX12_readsNumber 136 = .ok (.aload_n 0, 1) := by decide +kernel
theorem dX12_readsNumber_137 : decode cX12_readsNumber 137 = .ok (.invokevirtual 471, 3) := by decide +kernel
theorem dX12_readsNumber_140 : decode cX12_readsNumber 140 = .ok (.bipush 46, 2) := by decide +kernel
theorem dX12_readsNumber_142 : decode cX12_readsNumber 142 = .ok (.if_icmp .ne 25, 3) := by decide +kernel
theorem dX12_readsNumber_145 : decode cX12_readsNumber 145 = .ok (.iconst 1, 1) := by decide +kernel
theorem dX12_readsNumber_146 : decode cX12_readsNumber 146 = .ok (.istore 6, 2) := by decide +kernel
theorem dX12_readsNumber_148 : decode cX12_readsNumber 148 = .ok (.aload_n 0, 1) := by decide +kernel
theorem dX12_readsNumber_149 : decode cX12_readsNumber 149 = .ok (.dup, 1) := by decide +kernel
theorem dX12_readsNumber_150 : decode cX12_readsNumber 150 = .ok (.getfield 468, 3) := by decide +kernel
theorem dX12_readsNumber_153 : decode cX12_readsNumber 153 = .ok (.iconst 1, 1) := by decide +kernel
theorem dX12_readsNumber_154 : decode cX12_readsNumber 154 = .ok (.iadd, 1) := by decide +kernel
theorem dX12_readsNumber_155 : decode cX12_readsNumber 155 = .ok (.putfield 468, 3) := by decide +kernel
theorem dX12_readsNumber_158 : decode cX12_readsNumber 158 = .ok (.aload_n 0, 1) := by decide +kernel
theorem dX12_readsNumber_159 : decode cX12_readsNumber 159 = .ok (.invokevirtual 481, 3) := by decide +kernel
theorem dX12_readsNumber_162 : decode cX12_readsNumber 162 = .ok (.ifCond .ne (-87), 3) := by decide +kernel
theorem dX12_readsNumber_165 : decode cX12_readsNumber 165 = .ok (.iconst 0, 1) := by decide +kernel
theorem dX12_readsNumber_166 : decode cX12_readsNumber 166 = .ok (.ireturn, 1) := by decide +kernel
theorem dX12_readsNumber_167 : decode cX12_readsNumber 167 = .ok (.aload_n 0, 1) := by decide +kernel
theorem dX12_readsNumber_168 : decode cX12_readsNumber 168 = .ok (.invokevirtual 481, 3) := by decide +kernel
theorem dX12_readsNumber_171 : decode cX12_readsNumber 171 = .ok (.ifCond .eq 17, 3) := by decide +kernel
theorem dX12_readsNumber_174 : decode cX12_readsNumber 174 = .ok (.iload 6, 2) := by decide +kernel
theorem dX12_readsNumber_176 : decode cX12_readsNumber 176 = .ok (.ifCond .ne 8, 3) := by decide +kernel
theorem dX12_readsNumber_179 : decode cX12_readsNumber 179 = .ok (.iload 7, 2) := by decide +kernel
theorem dX12_readsNumber_181 : decode cX12_readsNumber 181 = .ok (.ifCond .ne 7, 3) := by decide +kernel
theorem dX12_readsNumber_184 : decode cX12_readsNumber 184 = .ok (.iconst 1, 1) := by decide +kernel
theorem dX12_readsNumber_185 : decode cX12_readsNumber 185 = .ok (.goto 4, 3) := by decide +kernel
theorem dX12_readsNumber_188 : decode cX12_readsNumber 188 = .ok (.iconst 0, 1) := by decide +kernel
theorem dX12_readsNumber_189 : decode cX12_readsNumber 189 = .ok (.istore 8, 2) := by decide +kernel
theorem dX12_readsNumber_191 : decode cX12_readsNumber 191 = .ok (.goto (-116), 3) := by decide +kernel
theorem dX12_readsNumber_194 : decode cX12_readsNumber 194 = .ok (.iconst 0, 1) := by decide +kernel
theorem dX12_readsNumber_195 : decode cX12_readsNumber 195 = .ok (.istore 9, 2) := by decide +kernel
theorem dX12_readsNumber_197 : decode cX12_readsNumber 197 = .ok (.aload_n 0, 1) := by decide +kernel
theorem dX12_readsNumber_198 : decode cX12_readsNumber 198 = .ok (.invokevirtual 471, 3) := by decide +kernel
theorem dX12_readsNumber_201 : decode cX12_readsNumber 201 = .ok (.bipush 101, 2) := by decide +kernel
theorem dX12_readsNumber_203 : decode cX12_readsNumber 203 = .ok (.if_icmp .eq 12, 3) := by decide +kernel
theorem dX12_readsNumber_206 : decode cX12_readsNumber 206 = .ok (.aload_n 0, 1) := by decide +kernel
theorem dX12_readsNumber_207 : decode cX12_readsNumber 207 = .ok (.invokevirtual 471, 3) := by decide +kernel
theorem dX12_readsNumber_210 : decode cX12_readsNumber 210 = .ok (.bipush 69, 2) := by decide +kernel
theorem dX12_readsNumber_212 : decode cX12_readsNumber 212 = .ok (.if_icmp .ne 132, 3) := by decide +kernel
theorem dX12_readsNumber_215 : decode cX12_readsNumber 215 = .ok (.aload_n 0, 1) := by decide +kernel
theorem dX12_readsNumber_216 : decode cX12_readsNumber 216 = .ok (.dup, 1) := by decide +kernel
theorem dX12_readsNumber_217 : decode cX12_readsNumber 217 = .ok (.getfield 468, 3) := by decide +kernel
theorem dX12_readsNumber_220 : decode cX12_readsNumber 220 = .ok (.iconst 1, 1) := by decide +kernel
theorem dX12_readsNumber_221 : decode cX12_readsNumber 221 = .ok (.iadd, 1) := by decide +kernel
theorem dX12_readsNumber_222 : decode cX12_readsNumber 222 = .ok (.putfield 468, 3) := by decide +kernel
theorem dX12_readsNumber_225 : decode cX12_readsNumber 225 = .ok (.aload_n 0, 1) := by decide +kernel
theorem dX12_readsNumber_226 : decode cX12_readsNumber 226 = .ok (.invokevirtual 471, 3) := by decide +kernel
theorem dX12_readsNumber_229 : decode cX12_readsNumber 229 = .ok (.bipush 45, 2) := by decide +kernel
theorem dX12_readsNumber_231 : decode cX12_readsNumber 231 = .ok (.if_icmp .ne 7, 3) := by decide +kernel
theorem dX12_readsNumber_234 : decode cX12_readsNumber 234 = .ok (.iconst 1, 1) := by decide +kernel
theorem dX12_readsNumber_235 : decode cX12_readsNumber 235 = .ok (.goto 4, 3) := by decide +kernel
theorem dX12_readsNumber_238 : decode cX12_readsNumber 238 = .ok (.iconst 0, 1) := by decide +kernel
theorem dX12_readsNumber_239 : decode cX12_readsNumber 239 = .ok (.istore 10, 2) := by decide +kernel
theorem dX12_readsNumber_241 : decode cX12_readsNumber 241 = .ok (.aload_n 0, 1) := by decide +kernel
theorem dX12_readsNumber_242 : decode cX12_readsNumber 242 = .ok (.dup, 1) := by decide +kernel
theorem dX12_readsNumber_243 : decode cX12_readsNumber 243 = .ok (.getfield 468, 3) := by decide +kernel
theorem dX12_readsNumber_246 : decode cX12_readsNumber 246 = .ok (.iload 10, 2) := by decide +kernel
theorem dX12_readsNumber_248 : decode cX12_readsNumber 248 = .ok (.ifCond .ne 12, 3) := by decide +kernel
theorem dX12_readsNumber_251 : decode cX12_readsNumber 251 = .ok (.aload_n 0, 1) := by decide +kernel
theorem dX12_readsNumber_252 : decode cX12_readsNumber 252 = .ok (.invokevirtual 471, 3) := by decide +kernel
theorem dX12_readsNumber_255 : decode cX12_readsNumber 255 = .ok (.bipush 43, 2) := by decide +kernel
theorem dX12_readsNumber_257 : decode cX12_readsNumber 257 = .ok (.if_icmp .ne 7, 3) := by decide +kernel
theorem dX12_readsNumber_260 : decode cX12_readsNumber 260 = .ok (.iconst 1, 1) := by decide +kernel
theorem dX12_readsNumber_261 : decode cX12_readsNumber 261 = .ok (.goto 4, 3) := by decide +kernel
theorem dX12_readsNumber_264 : decode cX12_readsNumber 264 = .ok (.iconst 0, 1) := by decide +kernel
theorem dX12_readsNumber_265 : decode cX12_readsNumber 265 = .ok (.iadd, 1) := by decide +kernel
theorem dX12_readsNumber_266 : decode cX12_readsNumber 266 = .ok (.putfield 468, 3) := by decide +kernel
theorem dX12_readsNumber_269 : decode cX12_readsNumber 269 = .ok (.aload_n 0, 1) := by decide +kernel
theorem dX12_readsNumber_270 : decode cX12_readsNumber 270 = .ok (.invokevirtual 481, 3) := by decide +kernel
theorem dX12_readsNumber_273 : decode cX12_readsNumber 273 = .ok (.ifCond .ne 5, 3) := by decide +kernel
theorem dX12_readsNumber_276 : decode cX12_readsNumber 276 = .ok (.iconst 0, 1) := by decide +kernel
theorem dX12_readsNumber_277 : decode cX12_readsNumber 277 = .ok (.ireturn, 1) := by decide +kernel
theorem dX12_readsNumber_278 : decode cX12_readsNumber 278 = .ok (.aload_n 0, 1) := by decide +kernel
theorem dX12_readsNumber_279 : decode cX12_readsNumber 279 = .ok (.invokevirtual 471, 3) := by decide +kernel
theorem dX12_readsNumber_282 : decode cX12_readsNumber 282 = .ok (.bipush 48, 2) := by decide +kernel
theorem dX12_readsNumber_284 : decode cX12_readsNumber 284 = .ok (.isub, 1) := by decide +kernel
theorem dX12_readsNumber_285 : decode cX12_readsNumber 285 = .ok (.istore 9, 2) := by decide +kernel
theorem dX12_readsNumber_287 : decode cX12_readsNumber 287 = .ok (.aload_n 0, 1) := by decide +kernel
theorem dX12_readsNumber_288 : decode cX12_readsNumber 288 = .ok (.dup, 1) := by decide +kernel
theorem dX12_readsNumber_289 : decode cX12_readsNumber 289 = .ok (.getfield 468, 3) := by decide +kernel
theorem dX12_readsNumber_292 : decode cX12_readsNumber 292 = .ok (.iconst 1, 1) := by decide +kernel
theorem dX12_readsNumber_293 : decode cX12_readsNumber 293 = .ok (.iadd, 1) := by decide +kernel
theorem dX12_readsNumber_294 : decode cX12_readsNumber 294 = .ok (.putfield 468, 3) := by decide +kernel
theorem dX12_readsNumber_297 : decode cX12_readsNumber 297 = .ok (.aload_n 0, 1) := by decide +kernel
theorem dX12_readsNumber_298 : decode cX12_readsNumber 298 = .ok (.invokevirtual 481, 3) := by decide +kernel
theorem dX12_readsNumber_301 : decode cX12_readsNumber 301 = .ok (.ifCond .eq 28, 3) := by decide +kernel
theorem dX12_readsNumber_304 : decode cX12_readsNumber 304 = .ok (.bipush 10, 2) := by decide +kernel
theorem dX12_readsNumber_306 : decode cX12_readsNumber 306 = .ok (.iload 9, 2) := by decide +kernel
theorem dX12_readsNumber_308 : decode cX12_readsNumber 308 = .ok (.imul, 1) := by decide +kernel
theorem dX12_readsNumber_309 : decode cX12_readsNumber 309 = .ok (.aload_n 0, 1) := by decide +kernel
theorem dX12_readsNumber_310 : decode cX12_readsNumber 310 = .ok (.invokevirtual 471, 3) := by decide +kernel
theorem dX12_readsNumber_313 : decode cX12_readsNumber 313 = .ok (.iadd, 1) := by decide +kernel
theorem dX12_readsNumber_314 : decode cX12_readsNumber 314 = .ok (.bipush 48, 2) := by decide +kernel
theorem dX12_readsNumber_316 : decode cX12_readsNumber 316 = .ok (.isub, 1) := by decide +kernel
theorem dX12_readsNumber_317 : decode cX12_readsNumber 317 = .ok (.istore 9, 2) := by decide +kernel
theorem dX12_readsNumber_319 : decode cX12_readsNumber 319 = .ok (.aload_n 0, 1) := by decide +kernel
theorem dX12_readsNumber_320 : decode cX12_readsNumber 320 = .ok (.dup, 1) := by decide +kernel
theorem dX12_readsNumber_321 : decode cX12_readsNumber 321 = .ok (.getfield 468, 3) := by decide +kernel
theorem dX12_readsNumber_324 : decode cX12_readsNumber 324 = .ok (.iconst 1, 1) := by decide +kernel
theorem dX12_readsNumber_325 : decode cX12_readsNumber 325 = .ok (.iadd, 1) := by decide +kernel
theorem dX12_readsNumber_326 : decode cX12_readsNumber 326 = .ok (.putfield 468, 3) := by decide +kernel
theorem dX12_readsNumber_329 : decode cX12_readsNumber 329 = .ok (.iload 10, 2) := by decide +kernel
theorem dX12_readsNumber_331 : decode cX12_readsNumber 331 = .ok (.ifCond .eq 9, 3) := by decide +kernel
theorem dX12_readsNumber_334 : decode cX12_readsNumber 334 = .ok (.iload 9, 2) := by decide +kernel
theorem dX12_readsNumber_336 : decode cX12_readsNumber 336 = .ok (.ineg, 1) := by decide +kernel
theorem dX12_readsNumber_337 : decode cX12_readsNumber 337 = .ok (.goto 5, 3) := by decide +kernel
theorem dX12_readsNumber_340 : decode cX12_readsNumber 340 = .ok (.iload 9, 2) := by decide +kernel
theorem dX12_readsNumber_342 : decode cX12_readsNumber 342 = .ok (.istore 9, 2) := by decide +kernel
theorem dX12_readsNumber_344 : decode cX12_readsNumber 344 = .ok (.aload_n 0, 1) := by decide +kernel
theorem dX12_readsNumber_345 : decode cX12_readsNumber 345 = .ok (.iload_n 1, 1) := by decide +kernel
theorem dX12_readsNumber_346 : decode cX12_readsNumber 346 = .ok (.iload_n 3, 1) := by decide +kernel
theorem dX12_readsNumber_347 : decode cX12_readsNumber 347 = .ok (.iload 4, 2) := by decide +kernel
theorem dX12_readsNumber_349 : decode cX12_readsNumber 349 = .ok (.iload 9, 2) := by decide +kernel
theorem dX12_readsNumber_351 : decode cX12_readsNumber 351 = .ok (.iload 5, 2) := by decide +kernel
theorem dX12_readsNumber_353 : decode cX12_readsNumber 353 = .ok (.isub, 1) := by decide +kernel
theorem dX12_readsNumber_354 : decode cX12_readsNumber 354 = .ok (.invokevirtual 485, 3) := by decide +kernel
theorem dX12_readsNumber_357 : decode cX12_readsNumber 357 = .ok (.ifCond .ne 10, 3) := by decide +kernel
theorem dX12_readsNumber_360 : decode cX12_readsNumber 360 = .ok (.aload_n 0, 1) := by decide +kernel
theorem dX12_readsNumber_361 : decode cX12_readsNumber 361 = .ok (.iload_n 2, 1) := by decide +kernel
theorem dX12_readsNumber_362 : decode cX12_readsNumber 362 = .ok (.putfield 468, 3) := by decide +kernel
theorem dX12_readsNumber_365 : decode cX12_readsNumber 365 = .ok (.iconst 0, 1) := by decide +kernel
theorem dX12_readsNumber_366 : decode cX12_readsNumber 366 = .ok (.ireturn, 1) := by decide +kernel
theorem dX12_readsNumber_367 : decode cX12_readsNumber 367 = .ok (.iconst 1, 1) := by decide +kernel
theorem dX12_readsNumber_368 : decode cX12_readsNumber 368 = .ok (.ireturn, 1) := by decide +kernel
theorem dX12_isNumber_0 : decode cX12_isNumber 0 = .ok (.iload_n 3, 1) := by decide +kernel
theorem dX12_isNumber_1 : decode cX12_isNumber 1 = .ok (.istore 5, 2) := by decide +kernel
theorem dX12_isNumber_3 : decode cX12_isNumber 3 = .ok (.iload 4, 2) := by decide +kernel
theorem dX12_isNumber_5 : decode cX12_isNumber 5 = .ok (.istore 6, 2) := by decide +kernel
theorem dX12_isNumber_7 : decode cX12_isNumber 7 = .ok (.iconst 0, 1) := by decide +kernel
theorem dX12_isNumber_8 : decode cX12_isNumber 8 = .ok (.istore 7, 2) := by decide +kernel
theorem dX12_isNumber_10 : decode cX12_isNumber 10 = .ok (.iload 7, 2) := by decide +kernel
theorem dX12_isNumber_12 : decode cX12_isNumber 12 = .ok (.iload 5, 2) := by decide +kernel
theorem dX12_isNumber_14 : decode cX12_isNumber 14 = .ok (.if_icmp .ge 19, 3) := by decide +kernel
theorem dX12_isNumber_17 : decode cX12_isNumber 17 = .ok (.aload_n 0, 1) := by decide +kernel
theorem dX12_isNumber_18 : decode cX12_isNumber 18 = .ok (.getfield 250, 3) := by decide +kernel
theorem dX12_isNumber_21 : decode cX12_isNumber 21 = .ok (.iload 7, 2) := by decide +kernel
theorem dX12_isNumber_23 : decode cX12_isNumber 23 = .ok (.iaload, 1) := by decide +kernel
theorem dX12_isNumber_24 : decode cX12_isNumber 24 = .ok (.ifCond .ne 9, 3) := by decide +kernel
theorem dX12_isNumber_27 : decode cX12_isNumber 27 = .ok (.iinc 7 1, 3) := by decide +kernel
theorem dX12_isNumber_30 : decode cX12_isNumber 30 = .ok (.goto (-20), 3) := by decide +kernel
theorem dX12_isNumber_33 : decode cX12_isNumber 33 = .ok (.iload 5, 2) := by decide +kernel
theorem dX12_isNumber_35 : decode cX12_isNumber 35 = .ok (.iload 7, 2) := by decide +kernel
theorem dX12_isNumber_37 : decode cX12_isNumber 37 = .ok (.if_icmp .le 24, 3) := by decide +kernel
theorem dX12_isNumber_40 : decode cX12_isNumber 40 = .ok (.aload_n 0, 1) := by decide +kernel
theorem dX12_isNumber_41 : decode cX12_isNumber 41 = .ok (.getfield 250, 3) := by decide +kernel
theorem dX12_isNumber_44 : decode cX12_isNumber 44 = .ok (.iload 5, 2) := by decide +kernel
theorem dX12_isNumber_46 : decode cX12_isNumber 46 = .ok (.iconst 1, 1) := by decide +kernel
theorem dX12_isNumber_47 : decode cX12_isNumber 47 = .ok (.isub, 1) := by decide +kernel
theorem dX12_isNumber_48 : decode cX12_isNumber 48 = .ok (.iaload, 1) := by decide +kernel
theorem dX12_isNumber_49 : decode cX12_isNumber 49 = .ok (.ifCond .ne 12, 3) := by decide +kernel
theorem dX12_isNumber_52 : decode cX12_isNumber 52 = .ok (.iinc 5 (-1), 3) := by decide +kernel
theorem dX12_isNumber_55 : decode cX12_isNumber 55 = .ok (.iinc 6 1, 3) := by decide +kernel
theorem dX12_isNumber_58 : decode cX12_isNumber 58 = .ok (.goto (-25), 3) := by decide +kernel
theorem dX12_isNumber_61 : decode cX12_isNumber 61 = .ok (.bipush 40, 2) := by decide +kernel
theorem dX12_isNumber_63 : decode cX12_isNumber 63 = .ok (.iload_n 1, 1) := by decide +kernel
theorem dX12_isNumber_64 : decode cX12_isNumber 64 = .ok (.invokestatic 11, 3) := by decide +kernel
theorem dX12_isNumber_67 : decode cX12_isNumber 67 = .ok (.istore 8, 2) := by decide +kernel
theorem dX12_isNumber_69 : decode cX12_isNumber 69 = .ok (.iload 7, 2) := by decide +kernel
theorem dX12_isNumber_71 : decode cX12_isNumber 71 = .ok (.iload 5, 2) := by decide +kernel
theorem dX12_isNumber_73 : decode cX12_isNumber 73 = .ok (.if_icmp .ne 50, 3) := by decide +kernel
theorem dX12_isNumber_76 : decode cX12_isNumber 76 = .ok (.aload_n 0, 1) := by decide +kernel
theorem dX12_isNumber_77 : decode cX12_isNumber 77 = .ok (.getfield 7, 3) := by decide +kernel
theorem dX12_isNumber_80 : decode cX12_isNumber 80 = .ok (.iload 8, 2) := by decide +kernel
theorem dX12_isNumber_82 : decode cX12_isNumber 82 = .ok (.bipush 18, 2) := by decide +kernel
theorem dX12_isNumber_84 : decode cX12_isNumber 84 = .ok (.iadd, 1) := by decide +kernel
theorem dX12_isNumber_85 : decode cX12_isNumber 85 = .ok (.iconst 1, 1) := by decide +kernel
theorem dX12_isNumber_86 : decode cX12_isNumber 86 = .ok (.iastore, 1) := by decide +kernel
theorem dX12_isNumber_87 : decode cX12_isNumber 87 = .ok (.aload_n 0, 1) := by decide +kernel
theorem dX12_isNumber_88 : decode cX12_isNumber 88 = .ok (.getfield 7, 3) := by decide +kernel
theorem dX12_isNumber_91 : decode cX12_isNumber 91 = .ok (.iload 8, 2) := by decide +kernel
theorem dX12_isNumber_93 : decode cX12_isNumber 93 = .ok (.bipush 19, 2) := by decide +kernel
theorem dX12_isNumber_95 : decode cX12_isNumber 95 = .ok (.iadd, 1) := by decide +kernel
theorem dX12_isNumber_96 : decode cX12_isNumber 96 = .ok (.iconst 0, 1) := by decide +kernel
theorem dX12_isNumber_97 : decode cX12_isNumber 97 = .ok (.iastore, 1) := by decide +kernel
theorem dX12_isNumber_98 : decode cX12_isNumber 98 = .ok (.aload_n 0, 1) := by decide +kernel
theorem dX12_isNumber_99 : decode cX12_isNumber 99 = .ok (.getfield 7, 3) := by decide +kernel
theorem dX12_isNumber_102 : decode cX12_isNumber 102 = .ok (.iload 8, 2) := by decide +kernel
theorem dX12_isNumber_104 : decode cX12_isNumber 104 = .ok (.bipush 20, 2) := by decide +kernel
theorem dX12_isNumber_106 : decode cX12_isNumber 106 = .ok (.iadd, 1) := by decide +kernel
theorem dX12_isNumber_107 : decode cX12_isNumber 107 = .ok (.iconst 0, 1) := by decide +kernel
theorem dX12_isNumber_108 : decode cX12_isNumber 108 = .ok (.iastore, 1) := by decide +kernel
theorem dX12_isNumber_109 : decode cX12_isNumber 109 = .ok (.aload_n 0, 1) := by decide +kernel
theorem dX12_isNumber_110 : decode cX12_isNumber 110 = .ok (.getfield 7, 3) := by decide +kernel
theorem dX12_isNumber_113 : decode cX12_isNumber 113 = .ok (.iload 8, 2) := by decide +kernel
theorem dX12_isNumber_115 : decode cX12_isNumber 115 = .ok (.bipush 21, 2) := by decide +kernel
theorem dX12_isNumber_117 : decode cX12_isNumber 117 = .ok (.iadd, 1) := by decide +kernel
theorem dX12_isNumber_118 : decode cX12_isNumber 118 = .ok (.bipush 48, 2) := by decide +kernel
theorem dX12_isNumber_120 : decode cX12_isNumber 120 = .ok (.iastore, 1) := by decide +kernel
theorem dX12_isNumber_121 : decode cX12_isNumber 121 = .ok (.iconst 1, 1) := by decide +kernel
theorem dX12_isNumber_122 : decode cX12_isNumber 122 = .ok (.ireturn, 1) := by decide +kernel
theorem dX12_isNumber_123 : decode cX12_isNumber 123 = .ok (.aload_n 0, 1) := by decide +kernel
theorem dX12_isNumber_124 : decode cX12_isNumber 124 = .ok (.getfield 7, 3) := by decide +kernel
theorem dX12_isNumber_127 : decode cX12_isNumber 127 = .ok (.iload 8, 2) := by decide +kernel
theorem dX12_isNumber_129 : decode cX12_isNumber 129 = .ok (.bipush 18, 2) := by decide +kernel
theorem dX12_isNumber_131 : decode cX12_isNumber 131 = .ok (.iadd, 1) := by decide +kernel
theorem dX12_isNumber_132 : decode cX12_isNumber 132 = .ok (.iload 5, 2) := by decide +kernel
theorem dX12_isNumber_134 : decode cX12_isNumber 134 = .ok (.iload 7, 2) := by decide +kernel
theorem dX12_isNumber_136 : decode cX12_isNumber 136 = .ok (.isub, 1) := by decide +kernel
theorem dX12_isNumber_137 : decode cX12_isNumber 137 = .ok (.iastore, 1) := by decide +kernel
theorem dX12_isNumber_138 : decode cX12_isNumber 138 = .ok (.aload_n 0, 1) := by decide +kernel
theorem dX12_isNumber_139 : decode cX12_isNumber 139 = .ok (.getfield 7, 3) := by decide +kernel
theorem dX12_isNumber_142 : decode cX12_isNumber 142 = .ok (.iload 8, 2) := by decide +kernel
theorem dX12_isNumber_144 : decode cX12_isNumber 144 = .ok (.bipush 19, 2) := by decide +kernel
theorem dX12_isNumber_146 : decode cX12_isNumber 146 = .ok (.iadd, 1) := by decide +kernel
theorem dX12_isNumber_147 : decode cX12_isNumber 147 = .ok (.iload_n 2, 1) := by decide +kernel
theorem dX12_isNumber_148 : decode cX12_isNumber 148 = .ok (.ifCond .eq 7, 3) := by decide +kernel
theorem dX12_isNumber_151 : decode cX12_isNumber 151 = .ok (.iconst (-1), 1) := by decide +kernel
theorem dX12_isNumber_152 : decode cX12_isNumber 152 = .ok (.goto 4, 3) := by decide +kernel
theorem dX12_isNumber_155 : decode cX12_isNumber 155 = .ok (.iconst 1, 1) := by decide +kernel
theorem dX12_isNumber_156 : decode cX12_isNumber 156 = .ok (.iastore, 1) := by decide +kernel
theorem dX12_isNumber_157 : decode cX12_isNumber 157 = .ok (.aload_n 0, 1) := by decide +kernel
theorem dX12_isNumber_158 : decode cX12_isNumber 158 = .ok (.getfield 7, 3) := by decide +kernel
theorem dX12_isNumber_161 : decode cX12_isNumber 161 = .ok (.iload 8, 2) := by decide +kernel
theorem dX12_isNumber_163 : decode cX12_isNumber 163 = .ok (.bipush 20, 2) := by decide +kernel
theorem dX12_isNumber_165 : decode cX12_isNumber 165 = .ok (.iadd, 1) := by decide +kernel
theorem dX12_isNumber_166 : decode cX12_isNumber 166 = .ok (.iload 6, 2) := by decide +kernel
theorem dX12_isNumber_168 : decode cX12_isNumber 168 = .ok (.iastore, 1) := by decide +kernel
theorem dX12_isNumber_169 : decode cX12_isNumber 169 = .ok (.iload 7, 2) := by decide +kernel
theorem dX12_isNumber_171 : decode cX12_isNumber 171 = .ok (.istore 9, 2) := by decide +kernel
theorem dX12_isNumber_173 : decode cX12_isNumber 173 = .ok (.iload 9, 2) := by decide +kernel
theorem dX12_isNumber_175 : decode cX12_isNumber 175 = .ok (.iload 5, 2) := by decide +kernel
theorem dX12_isNumber_177 : decode cX12_isNumber 177 = .ok (.if_icmp .ge 35, 3) := by decide +kernel
theorem dX12_isNumber_180 : decode cX12_isNumber 180 = .ok (.aload_n 0, 1) := by decide +kernel
theorem dX12_isNumber_181 : decode cX12_isNumber 181 = .ok (.getfield 7, 3) := by decide +kernel
theorem dX12_isNumber_184 : decode cX12_isNumber 184 = .ok (.iload 8, 2) := by decide +kernel
theorem dX12_isNumber_186 : decode cX12_isNumber 186 = .ok (.bipush 21, 2) := by decide +kernel
theorem dX12_isNumber_188 : decode cX12_isNumber 188 = .ok (.iadd, 1) := by decide +kernel
theorem dX12_isNumber_189 : decode cX12_isNumber 189 = .ok (.iload 9, 2) := by decide +kernel
theorem dX12_isNumber_191 : decode cX12_isNumber 191 = .ok (.iadd, 1) := by decide +kernel
theorem dX12_isNumber_192 : decode cX12_isNumber 192 = .ok (.iload 7, 2) := by decide +kernel
theorem dX12_isNumber_194 : decode cX12_isNumber 194 = .ok (.isub, 1) := by decide +kernel
theorem dX12_isNumber_195 : decode cX12_isNumber 195 = .ok (.bipush 48, 2) := by decide +kernel
theorem dX12_isNumber_197 : decode cX12_isNumber 197 = .ok (.aload_n 0, 1) := by decide +kernel
theorem dX12_isNumber_198 : decode cX12_isNumber 198 = .ok (.getfield 250, 3) := by decide +kernel
theorem dX12_isNumber_201 : decode cX12_isNumber 201 = .ok (.iload 9, 2) := by decide +kernel
theorem dX12_isNumber_203 : decode cX12_isNumber 203 = .ok (.iaload, 1) := by decide +kernel
theorem dX12_isNumber_204 : decode cX12_isNumber 204 = .ok (.iadd, 1) := by decide +kernel
theorem dX12_isNumber_205 : decode cX12_isNumber 205 = .ok (.iastore, 1) := by decide +kernel
theorem dX12_isNumber_206 : decode cX12_isNumber 206 = .ok (.iinc 9 1, 3) := by decide +kernel
theorem dX12_isNumber_209 : decode cX12_isNumber 209 = .ok (.goto (-36), 3) := by decide +kernel
theorem dX12_isNumber_212 : decode cX12_isNumber 212 = .ok (.iload 6, 2) := by decide +kernel
theorem dX12_isNumber_214 : decode cX12_isNumber 214 = .ok (.bipush (-99), 2) := by decide +kernel
theorem dX12_isNumber_216 : decode cX12_isNumber 216 = .ok (.bipush 99, 2) := by decide +kernel
theorem dX12_isNumber_218 : decode cX12_isNumber 218 = .ok (.invokestatic 18, 3) := by decide +kernel
theorem dX12_isNumber_221 : decode cX12_isNumber 221 = .ok (.ireturn, 1) := by decide +kernel
theorem dX12_textIs_0 : decode cX12_textIs 0 = .ok (.aload_n 0, 1) := by decide +kernel
theorem dX12_textIs_1 : decode cX12_textIs 1 = .ok (.getfield 7, 3) := by decide +kernel
theorem dX12_textIs_4 : decode cX12_textIs 4 = .ok (.iload_n 1, 1) := by decide +kernel
theorem dX12_textIs_5 : decode cX12_textIs 5 = .ok (.iload_n 2, 1) := by decide +kernel
theorem dX12_textIs_6 : decode cX12_textIs 6 = .ok (.invokestatic 11, 3) := by decide +kernel
theorem dX12_textIs_9 : decode cX12_textIs 9 = .ok (.bipush 18, 2) := by decide +kernel
theorem dX12_textIs_11 : decode cX12_textIs 11 = .ok (.iadd, 1) := by decide +kernel
theorem dX12_textIs_12 : decode cX12_textIs 12 = .ok (.aload_n 0, 1) := by decide +kernel
theorem dX12_textIs_13 : decode cX12_textIs 13 = .ok (.getfield 66, 3) := by decide +kernel
theorem dX12_textIs_16 : decode cX12_textIs 16 = .ok (.iastore, 1) := by decide +kernel
theorem dX12_textIs_17 : decode cX12_textIs 17 = .ok (.iconst 0, 1) := by decide +kernel
theorem dX12_textIs_18 : decode cX12_textIs 18 = .ok (.istore_n 3, 1) := by decide +kernel
theorem dX12_textIs_19 : decode cX12_textIs 19 = .ok (.iload_n 3, 1) := by decide +kernel
theorem dX12_textIs_20 : decode cX12_textIs 20 = .ok (.aload_n 0, 1) := by decide +kernel
theorem dX12_textIs_21 : decode cX12_textIs 21 = .ok (.getfield 66, 3) := by decide +kernel
theorem dX12_textIs_24 : decode cX12_textIs 24 = .ok (.if_icmp .ge 36, 3) := by decide +kernel
theorem dX12_textIs_27 : decode cX12_textIs 27 = .ok (.iload_n 3, 1) := by decide +kernel
theorem dX12_textIs_28 : decode cX12_textIs 28 = .ok (.bipush 40, 2) := by decide +kernel
theorem dX12_textIs_30 : decode cX12_textIs 30 = .ok (.if_icmp .ge 30, 3) := by decide +kernel
theorem dX12_textIs_33 : decode cX12_textIs 33 = .ok (.aload_n 0, 1) := by decide +kernel
theorem dX12_textIs_34 : decode cX12_textIs 34 = .ok (.getfield 7, 3) := by decide +kernel
theorem dX12_textIs_37 : decode cX12_textIs 37 = .ok (.iload_n 1, 1) := by decide +kernel
theorem dX12_textIs_38 : decode cX12_textIs 38 = .ok (.iload_n 2, 1) := by decide +kernel
theorem dX12_textIs_39 : decode cX12_textIs 39 = .ok (.invokestatic 11, 3) := by decide +kernel
theorem dX12_textIs_42 : decode cX12_textIs 42 = .ok (.bipush 21, 2) := by decide +kernel
theorem dX12_textIs_44 : decode cX12_textIs 44 = .ok (.iadd, 1) := by decide +kernel
theorem dX12_textIs_45 : decode cX12_textIs 45 = .ok (.iload_n 3, 1) := by decide +kernel
theorem dX12_textIs_46 : decode cX12_textIs 46 = .ok (.iadd, 1) := by decide +kernel
theorem dX12_textIs_47 : decode cX12_textIs 47 = .ok (.aload_n 0, 1) := by decide +kernel
theorem dX12_textIs_48 : decode cX12_textIs 48 = .ok (.getfield 69, 3) := by decide +kernel
theorem dX12_textIs_51 : decode cX12_textIs 51 = .ok (.iload_n 3, 1) := by decide +kernel
theorem dX12_textIs_52 : decode cX12_textIs 52 = .ok (.iaload, 1) := by decide +kernel
theorem dX12_textIs_53 : decode cX12_textIs 53 = .ok (.iastore, 1) := by decide +kernel
theorem dX12_textIs_54 : decode cX12_textIs 54 = .ok (.iinc 3 1, 3) := by decide +kernel
theorem dX12_textIs_57 : decode cX12_textIs 57 = .ok (.goto (-38), 3) := by decide +kernel
theorem dX12_textIs_60 : decode cX12_textIs 60 = .ok (.return_, 1) := by decide +kernel
theorem dX12_readsValue_0 : decode cX12_readsValue 0 = .ok (.aload_n 0, 1) := by decide +kernel
theorem dX12_readsValue_1 : decode cX12_readsValue 1 = .ok (.invokevirtual 471, 3) := by decide +kernel
theorem dX12_readsValue_4 : decode cX12_readsValue 4 = .ok (.istore_n 2, 1) := by decide +kernel
theorem dX12_readsValue_5 : decode cX12_readsValue 5 = .ok (.iload_n 2, 1) := by decide +kernel
theorem dX12_readsValue_6 : decode cX12_readsValue 6 = .ok (.bipush 34, 2) := by decide +kernel
theorem dX12_readsValue_8 : decode cX12_readsValue 8 = .ok (.if_icmp .ne 19, 3) := by decide +kernel
theorem dX12_readsValue_11 : decode cX12_readsValue 11 = .ok (.aload_n 0, 1) := by decide +kernel
theorem dX12_readsValue_12 : decode cX12_readsValue 12 = .ok (.bipush 40, 2) := by decide +kernel
theorem dX12_readsValue_14 : decode cX12_readsValue 14 = .ok (.invokevirtual 489, 3) := by decide +kernel
theorem dX12_readsValue_17 : decode cX12_readsValue 17 = .ok (.istore_n 3, 1) := by decide +kernel
theorem dX12_readsValue_18 : decode cX12_readsValue 18 = .ok (.aload_n 0, 1) := by decide +kernel
theorem dX12_readsValue_19 : decode cX12_readsValue 19 = .ok (.bipush 40, 2) := by decide +kernel
theorem dX12_readsValue_21 : decode cX12_readsValue 21 = .ok (.iload_n 1, 1) := by decide +kernel
theorem dX12_readsValue_22 : decode cX12_readsValue 22 = .ok (.invokevirtual 492, 3) := by decide +kernel
theorem dX12_readsValue_25 : decode cX12_readsValue 25 = .ok (.iload_n 3, 1) := by decide +kernel
theorem dX12_readsValue_26 : decode cX12_readsValue 26 = .ok (.ireturn, 1) := by decide +kernel
theorem dX12_readsValue_27 : decode cX12_readsValue 27 = .ok (.iload_n 2, 1) := by decide +kernel
theorem dX12_readsValue_28 : decode cX12_readsValue 28 = .ok (.bipush 91, 2) := by decide +kernel
theorem dX12_readsValue_30 : decode cX12_readsValue 30 = .ok (.if_icmp .eq 9, 3) := by decide +kernel
theorem dX12_readsValue_33 : decode cX12_readsValue 33 = .ok (.iload_n 2, 1) := by decide +kernel
theorem dX12_readsValue_34 : decode cX12_readsValue 34 = .ok (.bipush 123, 2) := by decide +kernel
theorem dX12_readsValue_36 : decode cX12_readsValue 36 = .ok (.if_icmp .ne 15, 3) := by decide +kernel
theorem dX12_readsValue_39 : decode cX12_readsValue 39 = .ok (.aload_n 0, 1) := by decide +kernel
theorem dX12_readsValue_40 : decode cX12_readsValue 40 = .ok (.dup, 1) := by decide +kernel
theorem dX12_readsValue_41 : decode cX12_readsValue 41 = .ok (.getfield 468, 3) := by decide +kernel
theorem dX12_readsValue_44 : decode cX12_readsValue 44 = .ok (.iconst 1, 1) := by decide +kernel
theorem dX12_readsValue_45 : decode cX12_readsValue 45 = .ok (.iadd, 1) := by decide +kernel
theorem dX12_readsValue_46 : decode cX12_readsValue 46 = .ok (.putfield 468, 3) := by decide +kernel
theorem dX12_readsValue_49 : decode cX12_readsValue 49 = .ok (.iconst 1, 1) := by decide +kernel
theorem dX12_readsValue_50 : decode cX12_readsValue 50 = .ok (.ireturn, 1) := by decide +kernel
theorem dX12_readsValue_51 : decode cX12_readsValue 51 = .ok (.iload_n 2, 1) := by decide +kernel
theorem dX12_readsValue_52 : decode cX12_readsValue 52 = .ok (.bipush 110, 2) := by decide +kernel
theorem dX12_readsValue_54 : decode cX12_readsValue 54 = .ok (.if_icmp .ne 11, 3) := by decide +kernel
theorem dX12_readsValue_57 : decode cX12_readsValue 57 = .ok (.aload_n 0, 1) := by decide +kernel
theorem dX12_readsValue_58 : decode cX12_readsValue 58 = .ok (.ldc2_w 495, 3) := by decide +kernel
theorem dX12_readsValue_61 : decode cX12_readsValue 61 = .ok (.invokevirtual 497, 3) := by decide +kernel
theorem dX12_readsValue_64 : decode cX12_readsValue 64 = .ok (.ireturn, 1) := by decide +kernel
theorem dX12_readsValue_65 : decode cX12_readsValue 65 = .ok (.iload_n 2, 1) := by decide +kernel
theorem dX12_readsValue_66 : decode cX12_readsValue 66 = .ok (.bipush 116, 2) := by decide +kernel
theorem dX12_readsValue_68 : decode cX12_readsValue 68 = .ok (.if_icmp .eq 9, 3) := by decide +kernel
theorem dX12_readsValue_71 : decode cX12_readsValue 71 = .ok (.iload_n 2, 1) := by decide +kernel
theorem dX12_readsValue_72 : decode cX12_readsValue 72 = .ok (.bipush 102, 2) := by decide +kernel
theorem dX12_readsValue_74 : decode cX12_readsValue 74 = .ok (.if_icmp .ne 48, 3) := by decide +kernel
theorem dX12_readsValue_77 : decode cX12_readsValue 77 = .ok (.aload_n 0, 1) := by decide +kernel
theorem dX12_readsValue_78 : decode cX12_readsValue 78 = .ok (.getfield 7, 3) := by decide +kernel
theorem dX12_readsValue_81 : decode cX12_readsValue 81 = .ok (.bipush 40, 2) := by decide +kernel
theorem dX12_readsValue_83 : decode cX12_readsValue 83 = .ok (.iload_n 1, 1) := by decide +kernel
theorem dX12_readsValue_84 : decode cX12_readsValue 84 = .ok (.invokestatic 11, 3) := by decide +kernel
theorem dX12_readsValue_87 : decode cX12_readsValue 87 = .ok (.bipush 19, 2) := by decide +kernel
theorem dX12_readsValue_89 : decode cX12_readsValue 89 = .ok (.iadd, 1) := by decide +kernel
theorem dX12_readsValue_90 : decode cX12_readsValue 90 = .ok (.iload_n 2, 1) := by decide +kernel
theorem dX12_readsValue_91 : decode cX12_readsValue 91 = .ok (.bipush 116, 2) := by decide +kernel
theorem dX12_readsValue_93 : decode cX12_readsValue 93 = .ok (.if_icmp .ne 7, 3) := by decide +kernel
theorem dX12_readsValue_96 : decode cX12_readsValue 96 = .ok (.iconst 1, 1) := by decide +kernel
theorem dX12_readsValue_97 : decode cX12_readsValue 97 = .ok (.goto 4, 3) := by decide +kernel
theorem dX12_readsValue_100 : decode cX12_readsValue 100 = .ok (.iconst 0, 1) := by decide +kernel
theorem dX12_readsValue_101 : decode cX12_readsValue 101 = .ok (.iastore, 1) := by decide +kernel
theorem dX12_readsValue_102 : decode cX12_readsValue 102 = .ok (.aload_n 0, 1) := by decide +kernel
theorem dX12_readsValue_103 : decode cX12_readsValue 103 = .ok (.iload_n 2, 1) := by decide +kernel
theorem dX12_readsValue_104 : decode cX12_readsValue 104 = .ok (.bipush 116, 2) := by decide +kernel
theorem dX12_readsValue_106 : decode cX12_readsValue 106 = .ok (.if_icmp .ne 9, 3) := by decide +kernel
theorem dX12_readsValue_109 : decode cX12_readsValue 109 = .ok (.ldc2_w 501, 3) := by decide +kernel
theorem dX12_readsValue_112 : decode cX12_readsValue 112 = .ok (.goto 6, 3) := by decide +kernel
theorem dX12_readsValue_115 : decode cX12_readsValue 115 = .ok (.ldc2_w 503, 3) := by decide +kernel
theorem dX12_readsValue_118 : decode cX12_readsValue 118 = .ok (.invokevirtual 497, 3) := by decide +kernel
theorem dX12_readsValue_121 : decode cX12_readsValue 121 = .ok (.ireturn, 1) := by decide +kernel
theorem dX12_readsValue_122 : decode cX12_readsValue 122 = .ok (.aload_n 0, 1) := by decide +kernel
theorem dX12_readsValue_123 : decode cX12_readsValue 123 = .ok (.iload_n 1, 1) := by decide +kernel
theorem dX12_readsValue_124 : decode cX12_readsValue 124 = .ok (.invokevirtual 505, 3) := by decide +kernel
theorem dX12_readsValue_127 : decode cX12_readsValue 127 = .ok (.ireturn, 1) := by decide +kernel
theorem dX12_kindAhead_0 : decode cX12_kindAhead 0 = .ok (.aload_n 0, 1) := by decide +kernel
theorem dX12_kindAhead_1 : decode cX12_kindAhead 1 = .ok (.invokevirtual 471, 3) := by decide +kernel
theorem dX12_kindAhead_4 : decode cX12_kindAhead 4 = .ok (.istore_n 1, 1) := by decide +kernel
theorem dX12_kindAhead_5 : decode cX12_kindAhead 5 = .ok (.iload_n 1, 1) := by decide +kernel
theorem dX12_kindAhead_6 : decode cX12_kindAhead 6 = .ok (.bipush 110, 2) := by decide +kernel
theorem dX12_kindAhead_8 : decode cX12_kindAhead 8 = .ok (.if_icmp .ne 7, 3) := by decide +kernel
theorem dX12_kindAhead_11 : decode cX12_kindAhead 11 = .ok (.iconst 0, 1) := by decide +kernel
theorem dX12_kindAhead_12 : decode cX12_kindAhead 12 = .ok (.goto 67, 3) := by decide +kernel
theorem dX12_kindAhead_15 : decode cX12_kindAhead 15 = .ok (.iload_n 1, 1) := by decide +kernel
theorem dX12_kindAhead_16 : decode cX12_kindAhead 16 = .ok (.bipush 116, 2) := by decide +kernel
theorem dX12_kindAhead_18 : decode cX12_kindAhead 18 = .ok (.if_icmp .eq 9, 3) := by decide +kernel
theorem dX12_kindAhead_21 : decode cX12_kindAhead 21 = .ok (.iload_n 1, 1) := by decide +kernel
theorem dX12_kindAhead_22 : decode cX12_kindAhead 22 = .ok (.bipush 102, 2) := by decide +kernel
theorem dX12_kindAhead_24 : decode cX12_kindAhead 24 = .ok (.if_icmp .ne 7, 3) := by decide +kernel
theorem dX12_kindAhead_27 : decode cX12_kindAhead 27 = .ok (.iconst 1, 1) := by decide +kernel
theorem dX12_kindAhead_28 : decode cX12_kindAhead 28 = .ok (.goto 51, 3) := by decide +kernel
theorem dX12_kindAhead_31 : decode cX12_kindAhead 31 = .ok (.iload_n 1, 1) := by decide +kernel
theorem dX12_kindAhead_32 : decode cX12_kindAhead 32 = .ok (.bipush 34, 2) := by decide +kernel
theorem dX12_kindAhead_34 : decode cX12_kindAhead 34 = .ok (.if_icmp .ne 7, 3) := by decide +kernel
theorem dX12_kindAhead_37 : decode cX12_kindAhead 37 = .ok (.iconst 3, 1) := by decide +kernel
theorem dX12_kindAhead_38 : decode cX12_kindAhead 38 = .ok (.goto 41, 3) := by decide +kernel
theorem dX12_kindAhead_41 : decode cX12_kindAhead 41 = .ok (.iload_n 1, 1) := by decide +kernel
theorem dX12_kindAhead_42 : decode cX12_kindAhead 42 = .ok (.bipush 91, 2) := by decide +kernel
theorem dX12_kindAhead_44 : decode cX12_kindAhead 44 = .ok (.if_icmp .ne 7, 3) := by decide +kernel
theorem dX12_kindAhead_47 : decode cX12_kindAhead 47 = .ok (.iconst 4, 1) := by decide +kernel
theorem dX12_kindAhead_48 : decode cX12_kindAhead 48 = .ok (.goto 31, 3) := by decide +kernel
theorem dX12_kindAhead_51 : decode cX12_kindAhead 51 = .ok (.iload_n 1, 1) := by decide +kernel
theorem dX12_kindAhead_52 : decode cX12_kindAhead 52 = .ok (.bipush 123, 2) := by decide +kernel
theorem dX12_kindAhead_54 : decode cX12_kindAhead 54 = .ok (.if_icmp .ne 7, 3) := by decide +kernel
theorem dX12_kindAhead_57 : decode cX12_kindAhead 57 = .ok (.iconst 5, 1) := by decide +kernel
theorem dX12_kindAhead_58 : decode cX12_kindAhead 58 = .ok (.goto 21, 3) := by decide +kernel
theorem dX12_kindAhead_61 : decode cX12_kindAhead 61 = .ok (.iload_n 1, 1) := by decide +kernel
theorem dX12_kindAhead_62 : decode cX12_kindAhead 62 = .ok (.bipush 45, 2) := by decide +kernel
theorem dX12_kindAhead_64 : decode cX12_kindAhead 64 = .ok (.if_icmp .eq 10, 3) := by decide +kernel
theorem dX12_kindAhead_67 : decode cX12_kindAhead 67 = .ok (.aload_n 0, 1) := by decide +kernel
theorem dX12_kindAhead_68 : decode cX12_kindAhead 68 = .ok (.invokevirtual 481, 3) := by decide +kernel
theorem dX12_kindAhead_71 : decode cX12_kindAhead 71 = .ok (.ifCond .eq 7, 3) := by decide +kernel
theorem dX12_kindAhead_74 : decode cX12_kindAhead 74 = .ok (.iconst 2, 1) := by decide +kernel
theorem dX12_kindAhead_75 : decode cX12_kindAhead 75 = .ok (.goto 4, 3) := by decide +kernel
theorem dX12_kindAhead_78 : decode cX12_kindAhead 78 = .ok (.iconst (-1), 1) := by decide +kernel
theorem dX12_kindAhead_79 : decode cX12_kindAhead 79 = .ok (.ireturn, 1) := by decide +kernel
theorem dX12_readsKey_0 : decode cX12_readsKey 0 = .ok (.aload_n 0, 1) := by decide +kernel
theorem dX12_readsKey_1 : decode cX12_readsKey 1 = .ok (.invokevirtual 471, 3) := by decide +kernel
theorem dX12_readsKey_4 : decode cX12_readsKey 4 = .ok (.bipush 34, 2) := by decide +kernel
theorem dX12_readsKey_6 : decode cX12_readsKey 6 = .ok (.if_icmp .eq 5, 3) := by decide +kernel
theorem dX12_readsKey_9 : decode cX12_readsKey 9 = .ok (.iconst 0, 1) := by decide +kernel
theorem dX12_readsKey_10 : decode cX12_readsKey 10 = .ok (.ireturn, 1) := by decide +kernel
theorem dX12_readsKey_11 : decode cX12_readsKey 11 = .ok (.aload_n 0, 1) := by decide +kernel
theorem dX12_readsKey_12 : decode cX12_readsKey 12 = .ok (.bipush 12, 2) := by decide +kernel
theorem dX12_readsKey_14 : decode cX12_readsKey 14 = .ok (.invokevirtual 489, 3) := by decide +kernel
theorem dX12_readsKey_17 : decode cX12_readsKey 17 = .ok (.ifCond .ne 5, 3) := by decide +kernel
theorem dX12_readsKey_20 : decode cX12_readsKey 20 = .ok (.iconst 0, 1) := by decide +kernel
theorem dX12_readsKey_21 : decode cX12_readsKey 21 = .ok (.ireturn, 1) := by decide +kernel
theorem dX12_readsKey_22 : decode cX12_readsKey 22 = .ok (.aload_n 0, 1) := by decide +kernel
theorem dX12_readsKey_23 : decode cX12_readsKey 23 = .ok (.aload_n 0, 1) := by decide +kernel
theorem dX12_readsKey_24 : decode cX12_readsKey 24 = .ok (.getfield 66, 3) := by decide +kernel
theorem dX12_readsKey_27 : decode cX12_readsKey 27 = .ok (.putfield 508, 3) := by decide +kernel
theorem dX12_readsKey_30 : decode cX12_readsKey 30 = .ok (.iconst 0, 1) := by decide +kernel
theorem dX12_readsKey_31 : decode cX12_readsKey 31 = .ok (.istore_n 2, 1) := by decide +kernel
theorem dX12_readsKey_32 : decode cX12_readsKey 32 = .ok (.iload_n 2, 1) := by decide +kernel
theorem dX12_readsKey_33 : decode cX12_readsKey 33 = .ok (.aload_n 0, 1) := by decide +kernel
theorem dX12_readsKey_34 : decode cX12_readsKey 34 = .ok (.getfield 508, 3) := by decide +kernel
theorem dX12_readsKey_37 : decode cX12_readsKey 37 = .ok (.if_icmp .ge 21, 3) := by decide +kernel
theorem dX12_readsKey_40 : decode cX12_readsKey 40 = .ok (.aload_n 0, 1) := by decide +kernel
theorem dX12_readsKey_41 : decode cX12_readsKey 41 = .ok (.getfield 256, 3) := by decide +kernel
theorem dX12_readsKey_44 : decode cX12_readsKey 44 = .ok (.iload_n 2, 1) := by decide +kernel
theorem dX12_readsKey_45 : decode cX12_readsKey 45 = .ok (.aload_n 0, 1) := by decide +kernel
theorem dX12_readsKey_46 : decode cX12_readsKey 46 = .ok (.getfield 69, 3) := by decide +kernel
theorem dX12_readsKey_49 : decode cX12_readsKey 49 = .ok (.iload_n 2, 1) := by decide +kernel
theorem dX12_readsKey_50 : decode cX12_readsKey 50 = .ok (.iaload, 1) := by decide +kernel
theorem dX12_readsKey_51 : decode cX12_readsKey 51 = .ok (.iastore, 1) := by decide +kernel
theorem dX12_readsKey_52 : decode cX12_readsKey 52 = .ok (.iinc 2 1, 3) := by decide +kernel
theorem dX12_readsKey_55 : decode cX12_readsKey 55 = .ok (.goto (-23), 3) := by decide +kernel
theorem dX12_readsKey_58 : decode cX12_readsKey 58 = .ok (.aload_n 0, 1) := by decide +kernel
theorem dX12_readsKey_59 : decode cX12_readsKey 59 = .ok (.getfield 253, 3) := by decide +kernel
theorem dX12_readsKey_62 : decode cX12_readsKey 62 = .ok (.aload_n 0, 1) := by decide +kernel
theorem dX12_readsKey_63 : decode cX12_readsKey 63 = .ok (.getfield 511, 3) := by decide +kernel
theorem dX12_readsKey_66 : decode cX12_readsKey 66 = .ok (.iconst 1, 1) := by decide +kernel
