theorem dX0_init_0 : decode cX0_init 0 = .ok (.aload_n 0, 1) := by decide +kernel
theorem dX0_init_1 : decode cX0_init 1 = .ok (.invokespecial 3, 3) := by decide +kernel
theorem dX0_init_4 : decode cX0_init 4 = .ok (.aload_n 0, 1) := by decide +kernel
theorem dX0_init_5 : decode cX0_init 5 = .ok (.iload_n 1, 1) := by decide +kernel
theorem dX0_init_6 : decode cX0_init 6 = .ok (.bipush 6, 2) := by decide +kernel
theorem dX0_init_8 : decode cX0_init 8 = .ok (.imul, 1) := by decide +kernel
theorem dX0_init_9 : decode cX0_init 9 = .ok (.newarray .int, 2) := by decide +kernel
theorem dX0_init_11 : decode cX0_init 11 = .ok (.putfield 9, 3) := by decide +kernel
theorem dX0_init_14 : decode cX0_init 14 = .ok (.aload_n 0, 1) := by decide +kernel
theorem dX0_init_15 : decode cX0_init 15 = .ok (.iload_n 1, 1) := by decide +kernel
theorem dX0_init_16 : decode cX0_init 16 = .ok (.bipush 6, 2) := by decide +kernel
theorem dX0_init_18 : decode cX0_init 18 = .ok (.imul, 1) := by decide +kernel
theorem dX0_init_19 : decode cX0_init 19 = .ok (.newarray .int, 2) := by decide +kernel
theorem dX0_init_21 : decode cX0_init 21 = .ok (.putfield 15, 3) := by decide +kernel
theorem dX0_init_24 : decode cX0_init 24 = .ok (.return_, 1) := by decide +kernel
theorem dX0_upTo_0 : decode cX0_upTo 0 = .ok (.iload_n 0, 1) := by decide +kernel
theorem dX0_upTo_1 : decode cX0_upTo 1 = .ok (.bipush 30, 2) := by decide +kernel
theorem dX0_upTo_3 : decode cX0_upTo 3 = .ok (.if_icmp .lt 8, 3) := by decide +kernel
theorem dX0_upTo_6 : decode cX0_upTo 6 = .ok (.ldc 18, 2) := by decide +kernel
theorem dX0_upTo_8 : decode cX0_upTo 8 = .ok (.goto 8, 3) := by decide +kernel
theorem dX0_upTo_11 : decode cX0_upTo 11 = .ok (.iconst 1, 1) := by decide +kernel
theorem dX0_upTo_12 : decode cX0_upTo 12 = .ok (.iload_n 0, 1) := by decide +kernel
theorem dX0_upTo_13 : decode cX0_upTo 13 = .ok (.ishl, 1) := by decide +kernel
theorem dX0_upTo_14 : decode cX0_upTo 14 = .ok (.iconst 1, 1) := by decide +kernel
theorem dX0_upTo_15 : decode cX0_upTo 15 = .ok (.isub, 1) := by decide +kernel
theorem dX0_upTo_16 : decode cX0_upTo 16 = .ok (.ireturn, 1) := by decide +kernel
theorem dX0_copyAll_0 : decode cX0_copyAll 0 = .ok (.aload_n 1, 1) := by decide +kernel
theorem dX0_copyAll_1 : decode cX0_copyAll 1 = .ok (.getfield 9, 3) := by decide +kernel
theorem dX0_copyAll_4 : decode cX0_copyAll 4 = .ok (.iconst 0, 1) := by decide +kernel
theorem dX0_copyAll_5 : decode cX0_copyAll 5 = .ok (.aload_n 0, 1) := by decide +kernel
theorem dX0_copyAll_6 : decode cX0_copyAll 6 = .ok (.getfield 9, 3) := by decide +kernel
theorem dX0_copyAll_9 : decode cX0_copyAll 9 = .ok (.iconst 0, 1) := by decide +kernel
theorem dX0_copyAll_10 : decode cX0_copyAll 10 = .ok (.aload_n 0, 1) := by decide +kernel
theorem dX0_copyAll_11 : decode cX0_copyAll 11 = .ok (.getfield 9, 3) := by decide +kernel
theorem dX0_copyAll_14 : decode cX0_copyAll 14 = .ok (.arraylength, 1) := by decide +kernel
theorem dX0_copyAll_15 : decode cX0_copyAll 15 = .ok (.invokestatic 19, 3) := by decide +kernel
theorem dX0_copyAll_18 : decode cX0_copyAll 18 = .ok (.aload_n 1, 1) := by decide +kernel
theorem dX0_copyAll_19 : decode cX0_copyAll 19 = .ok (.getfield 15, 3) := by decide +kernel
theorem dX0_copyAll_22 : decode cX0_copyAll 22 = .ok (.iconst 0, 1) := by decide +kernel
theorem dX0_copyAll_23 : decode cX0_copyAll 23 = .ok (.aload_n 0, 1) := by decide +kernel
theorem dX0_copyAll_24 : decode cX0_copyAll 24 = .ok (.getfield 15, 3) := by decide +kernel
theorem dX0_copyAll_27 : decode cX0_copyAll 27 = .ok (.iconst 0, 1) := by decide +kernel
theorem dX0_copyAll_28 : decode cX0_copyAll 28 = .ok (.aload_n 0, 1) := by decide +kernel
theorem dX0_copyAll_29 : decode cX0_copyAll 29 = .ok (.getfield 15, 3) := by decide +kernel
theorem dX0_copyAll_32 : decode cX0_copyAll 32 = .ok (.arraylength, 1) := by decide +kernel
theorem dX0_copyAll_33 : decode cX0_copyAll 33 = .ok (.invokestatic 19, 3) := by decide +kernel
theorem dX0_copyAll_36 : decode cX0_copyAll 36 = .ok (.return_, 1) := by decide +kernel
theorem dX0_emptyAll_0 : decode cX0_emptyAll 0 = .ok (.aload_n 0, 1) := by decide +kernel
theorem dX0_emptyAll_1 : decode cX0_emptyAll 1 = .ok (.getfield 9, 3) := by decide +kernel
theorem dX0_emptyAll_4 : decode cX0_emptyAll 4 = .ok (.iconst 0, 1) := by decide +kernel
theorem dX0_emptyAll_5 : decode cX0_emptyAll 5 = .ok (.invokestatic 25, 3) := by decide +kernel
theorem dX0_emptyAll_8 : decode cX0_emptyAll 8 = .ok (.aload_n 0, 1) := by decide +kernel
theorem dX0_emptyAll_9 : decode cX0_emptyAll 9 = .ok (.getfield 15, 3) := by decide +kernel
theorem dX0_emptyAll_12 : decode cX0_emptyAll 12 = .ok (.iconst 0, 1) := by decide +kernel
theorem dX0_emptyAll_13 : decode cX0_emptyAll 13 = .ok (.invokestatic 25, 3) := by decide +kernel
theorem dX0_emptyAll_16 : decode cX0_emptyAll 16 = .ok (.return_, 1) := by decide +kernel
theorem dX0_empty_0 : decode cX0_empty 0 = .ok (.iload_n 1, 1) := by decide +kernel
theorem dX0_empty_1 : decode cX0_empty 1 = .ok (.bipush 6, 2) := by decide +kernel
theorem dX0_empty_3 : decode cX0_empty 3 = .ok (.imul, 1) := by decide +kernel
theorem dX0_empty_4 : decode cX0_empty 4 = .ok (.istore_n 2, 1) := by decide +kernel
theorem dX0_empty_5 : decode cX0_empty 5 = .ok (.aload_n 0, 1) := by decide +kernel
theorem dX0_empty_6 : decode cX0_empty 6 = .ok (.getfield 9, 3) := by decide +kernel
theorem dX0_empty_9 : decode cX0_empty 9 = .ok (.iload_n 2, 1) := by decide +kernel
theorem dX0_empty_10 : decode cX0_empty 10 = .ok (.iload_n 2, 1) := by decide +kernel
theorem dX0_empty_11 : decode cX0_empty 11 = .ok (.bipush 6, 2) := by decide +kernel
theorem dX0_empty_13 : decode cX0_empty 13 = .ok (.iadd, 1) := by decide +kernel
theorem dX0_empty_14 : decode cX0_empty 14 = .ok (.iconst 0, 1) := by decide +kernel
theorem dX0_empty_15 : decode cX0_empty 15 = .ok (.invokestatic 31, 3) := by decide +kernel
theorem dX0_empty_18 : decode cX0_empty 18 = .ok (.aload_n 0, 1) := by decide +kernel
theorem dX0_empty_19 : decode cX0_empty 19 = .ok (.getfield 15, 3) := by decide +kernel
theorem dX0_empty_22 : decode cX0_empty 22 = .ok (.iload_n 2, 1) := by decide +kernel
theorem dX0_empty_23 : decode cX0_empty 23 = .ok (.iload_n 2, 1) := by decide +kernel
theorem dX0_empty_24 : decode cX0_empty 24 = .ok (.bipush 6, 2) := by decide +kernel
theorem dX0_empty_26 : decode cX0_empty 26 = .ok (.iadd, 1) := by decide +kernel
theorem dX0_empty_27 : decode cX0_empty 27 = .ok (.iconst 0, 1) := by decide +kernel
theorem dX0_empty_28 : decode cX0_empty 28 = .ok (.invokestatic 31, 3) := by decide +kernel
theorem dX0_empty_31 : decode cX0_empty 31 = .ok (.return_, 1) := by decide +kernel
theorem dX0_copyCell_0 : decode cX0_copyCell 0 = .ok (.iload_n 1, 1) := by decide +kernel
theorem dX0_copyCell_1 : decode cX0_copyCell 1 = .ok (.bipush 6, 2) := by decide +kernel
theorem dX0_copyCell_3 : decode cX0_copyCell 3 = .ok (.imul, 1) := by decide +kernel
theorem dX0_copyCell_4 : decode cX0_copyCell 4 = .ok (.istore 4, 2) := by decide +kernel
theorem dX0_copyCell_6 : decode cX0_copyCell 6 = .ok (.iload_n 3, 1) := by decide +kernel
theorem dX0_copyCell_7 : decode cX0_copyCell 7 = .ok (.bipush 6, 2) := by decide +kernel
theorem dX0_copyCell_9 : decode cX0_copyCell 9 = .ok (.imul, 1) := by decide +kernel
theorem dX0_copyCell_10 : decode cX0_copyCell 10 = .ok (.istore 5, 2) := by decide +kernel
theorem dX0_copyCell_12 : decode cX0_copyCell 12 = .ok (.aload_n 2, 1) := by decide +kernel
theorem dX0_copyCell_13 : decode cX0_copyCell 13 = .ok (.getfield 9, 3) := by decide +kernel
theorem dX0_copyCell_16 : decode cX0_copyCell 16 = .ok (.iload 5, 2) := by decide +kernel
theorem dX0_copyCell_18 : decode cX0_copyCell 18 = .ok (.aload_n 0, 1) := by decide +kernel
theorem dX0_copyCell_19 : decode cX0_copyCell 19 = .ok (.getfield 9, 3) := by decide +kernel
theorem dX0_copyCell_22 : decode cX0_copyCell 22 = .ok (.iload 4, 2) := by decide +kernel
theorem dX0_copyCell_24 : decode cX0_copyCell 24 = .ok (.bipush 6, 2) := by decide +kernel
theorem dX0_copyCell_26 : decode cX0_copyCell 26 = .ok (.invokestatic 19, 3) := by decide +kernel
theorem dX0_copyCell_29 : decode cX0_copyCell 29 = .ok (.aload_n 2, 1) := by decide +kernel
theorem dX0_copyCell_30 : decode cX0_copyCell 30 = .ok (.getfield 15, 3) := by decide +kernel
theorem dX0_copyCell_33 : decode cX0_copyCell 33 = .ok (.iload 5, 2) := by decide +kernel
theorem dX0_copyCell_35 : decode cX0_copyCell 35 = .ok (.aload_n 0, 1) := by decide +kernel
theorem dX0_copyCell_36 : decode cX0_copyCell 36 = .ok (.getfield 15, 3) := by decide +kernel
theorem dX0_copyCell_39 : decode cX0_copyCell 39 = .ok (.iload 4, 2) := by decide +kernel
theorem dX0_copyCell_41 : decode cX0_copyCell 41 = .ok (.bipush 6, 2) := by decide +kernel
theorem dX0_copyCell_43 : decode cX0_copyCell 43 = .ok (.invokestatic 19, 3) := by decide +kernel
theorem dX0_copyCell_46 : decode cX0_copyCell 46 = .ok (.return_, 1) := by decide +kernel
theorem dX0_copyCounts_0 : decode cX0_copyCounts 0 = .ok (.aload_n 2, 1) := by decide +kernel
theorem dX0_copyCounts_1 : decode cX0_copyCounts 1 = .ok (.getfield 15, 3) := by decide +kernel
theorem dX0_copyCounts_4 : decode cX0_copyCounts 4 = .ok (.iload_n 3, 1) := by decide +kernel
theorem dX0_copyCounts_5 : decode cX0_copyCounts 5 = .ok (.bipush 6, 2) := by decide +kernel
theorem dX0_copyCounts_7 : decode cX0_copyCounts 7 = .ok (.imul, 1) := by decide +kernel
theorem dX0_copyCounts_8 : decode cX0_copyCounts 8 = .ok (.aload_n 0, 1) := by decide +kernel
theorem dX0_copyCounts_9 : decode cX0_copyCounts 9 = .ok (.getfield 15, 3) := by decide +kernel
theorem dX0_copyCounts_12 : decode cX0_copyCounts 12 = .ok (.iload_n 1, 1) := by decide +kernel
theorem dX0_copyCounts_13 : decode cX0_copyCounts 13 = .ok (.bipush 6, 2) := by decide +kernel
theorem dX0_copyCounts_15 : decode cX0_copyCounts 15 = .ok (.imul, 1) := by decide +kernel
theorem dX0_copyCounts_16 : decode cX0_copyCounts 16 = .ok (.bipush 6, 2) := by decide +kernel
theorem dX0_copyCounts_18 : decode cX0_copyCounts 18 = .ok (.invokestatic 19, 3) := by decide +kernel
theorem dX0_copyCounts_21 : decode cX0_copyCounts 21 = .ok (.return_, 1) := by decide +kernel
theorem dX0_join_0 : decode cX0_join 0 = .ok (.iload_n 1, 1) := by decide +kernel
theorem dX0_join_1 : decode cX0_join 1 = .ok (.bipush 6, 2) := by decide +kernel
theorem dX0_join_3 : decode cX0_join 3 = .ok (.imul, 1) := by decide +kernel
theorem dX0_join_4 : decode cX0_join 4 = .ok (.istore 4, 2) := by decide +kernel
theorem dX0_join_6 : decode cX0_join 6 = .ok (.iload_n 3, 1) := by decide +kernel
theorem dX0_join_7 : decode cX0_join 7 = .ok (.bipush 6, 2) := by decide +kernel
theorem dX0_join_9 : decode cX0_join 9 = .ok (.imul, 1) := by decide +kernel
theorem dX0_join_10 : decode cX0_join 10 = .ok (.istore 5, 2) := by decide +kernel
theorem dX0_join_12 : decode cX0_join 12 = .ok (.iconst 0, 1) := by decide +kernel
theorem dX0_join_13 : decode cX0_join 13 = .ok (.istore 6, 2) := by decide +kernel
theorem dX0_join_15 : decode cX0_join 15 = .ok (.iload 6, 2) := by decide +kernel
theorem dX0_join_17 : decode cX0_join 17 = .ok (.bipush 6, 2) := by decide +kernel
theorem dX0_join_19 : decode cX0_join 19 = .ok (.if_icmp .ge 120, 3) := by decide +kernel
theorem dX0_join_22 : decode cX0_join 22 = .ok (.aload_n 0, 1) := by decide +kernel
theorem dX0_join_23 : decode cX0_join 23 = .ok (.getfield 9, 3) := by decide +kernel
theorem dX0_join_26 : decode cX0_join 26 = .ok (.iload 4, 2) := by decide +kernel
theorem dX0_join_28 : decode cX0_join 28 = .ok (.iload 6, 2) := by decide +kernel
theorem dX0_join_30 : decode cX0_join 30 = .ok (.iadd, 1) := by decide +kernel
theorem dX0_join_31 : decode cX0_join 31 = .ok (.iaload, 1) := by decide +kernel
theorem dX0_join_32 : decode cX0_join 32 = .ok (.istore 7, 2) := by decide +kernel
theorem dX0_join_34 : decode cX0_join 34 = .ok (.aload_n 2, 1) := by decide +kernel
theorem dX0_join_35 : decode cX0_join 35 = .ok (.getfield 9, 3) := by decide +kernel
theorem dX0_join_38 : decode cX0_join 38 = .ok (.iload 5, 2) := by decide +kernel
theorem dX0_join_40 : decode cX0_join 40 = .ok (.iload 6, 2) := by decide +kernel
theorem dX0_join_42 : decode cX0_join 42 = .ok (.iadd, 1) := by decide +kernel
theorem dX0_join_43 : decode cX0_join 43 = .ok (.iaload, 1) := by decide +kernel
theorem dX0_join_44 : decode cX0_join 44 = .ok (.istore 8, 2) := by decide +kernel
theorem dX0_join_46 : decode cX0_join 46 = .ok (.aload_n 0, 1) := by decide +kernel
theorem dX0_join_47 : decode cX0_join 47 = .ok (.getfield 15, 3) := by decide +kernel
theorem dX0_join_50 : decode cX0_join 50 = .ok (.iload 4, 2) := by decide +kernel
theorem dX0_join_52 : decode cX0_join 52 = .ok (.iload 6, 2) := by decide +kernel
theorem dX0_join_54 : decode cX0_join 54 = .ok (.iadd, 1) := by decide +kernel
theorem dX0_join_55 : decode cX0_join 55 = .ok (.iaload, 1) := by decide +kernel
theorem dX0_join_56 : decode cX0_join 56 = .ok (.istore 9, 2) := by decide +kernel
theorem dX0_join_58 : decode cX0_join 58 = .ok (.aload_n 2, 1) := by decide +kernel
theorem dX0_join_59 : decode cX0_join 59 = .ok (.getfield 15, 3) := by decide +kernel
theorem dX0_join_62 : decode cX0_join 62 = .ok (.iload 5, 2) := by decide +kernel
theorem dX0_join_64 : decode cX0_join 64 = .ok (.iload 6, 2) := by decide +kernel
theorem dX0_join_66 : decode cX0_join 66 = .ok (.iadd, 1) := by decide +kernel
theorem dX0_join_67 : decode cX0_join 67 = .ok (.iaload, 1) := by decide +kernel
theorem dX0_join_68 : decode cX0_join 68 = .ok (.istore 10, 2) := by decide +kernel
theorem dX0_join_70 : decode cX0_join 70 = .ok (.iload 7, 2) := by decide +kernel
theorem dX0_join_72 : decode cX0_join 72 = .ok (.iload 8, 2) := by decide +kernel
theorem dX0_join_74 : decode cX0_join 74 = .ok (.if_icmp .eq 40, 3) := by decide +kernel
theorem dX0_join_77 : decode cX0_join 77 = .ok (.aload_n 0, 1) := by decide +kernel
theorem dX0_join_78 : decode cX0_join 78 = .ok (.getfield 9, 3) := by decide +kernel
theorem dX0_join_81 : decode cX0_join 81 = .ok (.iload 4, 2) := by decide +kernel
theorem dX0_join_83 : decode cX0_join 83 = .ok (.iload 6, 2) := by decide +kernel
theorem dX0_join_85 : decode cX0_join 85 = .ok (.iadd, 1) := by decide +kernel
theorem dX0_join_86 : decode cX0_join 86 = .ok (.iload 7, 2) := by decide +kernel
theorem dX0_join_88 : decode cX0_join 88 = .ok (.iload 8, 2) := by decide +kernel
theorem dX0_join_90 : decode cX0_join 90 = .ok (.iand, 1) := by decide +kernel
theorem dX0_join_91 : decode cX0_join 91 = .ok (.iload 7, 2) := by decide +kernel
theorem dX0_join_93 : decode cX0_join 93 = .ok (.iload 10, 2) := by decide +kernel
theorem dX0_join_95 : decode cX0_join 95 = .ok (.invokestatic 34, 3) := by decide +kernel
theorem dX0_join_98 : decode cX0_join 98 = .ok (.iconst (-1), 1) := by decide +kernel
theorem dX0_join_99 : decode cX0_join 99 = .ok (.ixor, 1) := by decide +kernel
theorem dX0_join_100 : decode cX0_join 100 = .ok (.iand, 1) := by decide +kernel
theorem dX0_join_101 : decode cX0_join 101 = .ok (.ior, 1) := by decide +kernel
theorem dX0_join_102 : decode cX0_join 102 = .ok (.iload 8, 2) := by decide +kernel
theorem dX0_join_104 : decode cX0_join 104 = .ok (.iload 9, 2) := by decide +kernel
theorem dX0_join_106 : decode cX0_join 106 = .ok (.invokestatic 34, 3) := by decide +kernel
theorem dX0_join_109 : decode cX0_join 109 = .ok (.iconst (-1), 1) := by decide +kernel
theorem dX0_join_110 : decode cX0_join 110 = .ok (.ixor, 1) := by decide +kernel
theorem dX0_join_111 : decode cX0_join 111 = .ok (.iand, 1) := by decide +kernel
theorem dX0_join_112 : decode cX0_join 112 = .ok (.ior, 1) := by decide +kernel
theorem dX0_join_113 : decode cX0_join 113 = .ok (.iastore, 1) := by decide +kernel
theorem dX0_join_114 : decode cX0_join 114 = .ok (.iload 10, 2) := by decide +kernel
theorem dX0_join_116 : decode cX0_join 116 = .ok (.iload 9, 2) := by decide +kernel
theorem dX0_join_118 : decode cX0_join 118 = .ok (.if_icmp .le 15, 3) := by decide +kernel
theorem dX0_join_121 : decode cX0_join 121 = .ok (.aload_n 0, 1) := by decide +kernel
theorem dX0_join_122 : decode cX0_join 122 = .ok (.getfield 15, 3) := by decide +kernel
theorem dX0_join_125 : decode cX0_join 125 = .ok (.iload 4, 2) := by decide +kernel
theorem dX0_join_127 : decode cX0_join 127 = .ok (.iload 6, 2) := by decide +kernel
theorem dX0_join_129 : decode cX0_join 129 = .ok (.iadd, 1) := by decide +kernel
theorem dX0_join_130 : decode cX0_join 130 = .ok (.iload 10, 2) := by decide +kernel
theorem dX0_join_132 : decode cX0_join 132 = .ok (.iastore, 1) := by decide +kernel
theorem dX0_join_133 : decode cX0_join 133 = .ok (.iinc 6 1, 3) := by decide +kernel
theorem dX0_join_136 : decode cX0_join 136 = .ok (.goto (-121), 3) := by decide +kernel
theorem dX0_join_139 : decode cX0_join 139 = .ok (.return_, 1) := by decide +kernel
theorem dX0_isSame_0 : decode cX0_isSame 0 = .ok (.iload_n 1, 1) := by decide +kernel
theorem dX0_isSame_1 : decode cX0_isSame 1 = .ok (.bipush 6, 2) := by decide +kernel
theorem dX0_isSame_3 : decode cX0_isSame 3 = .ok (.imul, 1) := by decide +kernel
theorem dX0_isSame_4 : decode cX0_isSame 4 = .ok (.istore 4, 2) := by decide +kernel
theorem dX0_isSame_6 : decode cX0_isSame 6 = .ok (.iload_n 3, 1) := by decide +kernel
theorem dX0_isSame_7 : decode cX0_isSame 7 = .ok (.bipush 6, 2) := by decide +kernel
theorem dX0_isSame_9 : decode cX0_isSame 9 = .ok (.imul, 1) := by decide +kernel
theorem dX0_isSame_10 : decode cX0_isSame 10 = .ok (.istore 5, 2) := by decide +kernel
theorem dX0_isSame_12 : decode cX0_isSame 12 = .ok (.iconst 0, 1) := by decide +kernel
theorem dX0_isSame_13 : decode cX0_isSame 13 = .ok (.istore 6, 2) := by decide +kernel
theorem dX0_isSame_15 : decode cX0_isSame 15 = .ok (.iload 6, 2) := by decide +kernel
theorem dX0_isSame_17 : decode cX0_isSame 17 = .ok (.bipush 6, 2) := by decide +kernel
theorem dX0_isSame_19 : decode cX0_isSame 19 = .ok (.if_icmp .ge 57, 3) := by decide +kernel
theorem dX0_isSame_22 : decode cX0_isSame 22 = .ok (.aload_n 0, 1) := by decide +kernel
theorem dX0_isSame_23 : decode cX0_isSame 23 = .ok (.getfield 9, 3) := by decide +kernel
theorem dX0_isSame_26 : decode cX0_isSame 26 = .ok (.iload 4, 2) := by decide +kernel
theorem dX0_isSame_28 : decode cX0_isSame 28 = .ok (.iload 6, 2) := by decide +kernel
theorem dX0_isSame_30 : decode cX0_isSame 30 = .ok (.iadd, 1) := by decide +kernel
theorem dX0_isSame_31 : decode cX0_isSame 31 = .ok (.iaload, 1) := by decide +kernel
theorem dX0_isSame_32 : decode cX0_isSame 32 = .ok (.aload_n 2, 1) := by decide +kernel
theorem dX0_isSame_33 : decode cX0_isSame 33 = .ok (.getfield 9, 3) := by decide +kernel
theorem dX0_isSame_36 : decode cX0_isSame 36 = .ok (.iload 5, 2) := by decide +kernel
theorem dX0_isSame_38 : decode cX0_isSame 38 = .ok (.iload 6, 2) := by decide +kernel
theorem dX0_isSame_40 : decode cX0_isSame 40 = .ok (.iadd, 1) := by decide +kernel
theorem dX0_isSame_41 : decode cX0_isSame 41 = .ok (.iaload, 1) := by decide +kernel
theorem dX0_isSame_42 : decode cX0_isSame 42 = .ok (.if_icmp .ne 26, 3) := by decide +kernel
theorem dX0_isSame_45 : decode cX0_isSame 45 = .ok (.aload_n 0, 1) := by decide +kernel
theorem dX0_isSame_46 : decode cX0_isSame 46 = .ok (.getfield 15, 3) := by decide +kernel
theorem dX0_isSame_49 : decode cX0_isSame 49 = .ok (.iload 4, 2) := by decide +kernel
theorem dX0_isSame_51 : decode cX0_isSame 51 = .ok (.iload 6, 2) := by decide +kernel
theorem dX0_isSame_53 : decode cX0_isSame 53 = .ok (.iadd, 1) := by decide +kernel
theorem dX0_isSame_54 : decode cX0_isSame 54 = .ok (.iaload, 1) := by decide +kernel
theorem dX0_isSame_55 : decode cX0_isSame 55 = .ok (.aload_n 2, 1) := by decide +kernel
theorem dX0_isSame_56 : decode cX0_isSame 56 = .ok (.getfield 15, 3) := by decide +kernel
theorem dX0_isSame_59 : decode cX0_isSame 59 = .ok (.iload 5, 2) := by decide +kernel
theorem dX0_isSame_61 : decode cX0_isSame 61 = .ok (.iload 6, 2) := by decide +kernel
theorem dX0_isSame_63 : decode cX0_isSame 63 = .ok (.iadd, 1) := by decide +kernel
theorem dX0_isSame_64 : decode cX0_isSame 64 = .ok (.iaload, 1) := by decide +kernel
theorem dX0_isSame_65 : decode cX0_isSame 65 = .ok (.if_icmp .eq 5, 3) := by decide +kernel
theorem dX0_isSame_68 : decode cX0_isSame 68 = .ok (.iconst 0, 1) := by decide +kernel
theorem dX0_isSame_69 : decode cX0_isSame 69 = .ok (.ireturn, 1) := by decide +kernel
theorem dX0_isSame_70 : decode cX0_isSame 70 = .ok (.iinc 6 1, 3) := by decide +kernel
theorem dX0_isSame_73 : decode cX0_isSame 73 = .ok (.goto (-58), 3) := by decide +kernel
theorem dX0_isSame_76 : decode cX0_isSame 76 = .ok (.iconst 1, 1) := by decide +kernel
theorem dX0_isSame_77 : decode cX0_isSame 77 = .ok (.ireturn, 1) := by decide +kernel
theorem dX0_give_0 : decode cX0_give 0 = .ok (.iload_n 1, 1) := by decide +kernel
theorem dX0_give_1 : decode cX0_give 1 = .ok (.bipush 6, 2) := by decide +kernel
theorem dX0_give_3 : decode cX0_give 3 = .ok (.imul, 1) := by decide +kernel
theorem dX0_give_4 : decode cX0_give 4 = .ok (.iload_n 2, 1) := by decide +kernel
theorem dX0_give_5 : decode cX0_give 5 = .ok (.iadd, 1) := by decide +kernel
theorem dX0_give_6 : decode cX0_give 6 = .ok (.istore 4, 2) := by decide +kernel
theorem dX0_give_8 : decode cX0_give 8 = .ok (.aload_n 0, 1) := by decide +kernel
theorem dX0_give_9 : decode cX0_give 9 = .ok (.getfield 9, 3) := by decide +kernel
theorem dX0_give_12 : decode cX0_give 12 = .ok (.iload 4, 2) := by decide +kernel
theorem dX0_give_14 : decode cX0_give 14 = .ok (.dup2, 1) := by decide +kernel
theorem dX0_give_15 : decode cX0_give 15 = .ok (.iaload, 1) := by decide +kernel
theorem dX0_give_16 : decode cX0_give 16 = .ok (.iconst 1, 1) := by decide +kernel
theorem dX0_give_17 : decode cX0_give 17 = .ok (.iload_n 3, 1) := by decide +kernel
theorem dX0_give_18 : decode cX0_give 18 = .ok (.iconst 1, 1) := by decide +kernel
theorem dX0_give_19 : decode cX0_give 19 = .ok (.isub, 1) := by decide +kernel
theorem dX0_give_20 : decode cX0_give 20 = .ok (.ishl, 1) := by decide +kernel
theorem dX0_give_21 : decode cX0_give 21 = .ok (.ior, 1) := by decide +kernel
theorem dX0_give_22 : decode cX0_give 22 = .ok (.iastore, 1) := by decide +kernel
theorem dX0_give_23 : decode cX0_give 23 = .ok (.aload_n 0, 1) := by decide +kernel
theorem dX0_give_24 : decode cX0_give 24 = .ok (.getfield 15, 3) := by decide +kernel
theorem dX0_give_27 : decode cX0_give 27 = .ok (.iload 4, 2) := by decide +kernel
theorem dX0_give_29 : decode cX0_give 29 = .ok (.iload_n 3, 1) := by decide +kernel
theorem dX0_give_30 : decode cX0_give 30 = .ok (.iastore, 1) := by decide +kernel
theorem dX0_give_31 : decode cX0_give 31 = .ok (.return_, 1) := by decide +kernel
theorem dX0_bitsOf_0 : decode cX0_bitsOf 0 = .ok (.aload_n 0, 1) := by decide +kernel
theorem dX0_bitsOf_1 : decode cX0_bitsOf 1 = .ok (.getfield 9, 3) := by decide +kernel
theorem dX0_bitsOf_4 : decode cX0_bitsOf 4 = .ok (.iload_n 1, 1) := by decide +kernel
theorem dX0_bitsOf_5 : decode cX0_bitsOf 5 = .ok (.bipush 6, 2) := by decide +kernel
theorem dX0_bitsOf_7 : decode cX0_bitsOf 7 = .ok (.imul, 1) := by decide +kernel
theorem dX0_bitsOf_8 : decode cX0_bitsOf 8 = .ok (.iload_n 2, 1) := by decide +kernel
theorem dX0_bitsOf_9 : decode cX0_bitsOf 9 = .ok (.iadd, 1) := by decide +kernel
theorem dX0_bitsOf_10 : decode cX0_bitsOf 10 = .ok (.iaload, 1) := by decide +kernel
theorem dX0_bitsOf_11 : decode cX0_bitsOf 11 = .ok (.ireturn, 1) := by decide +kernel
theorem dX0_seenOf_0 : decode cX0_seenOf 0 = .ok (.aload_n 0, 1) := by decide +kernel
theorem dX0_seenOf_1 : decode cX0_seenOf 1 = .ok (.getfield 15, 3) := by decide +kernel
theorem dX0_seenOf_4 : decode cX0_seenOf 4 = .ok (.iload_n 1, 1) := by decide +kernel
theorem dX0_seenOf_5 : decode cX0_seenOf 5 = .ok (.bipush 6, 2) := by decide +kernel
theorem dX0_seenOf_7 : decode cX0_seenOf 7 = .ok (.imul, 1) := by decide +kernel
theorem dX0_seenOf_8 : decode cX0_seenOf 8 = .ok (.iload_n 2, 1) := by decide +kernel
theorem dX0_seenOf_9 : decode cX0_seenOf 9 = .ok (.iadd, 1) := by decide +kernel
theorem dX0_seenOf_10 : decode cX0_seenOf 10 = .ok (.iaload, 1) := by decide +kernel
theorem dX0_seenOf_11 : decode cX0_seenOf 11 = .ok (.ireturn, 1) := by decide +kernel
theorem dX0_twinCount_0 : decode cX0_twinCount 0 = .ok (.iconst 0, 1) := by decide +kernel
theorem dX0_twinCount_1 : decode cX0_twinCount 1 = .ok (.istore_n 2, 1) := by decide +kernel
theorem dX0_twinCount_2 : decode cX0_twinCount 2 = .ok (.iconst 0, 1) := by decide +kernel
theorem dX0_twinCount_3 : decode cX0_twinCount 3 = .ok (.istore_n 3, 1) := by decide +kernel
theorem dX0_twinCount_4 : decode cX0_twinCount 4 = .ok (.iload_n 3, 1) := by decide +kernel
theorem dX0_twinCount_5 : decode cX0_twinCount 5 = .ok (.bipush 6, 2) := by decide +kernel
theorem dX0_twinCount_7 : decode cX0_twinCount 7 = .ok (.if_icmp .ge 21, 3) := by decide +kernel
theorem dX0_twinCount_10 : decode cX0_twinCount 10 = .ok (.iload_n 2, 1) := by decide +kernel
theorem dX0_twinCount_11 : decode cX0_twinCount 11 = .ok (.aload_n 0, 1) := by decide +kernel
theorem dX0_twinCount_12 : decode cX0_twinCount 12 = .ok (.iload_n 1, 1) := by decide +kernel
theorem dX0_twinCount_13 : decode cX0_twinCount 13 = .ok (.iload_n 3, 1) := by decide +kernel
theorem dX0_twinCount_14 : decode cX0_twinCount 14 = .ok (.invokevirtual 38, 3) := by decide +kernel
theorem dX0_twinCount_17 : decode cX0_twinCount 17 = .ok (.invokestatic 42, 3) := by decide +kernel
theorem dX0_twinCount_20 : decode cX0_twinCount 20 = .ok (.iadd, 1) := by decide +kernel
theorem dX0_twinCount_21 : decode cX0_twinCount 21 = .ok (.istore_n 2, 1) := by decide +kernel
theorem dX0_twinCount_22 : decode cX0_twinCount 22 = .ok (.iinc 3 1, 3) := by decide +kernel
theorem dX0_twinCount_25 : decode cX0_twinCount 25 = .ok (.goto (-21), 3) := by decide +kernel
theorem dX0_twinCount_28 : decode cX0_twinCount 28 = .ok (.iload_n 2, 1) := by decide +kernel
theorem dX0_twinCount_29 : decode cX0_twinCount 29 = .ok (.ireturn, 1) := by decide +kernel
theorem dX0_dotAt_0 : decode cX0_dotAt 0 = .ok (.iload_n 2, 1) := by decide +kernel
theorem dX0_dotAt_1 : decode cX0_dotAt 1 = .ok (.istore_n 3, 1) := by decide +kernel
theorem dX0_dotAt_2 : decode cX0_dotAt 2 = .ok (.iconst 0, 1) := by decide +kernel
theorem dX0_dotAt_3 : decode cX0_dotAt 3 = .ok (.istore 4, 2) := by decide +kernel
theorem dX0_dotAt_5 : decode cX0_dotAt 5 = .ok (.iload 4, 2) := by decide +kernel
theorem dX0_dotAt_7 : decode cX0_dotAt 7 = .ok (.sipush 180, 3) := by decide +kernel
theorem dX0_dotAt_10 : decode cX0_dotAt 10 = .ok (.if_icmp .ge 44, 3) := by decide +kernel
theorem dX0_dotAt_13 : decode cX0_dotAt 13 = .ok (.iload_n 3, 1) := by decide +kernel
theorem dX0_dotAt_14 : decode cX0_dotAt 14 = .ok (.ifCond .lt 40, 3) := by decide +kernel
theorem dX0_dotAt_17 : decode cX0_dotAt 17 = .ok (.aload_n 0, 1) := by decide +kernel
theorem dX0_dotAt_18 : decode cX0_dotAt 18 = .ok (.iload_n 1, 1) := by decide +kernel
theorem dX0_dotAt_19 : decode cX0_dotAt 19 = .ok (.iload 4, 2) := by decide +kernel
theorem dX0_dotAt_21 : decode cX0_dotAt 21 = .ok (.bipush 30, 2) := by decide +kernel
theorem dX0_dotAt_23 : decode cX0_dotAt 23 = .ok (.idiv, 1) := by decide +kernel
theorem dX0_dotAt_24 : decode cX0_dotAt 24 = .ok (.invokevirtual 38, 3) := by decide +kernel
theorem dX0_dotAt_27 : decode cX0_dotAt 27 = .ok (.iload 4, 2) := by decide +kernel
theorem dX0_dotAt_29 : decode cX0_dotAt 29 = .ok (.bipush 30, 2) := by decide +kernel
theorem dX0_dotAt_31 : decode cX0_dotAt 31 = .ok (.irem, 1) := by decide +kernel
theorem dX0_dotAt_32 : decode cX0_dotAt 32 = .ok (.ishr, 1) := by decide +kernel
theorem dX0_dotAt_33 : decode cX0_dotAt 33 = .ok (.iconst 1, 1) := by decide +kernel
theorem dX0_dotAt_34 : decode cX0_dotAt 34 = .ok (.iand, 1) := by decide +kernel
theorem dX0_dotAt_35 : decode cX0_dotAt 35 = .ok (.ifCond .eq 13, 3) := by decide +kernel
theorem dX0_dotAt_38 : decode cX0_dotAt 38 = .ok (.iload_n 3, 1) := by decide +kernel
theorem dX0_dotAt_39 : decode cX0_dotAt 39 = .ok (.ifCond .ne 6, 3) := by decide +kernel
theorem dX0_dotAt_42 : decode cX0_dotAt 42 = .ok (.iload 4, 2) := by decide +kernel
theorem dX0_dotAt_44 : decode cX0_dotAt 44 = .ok (.ireturn, 1) := by decide +kernel
theorem dX0_dotAt_45 : decode cX0_dotAt 45 = .ok (.iinc 3 (-1), 3) := by decide +kernel
theorem dX0_dotAt_48 : decode cX0_dotAt 48 = .ok (.iinc 4 1, 3) := by decide +kernel
theorem dX0_dotAt_51 : decode cX0_dotAt 51 = .ok (.goto (-46), 3) := by decide +kernel
theorem dX0_dotAt_54 : decode cX0_dotAt 54 = .ok (.iconst (-1), 1) := by decide +kernel
theorem dX0_dotAt_55 : decode cX0_dotAt 55 = .ok (.ireturn, 1) := by decide +kernel
theorem dX0_sumOf_0 : decode cX0_sumOf 0 = .ok (.iconst 0, 1) := by decide +kernel
theorem dX0_sumOf_1 : decode cX0_sumOf 1 = .ok (.istore_n 2, 1) := by decide +kernel
theorem dX0_sumOf_2 : decode cX0_sumOf 2 = .ok (.iconst 0, 1) := by decide +kernel
theorem dX0_sumOf_3 : decode cX0_sumOf 3 = .ok (.istore_n 3, 1) := by decide +kernel
theorem dX0_sumOf_4 : decode cX0_sumOf 4 = .ok (.iload_n 3, 1) := by decide +kernel
theorem dX0_sumOf_5 : decode cX0_sumOf 5 = .ok (.bipush 6, 2) := by decide +kernel
theorem dX0_sumOf_7 : decode cX0_sumOf 7 = .ok (.if_icmp .ge 18, 3) := by decide +kernel
theorem dX0_sumOf_10 : decode cX0_sumOf 10 = .ok (.iload_n 2, 1) := by decide +kernel
theorem dX0_sumOf_11 : decode cX0_sumOf 11 = .ok (.aload_n 0, 1) := by decide +kernel
theorem dX0_sumOf_12 : decode cX0_sumOf 12 = .ok (.iload_n 1, 1) := by decide +kernel
theorem dX0_sumOf_13 : decode cX0_sumOf 13 = .ok (.iload_n 3, 1) := by decide +kernel
theorem dX0_sumOf_14 : decode cX0_sumOf 14 = .ok (.invokevirtual 47, 3) := by decide +kernel
theorem dX0_sumOf_17 : decode cX0_sumOf 17 = .ok (.iadd, 1) := by decide +kernel
theorem dX0_sumOf_18 : decode cX0_sumOf 18 = .ok (.istore_n 2, 1) := by decide +kernel
theorem dX0_sumOf_19 : decode cX0_sumOf 19 = .ok (.iinc 3 1, 3) := by decide +kernel
theorem dX0_sumOf_22 : decode cX0_sumOf 22 = .ok (.goto (-18), 3) := by decide +kernel
theorem dX0_sumOf_25 : decode cX0_sumOf 25 = .ok (.iload_n 2, 1) := by decide +kernel
theorem dX0_sumOf_26 : decode cX0_sumOf 26 = .ok (.ireturn, 1) := by decide +kernel
theorem dX1_init_0 : decode cX1_init 0 = .ok (.aload_n 0, 1) := by decide +kernel
theorem dX1_init_1 : decode cX1_init 1 = .ok (.invokespecial 3, 3) := by decide +kernel
theorem dX1_init_4 : decode cX1_init 4 = .ok (.aload_n 0, 1) := by decide +kernel
theorem dX1_init_5 : decode cX1_init 5 = .ok (.new 9, 3) := by decide +kernel
theorem dX1_init_8 : decode cX1_init 8 = .ok (.dup, 1) := by decide +kernel
theorem dX1_init_9 : decode cX1_init 9 = .ok (.iconst 1, 1) := by decide +kernel
theorem dX1_init_10 : decode cX1_init 10 = .ok (.invokespecial 11, 3) := by decide +kernel
theorem dX1_init_13 : decode cX1_init 13 = .ok (.putfield 14, 3) := by decide +kernel
theorem dX1_init_16 : decode cX1_init 16 = .ok (.aload_n 0, 1) := by decide +kernel
theorem dX1_init_17 : decode cX1_init 17 = .ok (.sipush 3600, 3) := by decide +kernel
theorem dX1_init_20 : decode cX1_init 20 = .ok (.newarray .int, 2) := by decide +kernel
theorem dX1_init_22 : decode cX1_init 22 = .ok (.putfield 20, 3) := by decide +kernel
theorem dX1_init_25 : decode cX1_init 25 = .ok (.aload_n 0, 1) := by decide +kernel
theorem dX1_init_26 : decode cX1_init 26 = .ok (.bipush 20, 2) := by decide +kernel
theorem dX1_init_28 : decode cX1_init 28 = .ok (.newarray .int, 2) := by decide +kernel
theorem dX1_init_30 : decode cX1_init 30 = .ok (.putfield 24, 3) := by decide +kernel
theorem dX1_init_33 : decode cX1_init 33 = .ok (.aload_n 0, 1) := by decide +kernel
theorem dX1_init_34 : decode cX1_init 34 = .ok (.iconst 0, 1) := by decide +kernel
theorem dX1_init_35 : decode cX1_init 35 = .ok (.putfield 27, 3) := by decide +kernel
theorem dX1_init_38 : decode cX1_init 38 = .ok (.return_, 1) := by decide +kernel
theorem dX1_fill_0 : decode cX1_fill 0 = .ok (.aload_n 0, 1) := by decide +kernel
theorem dX1_fill_1 : decode cX1_fill 1 = .ok (.iconst 0, 1) := by decide +kernel
theorem dX1_fill_2 : decode cX1_fill 2 = .ok (.putfield 27, 3) := by decide +kernel
theorem dX1_fill_5 : decode cX1_fill 5 = .ok (.aload_n 1, 1) := by decide +kernel
theorem dX1_fill_6 : decode cX1_fill 6 = .ok (.iload_n 2, 1) := by decide +kernel
theorem dX1_fill_7 : decode cX1_fill 7 = .ok (.iload_n 3, 1) := by decide +kernel
theorem dX1_fill_8 : decode cX1_fill 8 = .ok (.invokevirtual 31, 3) := by decide +kernel
theorem dX1_fill_11 : decode cX1_fill 11 = .ok (.istore 4, 2) := by decide +kernel
theorem dX1_fill_13 : decode cX1_fill 13 = .ok (.iconst 1, 1) := by decide +kernel
theorem dX1_fill_14 : decode cX1_fill 14 = .ok (.istore 5, 2) := by decide +kernel
theorem dX1_fill_16 : decode cX1_fill 16 = .ok (.iload 5, 2) := by decide +kernel
theorem dX1_fill_18 : decode cX1_fill 18 = .ok (.iload 4, 2) := by decide +kernel
theorem dX1_fill_20 : decode cX1_fill 20 = .ok (.if_icmp .gt 61, 3) := by decide +kernel
theorem dX1_fill_23 : decode cX1_fill 23 = .ok (.aload_n 0, 1) := by decide +kernel
theorem dX1_fill_24 : decode cX1_fill 24 = .ok (.getfield 27, 3) := by decide +kernel
theorem dX1_fill_27 : decode cX1_fill 27 = .ok (.bipush 20, 2) := by decide +kernel
theorem dX1_fill_29 : decode cX1_fill 29 = .ok (.if_icmp .ge 52, 3) := by decide +kernel
theorem dX1_fill_32 : decode cX1_fill 32 = .ok (.iload 5, 2) := by decide +kernel
theorem dX1_fill_34 : decode cX1_fill 34 = .ok (.iload 4, 2) := by decide +kernel
theorem dX1_fill_36 : decode cX1_fill 36 = .ok (.iconst (-1), 1) := by decide +kernel
theorem dX1_fill_37 : decode cX1_fill 37 = .ok (.ixor, 1) := by decide +kernel
theorem dX1_fill_38 : decode cX1_fill 38 = .ok (.iand, 1) := by decide +kernel
theorem dX1_fill_39 : decode cX1_fill 39 = .ok (.ifCond .ne 36, 3) := by decide +kernel
theorem dX1_fill_42 : decode cX1_fill 42 = .ok (.iload 5, 2) := by decide +kernel
theorem dX1_fill_44 : decode cX1_fill 44 = .ok (.invokestatic 37, 3) := by decide +kernel
theorem dX1_fill_47 : decode cX1_fill 47 = .ok (.aload_n 1, 1) := by decide +kernel
theorem dX1_fill_48 : decode cX1_fill 48 = .ok (.getfield 43, 3) := by decide +kernel
theorem dX1_fill_51 : decode cX1_fill 51 = .ok (.getfield 47, 3) := by decide +kernel
theorem dX1_fill_54 : decode cX1_fill 54 = .ok (.if_icmp .ne 21, 3) := by decide +kernel
theorem dX1_fill_57 : decode cX1_fill 57 = .ok (.aload_n 1, 1) := by decide +kernel
theorem dX1_fill_58 : decode cX1_fill 58 = .ok (.iload 5, 2) := by decide +kernel
theorem dX1_fill_60 : decode cX1_fill 60 = .ok (.iload_n 2, 1) := by decide +kernel
theorem dX1_fill_61 : decode cX1_fill 61 = .ok (.aload_n 0, 1) := by decide +kernel
theorem dX1_fill_62 : decode cX1_fill 62 = .ok (.getfield 14, 3) := by decide +kernel
theorem dX1_fill_65 : decode cX1_fill 65 = .ok (.iconst 0, 1) := by decide +kernel
theorem dX1_fill_66 : decode cX1_fill 66 = .ok (.invokevirtual 52, 3) := by decide +kernel
theorem dX1_fill_69 : decode cX1_fill 69 = .ok (.aload_n 0, 1) := by decide +kernel
theorem dX1_fill_70 : decode cX1_fill 70 = .ok (.aload_n 1, 1) := by decide +kernel
theorem dX1_fill_71 : decode cX1_fill 71 = .ok (.iload_n 2, 1) := by decide +kernel
theorem dX1_fill_72 : decode cX1_fill 72 = .ok (.invokevirtual 56, 3) := by decide +kernel
theorem dX1_fill_75 : decode cX1_fill 75 = .ok (.iinc 5 1, 3) := by decide +kernel
theorem dX1_fill_78 : decode cX1_fill 78 = .ok (.goto (-62), 3) := by decide +kernel
theorem dX1_fill_81 : decode cX1_fill 81 = .ok (.aload_n 0, 1) := by decide +kernel
theorem dX1_fill_82 : decode cX1_fill 82 = .ok (.getfield 27, 3) := by decide +kernel
theorem dX1_fill_85 : decode cX1_fill 85 = .ok (.ifCond .le 7, 3) := by decide +kernel
theorem dX1_fill_88 : decode cX1_fill 88 = .ok (.iconst 1, 1) := by decide +kernel
theorem dX1_fill_89 : decode cX1_fill 89 = .ok (.goto 4, 3) := by decide +kernel
theorem dX1_fill_92 : decode cX1_fill 92 = .ok (.iconst 0, 1) := by decide +kernel
theorem dX1_fill_93 : decode cX1_fill 93 = .ok (.ireturn, 1) := by decide +kernel
theorem dX1_keepRow_0 : decode cX1_keepRow 0 = .ok (.aload_n 0, 1) := by decide +kernel
theorem dX1_keepRow_1 : decode cX1_keepRow 1 = .ok (.getfield 27, 3) := by decide +kernel
theorem dX1_keepRow_4 : decode cX1_keepRow 4 = .ok (.sipush 180, 3) := by decide +kernel
theorem dX1_keepRow_7 : decode cX1_keepRow 7 = .ok (.imul, 1) := by decide +kernel
theorem dX1_keepRow_8 : decode cX1_keepRow 8 = .ok (.istore_n 3, 1) := by decide +kernel
theorem dX1_keepRow_9 : decode cX1_keepRow 9 = .ok (.aload_n 1, 1) := by decide +kernel
theorem dX1_keepRow_10 : decode cX1_keepRow 10 = .ok (.getfield 43, 3) := by decide +kernel
theorem dX1_keepRow_13 : decode cX1_keepRow 13 = .ok (.iload_n 2, 1) := by decide +kernel
theorem dX1_keepRow_14 : decode cX1_keepRow 14 = .ok (.invokevirtual 60, 3) := by decide +kernel
theorem dX1_keepRow_17 : decode cX1_keepRow 17 = .ok (.ifCond .eq 30, 3) := by decide +kernel
theorem dX1_keepRow_20 : decode cX1_keepRow 20 = .ok (.aload_n 0, 1) := by decide +kernel
theorem dX1_keepRow_21 : decode cX1_keepRow 21 = .ok (.getfield 20, 3) := by decide +kernel
theorem dX1_keepRow_24 : decode cX1_keepRow 24 = .ok (.iload_n 3, 1) := by decide +kernel
theorem dX1_keepRow_25 : decode cX1_keepRow 25 = .ok (.aload_n 0, 1) := by decide +kernel
theorem dX1_keepRow_26 : decode cX1_keepRow 26 = .ok (.getfield 14, 3) := by decide +kernel
theorem dX1_keepRow_29 : decode cX1_keepRow 29 = .ok (.iconst 0, 1) := by decide +kernel
theorem dX1_keepRow_30 : decode cX1_keepRow 30 = .ok (.invokevirtual 64, 3) := by decide +kernel
theorem dX1_keepRow_33 : decode cX1_keepRow 33 = .ok (.iastore, 1) := by decide +kernel
theorem dX1_keepRow_34 : decode cX1_keepRow 34 = .ok (.aload_n 0, 1) := by decide +kernel
theorem dX1_keepRow_35 : decode cX1_keepRow 35 = .ok (.getfield 24, 3) := by decide +kernel
theorem dX1_keepRow_38 : decode cX1_keepRow 38 = .ok (.aload_n 0, 1) := by decide +kernel
theorem dX1_keepRow_39 : decode cX1_keepRow 39 = .ok (.getfield 27, 3) := by decide +kernel
theorem dX1_keepRow_42 : decode cX1_keepRow 42 = .ok (.iconst 1, 1) := by decide +kernel
theorem dX1_keepRow_43 : decode cX1_keepRow 43 = .ok (.iastore, 1) := by decide +kernel
theorem dX1_keepRow_44 : decode cX1_keepRow 44 = .ok (.goto 27, 3) := by decide +kernel
theorem dX1_keepRow_47 : decode cX1_keepRow 47 = .ok (.aload_n 0, 1) := by decide +kernel
theorem dX1_keepRow_48 : decode cX1_keepRow 48 = .ok (.getfield 24, 3) := by decide +kernel
theorem dX1_keepRow_51 : decode cX1_keepRow 51 = .ok (.aload_n 0, 1) := by decide +kernel
theorem dX1_keepRow_52 : decode cX1_keepRow 52 = .ok (.getfield 27, 3) := by decide +kernel
theorem dX1_keepRow_55 : decode cX1_keepRow 55 = .ok (.aload_n 1, 1) := by decide +kernel
theorem dX1_keepRow_56 : decode cX1_keepRow 56 = .ok (.aload_n 0, 1) := by decide +kernel
theorem dX1_keepRow_57 : decode cX1_keepRow 57 = .ok (.getfield 14, 3) := by decide +kernel
theorem dX1_keepRow_60 : decode cX1_keepRow 60 = .ok (.iconst 0, 1) := by decide +kernel
theorem dX1_keepRow_61 : decode cX1_keepRow 61 = .ok (.iload_n 2, 1) := by decide +kernel
theorem dX1_keepRow_62 : decode cX1_keepRow 62 = .ok (.aload_n 0, 1) := by decide +kernel
theorem dX1_keepRow_63 : decode cX1_keepRow 63 = .ok (.getfield 20, 3) := by decide +kernel
theorem dX1_keepRow_66 : decode cX1_keepRow 66 = .ok (.iload_n 3, 1) := by decide +kernel
theorem dX1_keepRow_67 : decode cX1_keepRow 67 = .ok (.invokevirtual 67, 3) := by decide +kernel
theorem dX1_keepRow_70 : decode cX1_keepRow 70 = .ok (.iastore, 1) := by decide +kernel
theorem dX1_keepRow_71 : decode cX1_keepRow 71 = .ok (.aload_n 0, 1) := by decide +kernel
theorem dX1_keepRow_72 : decode cX1_keepRow 72 = .ok (.dup, 1) := by decide +kernel
theorem dX1_keepRow_73 : decode cX1_keepRow 73 = .ok (.getfield 27, 3) := by decide +kernel
theorem dX1_keepRow_76 : decode cX1_keepRow 76 = .ok (.iconst 1, 1) := by decide +kernel
theorem dX1_keepRow_77 : decode cX1_keepRow 77 = .ok (.iadd, 1) := by decide +kernel
theorem dX1_keepRow_78 : decode cX1_keepRow 78 = .ok (.putfield 27, 3) := by decide +kernel
theorem dX1_keepRow_81 : decode cX1_keepRow 81 = .ok (.return_, 1) := by decide +kernel
theorem dX1_unlikeRows_0 : decode cX1_unlikeRows 0 = .ok (.iconst 0, 1) := by decide +kernel
theorem dX1_unlikeRows_1 : decode cX1_unlikeRows 1 = .ok (.istore_n 1, 1) := by decide +kernel
theorem dX1_unlikeRows_2 : decode cX1_unlikeRows 2 = .ok (.iconst 0, 1) := by decide +kernel
theorem dX1_unlikeRows_3 : decode cX1_unlikeRows 3 = .ok (.istore_n 2, 1) := by decide +kernel
theorem dX1_unlikeRows_4 : decode cX1_unlikeRows 4 = .ok (.iload_n 2, 1) := by decide +kernel
theorem dX1_unlikeRows_5 : decode cX1_unlikeRows 5 = .ok (.aload_n 0, 1) := by decide +kernel
theorem dX1_unlikeRows_6 : decode cX1_unlikeRows 6 = .ok (.getfield 27, 3) := by decide +kernel
theorem dX1_unlikeRows_9 : decode cX1_unlikeRows 9 = .ok (.if_icmp .ge 20, 3) := by decide +kernel
theorem dX1_unlikeRows_12 : decode cX1_unlikeRows 12 = .ok (.aload_n 0, 1) := by decide +kernel
theorem dX1_unlikeRows_13 : decode cX1_unlikeRows 13 = .ok (.iload_n 2, 1) := by decide +kernel
theorem dX1_unlikeRows_14 : decode cX1_unlikeRows 14 = .ok (.invokevirtual 71, 3) := by decide +kernel
theorem dX1_unlikeRows_17 : decode cX1_unlikeRows 17 = .ok (.ifCond .eq 6, 3) := by decide +kernel
theorem dX1_unlikeRows_20 : decode cX1_unlikeRows 20 = .ok (.iinc 1 1, 3) := by decide +kernel
theorem dX1_unlikeRows_23 : decode cX1_unlikeRows 23 = .ok (.iinc 2 1, 3) := by decide +kernel
theorem dX1_unlikeRows_26 : decode cX1_unlikeRows 26 = .ok (.goto (-22), 3) := by decide +kernel
theorem dX1_unlikeRows_29 : decode cX1_unlikeRows 29 = .ok (.iload_n 1, 1) := by decide +kernel
theorem dX1_unlikeRows_30 : decode cX1_unlikeRows 30 = .ok (.ireturn, 1) := by decide +kernel
theorem dX1_isFirstSuch_0 : decode cX1_isFirstSuch 0 = .ok (.iconst 0, 1) := by decide +kernel
theorem dX1_isFirstSuch_1 : decode cX1_isFirstSuch 1 = .ok (.istore_n 2, 1) := by decide +kernel
theorem dX1_isFirstSuch_2 : decode cX1_isFirstSuch 2 = .ok (.iload_n 2, 1) := by decide +kernel
theorem dX1_isFirstSuch_3 : decode cX1_isFirstSuch 3 = .ok (.iload_n 1, 1) := by decide +kernel
theorem dX1_isFirstSuch_4 : decode cX1_isFirstSuch 4 = .ok (.if_icmp .ge 20, 3) := by decide +kernel
theorem dX1_isFirstSuch_7 : decode cX1_isFirstSuch 7 = .ok (.aload_n 0, 1) := by decide +kernel
theorem dX1_isFirstSuch_8 : decode cX1_isFirstSuch 8 = .ok (.iload_n 1, 1) := by decide +kernel
theorem dX1_isFirstSuch_9 : decode cX1_isFirstSuch 9 = .ok (.iload_n 2, 1) := by decide +kernel
theorem dX1_isFirstSuch_10 : decode cX1_isFirstSuch 10 = .ok (.invokevirtual 74, 3) := by decide +kernel
theorem dX1_isFirstSuch_13 : decode cX1_isFirstSuch 13 = .ok (.ifCond .eq 5, 3) := by decide +kernel
theorem dX1_isFirstSuch_16 : decode cX1_isFirstSuch 16 = .ok (.iconst 0, 1) := by decide +kernel
theorem dX1_isFirstSuch_17 : decode cX1_isFirstSuch 17 = .ok (.ireturn, 1) := by decide +kernel
theorem dX1_isFirstSuch_18 : decode cX1_isFirstSuch 18 = .ok (.iinc 2 1, 3) := by decide +kernel
theorem dX1_isFirstSuch_21 : decode cX1_isFirstSuch 21 = .ok (.goto (-19), 3) := by decide +kernel
theorem dX1_isFirstSuch_24 : decode cX1_isFirstSuch 24 = .ok (.iconst 1, 1) := by decide +kernel
theorem dX1_isFirstSuch_25 : decode cX1_isFirstSuch 25 = .ok (.ireturn, 1) := by decide +kernel
theorem dX1_areSameRows_0 : decode cX1_areSameRows 0 = .ok (.aload_n 0, 1) := by decide +kernel
theorem dX1_areSameRows_1 : decode cX1_areSameRows 1 = .ok (.getfield 24, 3) := by decide +kernel
theorem dX1_areSameRows_4 : decode cX1_areSameRows 4 = .ok (.iload_n 1, 1) := by decide +kernel
theorem dX1_areSameRows_5 : decode cX1_areSameRows 5 = .ok (.iaload, 1) := by decide +kernel
theorem dX1_areSameRows_6 : decode cX1_areSameRows 6 = .ok (.aload_n 0, 1) := by decide +kernel
theorem dX1_areSameRows_7 : decode cX1_areSameRows 7 = .ok (.getfield 24, 3) := by decide +kernel
theorem dX1_areSameRows_10 : decode cX1_areSameRows 10 = .ok (.iload_n 2, 1) := by decide +kernel
theorem dX1_areSameRows_11 : decode cX1_areSameRows 11 = .ok (.iaload, 1) := by decide +kernel
theorem dX1_areSameRows_12 : decode cX1_areSameRows 12 = .ok (.if_icmp .eq 5, 3) := by decide +kernel
theorem dX1_areSameRows_15 : decode cX1_areSameRows 15 = .ok (.iconst 0, 1) := by decide +kernel
theorem dX1_areSameRows_16 : decode cX1_areSameRows 16 = .ok (.ireturn, 1) := by decide +kernel
theorem dX1_areSameRows_17 : decode cX1_areSameRows 17 = .ok (.iconst 0, 1) := by decide +kernel
theorem dX1_areSameRows_18 : decode cX1_areSameRows 18 = .ok (.istore_n 3, 1) := by decide +kernel
theorem dX1_areSameRows_19 : decode cX1_areSameRows 19 = .ok (.iload_n 3, 1) := by decide +kernel
theorem dX1_areSameRows_20 : decode cX1_areSameRows 20 = .ok (.aload_n 0, 1) := by decide +kernel
theorem dX1_areSameRows_21 : decode cX1_areSameRows 21 = .ok (.getfield 24, 3) := by decide +kernel
theorem dX1_areSameRows_24 : decode cX1_areSameRows 24 = .ok (.iload_n 1, 1) := by decide +kernel
theorem dX1_areSameRows_25 : decode cX1_areSameRows 25 = .ok (.iaload, 1) := by decide +kernel
theorem dX1_areSameRows_26 : decode cX1_areSameRows 26 = .ok (.if_icmp .ge 38, 3) := by decide +kernel
theorem dX1_areSameRows_29 : decode cX1_areSameRows 29 = .ok (.aload_n 0, 1) := by decide +kernel
theorem dX1_areSameRows_30 : decode cX1_areSameRows 30 = .ok (.getfield 20, 3) := by decide +kernel
theorem dX1_areSameRows_33 : decode cX1_areSameRows 33 = .ok (.iload_n 1, 1) := by decide +kernel
theorem dX1_areSameRows_34 : decode cX1_areSameRows 34 = .ok (.sipush 180, 3) := by decide +kernel
theorem dX1_areSameRows_37 : decode cX1_areSameRows 37 = .ok (.imul, 1) := by decide +kernel
theorem dX1_areSameRows_38 : decode cX1_areSameRows 38 = .ok (.iload_n 3, 1) := by decide +kernel
theorem dX1_areSameRows_39 : decode cX1_areSameRows 39 = .ok (.iadd, 1) := by decide +kernel
theorem dX1_areSameRows_40 : decode cX1_areSameRows 40 = .ok (.iaload, 1) := by decide +kernel
theorem dX1_areSameRows_41 : decode cX1_areSameRows 41 = .ok (.aload_n 0, 1) := by decide +kernel
theorem dX1_areSameRows_42 : decode cX1_areSameRows 42 = .ok (.getfield 20, 3) := by decide +kernel
theorem dX1_areSameRows_45 : decode cX1_areSameRows 45 = .ok (.iload_n 2, 1) := by decide +kernel
theorem dX1_areSameRows_46 : decode cX1_areSameRows 46 = .ok (.sipush 180, 3) := by decide +kernel
theorem dX1_areSameRows_49 : decode cX1_areSameRows 49 = .ok (.imul, 1) := by decide +kernel
theorem dX1_areSameRows_50 : decode cX1_areSameRows 50 = .ok (.iload_n 3, 1) := by decide +kernel
theorem dX1_areSameRows_51 : decode cX1_areSameRows 51 = .ok (.iadd, 1) := by decide +kernel
theorem dX1_areSameRows_52 : decode cX1_areSameRows 52 = .ok (.iaload, 1) := by decide +kernel
theorem dX1_areSameRows_53 : decode cX1_areSameRows 53 = .ok (.if_icmp .eq 5, 3) := by decide +kernel
theorem dX1_areSameRows_56 : decode cX1_areSameRows 56 = .ok (.iconst 0, 1) := by decide +kernel
theorem dX1_areSameRows_57 : decode cX1_areSameRows 57 = .ok (.ireturn, 1) := by decide +kernel
theorem dX1_areSameRows_58 : decode cX1_areSameRows 58 = .ok (.iinc 3 1, 3) := by decide +kernel
theorem dX1_areSameRows_61 : decode cX1_areSameRows 61 = .ok (.goto (-42), 3) := by decide +kernel
theorem dX1_areSameRows_64 : decode cX1_areSameRows 64 = .ok (.iconst 1, 1) := by decide +kernel
theorem dX1_areSameRows_65 : decode cX1_areSameRows 65 = .ok (.ireturn, 1) := by decide +kernel
theorem dX1_rowsWith_0 : decode cX1_rowsWith 0 = .ok (.iconst 0, 1) := by decide +kernel
theorem dX1_rowsWith_1 : decode cX1_rowsWith 1 = .ok (.istore_n 2, 1) := by decide +kernel
theorem dX1_rowsWith_2 : decode cX1_rowsWith 2 = .ok (.iconst 0, 1) := by decide +kernel
theorem dX1_rowsWith_3 : decode cX1_rowsWith 3 = .ok (.istore_n 3, 1) := by decide +kernel
theorem dX1_rowsWith_4 : decode cX1_rowsWith 4 = .ok (.iload_n 3, 1) := by decide +kernel
theorem dX1_rowsWith_5 : decode cX1_rowsWith 5 = .ok (.aload_n 0, 1) := by decide +kernel
theorem dX1_rowsWith_6 : decode cX1_rowsWith 6 = .ok (.getfield 27, 3) := by decide +kernel
theorem dX1_rowsWith_9 : decode cX1_rowsWith 9 = .ok (.if_icmp .ge 21, 3) := by decide +kernel
theorem dX1_rowsWith_12 : decode cX1_rowsWith 12 = .ok (.aload_n 0, 1) := by decide +kernel
theorem dX1_rowsWith_13 : decode cX1_rowsWith 13 = .ok (.iload_n 1, 1) := by decide +kernel
theorem dX1_rowsWith_14 : decode cX1_rowsWith 14 = .ok (.iload_n 3, 1) := by decide +kernel
theorem dX1_rowsWith_15 : decode cX1_rowsWith 15 = .ok (.invokevirtual 78, 3) := by decide +kernel
theorem dX1_rowsWith_18 : decode cX1_rowsWith 18 = .ok (.ifCond .eq 6, 3) := by decide +kernel
theorem dX1_rowsWith_21 : decode cX1_rowsWith 21 = .ok (.iinc 2 1, 3) := by decide +kernel
theorem dX1_rowsWith_24 : decode cX1_rowsWith 24 = .ok (.iinc 3 1, 3) := by decide +kernel
theorem dX1_rowsWith_27 : decode cX1_rowsWith 27 = .ok (.goto (-23), 3) := by decide +kernel
theorem dX1_rowsWith_30 : decode cX1_rowsWith 30 = .ok (.iload_n 2, 1) := by decide +kernel
theorem dX1_rowsWith_31 : decode cX1_rowsWith 31 = .ok (.ireturn, 1) := by decide +kernel
theorem dX1_isIn_0 : decode cX1_isIn 0 = .ok (.iconst 0, 1) := by decide +kernel
theorem dX1_isIn_1 : decode cX1_isIn 1 = .ok (.istore_n 3, 1) := by decide +kernel
theorem dX1_isIn_2 : decode cX1_isIn 2 = .ok (.iload_n 3, 1) := by decide +kernel
theorem dX1_isIn_3 : decode cX1_isIn 3 = .ok (.aload_n 0, 1) := by decide +kernel
theorem dX1_isIn_4 : decode cX1_isIn 4 = .ok (.getfield 24, 3) := by decide +kernel
theorem dX1_isIn_7 : decode cX1_isIn 7 = .ok (.iload_n 2, 1) := by decide +kernel
theorem dX1_isIn_8 : decode cX1_isIn 8 = .ok (.iaload, 1) := by decide +kernel
theorem dX1_isIn_9 : decode cX1_isIn 9 = .ok (.if_icmp .ge 27, 3) := by decide +kernel
theorem dX1_isIn_12 : decode cX1_isIn 12 = .ok (.aload_n 0, 1) := by decide +kernel
theorem dX1_isIn_13 : decode cX1_isIn 13 = .ok (.getfield 20, 3) := by decide +kernel
theorem dX1_isIn_16 : decode cX1_isIn 16 = .ok (.iload_n 2, 1) := by decide +kernel
theorem dX1_isIn_17 : decode cX1_isIn 17 = .ok (.sipush 180, 3) := by decide +kernel
theorem dX1_isIn_20 : decode cX1_isIn 20 = .ok (.imul, 1) := by decide +kernel
theorem dX1_isIn_21 : decode cX1_isIn 21 = .ok (.iload_n 3, 1) := by decide +kernel
theorem dX1_isIn_22 : decode cX1_isIn 22 = .ok (.iadd, 1) := by decide +kernel
theorem dX1_isIn_23 : decode cX1_isIn 23 = .ok (.iaload, 1) := by decide +kernel
theorem dX1_isIn_24 : decode cX1_isIn 24 = .ok (.iload_n 1, 1) := by decide +kernel
theorem dX1_isIn_25 : decode cX1_isIn 25 = .ok (.if_icmp .ne 5, 3) := by decide +kernel
theorem dX1_isIn_28 : decode cX1_isIn 28 = .ok (.iconst 1, 1) := by decide +kernel
theorem dX1_isIn_29 : decode cX1_isIn 29 = .ok (.ireturn, 1) := by decide +kernel
theorem dX1_isIn_30 : decode cX1_isIn 30 = .ok (.iinc 3 1, 3) := by decide +kernel
theorem dX1_isIn_33 : decode cX1_isIn 33 = .ok (.goto (-31), 3) := by decide +kernel
theorem dX1_isIn_36 : decode cX1_isIn 36 = .ok (.iconst 0, 1) := by decide +kernel
theorem dX1_isIn_37 : decode cX1_isIn 37 = .ok (.ireturn, 1) := by decide +kernel
theorem dX2_init_0 : decode cX2_init 0 = .ok (.aload_n 0, 1) := by decide +kernel
theorem dX2_init_1 : decode cX2_init 1 = .ok (.invokespecial 3, 3) := by decide +kernel
theorem dX2_init_4 : decode cX2_init 4 = .ok (.aload_n 0, 1) := by decide +kernel
theorem dX2_init_5 : decode cX2_init 5 = .ok (.bipush 60, 2) := by decide +kernel
theorem dX2_init_7 : decode cX2_init 7 = .ok (.newarray .int, 2) := by decide +kernel
theorem dX2_init_9 : decode cX2_init 9 = .ok (.putfield 9, 3) := by decide +kernel
theorem dX2_init_12 : decode cX2_init 12 = .ok (.aload_n 0, 1) := by decide +kernel
theorem dX2_init_13 : decode cX2_init 13 = .ok (.bipush 60, 2) := by decide +kernel
theorem dX2_init_15 : decode cX2_init 15 = .ok (.newarray .int, 2) := by decide +kernel
theorem dX2_init_17 : decode cX2_init 17 = .ok (.putfield 13, 3) := by decide +kernel
theorem dX2_init_20 : decode cX2_init 20 = .ok (.aload_n 0, 1) := by decide +kernel
theorem dX2_init_21 : decode cX2_init 21 = .ok (.bipush 60, 2) := by decide +kernel
theorem dX2_init_23 : decode cX2_init 23 = .ok (.newarray .int, 2) := by decide +kernel
theorem dX2_init_25 : decode cX2_init 25 = .ok (.putfield 16, 3) := by decide +kernel
theorem dX2_init_28 : decode cX2_init 28 = .ok (.aload_n 0, 1) := by decide +kernel
theorem dX2_init_29 : decode cX2_init 29 = .ok (.bipush 60, 2) := by decide +kernel
theorem dX2_init_31 : decode cX2_init 31 = .ok (.newarray .int, 2) := by decide +kernel
theorem dX2_init_33 : decode cX2_init 33 = .ok (.putfield 19, 3) := by decide +kernel
theorem dX2_init_36 : decode cX2_init 36 = .ok (.aload_n 0, 1) := by decide +kernel
theorem dX2_init_37 : decode cX2_init 37 = .ok (.bipush 60, 2) := by decide +kernel
theorem dX2_init_39 : decode cX2_init 39 = .ok (.newarray .int, 2) := by decide +kernel
theorem dX2_init_41 : decode cX2_init 41 = .ok (.putfield 22, 3) := by decide +kernel
theorem dX2_init_44 : decode cX2_init 44 = .ok (.aload_n 0, 1) := by decide +kernel
theorem dX2_init_45 : decode cX2_init 45 = .ok (.bipush 60, 2) := by decide +kernel
theorem dX2_init_47 : decode cX2_init 47 = .ok (.newarray .int, 2) := by decide +kernel
theorem dX2_init_49 : decode cX2_init 49 = .ok (.putfield 25, 3) := by decide +kernel
theorem dX2_init_52 : decode cX2_init 52 = .ok (.aload_n 0, 1) := by decide +kernel
theorem dX2_init_53 : decode cX2_init 53 = .ok (.iconst 0, 1) := by decide +kernel
theorem dX2_init_54 : decode cX2_init 54 = .ok (.putfield 28, 3) := by decide +kernel
theorem dX2_init_57 : decode cX2_init 57 = .ok (.aload_n 0, 1) := by decide +kernel
theorem dX2_init_58 : decode cX2_init 58 = .ok (.iconst 0, 1) := by decide +kernel
theorem dX2_init_59 : decode cX2_init 59 = .ok (.putfield 32, 3) := by decide +kernel
theorem dX2_init_62 : decode cX2_init 62 = .ok (.aload_n 0, 1) := by decide +kernel
theorem dX2_init_63 : decode cX2_init 63 = .ok (.iconst 0, 1) := by decide +kernel
theorem dX2_init_64 : decode cX2_init 64 = .ok (.putfield 36, 3) := by decide +kernel
theorem dX2_init_67 : decode cX2_init 67 = .ok (.return_, 1) := by decide +kernel
theorem dX2_clear_0 : decode cX2_clear 0 = .ok (.aload_n 0, 1) := by decide +kernel
theorem dX2_clear_1 : decode cX2_clear 1 = .ok (.iconst 0, 1) := by decide +kernel
theorem dX2_clear_2 : decode cX2_clear 2 = .ok (.putfield 28, 3) := by decide +kernel
theorem dX2_clear_5 : decode cX2_clear 5 = .ok (.aload_n 0, 1) := by decide +kernel
theorem dX2_clear_6 : decode cX2_clear 6 = .ok (.iconst 0, 1) := by decide +kernel
theorem dX2_clear_7 : decode cX2_clear 7 = .ok (.putfield 32, 3) := by decide +kernel
theorem dX2_clear_10 : decode cX2_clear 10 = .ok (.aload_n 0, 1) := by decide +kernel
theorem dX2_clear_11 : decode cX2_clear 11 = .ok (.iconst 0, 1) := by decide +kernel
theorem dX2_clear_12 : decode cX2_clear 12 = .ok (.putfield 36, 3) := by decide +kernel
theorem dX2_clear_15 : decode cX2_clear 15 = .ok (.return_, 1) := by decide +kernel
theorem dX2_copy_0 : decode cX2_copy 0 = .ok (.aload_n 0, 1) := by decide +kernel
theorem dX2_copy_1 : decode cX2_copy 1 = .ok (.aload_n 1, 1) := by decide +kernel
theorem dX2_copy_2 : decode cX2_copy 2 = .ok (.getfield 28, 3) := by decide +kernel
theorem dX2_copy_5 : decode cX2_copy 5 = .ok (.putfield 28, 3) := by decide +kernel
theorem dX2_copy_8 : decode cX2_copy 8 = .ok (.aload_n 0, 1) := by decide +kernel
theorem dX2_copy_9 : decode cX2_copy 9 = .ok (.aload_n 1, 1) := by decide +kernel
theorem dX2_copy_10 : decode cX2_copy 10 = .ok (.getfield 32, 3) := by decide +kernel
theorem dX2_copy_13 : decode cX2_copy 13 = .ok (.putfield 32, 3) := by decide +kernel
theorem dX2_copy_16 : decode cX2_copy 16 = .ok (.aload_n 0, 1) := by decide +kernel
theorem dX2_copy_17 : decode cX2_copy 17 = .ok (.aload_n 1, 1) := by decide +kernel
theorem dX2_copy_18 : decode cX2_copy 18 = .ok (.getfield 36, 3) := by decide +kernel
theorem dX2_copy_21 : decode cX2_copy 21 = .ok (.putfield 36, 3) := by decide +kernel
theorem dX2_copy_24 : decode cX2_copy 24 = .ok (.aload_n 1, 1) := by decide +kernel
theorem dX2_copy_25 : decode cX2_copy 25 = .ok (.getfield 9, 3) := by decide +kernel
theorem dX2_copy_28 : decode cX2_copy 28 = .ok (.iconst 0, 1) := by decide +kernel
theorem dX2_copy_29 : decode cX2_copy 29 = .ok (.aload_n 0, 1) := by decide +kernel
theorem dX2_copy_30 : decode cX2_copy 30 = .ok (.getfield 9, 3) := by decide +kernel
theorem dX2_copy_33 : decode cX2_copy 33 = .ok (.iconst 0, 1) := by decide +kernel
theorem dX2_copy_34 : decode cX2_copy 34 = .ok (.aload_n 0, 1) := by decide +kernel
theorem dX2_copy_35 : decode cX2_copy 35 = .ok (.getfield 32, 3) := by decide +kernel
theorem dX2_copy_38 : decode cX2_copy 38 = .ok (.invokestatic 39, 3) := by decide +kernel
theorem dX2_copy_41 : decode cX2_copy 41 = .ok (.aload_n 1, 1) := by decide +kernel
theorem dX2_copy_42 : decode cX2_copy 42 = .ok (.getfield 13, 3) := by decide +kernel
theorem dX2_copy_45 : decode cX2_copy 45 = .ok (.iconst 0, 1) := by decide +kernel
theorem dX2_copy_46 : decode cX2_copy 46 = .ok (.aload_n 0, 1) := by decide +kernel
theorem dX2_copy_47 : decode cX2_copy 47 = .ok (.getfield 13, 3) := by decide +kernel
theorem dX2_copy_50 : decode cX2_copy 50 = .ok (.iconst 0, 1) := by decide +kernel
theorem dX2_copy_51 : decode cX2_copy 51 = .ok (.aload_n 0, 1) := by decide +kernel
theorem dX2_copy_52 : decode cX2_copy 52 = .ok (.getfield 32, 3) := by decide +kernel
theorem dX2_copy_55 : decode cX2_copy 55 = .ok (.invokestatic 39, 3) := by decide +kernel
theorem dX2_copy_58 : decode cX2_copy 58 = .ok (.aload_n 1, 1) := by decide +kernel
theorem dX2_copy_59 : decode cX2_copy 59 = .ok (.getfield 16, 3) := by decide +kernel
theorem dX2_copy_62 : decode cX2_copy 62 = .ok (.iconst 0, 1) := by decide +kernel
theorem dX2_copy_63 : decode cX2_copy 63 = .ok (.aload_n 0, 1) := by decide +kernel
theorem dX2_copy_64 : decode cX2_copy 64 = .ok (.getfield 16, 3) := by decide +kernel
theorem dX2_copy_67 : decode cX2_copy 67 = .ok (.iconst 0, 1) := by decide +kernel
theorem dX2_copy_68 : decode cX2_copy 68 = .ok (.aload_n 0, 1) := by decide +kernel
theorem dX2_copy_69 : decode cX2_copy 69 = .ok (.getfield 32, 3) := by decide +kernel
theorem dX2_copy_72 : decode cX2_copy 72 = .ok (.invokestatic 39, 3) := by decide +kernel
theorem dX2_copy_75 : decode cX2_copy 75 = .ok (.aload_n 1, 1) := by decide +kernel
theorem dX2_copy_76 : decode cX2_copy 76 = .ok (.getfield 19, 3) := by decide +kernel
theorem dX2_copy_79 : decode cX2_copy 79 = .ok (.iconst 0, 1) := by decide +kernel
theorem dX2_copy_80 : decode cX2_copy 80 = .ok (.aload_n 0, 1) := by decide +kernel
theorem dX2_copy_81 : decode cX2_copy 81 = .ok (.getfield 19, 3) := by decide +kernel
theorem dX2_copy_84 : decode cX2_copy 84 = .ok (.iconst 0, 1) := by decide +kernel
theorem dX2_copy_85 : decode cX2_copy 85 = .ok (.aload_n 0, 1) := by decide +kernel
theorem dX2_copy_86 : decode cX2_copy 86 = .ok (.getfield 32, 3) := by decide +kernel
theorem dX2_copy_89 : decode cX2_copy 89 = .ok (.invokestatic 39, 3) := by decide +kernel
theorem dX2_copy_92 : decode cX2_copy 92 = .ok (.aload_n 1, 1) := by decide +kernel
theorem dX2_copy_93 : decode cX2_copy 93 = .ok (.getfield 22, 3) := by decide +kernel
theorem dX2_copy_96 : decode cX2_copy 96 = .ok (.iconst 0, 1) := by decide +kernel
theorem dX2_copy_97 : decode cX2_copy 97 = .ok (.aload_n 0, 1) := by decide +kernel
theorem dX2_copy_98 : decode cX2_copy 98 = .ok (.getfield 22, 3) := by decide +kernel
theorem dX2_copy_101 : decode cX2_copy 101 = .ok (.iconst 0, 1) := by decide +kernel
theorem dX2_copy_102 : decode cX2_copy 102 = .ok (.aload_n 0, 1) := by decide +kernel
theorem dX2_copy_103 : decode cX2_copy 103 = .ok (.getfield 32, 3) := by decide +kernel
theorem dX2_copy_106 : decode cX2_copy 106 = .ok (.invokestatic 39, 3) := by decide +kernel
theorem dX2_copy_109 : decode cX2_copy 109 = .ok (.aload_n 1, 1) := by decide +kernel
theorem dX2_copy_110 : decode cX2_copy 110 = .ok (.getfield 25, 3) := by decide +kernel
theorem dX2_copy_113 : decode cX2_copy 113 = .ok (.iconst 0, 1) := by decide +kernel
theorem dX2_copy_114 : decode cX2_copy 114 = .ok (.aload_n 0, 1) := by decide +kernel
theorem dX2_copy_115 : decode cX2_copy 115 = .ok (.getfield 25, 3) := by decide +kernel
theorem dX2_copy_118 : decode cX2_copy 118 = .ok (.iconst 0, 1) := by decide +kernel
theorem dX2_copy_119 : decode cX2_copy 119 = .ok (.aload_n 0, 1) := by decide +kernel
theorem dX2_copy_120 : decode cX2_copy 120 = .ok (.getfield 32, 3) := by decide +kernel
theorem dX2_copy_123 : decode cX2_copy 123 = .ok (.invokestatic 39, 3) := by decide +kernel
theorem dX2_copy_126 : decode cX2_copy 126 = .ok (.return_, 1) := by decide +kernel
theorem dX3_init_0 : decode cX3_init 0 = .ok (.aload_n 0, 1) := by decide +kernel
theorem dX3_init_1 : decode cX3_init 1 = .ok (.invokespecial 3, 3) := by decide +kernel
theorem dX3_init_4 : decode cX3_init 4 = .ok (.aload_n 0, 1) := by decide +kernel
theorem dX3_init_5 : decode cX3_init 5 = .ok (.new 9, 3) := by decide +kernel
theorem dX3_init_8 : decode cX3_init 8 = .ok (.dup, 1) := by decide +kernel
theorem dX3_init_9 : decode cX3_init 9 = .ok (.invokespecial 11, 3) := by decide +kernel
theorem dX3_init_12 : decode cX3_init 12 = .ok (.putfield 12, 3) := by decide +kernel
theorem dX3_init_15 : decode cX3_init 15 = .ok (.aload_n 0, 1) := by decide +kernel
theorem dX3_init_16 : decode cX3_init 16 = .ok (.iconst 3, 1) := by decide +kernel
theorem dX3_init_17 : decode cX3_init 17 = .ok (.newarray .int, 2) := by decide +kernel
theorem dX3_init_19 : decode cX3_init 19 = .ok (.putfield 18, 3) := by decide +kernel
theorem dX3_init_22 : decode cX3_init 22 = .ok (.aload_n 0, 1) := by decide +kernel
theorem dX3_init_23 : decode cX3_init 23 = .ok (.iconst 0, 1) := by decide +kernel
theorem dX3_init_24 : decode cX3_init 24 = .ok (.putfield 22, 3) := by decide +kernel
theorem dX3_init_27 : decode cX3_init 27 = .ok (.aload_n 0, 1) := by decide +kernel
theorem dX3_init_28 : decode cX3_init 28 = .ok (.aload_n 1, 1) := by decide +kernel
theorem dX3_init_29 : decode cX3_init 29 = .ok (.putfield 26, 3) := by decide +kernel
theorem dX3_init_32 : decode cX3_init 32 = .ok (.aload_n 0, 1) := by decide +kernel
theorem dX3_init_33 : decode cX3_init 33 = .ok (.aload_n 2, 1) := by decide +kernel
theorem dX3_init_34 : decode cX3_init 34 = .ok (.putfield 30, 3) := by decide +kernel
theorem dX3_init_37 : decode cX3_init 37 = .ok (.return_, 1) := by decide +kernel
theorem dX3_isTaken_0 : decode cX3_isTaken 0 = .ok (.aload_n 0, 1) := by decide +kernel
theorem dX3_isTaken_1 : decode cX3_isTaken 1 = .ok (.iconst 0, 1) := by decide +kernel
theorem dX3_isTaken_2 : decode cX3_isTaken 2 = .ok (.putfield 22, 3) := by decide +kernel
theorem dX3_isTaken_5 : decode cX3_isTaken 5 = .ok (.aload_n 0, 1) := by decide +kernel
theorem dX3_isTaken_6 : decode cX3_isTaken 6 = .ok (.getfield 12, 3) := by decide +kernel
theorem dX3_isTaken_9 : decode cX3_isTaken 9 = .ok (.invokevirtual 34, 3) := by decide +kernel
theorem dX3_isTaken_12 : decode cX3_isTaken 12 = .ok (.iconst 0, 1) := by decide +kernel
theorem dX3_isTaken_13 : decode cX3_isTaken 13 = .ok (.istore_n 1, 1) := by decide +kernel
theorem dX3_isTaken_14 : decode cX3_isTaken 14 = .ok (.iload_n 1, 1) := by decide +kernel
theorem dX3_isTaken_15 : decode cX3_isTaken 15 = .ok (.sipush 300, 3) := by decide +kernel
theorem dX3_isTaken_18 : decode cX3_isTaken 18 = .ok (.if_icmp .gt 89, 3) := by decide +kernel
theorem dX3_isTaken_21 : decode cX3_isTaken 21 = .ok (.aload_n 0, 1) := by decide +kernel
theorem dX3_isTaken_22 : decode cX3_isTaken 22 = .ok (.getfield 26, 3) := by decide +kernel
theorem dX3_isTaken_25 : decode cX3_isTaken 25 = .ok (.invokevirtual 37, 3) := by decide +kernel
theorem dX3_isTaken_28 : decode cX3_isTaken 28 = .ok (.aload_n 0, 1) := by decide +kernel
theorem dX3_isTaken_29 : decode cX3_isTaken 29 = .ok (.getfield 26, 3) := by decide +kernel
theorem dX3_isTaken_32 : decode cX3_isTaken 32 = .ok (.getfield 42, 3) := by decide +kernel
theorem dX3_isTaken_35 : decode cX3_isTaken 35 = .ok (.ifCond .ne 35, 3) := by decide +kernel
theorem dX3_isTaken_38 : decode cX3_isTaken 38 = .ok (.aload_n 0, 1) := by decide +kernel
theorem dX3_isTaken_39 : decode cX3_isTaken 39 = .ok (.getfield 12, 3) := by decide +kernel
theorem dX3_isTaken_42 : decode cX3_isTaken 42 = .ok (.iconst 1, 1) := by decide +kernel
theorem dX3_isTaken_43 : decode cX3_isTaken 43 = .ok (.putfield 45, 3) := by decide +kernel
theorem dX3_isTaken_46 : decode cX3_isTaken 46 = .ok (.aload_n 0, 1) := by decide +kernel
theorem dX3_isTaken_47 : decode cX3_isTaken 47 = .ok (.getfield 22, 3) := by decide +kernel
theorem dX3_isTaken_50 : decode cX3_isTaken 50 = .ok (.ifCond .eq 14, 3) := by decide +kernel
theorem dX3_isTaken_53 : decode cX3_isTaken 53 = .ok (.aload_n 0, 1) := by decide +kernel
theorem dX3_isTaken_54 : decode cX3_isTaken 54 = .ok (.getfield 26, 3) := by decide +kernel
theorem dX3_isTaken_57 : decode cX3_isTaken 57 = .ok (.iconst 2, 1) := by decide +kernel
theorem dX3_isTaken_58 : decode cX3_isTaken 58 = .ok (.invokevirtual 49, 3) := by decide +kernel
theorem dX3_isTaken_61 : decode cX3_isTaken 61 = .ok (.ifCond .eq 7, 3) := by decide +kernel
theorem dX3_isTaken_64 : decode cX3_isTaken 64 = .ok (.iconst 1, 1) := by decide +kernel
theorem dX3_isTaken_65 : decode cX3_isTaken 65 = .ok (.goto 4, 3) := by decide +kernel
theorem dX3_isTaken_68 : decode cX3_isTaken 68 = .ok (.iconst 0, 1) := by decide +kernel
theorem dX3_isTaken_69 : decode cX3_isTaken 69 = .ok (.ireturn, 1) := by decide +kernel
theorem dX3_isTaken_70 : decode cX3_isTaken 70 = .ok (.aload_n 0, 1) := by decide +kernel
theorem dX3_isTaken_71 : decode cX3_isTaken 71 = .ok (.getfield 26, 3) := by decide +kernel
theorem dX3_isTaken_74 : decode cX3_isTaken 74 = .ok (.getfield 53, 3) := by decide +kernel
theorem dX3_isTaken_77 : decode cX3_isTaken 77 = .ok (.bipush 24, 2) := by decide +kernel
theorem dX3_isTaken_79 : decode cX3_isTaken 79 = .ok (.if_icmp .ne 13, 3) := by decide +kernel
theorem dX3_isTaken_82 : decode cX3_isTaken 82 = .ok (.aload_n 0, 1) := by decide +kernel
theorem dX3_isTaken_83 : decode cX3_isTaken 83 = .ok (.invokevirtual 56, 3) := by decide +kernel
theorem dX3_isTaken_86 : decode cX3_isTaken 86 = .ok (.ifCond .ne 15, 3) := by decide +kernel
theorem dX3_isTaken_89 : decode cX3_isTaken 89 = .ok (.goto 10, 3) := by decide +kernel
theorem dX3_isTaken_92 : decode cX3_isTaken 92 = .ok (.aload_n 0, 1) := by decide +kernel
theorem dX3_isTaken_93 : decode cX3_isTaken 93 = .ok (.invokevirtual 60, 3) := by decide +kernel
theorem dX3_isTaken_96 : decode cX3_isTaken 96 = .ok (.ifCond .ne 5, 3) := by decide +kernel
theorem dX3_isTaken_99 : decode cX3_isTaken 99 = .ok (.iconst 0, 1) := by decide +kernel
theorem dX3_isTaken_100 : decode cX3_isTaken 100 = .ok (.ireturn, 1) := by decide +kernel
theorem dX3_isTaken_101 : decode cX3_isTaken 101 = .ok (.iinc 1 1, 3) := by decide +kernel
theorem dX3_isTaken_104 : decode cX3_isTaken 104 = .ok (.goto (-90), 3) := by decide +kernel
theorem dX3_isTaken_107 : decode cX3_isTaken 107 = .ok (.iconst 0, 1) := by decide +kernel
theorem dX3_isTaken_108 : decode cX3_isTaken 108 = .ok (.ireturn, 1) := by decide +kernel
theorem dX3_takesEnd_0 : decode cX3_takesEnd 0 = .ok (.aload_n 0, 1) := by decide +kernel
theorem dX3_takesEnd_1 : decode cX3_takesEnd 1 = .ok (.getfield 22, 3) := by decide +kernel
theorem dX3_takesEnd_4 : decode cX3_takesEnd 4 = .ok (.ifCond .gt 12, 3) := by decide +kernel
theorem dX3_takesEnd_7 : decode cX3_takesEnd 7 = .ok (.aload_n 0, 1) := by decide +kernel
theorem dX3_takesEnd_8 : decode cX3_takesEnd 8 = .ok (.getfield 26, 3) := by decide +kernel
theorem dX3_takesEnd_11 : decode cX3_takesEnd 11 = .ok (.iconst 2, 1) := by decide +kernel
theorem dX3_takesEnd_12 : decode cX3_takesEnd 12 = .ok (.invokevirtual 49, 3) := by decide +kernel
theorem dX3_takesEnd_15 : decode cX3_takesEnd 15 = .ok (.ireturn, 1) := by decide +kernel
theorem dX3_takesEnd_16 : decode cX3_takesEnd 16 = .ok (.aload_n 0, 1) := by decide +kernel
theorem dX3_takesEnd_17 : decode cX3_takesEnd 17 = .ok (.dup, 1) := by decide +kernel
theorem dX3_takesEnd_18 : decode cX3_takesEnd 18 = .ok (.getfield 22, 3) := by decide +kernel
theorem dX3_takesEnd_21 : decode cX3_takesEnd 21 = .ok (.iconst 1, 1) := by decide +kernel
theorem dX3_takesEnd_22 : decode cX3_takesEnd 22 = .ok (.isub, 1) := by decide +kernel
theorem dX3_takesEnd_23 : decode cX3_takesEnd 23 = .ok (.putfield 22, 3) := by decide +kernel
theorem dX3_takesEnd_26 : decode cX3_takesEnd 26 = .ok (.aload_n 0, 1) := by decide +kernel
theorem dX3_takesEnd_27 : decode cX3_takesEnd 27 = .ok (.bipush 24, 2) := by decide +kernel
theorem dX3_takesEnd_29 : decode cX3_takesEnd 29 = .ok (.invokevirtual 63, 3) := by decide +kernel
theorem dX3_takesEnd_32 : decode cX3_takesEnd 32 = .ok (.istore_n 1, 1) := by decide +kernel
theorem dX3_takesEnd_33 : decode cX3_takesEnd 33 = .ok (.aload_n 0, 1) := by decide +kernel
theorem dX3_takesEnd_34 : decode cX3_takesEnd 34 = .ok (.getfield 12, 3) := by decide +kernel
theorem dX3_takesEnd_37 : decode cX3_takesEnd 37 = .ok (.getfield 67, 3) := by decide +kernel
theorem dX3_takesEnd_40 : decode cX3_takesEnd 40 = .ok (.iload_n 1, 1) := by decide +kernel
theorem dX3_takesEnd_41 : decode cX3_takesEnd 41 = .ok (.aload_n 0, 1) := by decide +kernel
theorem dX3_takesEnd_42 : decode cX3_takesEnd 42 = .ok (.getfield 18, 3) := by decide +kernel
theorem dX3_takesEnd_45 : decode cX3_takesEnd 45 = .ok (.aload_n 0, 1) := by decide +kernel
theorem dX3_takesEnd_46 : decode cX3_takesEnd 46 = .ok (.getfield 22, 3) := by decide +kernel
theorem dX3_takesEnd_49 : decode cX3_takesEnd 49 = .ok (.iaload, 1) := by decide +kernel
theorem dX3_takesEnd_50 : decode cX3_takesEnd 50 = .ok (.iastore, 1) := by decide +kernel
theorem dX3_takesEnd_51 : decode cX3_takesEnd 51 = .ok (.aload_n 0, 1) := by decide +kernel
theorem dX3_takesEnd_52 : decode cX3_takesEnd 52 = .ok (.getfield 12, 3) := by decide +kernel
theorem dX3_takesEnd_55 : decode cX3_takesEnd 55 = .ok (.getfield 67, 3) := by decide +kernel
theorem dX3_takesEnd_58 : decode cX3_takesEnd 58 = .ok (.aload_n 0, 1) := by decide +kernel
theorem dX3_takesEnd_59 : decode cX3_takesEnd 59 = .ok (.getfield 18, 3) := by decide +kernel
theorem dX3_takesEnd_62 : decode cX3_takesEnd 62 = .ok (.aload_n 0, 1) := by decide +kernel
theorem dX3_takesEnd_63 : decode cX3_takesEnd 63 = .ok (.getfield 22, 3) := by decide +kernel
theorem dX3_takesEnd_66 : decode cX3_takesEnd 66 = .ok (.iaload, 1) := by decide +kernel
theorem dX3_takesEnd_67 : decode cX3_takesEnd 67 = .ok (.iload_n 1, 1) := by decide +kernel
theorem dX3_takesEnd_68 : decode cX3_takesEnd 68 = .ok (.iastore, 1) := by decide +kernel
theorem dX3_takesEnd_69 : decode cX3_takesEnd 69 = .ok (.aload_n 0, 1) := by decide +kernel
theorem dX3_takesEnd_70 : decode cX3_takesEnd 70 = .ok (.getfield 26, 3) := by decide +kernel
theorem dX3_takesEnd_73 : decode cX3_takesEnd 73 = .ok (.invokevirtual 37, 3) := by decide +kernel
theorem dX3_takesEnd_76 : decode cX3_takesEnd 76 = .ok (.aload_n 0, 1) := by decide +kernel
theorem dX3_takesEnd_77 : decode cX3_takesEnd 77 = .ok (.getfield 26, 3) := by decide +kernel
theorem dX3_takesEnd_80 : decode cX3_takesEnd 80 = .ok (.bipush 59, 2) := by decide +kernel
theorem dX3_takesEnd_82 : decode cX3_takesEnd 82 = .ok (.invokevirtual 70, 3) := by decide +kernel
theorem dX3_takesEnd_85 : decode cX3_takesEnd 85 = .ok (.ireturn, 1) := by decide +kernel
theorem dX3_takesStep_0 : decode cX3_takesStep 0 = .ok (.aload_n 0, 1) := by decide +kernel
theorem dX3_takesStep_1 : decode cX3_takesStep 1 = .ok (.getfield 26, 3) := by decide +kernel
theorem dX3_takesStep_4 : decode cX3_takesStep 4 = .ok (.getfield 53, 3) := by decide +kernel
theorem dX3_takesStep_7 : decode cX3_takesStep 7 = .ok (.istore_n 1, 1) := by decide +kernel
theorem dX3_takesStep_8 : decode cX3_takesStep 8 = .ok (.aload_n 0, 1) := by decide +kernel
theorem dX3_takesStep_9 : decode cX3_takesStep 9 = .ok (.iload_n 1, 1) := by decide +kernel
theorem dX3_takesStep_10 : decode cX3_takesStep 10 = .ok (.invokevirtual 73, 3) := by decide +kernel
theorem dX3_takesStep_13 : decode cX3_takesStep 13 = .ok (.ifCond .ne 5, 3) := by decide +kernel
theorem dX3_takesStep_16 : decode cX3_takesStep 16 = .ok (.iconst 0, 1) := by decide +kernel
theorem dX3_takesStep_17 : decode cX3_takesStep 17 = .ok (.ireturn, 1) := by decide +kernel
theorem dX3_takesStep_18 : decode cX3_takesStep 18 = .ok (.aload_n 0, 1) := by decide +kernel
theorem dX3_takesStep_19 : decode cX3_takesStep 19 = .ok (.getfield 12, 3) := by decide +kernel
theorem dX3_takesStep_22 : decode cX3_takesStep 22 = .ok (.dup, 1) := by decide +kernel
theorem dX3_takesStep_23 : decode cX3_takesStep 23 = .ok (.getfield 76, 3) := by decide +kernel
theorem dX3_takesStep_26 : decode cX3_takesStep 26 = .ok (.iconst 1, 1) := by decide +kernel
theorem dX3_takesStep_27 : decode cX3_takesStep 27 = .ok (.iadd, 1) := by decide +kernel
theorem dX3_takesStep_28 : decode cX3_takesStep 28 = .ok (.putfield 76, 3) := by decide +kernel
theorem dX3_takesStep_31 : decode cX3_takesStep 31 = .ok (.aload_n 0, 1) := by decide +kernel
theorem dX3_takesStep_32 : decode cX3_takesStep 32 = .ok (.iload_n 1, 1) := by decide +kernel
theorem dX3_takesStep_33 : decode cX3_takesStep 33 = .ok (.invokevirtual 63, 3) := by decide +kernel
theorem dX3_takesStep_36 : decode cX3_takesStep 36 = .ok (.istore_n 2, 1) := by decide +kernel
theorem dX3_takesStep_37 : decode cX3_takesStep 37 = .ok (.iload_n 1, 1) := by decide +kernel
theorem dX3_takesStep_38 : decode cX3_takesStep 38 = .ok (.invokestatic 79, 3) := by decide +kernel
theorem dX3_takesStep_41 : decode cX3_takesStep 41 = .ok (.ifCond .eq 23, 3) := by decide +kernel
theorem dX3_takesStep_44 : decode cX3_takesStep 44 = .ok (.aload_n 0, 1) := by decide +kernel
theorem dX3_takesStep_45 : decode cX3_takesStep 45 = .ok (.getfield 18, 3) := by decide +kernel
theorem dX3_takesStep_48 : decode cX3_takesStep 48 = .ok (.aload_n 0, 1) := by decide +kernel
theorem dX3_takesStep_49 : decode cX3_takesStep 49 = .ok (.getfield 22, 3) := by decide +kernel
theorem dX3_takesStep_52 : decode cX3_takesStep 52 = .ok (.iload_n 2, 1) := by decide +kernel
theorem dX3_takesStep_53 : decode cX3_takesStep 53 = .ok (.iastore, 1) := by decide +kernel
theorem dX3_takesStep_54 : decode cX3_takesStep 54 = .ok (.aload_n 0, 1) := by decide +kernel
theorem dX3_takesStep_55 : decode cX3_takesStep 55 = .ok (.dup, 1) := by decide +kernel
theorem dX3_takesStep_56 : decode cX3_takesStep 56 = .ok (.getfield 22, 3) := by decide +kernel
theorem dX3_takesStep_59 : decode cX3_takesStep 59 = .ok (.iconst 1, 1) := by decide +kernel
theorem dX3_takesStep_60 : decode cX3_takesStep 60 = .ok (.iadd, 1) := by decide +kernel
theorem dX3_takesStep_61 : decode cX3_takesStep 61 = .ok (.putfield 22, 3) := by decide +kernel
theorem dX3_takesStep_64 : decode cX3_takesStep 64 = .ok (.iload_n 1, 1) := by decide +kernel
theorem dX3_takesStep_65 : decode cX3_takesStep 65 = .ok (.bipush 14, 2) := by decide +kernel
theorem dX3_takesStep_67 : decode cX3_takesStep 67 = .ok (.if_icmp .ne 9, 3) := by decide +kernel
theorem dX3_takesStep_70 : decode cX3_takesStep 70 = .ok (.aload_n 0, 1) := by decide +kernel
theorem dX3_takesStep_71 : decode cX3_takesStep 71 = .ok (.iload_n 2, 1) := by decide +kernel
theorem dX3_takesStep_72 : decode cX3_takesStep 72 = .ok (.invokevirtual 82, 3) := by decide +kernel
theorem dX3_takesStep_75 : decode cX3_takesStep 75 = .ok (.ireturn, 1) := by decide +kernel
theorem dX3_takesStep_76 : decode cX3_takesStep 76 = .ok (.iload_n 1, 1) := by decide +kernel
theorem dX3_takesStep_77 : decode cX3_takesStep 77 = .ok (.bipush 19, 2) := by decide +kernel
theorem dX3_takesStep_79 : decode cX3_takesStep 79 = .ok (.if_icmp .ne 48, 3) := by decide +kernel
theorem dX3_takesStep_82 : decode cX3_takesStep 82 = .ok (.aload_n 0, 1) := by decide +kernel
theorem dX3_takesStep_83 : decode cX3_takesStep 83 = .ok (.getfield 26, 3) := by decide +kernel
theorem dX3_takesStep_86 : decode cX3_takesStep 86 = .ok (.invokevirtual 37, 3) := by decide +kernel
theorem dX3_takesStep_89 : decode cX3_takesStep 89 = .ok (.aload_n 0, 1) := by decide +kernel
theorem dX3_takesStep_90 : decode cX3_takesStep 90 = .ok (.getfield 26, 3) := by decide +kernel
theorem dX3_takesStep_93 : decode cX3_takesStep 93 = .ok (.getfield 53, 3) := by decide +kernel
theorem dX3_takesStep_96 : decode cX3_takesStep 96 = .ok (.invokestatic 85, 3) := by decide +kernel
theorem dX3_takesStep_99 : decode cX3_takesStep 99 = .ok (.ifCond .ne 12, 3) := by decide +kernel
theorem dX3_takesStep_102 : decode cX3_takesStep 102 = .ok (.aload_n 0, 1) := by decide +kernel
theorem dX3_takesStep_103 : decode cX3_takesStep 103 = .ok (.getfield 26, 3) := by decide +kernel
theorem dX3_takesStep_106 : decode cX3_takesStep 106 = .ok (.iconst 2, 1) := by decide +kernel
theorem dX3_takesStep_107 : decode cX3_takesStep 107 = .ok (.invokevirtual 49, 3) := by decide +kernel
theorem dX3_takesStep_110 : decode cX3_takesStep 110 = .ok (.ireturn, 1) := by decide +kernel
theorem dX3_takesStep_111 : decode cX3_takesStep 111 = .ok (.aload_n 0, 1) := by decide +kernel
theorem dX3_takesStep_112 : decode cX3_takesStep 112 = .ok (.getfield 12, 3) := by decide +kernel
theorem dX3_takesStep_115 : decode cX3_takesStep 115 = .ok (.getfield 88, 3) := by decide +kernel
theorem dX3_takesStep_118 : decode cX3_takesStep 118 = .ok (.iload_n 2, 1) := by decide +kernel
theorem dX3_takesStep_119 : decode cX3_takesStep 119 = .ok (.aload_n 0, 1) := by decide +kernel
theorem dX3_takesStep_120 : decode cX3_takesStep 120 = .ok (.getfield 26, 3) := by decide +kernel
theorem dX3_takesStep_123 : decode cX3_takesStep 123 = .ok (.getfield 53, 3) := by decide +kernel
theorem dX3_takesStep_126 : decode cX3_takesStep 126 = .ok (.iastore, 1) := by decide +kernel
theorem dX3_takesStep_127 : decode cX3_takesStep 127 = .ok (.aload_n 0, 1) := by decide +kernel
theorem dX3_takesStep_128 : decode cX3_takesStep 128 = .ok (.iload_n 2, 1) := by decide +kernel
theorem dX3_takesStep_129 : decode cX3_takesStep 129 = .ok (.aload_n 0, 1) := by decide +kernel
theorem dX3_takesStep_130 : decode cX3_takesStep 130 = .ok (.getfield 12, 3) := by decide +kernel
theorem dX3_takesStep_133 : decode cX3_takesStep 133 = .ok (.getfield 88, 3) := by decide +kernel
theorem dX3_takesStep_136 : decode cX3_takesStep 136 = .ok (.iload_n 2, 1) := by decide +kernel
theorem dX3_takesStep_137 : decode cX3_takesStep 137 = .ok (.iaload, 1) := by decide +kernel
theorem dX3_takesStep_138 : decode cX3_takesStep 138 = .ok (.invokestatic 91, 3) := by decide +kernel
theorem dX3_takesStep_141 : decode cX3_takesStep 141 = .ok (.invokevirtual 95, 3) := by decide +kernel
theorem dX3_takesStep_144 : decode cX3_takesStep 144 = .ok (.ireturn, 1) := by decide +kernel
theorem dX3_mayBegin_0 : decode cX3_mayBegin 0 = .ok (.iload_n 1, 1) := by decide +kernel
theorem dX3_mayBegin_1 : decode cX3_mayBegin 1 = .ok (.bipush 7, 2) := by decide +kernel
theorem dX3_mayBegin_3 : decode cX3_mayBegin 3 = .ok (.if_icmp .lt 9, 3) := by decide +kernel
theorem dX3_mayBegin_6 : decode cX3_mayBegin 6 = .ok (.iload_n 1, 1) := by decide +kernel
theorem dX3_mayBegin_7 : decode cX3_mayBegin 7 = .ok (.bipush 19, 2) := by decide +kernel
theorem dX3_mayBegin_9 : decode cX3_mayBegin 9 = .ok (.if_icmp .le 24, 3) := by decide +kernel
theorem dX3_mayBegin_12 : decode cX3_mayBegin 12 = .ok (.iload_n 1, 1) := by decide +kernel
theorem dX3_mayBegin_13 : decode cX3_mayBegin 13 = .ok (.bipush 23, 2) := by decide +kernel
theorem dX3_mayBegin_15 : decode cX3_mayBegin 15 = .ok (.if_icmp .eq 18, 3) := by decide +kernel
theorem dX3_mayBegin_18 : decode cX3_mayBegin 18 = .ok (.iload_n 1, 1) := by decide +kernel
theorem dX3_mayBegin_19 : decode cX3_mayBegin 19 = .ok (.bipush 25, 2) := by decide +kernel
theorem dX3_mayBegin_21 : decode cX3_mayBegin 21 = .ok (.if_icmp .eq 12, 3) := by decide +kernel
theorem dX3_mayBegin_24 : decode cX3_mayBegin 24 = .ok (.aload_n 0, 1) := by decide +kernel
theorem dX3_mayBegin_25 : decode cX3_mayBegin 25 = .ok (.getfield 26, 3) := by decide +kernel
theorem dX3_mayBegin_28 : decode cX3_mayBegin 28 = .ok (.iconst 2, 1) := by decide +kernel
theorem dX3_mayBegin_29 : decode cX3_mayBegin 29 = .ok (.invokevirtual 49, 3) := by decide +kernel
theorem dX3_mayBegin_32 : decode cX3_mayBegin 32 = .ok (.ireturn, 1) := by decide +kernel
theorem dX3_mayBegin_33 : decode cX3_mayBegin 33 = .ok (.aload_n 0, 1) := by decide +kernel
theorem dX3_mayBegin_34 : decode cX3_mayBegin 34 = .ok (.getfield 12, 3) := by decide +kernel
theorem dX3_mayBegin_37 : decode cX3_mayBegin 37 = .ok (.getfield 76, 3) := by decide +kernel
theorem dX3_mayBegin_40 : decode cX3_mayBegin 40 = .ok (.bipush 30, 2) := by decide +kernel
theorem dX3_mayBegin_42 : decode cX3_mayBegin 42 = .ok (.if_icmp .lt 13, 3) := by decide +kernel
theorem dX3_mayBegin_45 : decode cX3_mayBegin 45 = .ok (.aload_n 0, 1) := by decide +kernel
theorem dX3_mayBegin_46 : decode cX3_mayBegin 46 = .ok (.getfield 26, 3) := by decide +kernel
theorem dX3_mayBegin_49 : decode cX3_mayBegin 49 = .ok (.bipush 6, 2) := by decide +kernel
theorem dX3_mayBegin_51 : decode cX3_mayBegin 51 = .ok (.invokevirtual 49, 3) := by decide +kernel
theorem dX3_mayBegin_54 : decode cX3_mayBegin 54 = .ok (.ireturn, 1) := by decide +kernel
theorem dX3_mayBegin_55 : decode cX3_mayBegin 55 = .ok (.iload_n 1, 1) := by decide +kernel
theorem dX3_mayBegin_56 : decode cX3_mayBegin 56 = .ok (.invokestatic 79, 3) := by decide +kernel
theorem dX3_mayBegin_59 : decode cX3_mayBegin 59 = .ok (.ifCond .eq 23, 3) := by decide +kernel
theorem dX3_mayBegin_62 : decode cX3_mayBegin 62 = .ok (.aload_n 0, 1) := by decide +kernel
theorem dX3_mayBegin_63 : decode cX3_mayBegin 63 = .ok (.getfield 22, 3) := by decide +kernel
theorem dX3_mayBegin_66 : decode cX3_mayBegin 66 = .ok (.iconst 3, 1) := by decide +kernel
theorem dX3_mayBegin_67 : decode cX3_mayBegin 67 = .ok (.if_icmp .lt 15, 3) := by decide +kernel
theorem dX3_mayBegin_70 : decode cX3_mayBegin 70 = .ok (.aload_n 0, 1) := by decide +kernel
theorem dX3_mayBegin_71 : decode cX3_mayBegin 71 = .ok (.getfield 26, 3) := by decide +kernel
theorem dX3_mayBegin_74 : decode cX3_mayBegin 74 = .ok (.bipush 7, 2) := by decide +kernel
theorem dX3_mayBegin_76 : decode cX3_mayBegin 76 = .ok (.invokevirtual 49, 3) := by decide +kernel
theorem dX3_mayBegin_79 : decode cX3_mayBegin 79 = .ok (.ifCond .eq 7, 3) := by decide +kernel
theorem dX3_mayBegin_82 : decode cX3_mayBegin 82 = .ok (.iconst 1, 1) := by decide +kernel
theorem dX3_mayBegin_83 : decode cX3_mayBegin 83 = .ok (.goto 4, 3) := by decide +kernel
theorem dX3_mayBegin_86 : decode cX3_mayBegin 86 = .ok (.iconst 0, 1) := by decide +kernel
theorem dX3_mayBegin_87 : decode cX3_mayBegin 87 = .ok (.ireturn, 1) := by decide +kernel
theorem dX3_holdsOthers_0 : decode cX3_holdsOthers 0 = .ok (.iload_n 0, 1) := by decide +kernel
theorem dX3_holdsOthers_1 : decode cX3_holdsOthers 1 = .ok (.bipush 19, 2) := by decide +kernel
theorem dX3_holdsOthers_3 : decode cX3_holdsOthers 3 = .ok (.if_icmp .eq 9, 3) := by decide +kernel
theorem dX3_holdsOthers_6 : decode cX3_holdsOthers 6 = .ok (.iload_n 0, 1) := by decide +kernel
theorem dX3_holdsOthers_7 : decode cX3_holdsOthers 7 = .ok (.bipush 23, 2) := by decide +kernel
theorem dX3_holdsOthers_9 : decode cX3_holdsOthers 9 = .ok (.if_icmp .ne 7, 3) := by decide +kernel
theorem dX3_holdsOthers_12 : decode cX3_holdsOthers 12 = .ok (.iconst 1, 1) := by decide +kernel
theorem dX3_holdsOthers_13 : decode cX3_holdsOthers 13 = .ok (.goto 4, 3) := by decide +kernel
theorem dX3_holdsOthers_16 : decode cX3_holdsOthers 16 = .ok (.iconst 0, 1) := by decide +kernel
theorem dX3_holdsOthers_17 : decode cX3_holdsOthers 17 = .ok (.ireturn, 1) := by decide +kernel
theorem dX3_isTest_0 : decode cX3_isTest 0 = .ok (.iload_n 0, 1) := by decide +kernel
theorem dX3_isTest_1 : decode cX3_isTest 1 = .ok (.bipush 20, 2) := by decide +kernel
theorem dX3_isTest_3 : decode cX3_isTest 3 = .ok (.if_icmp .eq 15, 3) := by decide +kernel
theorem dX3_isTest_6 : decode cX3_isTest 6 = .ok (.iload_n 0, 1) := by decide +kernel
theorem dX3_isTest_7 : decode cX3_isTest 7 = .ok (.bipush 21, 2) := by decide +kernel
theorem dX3_isTest_9 : decode cX3_isTest 9 = .ok (.if_icmp .eq 9, 3) := by decide +kernel
theorem dX3_isTest_12 : decode cX3_isTest 12 = .ok (.iload_n 0, 1) := by decide +kernel
theorem dX3_isTest_13 : decode cX3_isTest 13 = .ok (.bipush 22, 2) := by decide +kernel
theorem dX3_isTest_15 : decode cX3_isTest 15 = .ok (.if_icmp .ne 7, 3) := by decide +kernel
theorem dX3_isTest_18 : decode cX3_isTest 18 = .ok (.iconst 1, 1) := by decide +kernel
theorem dX3_isTest_19 : decode cX3_isTest 19 = .ok (.goto 4, 3) := by decide +kernel
theorem dX3_isTest_22 : decode cX3_isTest 22 = .ok (.iconst 0, 1) := by decide +kernel
theorem dX3_isTest_23 : decode cX3_isTest 23 = .ok (.ireturn, 1) := by decide +kernel
theorem dX3_newLine_0 : decode cX3_newLine 0 = .ok (.aload_n 0, 1) := by decide +kernel
theorem dX3_newLine_1 : decode cX3_newLine 1 = .ok (.getfield 12, 3) := by decide +kernel
theorem dX3_newLine_4 : decode cX3_newLine 4 = .ok (.getfield 99, 3) := by decide +kernel
theorem dX3_newLine_7 : decode cX3_newLine 7 = .ok (.istore_n 2, 1) := by decide +kernel
theorem dX3_newLine_8 : decode cX3_newLine 8 = .ok (.aload_n 0, 1) := by decide +kernel
theorem dX3_newLine_9 : decode cX3_newLine 9 = .ok (.getfield 12, 3) := by decide +kernel
theorem dX3_newLine_12 : decode cX3_newLine 12 = .ok (.getfield 88, 3) := by decide +kernel
theorem dX3_newLine_15 : decode cX3_newLine 15 = .ok (.iload_n 2, 1) := by decide +kernel
theorem dX3_newLine_16 : decode cX3_newLine 16 = .ok (.iload_n 1, 1) := by decide +kernel
theorem dX3_newLine_17 : decode cX3_newLine 17 = .ok (.iastore, 1) := by decide +kernel
theorem dX3_newLine_18 : decode cX3_newLine 18 = .ok (.aload_n 0, 1) := by decide +kernel
theorem dX3_newLine_19 : decode cX3_newLine 19 = .ok (.getfield 12, 3) := by decide +kernel
theorem dX3_newLine_22 : decode cX3_newLine 22 = .ok (.getfield 67, 3) := by decide +kernel
theorem dX3_newLine_25 : decode cX3_newLine 25 = .ok (.iload_n 2, 1) := by decide +kernel
theorem dX3_newLine_26 : decode cX3_newLine 26 = .ok (.iload_n 2, 1) := by decide +kernel
theorem dX3_newLine_27 : decode cX3_newLine 27 = .ok (.iastore, 1) := by decide +kernel
theorem dX3_newLine_28 : decode cX3_newLine 28 = .ok (.aload_n 0, 1) := by decide +kernel
theorem dX3_newLine_29 : decode cX3_newLine 29 = .ok (.getfield 12, 3) := by decide +kernel
theorem dX3_newLine_32 : decode cX3_newLine 32 = .ok (.dup, 1) := by decide +kernel
theorem dX3_newLine_33 : decode cX3_newLine 33 = .ok (.getfield 99, 3) := by decide +kernel
theorem dX3_newLine_36 : decode cX3_newLine 36 = .ok (.iconst 1, 1) := by decide +kernel
theorem dX3_newLine_37 : decode cX3_newLine 37 = .ok (.iadd, 1) := by decide +kernel
theorem dX3_newLine_38 : decode cX3_newLine 38 = .ok (.putfield 99, 3) := by decide +kernel
theorem dX3_newLine_41 : decode cX3_newLine 41 = .ok (.iload_n 2, 1) := by decide +kernel
theorem dX3_newLine_42 : decode cX3_newLine 42 = .ok (.ireturn, 1) := by decide +kernel
theorem dX3_itemsOf_0 : decode cX3_itemsOf 0 = .ok (.iload_n 0, 1) := by decide +kernel
theorem dX3_itemsOf_1 : decode cX3_itemsOf 1 = .ok (.tableswitch 110 7 23 #[83, 86, 89, 92, 95, 95, 95, 110, 110, 110, 98, 101, 110, 104, 95, 107, 101], 83) := by decide +kernel
theorem dX3_itemsOf_84 : decode cX3_itemsOf 84 = .ok (.ldc 102, 2) := by decide +kernel
theorem dX3_itemsOf_86 : decode cX3_itemsOf 86 = .ok (.areturn, 1) := by decide +kernel
theorem dX3_itemsOf_87 : decode cX3_itemsOf 87 = .ok (.ldc 104, 2) := by decide +kernel
theorem dX3_itemsOf_89 : decode cX3_itemsOf 89 = .ok (.areturn, 1) := by decide +kernel
theorem dX3_itemsOf_90 : decode cX3_itemsOf 90 = .ok (.ldc 106, 2) := by decide +kernel
theorem dX3_itemsOf_92 : decode cX3_itemsOf 92 = .ok (.areturn, 1) := by decide +kernel
theorem dX3_itemsOf_93 : decode cX3_itemsOf 93 = .ok (.ldc 108, 2) := by decide +kernel
theorem dX3_itemsOf_95 : decode cX3_itemsOf 95 = .ok (.areturn, 1) := by decide +kernel
theorem dX3_itemsOf_96 : decode cX3_itemsOf 96 = .ok (.ldc 110, 2) := by decide +kernel
theorem dX3_itemsOf_98 : decode cX3_itemsOf 98 = .ok (.areturn, 1) := by decide +kernel
theorem dX3_itemsOf_99 : decode cX3_itemsOf 99 = .ok (.ldc 112, 2) := by decide +kernel
theorem dX3_itemsOf_101 : decode cX3_itemsOf 101 = .ok (.areturn, 1) := by decide +kernel
theorem dX3_itemsOf_102 : decode cX3_itemsOf 102 = .ok (.ldc 114, 2) := by decide +kernel
theorem dX3_itemsOf_104 : decode cX3_itemsOf 104 = .ok (.areturn, 1) := by decide +kernel
theorem dX3_itemsOf_105 : decode cX3_itemsOf 105 = .ok (.ldc 116, 2) := by decide +kernel
theorem dX3_itemsOf_107 : decode cX3_itemsOf 107 = .ok (.areturn, 1) := by decide +kernel
theorem dX3_itemsOf_108 : decode cX3_itemsOf 108 = .ok (.ldc 118, 2) := by decide +kernel
theorem dX3_itemsOf_110 : decode cX3_itemsOf 110 = .ok (.areturn, 1) := by decide +kernel
theorem dX3_itemsOf_111 : decode cX3_itemsOf 111 = .ok (.ldc 120, 2) := by decide +kernel
theorem dX3_itemsOf_113 : decode cX3_itemsOf 113 = .ok (.areturn, 1) := by decide +kernel
theorem dX3_takesItems_0 : decode cX3_takesItems 0 = .ok (.iconst 0, 1) := by decide +kernel
theorem dX3_takesItems_1 : decode cX3_takesItems 1 = .ok (.istore_n 3, 1) := by decide +kernel
theorem dX3_takesItems_2 : decode cX3_takesItems 2 = .ok (.iload_n 3, 1) := by decide +kernel
theorem dX3_takesItems_3 : decode cX3_takesItems 3 = .ok (.aload_n 2, 1) := by decide +kernel
theorem dX3_takesItems_4 : decode cX3_takesItems 4 = .ok (.invokevirtual 122, 3) := by decide +kernel
theorem dX3_takesItems_7 : decode cX3_takesItems 7 = .ok (.if_icmp .ge 31, 3) := by decide +kernel
theorem dX3_takesItems_10 : decode cX3_takesItems 10 = .ok (.aload_n 0, 1) := by decide +kernel
theorem dX3_takesItems_11 : decode cX3_takesItems 11 = .ok (.getfield 26, 3) := by decide +kernel
theorem dX3_takesItems_14 : decode cX3_takesItems 14 = .ok (.invokevirtual 37, 3) := by decide +kernel
theorem dX3_takesItems_17 : decode cX3_takesItems 17 = .ok (.aload_n 0, 1) := by decide +kernel
theorem dX3_takesItems_18 : decode cX3_takesItems 18 = .ok (.iload_n 1, 1) := by decide +kernel
theorem dX3_takesItems_19 : decode cX3_takesItems 19 = .ok (.aload_n 2, 1) := by decide +kernel
theorem dX3_takesItems_20 : decode cX3_takesItems 20 = .ok (.iload_n 3, 1) := by decide +kernel
theorem dX3_takesItems_21 : decode cX3_takesItems 21 = .ok (.invokevirtual 128, 3) := by decide +kernel
theorem dX3_takesItems_24 : decode cX3_takesItems 24 = .ok (.invokevirtual 132, 3) := by decide +kernel
theorem dX3_takesItems_27 : decode cX3_takesItems 27 = .ok (.ifCond .ne 5, 3) := by decide +kernel
theorem dX3_takesItems_30 : decode cX3_takesItems 30 = .ok (.iconst 0, 1) := by decide +kernel
theorem dX3_takesItems_31 : decode cX3_takesItems 31 = .ok (.ireturn, 1) := by decide +kernel
theorem dX3_takesItems_32 : decode cX3_takesItems 32 = .ok (.iinc 3 1, 3) := by decide +kernel
theorem dX3_takesItems_35 : decode cX3_takesItems 35 = .ok (.goto (-33), 3) := by decide +kernel
theorem dX3_takesItems_38 : decode cX3_takesItems 38 = .ok (.iconst 1, 1) := by decide +kernel
theorem dX3_takesItems_39 : decode cX3_takesItems 39 = .ok (.ireturn, 1) := by decide +kernel
theorem dX3_takesItem_0 : decode cX3_takesItem 0 = .ok (.iload_n 2, 1) := by decide +kernel
theorem dX3_takesItem_1 : decode cX3_takesItem 1 = .ok (.lookupswitch 388 #[(64, 236), (99, 367), (107, 199), (110, 319), (111, 282), (112, 245), (115, 137), (118, 75)], 75) := by decide +kernel
theorem dX3_takesItem_76 : decode cX3_takesItem 76 = .ok (.aload_n 0, 1) := by decide +kernel
theorem dX3_takesItem_77 : decode cX3_takesItem 77 = .ok (.getfield 12, 3) := by decide +kernel
theorem dX3_takesItem_80 : decode cX3_takesItem 80 = .ok (.getfield 136, 3) := by decide +kernel
theorem dX3_takesItem_83 : decode cX3_takesItem 83 = .ok (.iload_n 1, 1) := by decide +kernel
theorem dX3_takesItem_84 : decode cX3_takesItem 84 = .ok (.aload_n 0, 1) := by decide +kernel
theorem dX3_takesItem_85 : decode cX3_takesItem 85 = .ok (.getfield 30, 3) := by decide +kernel
theorem dX3_takesItem_88 : decode cX3_takesItem 88 = .ok (.aload_n 0, 1) := by decide +kernel
theorem dX3_takesItem_89 : decode cX3_takesItem 89 = .ok (.getfield 26, 3) := by decide +kernel
theorem dX3_takesItem_92 : decode cX3_takesItem 92 = .ok (.getfield 139, 3) := by decide +kernel
theorem dX3_takesItem_95 : decode cX3_takesItem 95 = .ok (.invokevirtual 143, 3) := by decide +kernel
theorem dX3_takesItem_98 : decode cX3_takesItem 98 = .ok (.iastore, 1) := by decide +kernel
theorem dX3_takesItem_99 : decode cX3_takesItem 99 = .ok (.aload_n 0, 1) := by decide +kernel
theorem dX3_takesItem_100 : decode cX3_takesItem 100 = .ok (.aload_n 0, 1) := by decide +kernel
theorem dX3_takesItem_101 : decode cX3_takesItem 101 = .ok (.getfield 12, 3) := by decide +kernel
theorem dX3_takesItem_104 : decode cX3_takesItem 104 = .ok (.getfield 136, 3) := by decide +kernel
theorem dX3_takesItem_107 : decode cX3_takesItem 107 = .ok (.iload_n 1, 1) := by decide +kernel
theorem dX3_takesItem_108 : decode cX3_takesItem 108 = .ok (.iaload, 1) := by decide +kernel
theorem dX3_takesItem_109 : decode cX3_takesItem 109 = .ok (.invokevirtual 149, 3) := by decide +kernel
theorem dX3_takesItem_112 : decode cX3_takesItem 112 = .ok (.ifCond .eq 24, 3) := by decide +kernel
theorem dX3_takesItem_115 : decode cX3_takesItem 115 = .ok (.aload_n 0, 1) := by decide +kernel
theorem dX3_takesItem_116 : decode cX3_takesItem 116 = .ok (.aload_n 0, 1) := by decide +kernel
theorem dX3_takesItem_117 : decode cX3_takesItem 117 = .ok (.getfield 12, 3) := by decide +kernel
theorem dX3_takesItem_120 : decode cX3_takesItem 120 = .ok (.getfield 136, 3) := by decide +kernel
theorem dX3_takesItem_123 : decode cX3_takesItem 123 = .ok (.iload_n 1, 1) := by decide +kernel
theorem dX3_takesItem_124 : decode cX3_takesItem 124 = .ok (.iaload, 1) := by decide +kernel
theorem dX3_takesItem_125 : decode cX3_takesItem 125 = .ok (.iconst 0, 1) := by decide +kernel
theorem dX3_takesItem_126 : decode cX3_takesItem 126 = .ok (.invokevirtual 152, 3) := by decide +kernel
theorem dX3_takesItem_129 : decode cX3_takesItem 129 = .ok (.ifCond .eq 7, 3) := by decide +kernel
theorem dX3_takesItem_132 : decode cX3_takesItem 132 = .ok (.iconst 1, 1) := by decide +kernel
theorem dX3_takesItem_133 : decode cX3_takesItem 133 = .ok (.goto 4, 3) := by decide +kernel
theorem dX3_takesItem_136 : decode cX3_takesItem 136 = .ok (.iconst 0, 1) := by decide +kernel
theorem dX3_takesItem_137 : decode cX3_takesItem 137 = .ok (.ireturn, 1) := by decide +kernel
theorem dX3_takesItem_138 : decode cX3_takesItem 138 = .ok (.aload_n 0, 1) := by decide +kernel
theorem dX3_takesItem_139 : decode cX3_takesItem 139 = .ok (.getfield 12, 3) := by decide +kernel
theorem dX3_takesItem_142 : decode cX3_takesItem 142 = .ok (.getfield 136, 3) := by decide +kernel
theorem dX3_takesItem_145 : decode cX3_takesItem 145 = .ok (.iload_n 1, 1) := by decide +kernel
theorem dX3_takesItem_146 : decode cX3_takesItem 146 = .ok (.aload_n 0, 1) := by decide +kernel
theorem dX3_takesItem_147 : decode cX3_takesItem 147 = .ok (.getfield 30, 3) := by decide +kernel
theorem dX3_takesItem_150 : decode cX3_takesItem 150 = .ok (.aload_n 0, 1) := by decide +kernel
theorem dX3_takesItem_151 : decode cX3_takesItem 151 = .ok (.getfield 26, 3) := by decide +kernel
theorem dX3_takesItem_154 : decode cX3_takesItem 154 = .ok (.getfield 139, 3) := by decide +kernel
theorem dX3_takesItem_157 : decode cX3_takesItem 157 = .ok (.invokevirtual 143, 3) := by decide +kernel
theorem dX3_takesItem_160 : decode cX3_takesItem 160 = .ok (.iastore, 1) := by decide +kernel
theorem dX3_takesItem_161 : decode cX3_takesItem 161 = .ok (.aload_n 0, 1) := by decide +kernel
theorem dX3_takesItem_162 : decode cX3_takesItem 162 = .ok (.aload_n 0, 1) := by decide +kernel
theorem dX3_takesItem_163 : decode cX3_takesItem 163 = .ok (.getfield 12, 3) := by decide +kernel
theorem dX3_takesItem_166 : decode cX3_takesItem 166 = .ok (.getfield 136, 3) := by decide +kernel
theorem dX3_takesItem_169 : decode cX3_takesItem 169 = .ok (.iload_n 1, 1) := by decide +kernel
theorem dX3_takesItem_170 : decode cX3_takesItem 170 = .ok (.iaload, 1) := by decide +kernel
theorem dX3_takesItem_171 : decode cX3_takesItem 171 = .ok (.invokevirtual 149, 3) := by decide +kernel
theorem dX3_takesItem_174 : decode cX3_takesItem 174 = .ok (.ifCond .eq 24, 3) := by decide +kernel
theorem dX3_takesItem_177 : decode cX3_takesItem 177 = .ok (.aload_n 0, 1) := by decide +kernel
theorem dX3_takesItem_178 : decode cX3_takesItem 178 = .ok (.aload_n 0, 1) := by decide +kernel
theorem dX3_takesItem_179 : decode cX3_takesItem 179 = .ok (.getfield 12, 3) := by decide +kernel
theorem dX3_takesItem_182 : decode cX3_takesItem 182 = .ok (.getfield 136, 3) := by decide +kernel
theorem dX3_takesItem_185 : decode cX3_takesItem 185 = .ok (.iload_n 1, 1) := by decide +kernel
theorem dX3_takesItem_186 : decode cX3_takesItem 186 = .ok (.iaload, 1) := by decide +kernel
theorem dX3_takesItem_187 : decode cX3_takesItem 187 = .ok (.iconst 1, 1) := by decide +kernel
theorem dX3_takesItem_188 : decode cX3_takesItem 188 = .ok (.invokevirtual 152, 3) := by decide +kernel
theorem dX3_takesItem_191 : decode cX3_takesItem 191 = .ok (.ifCond .eq 7, 3) := by decide +kernel
theorem dX3_takesItem_194 : decode cX3_takesItem 194 = .ok (.iconst 1, 1) := by decide +kernel
theorem dX3_takesItem_195 : decode cX3_takesItem 195 = .ok (.goto 4, 3) := by decide +kernel
theorem dX3_takesItem_198 : decode cX3_takesItem 198 = .ok (.iconst 0, 1) := by decide +kernel
theorem dX3_takesItem_199 : decode cX3_takesItem 199 = .ok (.ireturn, 1) := by decide +kernel
theorem dX3_takesItem_200 : decode cX3_takesItem 200 = .ok (.aload_n 0, 1) := by decide +kernel
theorem dX3_takesItem_201 : decode cX3_takesItem 201 = .ok (.getfield 12, 3) := by decide +kernel
theorem dX3_takesItem_204 : decode cX3_takesItem 204 = .ok (.getfield 136, 3) := by decide +kernel
theorem dX3_takesItem_207 : decode cX3_takesItem 207 = .ok (.iload_n 1, 1) := by decide +kernel
theorem dX3_takesItem_208 : decode cX3_takesItem 208 = .ok (.aload_n 0, 1) := by decide +kernel
theorem dX3_takesItem_209 : decode cX3_takesItem 209 = .ok (.getfield 30, 3) := by decide +kernel
theorem dX3_takesItem_212 : decode cX3_takesItem 212 = .ok (.aload_n 0, 1) := by decide +kernel
theorem dX3_takesItem_213 : decode cX3_takesItem 213 = .ok (.getfield 26, 3) := by decide +kernel
theorem dX3_takesItem_216 : decode cX3_takesItem 216 = .ok (.getfield 139, 3) := by decide +kernel
theorem dX3_takesItem_219 : decode cX3_takesItem 219 = .ok (.invokevirtual 143, 3) := by decide +kernel
theorem dX3_takesItem_222 : decode cX3_takesItem 222 = .ok (.iastore, 1) := by decide +kernel
theorem dX3_takesItem_223 : decode cX3_takesItem 223 = .ok (.aload_n 0, 1) := by decide +kernel
theorem dX3_takesItem_224 : decode cX3_takesItem 224 = .ok (.aload_n 0, 1) := by decide +kernel
theorem dX3_takesItem_225 : decode cX3_takesItem 225 = .ok (.getfield 12, 3) := by decide +kernel
theorem dX3_takesItem_228 : decode cX3_takesItem 228 = .ok (.getfield 136, 3) := by decide +kernel
theorem dX3_takesItem_231 : decode cX3_takesItem 231 = .ok (.iload_n 1, 1) := by decide +kernel
theorem dX3_takesItem_232 : decode cX3_takesItem 232 = .ok (.iaload, 1) := by decide +kernel
theorem dX3_takesItem_233 : decode cX3_takesItem 233 = .ok (.invokevirtual 149, 3) := by decide +kernel
theorem dX3_takesItem_236 : decode cX3_takesItem 236 = .ok (.ireturn, 1) := by decide +kernel
theorem dX3_takesItem_237 : decode cX3_takesItem 237 = .ok (.aload_n 0, 1) := by decide +kernel
theorem dX3_takesItem_238 : decode cX3_takesItem 238 = .ok (.getfield 26, 3) := by decide +kernel
theorem dX3_takesItem_241 : decode cX3_takesItem 241 = .ok (.iconst 4, 1) := by decide +kernel
theorem dX3_takesItem_242 : decode cX3_takesItem 242 = .ok (.invokevirtual 156, 3) := by decide +kernel
theorem dX3_takesItem_245 : decode cX3_takesItem 245 = .ok (.ireturn, 1) := by decide +kernel
theorem dX3_takesItem_246 : decode cX3_takesItem 246 = .ok (.aload_n 0, 1) := by decide +kernel
theorem dX3_takesItem_247 : decode cX3_takesItem 247 = .ok (.getfield 12, 3) := by decide +kernel
theorem dX3_takesItem_250 : decode cX3_takesItem 250 = .ok (.getfield 159, 3) := by decide +kernel
theorem dX3_takesItem_253 : decode cX3_takesItem 253 = .ok (.iload_n 1, 1) := by decide +kernel
theorem dX3_takesItem_254 : decode cX3_takesItem 254 = .ok (.aload_n 0, 1) := by decide +kernel
theorem dX3_takesItem_255 : decode cX3_takesItem 255 = .ok (.getfield 30, 3) := by decide +kernel
theorem dX3_takesItem_258 : decode cX3_takesItem 258 = .ok (.aload_n 0, 1) := by decide +kernel
theorem dX3_takesItem_259 : decode cX3_takesItem 259 = .ok (.getfield 26, 3) := by decide +kernel
theorem dX3_takesItem_262 : decode cX3_takesItem 262 = .ok (.getfield 139, 3) := by decide +kernel
theorem dX3_takesItem_265 : decode cX3_takesItem 265 = .ok (.invokevirtual 162, 3) := by decide +kernel
theorem dX3_takesItem_268 : decode cX3_takesItem 268 = .ok (.iastore, 1) := by decide +kernel
theorem dX3_takesItem_269 : decode cX3_takesItem 269 = .ok (.aload_n 0, 1) := by decide +kernel
theorem dX3_takesItem_270 : decode cX3_takesItem 270 = .ok (.aload_n 0, 1) := by decide +kernel
theorem dX3_takesItem_271 : decode cX3_takesItem 271 = .ok (.getfield 12, 3) := by decide +kernel
theorem dX3_takesItem_274 : decode cX3_takesItem 274 = .ok (.getfield 159, 3) := by decide +kernel
theorem dX3_takesItem_277 : decode cX3_takesItem 277 = .ok (.iload_n 1, 1) := by decide +kernel
theorem dX3_takesItem_278 : decode cX3_takesItem 278 = .ok (.iaload, 1) := by decide +kernel
theorem dX3_takesItem_279 : decode cX3_takesItem 279 = .ok (.invokevirtual 165, 3) := by decide +kernel
theorem dX3_takesItem_282 : decode cX3_takesItem 282 = .ok (.ireturn, 1) := by decide +kernel
theorem dX3_takesItem_283 : decode cX3_takesItem 283 = .ok (.aload_n 0, 1) := by decide +kernel
theorem dX3_takesItem_284 : decode cX3_takesItem 284 = .ok (.getfield 12, 3) := by decide +kernel
theorem dX3_takesItem_287 : decode cX3_takesItem 287 = .ok (.getfield 168, 3) := by decide +kernel
theorem dX3_takesItem_290 : decode cX3_takesItem 290 = .ok (.iload_n 1, 1) := by decide +kernel
theorem dX3_takesItem_291 : decode cX3_takesItem 291 = .ok (.aload_n 0, 1) := by decide +kernel
theorem dX3_takesItem_292 : decode cX3_takesItem 292 = .ok (.getfield 30, 3) := by decide +kernel
theorem dX3_takesItem_295 : decode cX3_takesItem 295 = .ok (.aload_n 0, 1) := by decide +kernel
theorem dX3_takesItem_296 : decode cX3_takesItem 296 = .ok (.getfield 26, 3) := by decide +kernel
theorem dX3_takesItem_299 : decode cX3_takesItem 299 = .ok (.getfield 139, 3) := by decide +kernel
theorem dX3_takesItem_302 : decode cX3_takesItem 302 = .ok (.invokevirtual 162, 3) := by decide +kernel
theorem dX3_takesItem_305 : decode cX3_takesItem 305 = .ok (.iastore, 1) := by decide +kernel
theorem dX3_takesItem_306 : decode cX3_takesItem 306 = .ok (.aload_n 0, 1) := by decide +kernel
theorem dX3_takesItem_307 : decode cX3_takesItem 307 = .ok (.aload_n 0, 1) := by decide +kernel
theorem dX3_takesItem_308 : decode cX3_takesItem 308 = .ok (.getfield 12, 3) := by decide +kernel
theorem dX3_takesItem_311 : decode cX3_takesItem 311 = .ok (.getfield 168, 3) := by decide +kernel
theorem dX3_takesItem_314 : decode cX3_takesItem 314 = .ok (.iload_n 1, 1) := by decide +kernel
theorem dX3_takesItem_315 : decode cX3_takesItem 315 = .ok (.iaload, 1) := by decide +kernel
theorem dX3_takesItem_316 : decode cX3_takesItem 316 = .ok (.invokevirtual 165, 3) := by decide +kernel
theorem dX3_takesItem_319 : decode cX3_takesItem 319 = .ok (.ireturn, 1) := by decide +kernel
theorem dX3_takesItem_320 : decode cX3_takesItem 320 = .ok (.aload_n 0, 1) := by decide +kernel
theorem dX3_takesItem_321 : decode cX3_takesItem 321 = .ok (.getfield 12, 3) := by decide +kernel
theorem dX3_takesItem_324 : decode cX3_takesItem 324 = .ok (.getfield 171, 3) := by decide +kernel
theorem dX3_takesItem_327 : decode cX3_takesItem 327 = .ok (.iload_n 1, 1) := by decide +kernel
theorem dX3_takesItem_328 : decode cX3_takesItem 328 = .ok (.aload_n 0, 1) := by decide +kernel
theorem dX3_takesItem_329 : decode cX3_takesItem 329 = .ok (.getfield 26, 3) := by decide +kernel
theorem dX3_takesItem_332 : decode cX3_takesItem 332 = .ok (.getfield 174, 3) := by decide +kernel
theorem dX3_takesItem_335 : decode cX3_takesItem 335 = .ok (.iastore, 1) := by decide +kernel
theorem dX3_takesItem_336 : decode cX3_takesItem 336 = .ok (.aload_n 0, 1) := by decide +kernel
theorem dX3_takesItem_337 : decode cX3_takesItem 337 = .ok (.getfield 26, 3) := by decide +kernel
theorem dX3_takesItem_340 : decode cX3_takesItem 340 = .ok (.aload_n 0, 1) := by decide +kernel
theorem dX3_takesItem_341 : decode cX3_takesItem 341 = .ok (.getfield 12, 3) := by decide +kernel
theorem dX3_takesItem_344 : decode cX3_takesItem 344 = .ok (.getfield 88, 3) := by decide +kernel
theorem dX3_takesItem_347 : decode cX3_takesItem 347 = .ok (.iload_n 1, 1) := by decide +kernel
theorem dX3_takesItem_348 : decode cX3_takesItem 348 = .ok (.iaload, 1) := by decide +kernel
theorem dX3_takesItem_349 : decode cX3_takesItem 349 = .ok (.invokestatic 176, 3) := by decide +kernel
theorem dX3_takesItem_352 : decode cX3_takesItem 352 = .ok (.aload_n 0, 1) := by decide +kernel
theorem dX3_takesItem_353 : decode cX3_takesItem 353 = .ok (.getfield 12, 3) := by decide +kernel
theorem dX3_takesItem_356 : decode cX3_takesItem 356 = .ok (.getfield 88, 3) := by decide +kernel
theorem dX3_takesItem_359 : decode cX3_takesItem 359 = .ok (.iload_n 1, 1) := by decide +kernel
theorem dX3_takesItem_360 : decode cX3_takesItem 360 = .ok (.iaload, 1) := by decide +kernel
theorem dX3_takesItem_361 : decode cX3_takesItem 361 = .ok (.invokestatic 179, 3) := by decide +kernel
theorem dX3_takesItem_364 : decode cX3_takesItem 364 = .ok (.invokevirtual 182, 3) := by decide +kernel
theorem dX3_takesItem_367 : decode cX3_takesItem 367 = .ok (.ireturn, 1) := by decide +kernel
theorem dX3_takesItem_368 : decode cX3_takesItem 368 = .ok (.aload_n 0, 1) := by decide +kernel
theorem dX3_takesItem_369 : decode cX3_takesItem 369 = .ok (.getfield 12, 3) := by decide +kernel
theorem dX3_takesItem_372 : decode cX3_takesItem 372 = .ok (.getfield 168, 3) := by decide +kernel
theorem dX3_takesItem_375 : decode cX3_takesItem 375 = .ok (.iload_n 1, 1) := by decide +kernel
theorem dX3_takesItem_376 : decode cX3_takesItem 376 = .ok (.aload_n 0, 1) := by decide +kernel
theorem dX3_takesItem_377 : decode cX3_takesItem 377 = .ok (.getfield 26, 3) := by decide +kernel
theorem dX3_takesItem_380 : decode cX3_takesItem 380 = .ok (.getfield 185, 3) := by decide +kernel
theorem dX3_takesItem_383 : decode cX3_takesItem 383 = .ok (.iastore, 1) := by decide +kernel
theorem dX3_takesItem_384 : decode cX3_takesItem 384 = .ok (.aload_n 0, 1) := by decide +kernel
theorem dX3_takesItem_385 : decode cX3_takesItem 385 = .ok (.invokevirtual 188, 3) := by decide +kernel
theorem dX3_takesItem_388 : decode cX3_takesItem 388 = .ok (.ireturn, 1) := by decide +kernel
theorem dX3_takesItem_389 : decode cX3_takesItem 389 = .ok (.aload_n 0, 1) := by decide +kernel
theorem dX3_takesItem_390 : decode cX3_takesItem 390 = .ok (.getfield 26, 3) := by decide +kernel
theorem dX3_takesItem_393 : decode cX3_takesItem 393 = .ok (.bipush 59, 2) := by decide +kernel
theorem dX3_takesItem_395 : decode cX3_takesItem 395 = .ok (.invokevirtual 70, 3) := by decide +kernel
theorem dX3_takesItem_398 : decode cX3_takesItem 398 = .ok (.ireturn, 1) := by decide +kernel
theorem dX3_isKeyName_0 : decode cX3_isKeyName 0 = .ok (.aload_n 0, 1) := by decide +kernel
theorem dX3_isKeyName_1 : decode cX3_isKeyName 1 = .ok (.getfield 26, 3) := by decide +kernel
theorem dX3_isKeyName_4 : decode cX3_isKeyName 4 = .ok (.invokevirtual 191, 3) := by decide +kernel
theorem dX3_isKeyName_7 : decode cX3_isKeyName 7 = .ok (.ifCond .eq 23, 3) := by decide +kernel
theorem dX3_isKeyName_10 : decode cX3_isKeyName 10 = .ok (.iload_n 1, 1) := by decide +kernel
theorem dX3_isKeyName_11 : decode cX3_isKeyName 11 = .ok (.iconst (-1), 1) := by decide +kernel
theorem dX3_isKeyName_12 : decode cX3_isKeyName 12 = .ok (.if_icmp .ne 14, 3) := by decide +kernel
theorem dX3_isKeyName_15 : decode cX3_isKeyName 15 = .ok (.aload_n 0, 1) := by decide +kernel
theorem dX3_isKeyName_16 : decode cX3_isKeyName 16 = .ok (.getfield 26, 3) := by decide +kernel
theorem dX3_isKeyName_19 : decode cX3_isKeyName 19 = .ok (.iconst 3, 1) := by decide +kernel
theorem dX3_isKeyName_20 : decode cX3_isKeyName 20 = .ok (.invokevirtual 49, 3) := by decide +kernel
theorem dX3_isKeyName_23 : decode cX3_isKeyName 23 = .ok (.ifCond .eq 7, 3) := by decide +kernel
theorem dX3_isKeyName_26 : decode cX3_isKeyName 26 = .ok (.iconst 1, 1) := by decide +kernel
theorem dX3_isKeyName_27 : decode cX3_isKeyName 27 = .ok (.goto 4, 3) := by decide +kernel
theorem dX3_isKeyName_30 : decode cX3_isKeyName 30 = .ok (.iconst 0, 1) := by decide +kernel
theorem dX3_isKeyName_31 : decode cX3_isKeyName 31 = .ok (.ireturn, 1) := by decide +kernel
theorem dX3_isKeeperName_0 : decode cX3_isKeeperName 0 = .ok (.aload_n 0, 1) := by decide +kernel
theorem dX3_isKeeperName_1 : decode cX3_isKeeperName 1 = .ok (.getfield 26, 3) := by decide +kernel
theorem dX3_isKeeperName_4 : decode cX3_isKeeperName 4 = .ok (.invokevirtual 191, 3) := by decide +kernel
theorem dX3_isKeeperName_7 : decode cX3_isKeeperName 7 = .ok (.ifCond .eq 23, 3) := by decide +kernel
theorem dX3_isKeeperName_10 : decode cX3_isKeeperName 10 = .ok (.iload_n 1, 1) := by decide +kernel
theorem dX3_isKeeperName_11 : decode cX3_isKeeperName 11 = .ok (.iconst (-1), 1) := by decide +kernel
theorem dX3_isKeeperName_12 : decode cX3_isKeeperName 12 = .ok (.if_icmp .ne 14, 3) := by decide +kernel
theorem dX3_isKeeperName_15 : decode cX3_isKeeperName 15 = .ok (.aload_n 0, 1) := by decide +kernel
theorem dX3_isKeeperName_16 : decode cX3_isKeeperName 16 = .ok (.getfield 26, 3) := by decide +kernel
theorem dX3_isKeeperName_19 : decode cX3_isKeeperName 19 = .ok (.iconst 3, 1) := by decide +kernel
theorem dX3_isKeeperName_20 : decode cX3_isKeeperName 20 = .ok (.invokevirtual 49, 3) := by decide +kernel
theorem dX3_isKeeperName_23 : decode cX3_isKeeperName 23 = .ok (.ifCond .eq 7, 3) := by decide +kernel
theorem dX3_isKeeperName_26 : decode cX3_isKeeperName 26 = .ok (.iconst 1, 1) := by decide +kernel
theorem dX3_isKeeperName_27 : decode cX3_isKeeperName 27 = .ok (.goto 4, 3) := by decide +kernel
theorem dX3_isKeeperName_30 : decode cX3_isKeeperName 30 = .ok (.iconst 0, 1) := by decide +kernel
theorem dX3_isKeeperName_31 : decode cX3_isKeeperName 31 = .ok (.ireturn, 1) := by decide +kernel
theorem dX3_isSumOrNot_0 : decode cX3_isSumOrNot 0 = .ok (.aload_n 0, 1) := by decide +kernel
theorem dX3_isSumOrNot_1 : decode cX3_isSumOrNot 1 = .ok (.getfield 30, 3) := by decide +kernel
theorem dX3_isSumOrNot_4 : decode cX3_isSumOrNot 4 = .ok (.iload_n 1, 1) := by decide +kernel
theorem dX3_isSumOrNot_5 : decode cX3_isSumOrNot 5 = .ok (.invokevirtual 194, 3) := by decide +kernel
theorem dX3_isSumOrNot_8 : decode cX3_isSumOrNot 8 = .ok (.iload_n 2, 1) := by decide +kernel
theorem dX3_isSumOrNot_9 : decode cX3_isSumOrNot 9 = .ok (.if_icmp .eq 14, 3) := by decide +kernel
theorem dX3_isSumOrNot_12 : decode cX3_isSumOrNot 12 = .ok (.aload_n 0, 1) := by decide +kernel
theorem dX3_isSumOrNot_13 : decode cX3_isSumOrNot 13 = .ok (.getfield 26, 3) := by decide +kernel
theorem dX3_isSumOrNot_16 : decode cX3_isSumOrNot 16 = .ok (.iconst 5, 1) := by decide +kernel
theorem dX3_isSumOrNot_17 : decode cX3_isSumOrNot 17 = .ok (.invokevirtual 49, 3) := by decide +kernel
theorem dX3_isSumOrNot_20 : decode cX3_isSumOrNot 20 = .ok (.ifCond .eq 7, 3) := by decide +kernel
theorem dX3_isSumOrNot_23 : decode cX3_isSumOrNot 23 = .ok (.iconst 1, 1) := by decide +kernel
theorem dX3_isSumOrNot_24 : decode cX3_isSumOrNot 24 = .ok (.goto 4, 3) := by decide +kernel
theorem dX3_isSumOrNot_27 : decode cX3_isSumOrNot 27 = .ok (.iconst 0, 1) := by decide +kernel
theorem dX3_isSumOrNot_28 : decode cX3_isSumOrNot 28 = .ok (.ireturn, 1) := by decide +kernel
theorem dX3_isCompares_0 : decode cX3_isCompares 0 = .ok (.aload_n 0, 1) := by decide +kernel
theorem dX3_isCompares_1 : decode cX3_isCompares 1 = .ok (.getfield 26, 3) := by decide +kernel
theorem dX3_isCompares_4 : decode cX3_isCompares 4 = .ok (.getfield 42, 3) := by decide +kernel
theorem dX3_isCompares_7 : decode cX3_isCompares 7 = .ok (.iconst 3, 1) := by decide +kernel
theorem dX3_isCompares_8 : decode cX3_isCompares 8 = .ok (.if_icmp .ne 15, 3) := by decide +kernel
theorem dX3_isCompares_11 : decode cX3_isCompares 11 = .ok (.aload_n 0, 1) := by decide +kernel
theorem dX3_isCompares_12 : decode cX3_isCompares 12 = .ok (.getfield 26, 3) := by decide +kernel
theorem dX3_isCompares_15 : decode cX3_isCompares 15 = .ok (.getfield 185, 3) := by decide +kernel
theorem dX3_isCompares_18 : decode cX3_isCompares 18 = .ok (.bipush 59, 2) := by decide +kernel
theorem dX3_isCompares_20 : decode cX3_isCompares 20 = .ok (.if_icmp .ne 14, 3) := by decide +kernel
theorem dX3_isCompares_23 : decode cX3_isCompares 23 = .ok (.aload_n 0, 1) := by decide +kernel
theorem dX3_isCompares_24 : decode cX3_isCompares 24 = .ok (.getfield 26, 3) := by decide +kernel
theorem dX3_isCompares_27 : decode cX3_isCompares 27 = .ok (.iconst 2, 1) := by decide +kernel
theorem dX3_isCompares_28 : decode cX3_isCompares 28 = .ok (.invokevirtual 49, 3) := by decide +kernel
theorem dX3_isCompares_31 : decode cX3_isCompares 31 = .ok (.ifCond .eq 7, 3) := by decide +kernel
theorem dX3_isCompares_34 : decode cX3_isCompares 34 = .ok (.iconst 1, 1) := by decide +kernel
theorem dX3_isCompares_35 : decode cX3_isCompares 35 = .ok (.goto 4, 3) := by decide +kernel
theorem dX3_isCompares_38 : decode cX3_isCompares 38 = .ok (.iconst 0, 1) := by decide +kernel
theorem dX3_isCompares_39 : decode cX3_isCompares 39 = .ok (.ireturn, 1) := by decide +kernel
theorem dX3_leastFor_0 : decode cX3_leastFor 0 = .ok (.iload_n 0, 1) := by decide +kernel
theorem dX3_leastFor_1 : decode cX3_leastFor 1 = .ok (.bipush 9, 2) := by decide +kernel
theorem dX3_leastFor_3 : decode cX3_leastFor 3 = .ok (.if_icmp .eq 9, 3) := by decide +kernel
theorem dX3_leastFor_6 : decode cX3_leastFor 6 = .ok (.iload_n 0, 1) := by decide +kernel
theorem dX3_leastFor_7 : decode cX3_leastFor 7 = .ok (.bipush 23, 2) := by decide +kernel
theorem dX3_leastFor_9 : decode cX3_leastFor 9 = .ok (.if_icmp .ne 7, 3) := by decide +kernel
theorem dX3_leastFor_12 : decode cX3_leastFor 12 = .ok (.iconst 1, 1) := by decide +kernel
theorem dX3_leastFor_13 : decode cX3_leastFor 13 = .ok (.goto 4, 3) := by decide +kernel
theorem dX3_leastFor_16 : decode cX3_leastFor 16 = .ok (.iconst 0, 1) := by decide +kernel
theorem dX3_leastFor_17 : decode cX3_leastFor 17 = .ok (.ireturn, 1) := by decide +kernel
theorem dX3_mostFor_0 : decode cX3_mostFor 0 = .ok (.iload_n 0, 1) := by decide +kernel
theorem dX3_mostFor_1 : decode cX3_mostFor 1 = .ok (.bipush 18, 2) := by decide +kernel
theorem dX3_mostFor_3 : decode cX3_mostFor 3 = .ok (.if_icmp .ne 6, 3) := by decide +kernel
theorem dX3_mostFor_6 : decode cX3_mostFor 6 = .ok (.bipush 16, 2) := by decide +kernel
theorem dX3_mostFor_8 : decode cX3_mostFor 8 = .ok (.ireturn, 1) := by decide +kernel
theorem dX3_mostFor_9 : decode cX3_mostFor 9 = .ok (.iload_n 0, 1) := by decide +kernel
theorem dX3_mostFor_10 : decode cX3_mostFor 10 = .ok (.bipush 23, 2) := by decide +kernel
theorem dX3_mostFor_12 : decode cX3_mostFor 12 = .ok (.if_icmp .eq 9, 3) := by decide +kernel
theorem dX3_mostFor_15 : decode cX3_mostFor 15 = .ok (.iload_n 0, 1) := by decide +kernel
theorem dX3_mostFor_16 : decode cX3_mostFor 16 = .ok (.bipush 22, 2) := by decide +kernel
theorem dX3_mostFor_18 : decode cX3_mostFor 18 = .ok (.if_icmp .ne 8, 3) := by decide +kernel
theorem dX3_mostFor_21 : decode cX3_mostFor 21 = .ok (.bipush 99, 2) := by decide +kernel
theorem dX3_mostFor_23 : decode cX3_mostFor 23 = .ok (.goto 6, 3) := by decide +kernel
theorem dX3_mostFor_26 : decode cX3_mostFor 26 = .ok (.sipush 999, 3) := by decide +kernel
theorem dX3_mostFor_29 : decode cX3_mostFor 29 = .ok (.ireturn, 1) := by decide +kernel
theorem dX3_takesSet_0 : decode cX3_takesSet 0 = .ok (.iconst 0, 1) := by decide +kernel
theorem dX3_takesSet_1 : decode cX3_takesSet 1 = .ok (.istore_n 2, 1) := by decide +kernel
theorem dX3_takesSet_2 : decode cX3_takesSet 2 = .ok (.iconst 0, 1) := by decide +kernel
theorem dX3_takesSet_3 : decode cX3_takesSet 3 = .ok (.istore_n 3, 1) := by decide +kernel
theorem dX3_takesSet_4 : decode cX3_takesSet 4 = .ok (.iload_n 3, 1) := by decide +kernel
theorem dX3_takesSet_5 : decode cX3_takesSet 5 = .ok (.bipush 6, 2) := by decide +kernel
theorem dX3_takesSet_7 : decode cX3_takesSet 7 = .ok (.if_icmp .gt 103, 3) := by decide +kernel
theorem dX3_takesSet_10 : decode cX3_takesSet 10 = .ok (.aload_n 0, 1) := by decide +kernel
theorem dX3_takesSet_11 : decode cX3_takesSet 11 = .ok (.getfield 26, 3) := by decide +kernel
theorem dX3_takesSet_14 : decode cX3_takesSet 14 = .ok (.invokevirtual 37, 3) := by decide +kernel
theorem dX3_takesSet_17 : decode cX3_takesSet 17 = .ok (.iload_n 2, 1) := by decide +kernel
theorem dX3_takesSet_18 : decode cX3_takesSet 18 = .ok (.ifCond .eq 34, 3) := by decide +kernel
theorem dX3_takesSet_21 : decode cX3_takesSet 21 = .ok (.aload_n 0, 1) := by decide +kernel
theorem dX3_takesSet_22 : decode cX3_takesSet 22 = .ok (.getfield 26, 3) := by decide +kernel
theorem dX3_takesSet_25 : decode cX3_takesSet 25 = .ok (.getfield 42, 3) := by decide +kernel
theorem dX3_takesSet_28 : decode cX3_takesSet 28 = .ok (.iconst 3, 1) := by decide +kernel
theorem dX3_takesSet_29 : decode cX3_takesSet 29 = .ok (.if_icmp .ne 23, 3) := by decide +kernel
theorem dX3_takesSet_32 : decode cX3_takesSet 32 = .ok (.aload_n 0, 1) := by decide +kernel
theorem dX3_takesSet_33 : decode cX3_takesSet 33 = .ok (.getfield 12, 3) := by decide +kernel
theorem dX3_takesSet_36 : decode cX3_takesSet 36 = .ok (.getfield 171, 3) := by decide +kernel
theorem dX3_takesSet_39 : decode cX3_takesSet 39 = .ok (.iload_n 1, 1) := by decide +kernel
theorem dX3_takesSet_40 : decode cX3_takesSet 40 = .ok (.iload_n 2, 1) := by decide +kernel
theorem dX3_takesSet_41 : decode cX3_takesSet 41 = .ok (.iastore, 1) := by decide +kernel
theorem dX3_takesSet_42 : decode cX3_takesSet 42 = .ok (.aload_n 0, 1) := by decide +kernel
theorem dX3_takesSet_43 : decode cX3_takesSet 43 = .ok (.getfield 26, 3) := by decide +kernel
theorem dX3_takesSet_46 : decode cX3_takesSet 46 = .ok (.bipush 59, 2) := by decide +kernel
theorem dX3_takesSet_48 : decode cX3_takesSet 48 = .ok (.invokevirtual 70, 3) := by decide +kernel
theorem dX3_takesSet_51 : decode cX3_takesSet 51 = .ok (.ireturn, 1) := by decide +kernel
theorem dX3_takesSet_52 : decode cX3_takesSet 52 = .ok (.aload_n 0, 1) := by decide +kernel
theorem dX3_takesSet_53 : decode cX3_takesSet 53 = .ok (.getfield 30, 3) := by decide +kernel
theorem dX3_takesSet_56 : decode cX3_takesSet 56 = .ok (.aload_n 0, 1) := by decide +kernel
theorem dX3_takesSet_57 : decode cX3_takesSet 57 = .ok (.getfield 26, 3) := by decide +kernel
theorem dX3_takesSet_60 : decode cX3_takesSet 60 = .ok (.getfield 139, 3) := by decide +kernel
theorem dX3_takesSet_63 : decode cX3_takesSet 63 = .ok (.invokevirtual 162, 3) := by decide +kernel
theorem dX3_takesSet_66 : decode cX3_takesSet 66 = .ok (.istore 4, 2) := by decide +kernel
theorem dX3_takesSet_68 : decode cX3_takesSet 68 = .ok (.aload_n 0, 1) := by decide +kernel
theorem dX3_takesSet_69 : decode cX3_takesSet 69 = .ok (.iload 4, 2) := by decide +kernel
theorem dX3_takesSet_71 : decode cX3_takesSet 71 = .ok (.invokevirtual 165, 3) := by decide +kernel
theorem dX3_takesSet_74 : decode cX3_takesSet 74 = .ok (.ifCond .ne 5, 3) := by decide +kernel
theorem dX3_takesSet_77 : decode cX3_takesSet 77 = .ok (.iconst 0, 1) := by decide +kernel
theorem dX3_takesSet_78 : decode cX3_takesSet 78 = .ok (.ireturn, 1) := by decide +kernel
theorem dX3_takesSet_79 : decode cX3_takesSet 79 = .ok (.iload_n 2, 1) := by decide +kernel
theorem dX3_takesSet_80 : decode cX3_takesSet 80 = .ok (.iload 4, 2) := by decide +kernel
theorem dX3_takesSet_82 : decode cX3_takesSet 82 = .ok (.ishr, 1) := by decide +kernel
theorem dX3_takesSet_83 : decode cX3_takesSet 83 = .ok (.iconst 1, 1) := by decide +kernel
theorem dX3_takesSet_84 : decode cX3_takesSet 84 = .ok (.iand, 1) := by decide +kernel
theorem dX3_takesSet_85 : decode cX3_takesSet 85 = .ok (.ifCond .eq 12, 3) := by decide +kernel
theorem dX3_takesSet_88 : decode cX3_takesSet 88 = .ok (.aload_n 0, 1) := by decide +kernel
theorem dX3_takesSet_89 : decode cX3_takesSet 89 = .ok (.getfield 26, 3) := by decide +kernel
theorem dX3_takesSet_92 : decode cX3_takesSet 92 = .ok (.iconst 5, 1) := by decide +kernel
theorem dX3_takesSet_93 : decode cX3_takesSet 93 = .ok (.invokevirtual 49, 3) := by decide +kernel
theorem dX3_takesSet_96 : decode cX3_takesSet 96 = .ok (.ireturn, 1) := by decide +kernel
theorem dX3_takesSet_97 : decode cX3_takesSet 97 = .ok (.iload_n 2, 1) := by decide +kernel
theorem dX3_takesSet_98 : decode cX3_takesSet 98 = .ok (.iconst 1, 1) := by decide +kernel
theorem dX3_takesSet_99 : decode cX3_takesSet 99 = .ok (.iload 4, 2) := by decide +kernel
theorem dX3_takesSet_101 : decode cX3_takesSet 101 = .ok (.ishl, 1) := by decide +kernel
theorem dX3_takesSet_102 : decode cX3_takesSet 102 = .ok (.ior, 1) := by decide +kernel
theorem dX3_takesSet_103 : decode cX3_takesSet 103 = .ok (.istore_n 2, 1) := by decide +kernel
theorem dX3_takesSet_104 : decode cX3_takesSet 104 = .ok (.iinc 3 1, 3) := by decide +kernel
theorem dX3_takesSet_107 : decode cX3_takesSet 107 = .ok (.goto (-103), 3) := by decide +kernel
theorem dX3_takesSet_110 : decode cX3_takesSet 110 = .ok (.iconst 0, 1) := by decide +kernel
theorem dX3_takesSet_111 : decode cX3_takesSet 111 = .ok (.ireturn, 1) := by decide +kernel
theorem dX4_init_0 : decode cX4_init 0 = .ok (.aload_n 0, 1) := by decide +kernel
theorem dX4_init_1 : decode cX4_init 1 = .ok (.invokespecial 3, 3) := by decide +kernel
theorem dX4_init_4 : decode cX4_init 4 = .ok (.aload_n 0, 1) := by decide +kernel
theorem dX4_init_5 : decode cX4_init 5 = .ok (.bipush 6, 2) := by decide +kernel
theorem dX4_init_7 : decode cX4_init 7 = .ok (.newarray .int, 2) := by decide +kernel
theorem dX4_init_9 : decode cX4_init 9 = .ok (.putfield 11, 3) := by decide +kernel
theorem dX4_init_12 : decode cX4_init 12 = .ok (.aload_n 0, 1) := by decide +kernel
theorem dX4_init_13 : decode cX4_init 13 = .ok (.iconst (-1), 1) := by decide +kernel
theorem dX4_init_14 : decode cX4_init 14 = .ok (.putfield 15, 3) := by decide +kernel
theorem dX4_init_17 : decode cX4_init 17 = .ok (.aload_n 0, 1) := by decide +kernel
theorem dX4_init_18 : decode cX4_init 18 = .ok (.bipush 60, 2) := by decide +kernel
theorem dX4_init_20 : decode cX4_init 20 = .ok (.newarray .int, 2) := by decide +kernel
theorem dX4_init_22 : decode cX4_init 22 = .ok (.putfield 21, 3) := by decide +kernel
theorem dX4_init_25 : decode cX4_init 25 = .ok (.aload_n 0, 1) := by decide +kernel
theorem dX4_init_26 : decode cX4_init 26 = .ok (.iconst 0, 1) := by decide +kernel
theorem dX4_init_27 : decode cX4_init 27 = .ok (.putfield 24, 3) := by decide +kernel
theorem dX4_init_30 : decode cX4_init 30 = .ok (.return_, 1) := by decide +kernel
theorem dX4_run_0 : decode cX4_run 0 = .ok (.aload_n 1, 1) := by decide +kernel
theorem dX4_run_1 : decode cX4_run 1 = .ok (.getfield 27, 3) := by decide +kernel
theorem dX4_run_4 : decode cX4_run 4 = .ok (.astore 4, 2) := by decide +kernel
theorem dX4_run_6 : decode cX4_run 6 = .ok (.aload_n 0, 1) := by decide +kernel
theorem dX4_run_7 : decode cX4_run 7 = .ok (.getfield 11, 3) := by decide +kernel
theorem dX4_run_10 : decode cX4_run 10 = .ok (.iconst 0, 1) := by decide +kernel
theorem dX4_run_11 : decode cX4_run 11 = .ok (.invokestatic 33, 3) := by decide +kernel
theorem dX4_run_14 : decode cX4_run 14 = .ok (.aload_n 0, 1) := by decide +kernel
theorem dX4_run_15 : decode cX4_run 15 = .ok (.iconst 0, 1) := by decide +kernel
theorem dX4_run_16 : decode cX4_run 16 = .ok (.putfield 15, 3) := by decide +kernel
theorem dX4_run_19 : decode cX4_run 19 = .ok (.aload_n 0, 1) := by decide +kernel
theorem dX4_run_20 : decode cX4_run 20 = .ok (.iload_n 2, 1) := by decide +kernel
theorem dX4_run_21 : decode cX4_run 21 = .ok (.putfield 24, 3) := by decide +kernel
theorem dX4_run_24 : decode cX4_run 24 = .ok (.iconst 0, 1) := by decide +kernel
theorem dX4_run_25 : decode cX4_run 25 = .ok (.istore 5, 2) := by decide +kernel
theorem dX4_run_27 : decode cX4_run 27 = .ok (.iconst 0, 1) := by decide +kernel
theorem dX4_run_28 : decode cX4_run 28 = .ok (.istore 6, 2) := by decide +kernel
theorem dX4_run_30 : decode cX4_run 30 = .ok (.iload 6, 2) := by decide +kernel
theorem dX4_run_32 : decode cX4_run 32 = .ok (.ldc 39, 2) := by decide +kernel
theorem dX4_run_34 : decode cX4_run 34 = .ok (.if_icmp .ge 90, 3) := by decide +kernel
theorem dX4_run_37 : decode cX4_run 37 = .ok (.iload 5, 2) := by decide +kernel
theorem dX4_run_39 : decode cX4_run 39 = .ok (.aload 4, 2) := by decide +kernel
theorem dX4_run_41 : decode cX4_run 41 = .ok (.getfield 40, 3) := by decide +kernel
theorem dX4_run_44 : decode cX4_run 44 = .ok (.if_icmp .ge 80, 3) := by decide +kernel
theorem dX4_run_47 : decode cX4_run 47 = .ok (.aload 4, 2) := by decide +kernel
theorem dX4_run_49 : decode cX4_run 49 = .ok (.getfield 43, 3) := by decide +kernel
theorem dX4_run_52 : decode cX4_run 52 = .ok (.iload 5, 2) := by decide +kernel
theorem dX4_run_54 : decode cX4_run 54 = .ok (.iaload, 1) := by decide +kernel
theorem dX4_run_55 : decode cX4_run 55 = .ok (.bipush 24, 2) := by decide +kernel
theorem dX4_run_57 : decode cX4_run 57 = .ok (.if_icmp .ne 16, 3) := by decide +kernel
theorem dX4_run_60 : decode cX4_run 60 = .ok (.aload_n 0, 1) := by decide +kernel
theorem dX4_run_61 : decode cX4_run 61 = .ok (.aload 4, 2) := by decide +kernel
theorem dX4_run_63 : decode cX4_run 63 = .ok (.iload 5, 2) := by decide +kernel
theorem dX4_run_65 : decode cX4_run 65 = .ok (.invokevirtual 48, 3) := by decide +kernel
theorem dX4_run_68 : decode cX4_run 68 = .ok (.istore 5, 2) := by decide +kernel
theorem dX4_run_70 : decode cX4_run 70 = .ok (.goto 48, 3) := by decide +kernel
theorem dX4_run_73 : decode cX4_run 73 = .ok (.aload_n 0, 1) := by decide +kernel
theorem dX4_run_74 : decode cX4_run 74 = .ok (.getfield 15, 3) := by decide +kernel
theorem dX4_run_77 : decode cX4_run 77 = .ok (.sipush 300, 3) := by decide +kernel
theorem dX4_run_80 : decode cX4_run 80 = .ok (.if_icmp .lt 11, 3) := by decide +kernel
theorem dX4_run_83 : decode cX4_run 83 = .ok (.aload_n 0, 1) := by decide +kernel
theorem dX4_run_84 : decode cX4_run 84 = .ok (.getfield 11, 3) := by decide +kernel
theorem dX4_run_87 : decode cX4_run 87 = .ok (.iconst 5, 1) := by decide +kernel
theorem dX4_run_88 : decode cX4_run 88 = .ok (.iconst 1, 1) := by decide +kernel
theorem dX4_run_89 : decode cX4_run 89 = .ok (.iastore, 1) := by decide +kernel
theorem dX4_run_90 : decode cX4_run 90 = .ok (.return_, 1) := by decide +kernel
theorem dX4_run_91 : decode cX4_run 91 = .ok (.aload_n 0, 1) := by decide +kernel
theorem dX4_run_92 : decode cX4_run 92 = .ok (.dup, 1) := by decide +kernel
theorem dX4_run_93 : decode cX4_run 93 = .ok (.getfield 15, 3) := by decide +kernel
theorem dX4_run_96 : decode cX4_run 96 = .ok (.iconst 1, 1) := by decide +kernel
theorem dX4_run_97 : decode cX4_run 97 = .ok (.iadd, 1) := by decide +kernel
theorem dX4_run_98 : decode cX4_run 98 = .ok (.putfield 15, 3) := by decide +kernel
theorem dX4_run_101 : decode cX4_run 101 = .ok (.aload_n 0, 1) := by decide +kernel
theorem dX4_run_102 : decode cX4_run 102 = .ok (.aload_n 1, 1) := by decide +kernel
theorem dX4_run_103 : decode cX4_run 103 = .ok (.iload 5, 2) := by decide +kernel
theorem dX4_run_105 : decode cX4_run 105 = .ok (.aload_n 3, 1) := by decide +kernel
theorem dX4_run_106 : decode cX4_run 106 = .ok (.invokevirtual 52, 3) := by decide +kernel
theorem dX4_run_109 : decode cX4_run 109 = .ok (.aload_n 0, 1) := by decide +kernel
theorem dX4_run_110 : decode cX4_run 110 = .ok (.aload_n 1, 1) := by decide +kernel
theorem dX4_run_111 : decode cX4_run 111 = .ok (.iload 5, 2) := by decide +kernel
theorem dX4_run_113 : decode cX4_run 113 = .ok (.invokevirtual 56, 3) := by decide +kernel
theorem dX4_run_116 : decode cX4_run 116 = .ok (.istore 5, 2) := by decide +kernel
theorem dX4_run_118 : decode cX4_run 118 = .ok (.iinc 6 1, 3) := by decide +kernel
theorem dX4_run_121 : decode cX4_run 121 = .ok (.goto (-91), 3) := by decide +kernel
theorem dX4_run_124 : decode cX4_run 124 = .ok (.return_, 1) := by decide +kernel
theorem dX4_lineBehindEnd_0 : decode cX4_lineBehindEnd 0 = .ok (.aload_n 1, 1) := by decide +kernel
theorem dX4_lineBehindEnd_1 : decode cX4_lineBehindEnd 1 = .ok (.getfield 60, 3) := by decide +kernel
theorem dX4_lineBehindEnd_4 : decode cX4_lineBehindEnd 4 = .ok (.iload_n 2, 1) := by decide +kernel
theorem dX4_lineBehindEnd_5 : decode cX4_lineBehindEnd 5 = .ok (.iaload, 1) := by decide +kernel
theorem dX4_lineBehindEnd_6 : decode cX4_lineBehindEnd 6 = .ok (.istore_n 3, 1) := by decide +kernel
theorem dX4_lineBehindEnd_7 : decode cX4_lineBehindEnd 7 = .ok (.aload_n 1, 1) := by decide +kernel
theorem dX4_lineBehindEnd_8 : decode cX4_lineBehindEnd 8 = .ok (.getfield 43, 3) := by decide +kernel
theorem dX4_lineBehindEnd_11 : decode cX4_lineBehindEnd 11 = .ok (.iload_n 3, 1) := by decide +kernel
theorem dX4_lineBehindEnd_12 : decode cX4_lineBehindEnd 12 = .ok (.iaload, 1) := by decide +kernel
theorem dX4_lineBehindEnd_13 : decode cX4_lineBehindEnd 13 = .ok (.bipush 23, 2) := by decide +kernel
theorem dX4_lineBehindEnd_15 : decode cX4_lineBehindEnd 15 = .ok (.if_icmp .eq 7, 3) := by decide +kernel
theorem dX4_lineBehindEnd_18 : decode cX4_lineBehindEnd 18 = .ok (.iload_n 2, 1) := by decide +kernel
theorem dX4_lineBehindEnd_19 : decode cX4_lineBehindEnd 19 = .ok (.iconst 1, 1) := by decide +kernel
theorem dX4_lineBehindEnd_20 : decode cX4_lineBehindEnd 20 = .ok (.iadd, 1) := by decide +kernel
theorem dX4_lineBehindEnd_21 : decode cX4_lineBehindEnd 21 = .ok (.ireturn, 1) := by decide +kernel
theorem dX4_lineBehindEnd_22 : decode cX4_lineBehindEnd 22 = .ok (.aload_n 0, 1) := by decide +kernel
theorem dX4_lineBehindEnd_23 : decode cX4_lineBehindEnd 23 = .ok (.getfield 21, 3) := by decide +kernel
theorem dX4_lineBehindEnd_26 : decode cX4_lineBehindEnd 26 = .ok (.iload_n 3, 1) := by decide +kernel
theorem dX4_lineBehindEnd_27 : decode cX4_lineBehindEnd 27 = .ok (.dup2, 1) := by decide +kernel
theorem dX4_lineBehindEnd_28 : decode cX4_lineBehindEnd 28 = .ok (.iaload, 1) := by decide +kernel
theorem dX4_lineBehindEnd_29 : decode cX4_lineBehindEnd 29 = .ok (.iconst 1, 1) := by decide +kernel
theorem dX4_lineBehindEnd_30 : decode cX4_lineBehindEnd 30 = .ok (.isub, 1) := by decide +kernel
theorem dX4_lineBehindEnd_31 : decode cX4_lineBehindEnd 31 = .ok (.iastore, 1) := by decide +kernel
theorem dX4_lineBehindEnd_32 : decode cX4_lineBehindEnd 32 = .ok (.aload_n 0, 1) := by decide +kernel
theorem dX4_lineBehindEnd_33 : decode cX4_lineBehindEnd 33 = .ok (.getfield 21, 3) := by decide +kernel
theorem dX4_lineBehindEnd_36 : decode cX4_lineBehindEnd 36 = .ok (.iload_n 3, 1) := by decide +kernel
theorem dX4_lineBehindEnd_37 : decode cX4_lineBehindEnd 37 = .ok (.iaload, 1) := by decide +kernel
theorem dX4_lineBehindEnd_38 : decode cX4_lineBehindEnd 38 = .ok (.ifCond .le 9, 3) := by decide +kernel
theorem dX4_lineBehindEnd_41 : decode cX4_lineBehindEnd 41 = .ok (.iload_n 3, 1) := by decide +kernel
theorem dX4_lineBehindEnd_42 : decode cX4_lineBehindEnd 42 = .ok (.iconst 1, 1) := by decide +kernel
theorem dX4_lineBehindEnd_43 : decode cX4_lineBehindEnd 43 = .ok (.iadd, 1) := by decide +kernel
theorem dX4_lineBehindEnd_44 : decode cX4_lineBehindEnd 44 = .ok (.goto 6, 3) := by decide +kernel
theorem dX4_lineBehindEnd_47 : decode cX4_lineBehindEnd 47 = .ok (.iload_n 2, 1) := by decide +kernel
theorem dX4_lineBehindEnd_48 : decode cX4_lineBehindEnd 48 = .ok (.iconst 1, 1) := by decide +kernel
theorem dX4_lineBehindEnd_49 : decode cX4_lineBehindEnd 49 = .ok (.iadd, 1) := by decide +kernel
theorem dX4_lineBehindEnd_50 : decode cX4_lineBehindEnd 50 = .ok (.ireturn, 1) := by decide +kernel
theorem dX4_lineBehindStep_0 : decode cX4_lineBehindStep 0 = .ok (.aload_n 1, 1) := by decide +kernel
theorem dX4_lineBehindStep_1 : decode cX4_lineBehindStep 1 = .ok (.getfield 27, 3) := by decide +kernel
theorem dX4_lineBehindStep_4 : decode cX4_lineBehindStep 4 = .ok (.astore_n 3, 1) := by decide +kernel
theorem dX4_lineBehindStep_5 : decode cX4_lineBehindStep 5 = .ok (.aload_n 3, 1) := by decide +kernel
theorem dX4_lineBehindStep_6 : decode cX4_lineBehindStep 6 = .ok (.getfield 43, 3) := by decide +kernel
theorem dX4_lineBehindStep_9 : decode cX4_lineBehindStep 9 = .ok (.iload_n 2, 1) := by decide +kernel
theorem dX4_lineBehindStep_10 : decode cX4_lineBehindStep 10 = .ok (.iaload, 1) := by decide +kernel
theorem dX4_lineBehindStep_11 : decode cX4_lineBehindStep 11 = .ok (.tableswitch 100 20 25 #[76, 76, 76, 42, 100, 37], 37) := by decide +kernel
theorem dX4_lineBehindStep_48 : decode cX4_lineBehindStep 48 = .ok (.aload_n 3, 1) := by decide +kernel
theorem dX4_lineBehindStep_49 : decode cX4_lineBehindStep 49 = .ok (.getfield 40, 3) := by decide +kernel
theorem dX4_lineBehindStep_52 : decode cX4_lineBehindStep 52 = .ok (.ireturn, 1) := by decide +kernel
theorem dX4_lineBehindStep_53 : decode cX4_lineBehindStep 53 = .ok (.aload_n 0, 1) := by decide +kernel
theorem dX4_lineBehindStep_54 : decode cX4_lineBehindStep 54 = .ok (.getfield 21, 3) := by decide +kernel
theorem dX4_lineBehindStep_57 : decode cX4_lineBehindStep 57 = .ok (.iload_n 2, 1) := by decide +kernel
theorem dX4_lineBehindStep_58 : decode cX4_lineBehindStep 58 = .ok (.aload_n 3, 1) := by decide +kernel
theorem dX4_lineBehindStep_59 : decode cX4_lineBehindStep 59 = .ok (.getfield 63, 3) := by decide +kernel
theorem dX4_lineBehindStep_62 : decode cX4_lineBehindStep 62 = .ok (.iload_n 2, 1) := by decide +kernel
theorem dX4_lineBehindStep_63 : decode cX4_lineBehindStep 63 = .ok (.iaload, 1) := by decide +kernel
theorem dX4_lineBehindStep_64 : decode cX4_lineBehindStep 64 = .ok (.iastore, 1) := by decide +kernel
theorem dX4_lineBehindStep_65 : decode cX4_lineBehindStep 65 = .ok (.aload_n 3, 1) := by decide +kernel
theorem dX4_lineBehindStep_66 : decode cX4_lineBehindStep 66 = .ok (.getfield 60, 3) := by decide +kernel
theorem dX4_lineBehindStep_69 : decode cX4_lineBehindStep 69 = .ok (.iload_n 2, 1) := by decide +kernel
theorem dX4_lineBehindStep_70 : decode cX4_lineBehindStep 70 = .ok (.iaload, 1) := by decide +kernel
theorem dX4_lineBehindStep_71 : decode cX4_lineBehindStep 71 = .ok (.iload_n 2, 1) := by decide +kernel
theorem dX4_lineBehindStep_72 : decode cX4_lineBehindStep 72 = .ok (.iconst 1, 1) := by decide +kernel
theorem dX4_lineBehindStep_73 : decode cX4_lineBehindStep 73 = .ok (.iadd, 1) := by decide +kernel
theorem dX4_lineBehindStep_74 : decode cX4_lineBehindStep 74 = .ok (.if_icmp .ne 9, 3) := by decide +kernel
theorem dX4_lineBehindStep_77 : decode cX4_lineBehindStep 77 = .ok (.iload_n 2, 1) := by decide +kernel
theorem dX4_lineBehindStep_78 : decode cX4_lineBehindStep 78 = .ok (.iconst 2, 1) := by decide +kernel
theorem dX4_lineBehindStep_79 : decode cX4_lineBehindStep 79 = .ok (.iadd, 1) := by decide +kernel
theorem dX4_lineBehindStep_80 : decode cX4_lineBehindStep 80 = .ok (.goto 6, 3) := by decide +kernel
theorem dX4_lineBehindStep_83 : decode cX4_lineBehindStep 83 = .ok (.iload_n 2, 1) := by decide +kernel
theorem dX4_lineBehindStep_84 : decode cX4_lineBehindStep 84 = .ok (.iconst 1, 1) := by decide +kernel
theorem dX4_lineBehindStep_85 : decode cX4_lineBehindStep 85 = .ok (.iadd, 1) := by decide +kernel
theorem dX4_lineBehindStep_86 : decode cX4_lineBehindStep 86 = .ok (.ireturn, 1) := by decide +kernel
theorem dX4_lineBehindStep_87 : decode cX4_lineBehindStep 87 = .ok (.aload_n 0, 1) := by decide +kernel
theorem dX4_lineBehindStep_88 : decode cX4_lineBehindStep 88 = .ok (.aload_n 1, 1) := by decide +kernel
theorem dX4_lineBehindStep_89 : decode cX4_lineBehindStep 89 = .ok (.iload_n 2, 1) := by decide +kernel
theorem dX4_lineBehindStep_90 : decode cX4_lineBehindStep 90 = .ok (.invokevirtual 66, 3) := by decide +kernel
theorem dX4_lineBehindStep_93 : decode cX4_lineBehindStep 93 = .ok (.ifCond .eq 9, 3) := by decide +kernel
theorem dX4_lineBehindStep_96 : decode cX4_lineBehindStep 96 = .ok (.iload_n 2, 1) := by decide +kernel
theorem dX4_lineBehindStep_97 : decode cX4_lineBehindStep 97 = .ok (.iconst 1, 1) := by decide +kernel
theorem dX4_lineBehindStep_98 : decode cX4_lineBehindStep 98 = .ok (.iadd, 1) := by decide +kernel
theorem dX4_lineBehindStep_99 : decode cX4_lineBehindStep 99 = .ok (.goto 11, 3) := by decide +kernel
theorem dX4_lineBehindStep_102 : decode cX4_lineBehindStep 102 = .ok (.aload_n 3, 1) := by decide +kernel
theorem dX4_lineBehindStep_103 : decode cX4_lineBehindStep 103 = .ok (.getfield 60, 3) := by decide +kernel
theorem dX4_lineBehindStep_106 : decode cX4_lineBehindStep 106 = .ok (.iload_n 2, 1) := by decide +kernel
theorem dX4_lineBehindStep_107 : decode cX4_lineBehindStep 107 = .ok (.iaload, 1) := by decide +kernel
theorem dX4_lineBehindStep_108 : decode cX4_lineBehindStep 108 = .ok (.iconst 1, 1) := by decide +kernel
theorem dX4_lineBehindStep_109 : decode cX4_lineBehindStep 109 = .ok (.iadd, 1) := by decide +kernel
theorem dX4_lineBehindStep_110 : decode cX4_lineBehindStep 110 = .ok (.ireturn, 1) := by decide +kernel
theorem dX4_lineBehindStep_111 : decode cX4_lineBehindStep 111 = .ok (.iload_n 2, 1) := by decide +kernel
theorem dX4_lineBehindStep_112 : decode cX4_lineBehindStep 112 = .ok (.iconst 1, 1) := by decide +kernel
theorem dX4_lineBehindStep_113 : decode cX4_lineBehindStep 113 = .ok (.iadd, 1) := by decide +kernel
theorem dX4_lineBehindStep_114 : decode cX4_lineBehindStep 114 = .ok (.ireturn, 1) := by decide +kernel
theorem dX4_holds_0 : decode cX4_holds 0 = .ok (.aload_n 1, 1) := by decide +kernel
theorem dX4_holds_1 : decode cX4_holds 1 = .ok (.getfield 27, 3) := by decide +kernel
theorem dX4_holds_4 : decode cX4_holds 4 = .ok (.astore_n 3, 1) := by decide +kernel
theorem dX4_holds_5 : decode cX4_holds 5 = .ok (.aload_n 3, 1) := by decide +kernel
theorem dX4_holds_6 : decode cX4_holds 6 = .ok (.getfield 43, 3) := by decide +kernel
theorem dX4_holds_9 : decode cX4_holds 9 = .ok (.iload_n 2, 1) := by decide +kernel
theorem dX4_holds_10 : decode cX4_holds 10 = .ok (.iaload, 1) := by decide +kernel
theorem dX4_holds_11 : decode cX4_holds 11 = .ok (.bipush 20, 2) := by decide +kernel
theorem dX4_holds_13 : decode cX4_holds 13 = .ok (.if_icmp .ne 14, 3) := by decide +kernel
theorem dX4_holds_16 : decode cX4_holds 16 = .ok (.aload_n 1, 1) := by decide +kernel
theorem dX4_holds_17 : decode cX4_holds 17 = .ok (.aload_n 3, 1) := by decide +kernel
theorem dX4_holds_18 : decode cX4_holds 18 = .ok (.getfield 70, 3) := by decide +kernel
theorem dX4_holds_21 : decode cX4_holds 21 = .ok (.iload_n 2, 1) := by decide +kernel
theorem dX4_holds_22 : decode cX4_holds 22 = .ok (.iaload, 1) := by decide +kernel
theorem dX4_holds_23 : decode cX4_holds 23 = .ok (.invokevirtual 73, 3) := by decide +kernel
theorem dX4_holds_26 : decode cX4_holds 26 = .ok (.ireturn, 1) := by decide +kernel
theorem dX4_holds_27 : decode cX4_holds 27 = .ok (.aload_n 3, 1) := by decide +kernel
theorem dX4_holds_28 : decode cX4_holds 28 = .ok (.getfield 43, 3) := by decide +kernel
theorem dX4_holds_31 : decode cX4_holds 31 = .ok (.iload_n 2, 1) := by decide +kernel
theorem dX4_holds_32 : decode cX4_holds 32 = .ok (.iaload, 1) := by decide +kernel
theorem dX4_holds_33 : decode cX4_holds 33 = .ok (.bipush 21, 2) := by decide +kernel
theorem dX4_holds_35 : decode cX4_holds 35 = .ok (.if_icmp .ne 14, 3) := by decide +kernel
theorem dX4_holds_38 : decode cX4_holds 38 = .ok (.aload_n 1, 1) := by decide +kernel
theorem dX4_holds_39 : decode cX4_holds 39 = .ok (.aload_n 3, 1) := by decide +kernel
theorem dX4_holds_40 : decode cX4_holds 40 = .ok (.getfield 77, 3) := by decide +kernel
theorem dX4_holds_43 : decode cX4_holds 43 = .ok (.iload_n 2, 1) := by decide +kernel
theorem dX4_holds_44 : decode cX4_holds 44 = .ok (.iaload, 1) := by decide +kernel
theorem dX4_holds_45 : decode cX4_holds 45 = .ok (.invokevirtual 80, 3) := by decide +kernel
theorem dX4_holds_48 : decode cX4_holds 48 = .ok (.ireturn, 1) := by decide +kernel
theorem dX4_holds_49 : decode cX4_holds 49 = .ok (.aload_n 1, 1) := by decide +kernel
theorem dX4_holds_50 : decode cX4_holds 50 = .ok (.getfield 83, 3) := by decide +kernel
theorem dX4_holds_53 : decode cX4_holds 53 = .ok (.aload_n 3, 1) := by decide +kernel
theorem dX4_holds_54 : decode cX4_holds 54 = .ok (.getfield 77, 3) := by decide +kernel
theorem dX4_holds_57 : decode cX4_holds 57 = .ok (.iload_n 2, 1) := by decide +kernel
theorem dX4_holds_58 : decode cX4_holds 58 = .ok (.iaload, 1) := by decide +kernel
theorem dX4_holds_59 : decode cX4_holds 59 = .ok (.aload_n 3, 1) := by decide +kernel
theorem dX4_holds_60 : decode cX4_holds 60 = .ok (.getfield 70, 3) := by decide +kernel
theorem dX4_holds_63 : decode cX4_holds 63 = .ok (.iload_n 2, 1) := by decide +kernel
theorem dX4_holds_64 : decode cX4_holds 64 = .ok (.iaload, 1) := by decide +kernel
theorem dX4_holds_65 : decode cX4_holds 65 = .ok (.invokestatic 87, 3) := by decide +kernel
theorem dX4_holds_68 : decode cX4_holds 68 = .ok (.invokevirtual 91, 3) := by decide +kernel
theorem dX4_holds_71 : decode cX4_holds 71 = .ok (.istore 4, 2) := by decide +kernel
theorem dX4_holds_73 : decode cX4_holds 73 = .ok (.aload_n 3, 1) := by decide +kernel
theorem dX4_holds_74 : decode cX4_holds 74 = .ok (.getfield 97, 3) := by decide +kernel
theorem dX4_holds_77 : decode cX4_holds 77 = .ok (.iload_n 2, 1) := by decide +kernel
theorem dX4_holds_78 : decode cX4_holds 78 = .ok (.iaload, 1) := by decide +kernel
theorem dX4_holds_79 : decode cX4_holds 79 = .ok (.bipush 60, 2) := by decide +kernel
theorem dX4_holds_81 : decode cX4_holds 81 = .ok (.if_icmp .ne 20, 3) := by decide +kernel
theorem dX4_holds_84 : decode cX4_holds 84 = .ok (.iload 4, 2) := by decide +kernel
theorem dX4_holds_86 : decode cX4_holds 86 = .ok (.aload_n 3, 1) := by decide +kernel
theorem dX4_holds_87 : decode cX4_holds 87 = .ok (.getfield 63, 3) := by decide +kernel
theorem dX4_holds_90 : decode cX4_holds 90 = .ok (.iload_n 2, 1) := by decide +kernel
theorem dX4_holds_91 : decode cX4_holds 91 = .ok (.iaload, 1) := by decide +kernel
theorem dX4_holds_92 : decode cX4_holds 92 = .ok (.if_icmp .ge 7, 3) := by decide +kernel
theorem dX4_holds_95 : decode cX4_holds 95 = .ok (.iconst 1, 1) := by decide +kernel
theorem dX4_holds_96 : decode cX4_holds 96 = .ok (.goto 4, 3) := by decide +kernel
theorem dX4_holds_99 : decode cX4_holds 99 = .ok (.iconst 0, 1) := by decide +kernel
theorem dX4_holds_100 : decode cX4_holds 100 = .ok (.ireturn, 1) := by decide +kernel
theorem dX4_holds_101 : decode cX4_holds 101 = .ok (.aload_n 3, 1) := by decide +kernel
theorem dX4_holds_102 : decode cX4_holds 102 = .ok (.getfield 97, 3) := by decide +kernel
theorem dX4_holds_105 : decode cX4_holds 105 = .ok (.iload_n 2, 1) := by decide +kernel
theorem dX4_holds_106 : decode cX4_holds 106 = .ok (.iaload, 1) := by decide +kernel
theorem dX4_holds_107 : decode cX4_holds 107 = .ok (.bipush 62, 2) := by decide +kernel
theorem dX4_holds_109 : decode cX4_holds 109 = .ok (.if_icmp .ne 22, 3) := by decide +kernel
theorem dX4_holds_112 : decode cX4_holds 112 = .ok (.iload 4, 2) := by decide +kernel
theorem dX4_holds_114 : decode cX4_holds 114 = .ok (.aload_n 3, 1) := by decide +kernel
theorem dX4_holds_115 : decode cX4_holds 115 = .ok (.getfield 63, 3) := by decide +kernel
theorem dX4_holds_118 : decode cX4_holds 118 = .ok (.iload_n 2, 1) := by decide +kernel
theorem dX4_holds_119 : decode cX4_holds 119 = .ok (.iaload, 1) := by decide +kernel
theorem dX4_holds_120 : decode cX4_holds 120 = .ok (.if_icmp .le 7, 3) := by decide +kernel
theorem dX4_holds_123 : decode cX4_holds 123 = .ok (.iconst 1, 1) := by decide +kernel
theorem dX4_holds_124 : decode cX4_holds 124 = .ok (.goto 23, 3) := by decide +kernel
theorem dX4_holds_127 : decode cX4_holds 127 = .ok (.iconst 0, 1) := by decide +kernel
theorem dX4_holds_128 : decode cX4_holds 128 = .ok (.goto 19, 3) := by decide +kernel
theorem dX4_holds_131 : decode cX4_holds 131 = .ok (.iload 4, 2) := by decide +kernel
theorem dX4_holds_133 : decode cX4_holds 133 = .ok (.aload_n 3, 1) := by decide +kernel
theorem dX4_holds_134 : decode cX4_holds 134 = .ok (.getfield 63, 3) := by decide +kernel
theorem dX4_holds_137 : decode cX4_holds 137 = .ok (.iload_n 2, 1) := by decide +kernel
theorem dX4_holds_138 : decode cX4_holds 138 = .ok (.iaload, 1) := by decide +kernel
theorem dX4_holds_139 : decode cX4_holds 139 = .ok (.if_icmp .ne 7, 3) := by decide +kernel
theorem dX4_holds_142 : decode cX4_holds 142 = .ok (.iconst 1, 1) := by decide +kernel
theorem dX4_holds_143 : decode cX4_holds 143 = .ok (.goto 4, 3) := by decide +kernel
theorem dX4_holds_146 : decode cX4_holds 146 = .ok (.iconst 0, 1) := by decide +kernel
theorem dX4_holds_147 : decode cX4_holds 147 = .ok (.ireturn, 1) := by decide +kernel
theorem dX4_doStep_0 : decode cX4_doStep 0 = .ok (.aload_n 1, 1) := by decide +kernel
theorem dX4_doStep_1 : decode cX4_doStep 1 = .ok (.getfield 27, 3) := by decide +kernel
theorem dX4_doStep_4 : decode cX4_doStep 4 = .ok (.astore 4, 2) := by decide +kernel
theorem dX4_doStep_6 : decode cX4_doStep 6 = .ok (.aload 4, 2) := by decide +kernel
theorem dX4_doStep_8 : decode cX4_doStep 8 = .ok (.getfield 70, 3) := by decide +kernel
theorem dX4_doStep_11 : decode cX4_doStep 11 = .ok (.iload_n 2, 1) := by decide +kernel
theorem dX4_doStep_12 : decode cX4_doStep 12 = .ok (.iaload, 1) := by decide +kernel
theorem dX4_doStep_13 : decode cX4_doStep 13 = .ok (.istore 5, 2) := by decide +kernel
theorem dX4_doStep_15 : decode cX4_doStep 15 = .ok (.aload 4, 2) := by decide +kernel
theorem dX4_doStep_17 : decode cX4_doStep 17 = .ok (.getfield 77, 3) := by decide +kernel
theorem dX4_doStep_20 : decode cX4_doStep 20 = .ok (.iload_n 2, 1) := by decide +kernel
theorem dX4_doStep_21 : decode cX4_doStep 21 = .ok (.iaload, 1) := by decide +kernel
theorem dX4_doStep_22 : decode cX4_doStep 22 = .ok (.istore 6, 2) := by decide +kernel
theorem dX4_doStep_24 : decode cX4_doStep 24 = .ok (.aload 4, 2) := by decide +kernel
theorem dX4_doStep_26 : decode cX4_doStep 26 = .ok (.getfield 63, 3) := by decide +kernel
theorem dX4_doStep_29 : decode cX4_doStep 29 = .ok (.iload_n 2, 1) := by decide +kernel
theorem dX4_doStep_30 : decode cX4_doStep 30 = .ok (.iaload, 1) := by decide +kernel
theorem dX4_doStep_31 : decode cX4_doStep 31 = .ok (.istore 7, 2) := by decide +kernel
theorem dX4_doStep_33 : decode cX4_doStep 33 = .ok (.aload 4, 2) := by decide +kernel
theorem dX4_doStep_35 : decode cX4_doStep 35 = .ok (.getfield 43, 3) := by decide +kernel
theorem dX4_doStep_38 : decode cX4_doStep 38 = .ok (.iload_n 2, 1) := by decide +kernel
theorem dX4_doStep_39 : decode cX4_doStep 39 = .ok (.iaload, 1) := by decide +kernel
theorem dX4_doStep_40 : decode cX4_doStep 40 = .ok (.tableswitch 267 7 18 #[64, 88, 113, 131, 161, 171, 181, 190, 199, 207, 223, 257], 64) := by decide +kernel
theorem dX4_doStep_104 : decode cX4_doStep 104 = .ok (.aload_n 0, 1) := by decide +kernel
theorem dX4_doStep_105 : decode cX4_doStep 105 = .ok (.aload_n 1, 1) := by decide +kernel
theorem dX4_doStep_106 : decode cX4_doStep 106 = .ok (.aload_n 1, 1) := by decide +kernel
theorem dX4_doStep_107 : decode cX4_doStep 107 = .ok (.iload 5, 2) := by decide +kernel
theorem dX4_doStep_109 : decode cX4_doStep 109 = .ok (.iload 6, 2) := by decide +kernel
theorem dX4_doStep_111 : decode cX4_doStep 111 = .ok (.iload 7, 2) := by decide +kernel
theorem dX4_doStep_113 : decode cX4_doStep 113 = .ok (.aload_n 1, 1) := by decide +kernel
theorem dX4_doStep_114 : decode cX4_doStep 114 = .ok (.iload 5, 2) := by decide +kernel
theorem dX4_doStep_116 : decode cX4_doStep 116 = .ok (.invokestatic 100, 3) := by decide +kernel
theorem dX4_doStep_119 : decode cX4_doStep 119 = .ok (.invokevirtual 103, 3) := by decide +kernel
theorem dX4_doStep_122 : decode cX4_doStep 122 = .ok (.invokevirtual 107, 3) := by decide +kernel
theorem dX4_doStep_125 : decode cX4_doStep 125 = .ok (.goto 182, 3) := by decide +kernel
theorem dX4_doStep_128 : decode cX4_doStep 128 = .ok (.aload_n 0, 1) := by decide +kernel
theorem dX4_doStep_129 : decode cX4_doStep 129 = .ok (.aload_n 1, 1) := by decide +kernel
theorem dX4_doStep_130 : decode cX4_doStep 130 = .ok (.aload_n 1, 1) := by decide +kernel
theorem dX4_doStep_131 : decode cX4_doStep 131 = .ok (.iload 5, 2) := by decide +kernel
theorem dX4_doStep_133 : decode cX4_doStep 133 = .ok (.iload 6, 2) := by decide +kernel
theorem dX4_doStep_135 : decode cX4_doStep 135 = .ok (.sipush 1000, 3) := by decide +kernel
theorem dX4_doStep_138 : decode cX4_doStep 138 = .ok (.aload_n 1, 1) := by decide +kernel
theorem dX4_doStep_139 : decode cX4_doStep 139 = .ok (.iload 5, 2) := by decide +kernel
theorem dX4_doStep_141 : decode cX4_doStep 141 = .ok (.invokestatic 100, 3) := by decide +kernel
theorem dX4_doStep_144 : decode cX4_doStep 144 = .ok (.invokevirtual 103, 3) := by decide +kernel
theorem dX4_doStep_147 : decode cX4_doStep 147 = .ok (.invokevirtual 107, 3) := by decide +kernel
theorem dX4_doStep_150 : decode cX4_doStep 150 = .ok (.goto 157, 3) := by decide +kernel
theorem dX4_doStep_153 : decode cX4_doStep 153 = .ok (.aload_n 0, 1) := by decide +kernel
theorem dX4_doStep_154 : decode cX4_doStep 154 = .ok (.aload_n 1, 1) := by decide +kernel
theorem dX4_doStep_155 : decode cX4_doStep 155 = .ok (.aload_n 1, 1) := by decide +kernel
theorem dX4_doStep_156 : decode cX4_doStep 156 = .ok (.iload 5, 2) := by decide +kernel
theorem dX4_doStep_158 : decode cX4_doStep 158 = .ok (.iload 6, 2) := by decide +kernel
theorem dX4_doStep_160 : decode cX4_doStep 160 = .ok (.iload 7, 2) := by decide +kernel
theorem dX4_doStep_162 : decode cX4_doStep 162 = .ok (.invokevirtual 111, 3) := by decide +kernel
theorem dX4_doStep_165 : decode cX4_doStep 165 = .ok (.invokevirtual 107, 3) := by decide +kernel
theorem dX4_doStep_168 : decode cX4_doStep 168 = .ok (.goto 139, 3) := by decide +kernel
theorem dX4_doStep_171 : decode cX4_doStep 171 = .ok (.aload_n 0, 1) := by decide +kernel
theorem dX4_doStep_172 : decode cX4_doStep 172 = .ok (.getfield 11, 3) := by decide +kernel
theorem dX4_doStep_175 : decode cX4_doStep 175 = .ok (.aload_n 1, 1) := by decide +kernel
theorem dX4_doStep_176 : decode cX4_doStep 176 = .ok (.iload 5, 2) := by decide +kernel
theorem dX4_doStep_178 : decode cX4_doStep 178 = .ok (.iload 6, 2) := by decide +kernel
theorem dX4_doStep_180 : decode cX4_doStep 180 = .ok (.iconst 0, 1) := by decide +kernel
theorem dX4_doStep_181 : decode cX4_doStep 181 = .ok (.aload_n 3, 1) := by decide +kernel
theorem dX4_doStep_182 : decode cX4_doStep 182 = .ok (.invokevirtual 115, 3) := by decide +kernel
theorem dX4_doStep_185 : decode cX4_doStep 185 = .ok (.ifCond .eq 7, 3) := by decide +kernel
theorem dX4_doStep_188 : decode cX4_doStep 188 = .ok (.iconst 3, 1) := by decide +kernel
theorem dX4_doStep_189 : decode cX4_doStep 189 = .ok (.goto 4, 3) := by decide +kernel
theorem dX4_doStep_192 : decode cX4_doStep 192 = .ok (.iconst 0, 1) := by decide +kernel
theorem dX4_doStep_193 : decode cX4_doStep 193 = .ok (.dup2, 1) := by decide +kernel
theorem dX4_doStep_194 : decode cX4_doStep 194 = .ok (.iaload, 1) := by decide +kernel
theorem dX4_doStep_195 : decode cX4_doStep 195 = .ok (.iconst 1, 1) := by decide +kernel
theorem dX4_doStep_196 : decode cX4_doStep 196 = .ok (.iadd, 1) := by decide +kernel
theorem dX4_doStep_197 : decode cX4_doStep 197 = .ok (.iastore, 1) := by decide +kernel
theorem dX4_doStep_198 : decode cX4_doStep 198 = .ok (.goto 109, 3) := by decide +kernel
theorem dX4_doStep_201 : decode cX4_doStep 201 = .ok (.aload_n 1, 1) := by decide +kernel
theorem dX4_doStep_202 : decode cX4_doStep 202 = .ok (.iload 6, 2) := by decide +kernel
theorem dX4_doStep_204 : decode cX4_doStep 204 = .ok (.iconst 0, 1) := by decide +kernel
theorem dX4_doStep_205 : decode cX4_doStep 205 = .ok (.invokevirtual 119, 3) := by decide +kernel
theorem dX4_doStep_208 : decode cX4_doStep 208 = .ok (.goto 99, 3) := by decide +kernel
theorem dX4_doStep_211 : decode cX4_doStep 211 = .ok (.aload_n 1, 1) := by decide +kernel
theorem dX4_doStep_212 : decode cX4_doStep 212 = .ok (.iload 6, 2) := by decide +kernel
theorem dX4_doStep_214 : decode cX4_doStep 214 = .ok (.iconst 1, 1) := by decide +kernel
theorem dX4_doStep_215 : decode cX4_doStep 215 = .ok (.invokevirtual 119, 3) := by decide +kernel
theorem dX4_doStep_218 : decode cX4_doStep 218 = .ok (.goto 89, 3) := by decide +kernel
theorem dX4_doStep_221 : decode cX4_doStep 221 = .ok (.aload_n 1, 1) := by decide +kernel
theorem dX4_doStep_222 : decode cX4_doStep 222 = .ok (.iload 6, 2) := by decide +kernel
theorem dX4_doStep_224 : decode cX4_doStep 224 = .ok (.invokevirtual 123, 3) := by decide +kernel
theorem dX4_doStep_227 : decode cX4_doStep 227 = .ok (.goto 80, 3) := by decide +kernel
theorem dX4_doStep_230 : decode cX4_doStep 230 = .ok (.aload_n 1, 1) := by decide +kernel
theorem dX4_doStep_231 : decode cX4_doStep 231 = .ok (.iload 7, 2) := by decide +kernel
theorem dX4_doStep_233 : decode cX4_doStep 233 = .ok (.putfield 127, 3) := by decide +kernel
theorem dX4_doStep_236 : decode cX4_doStep 236 = .ok (.goto 71, 3) := by decide +kernel
theorem dX4_doStep_239 : decode cX4_doStep 239 = .ok (.aload_n 1, 1) := by decide +kernel
theorem dX4_doStep_240 : decode cX4_doStep 240 = .ok (.iconst 0, 1) := by decide +kernel
theorem dX4_doStep_241 : decode cX4_doStep 241 = .ok (.putfield 127, 3) := by decide +kernel
theorem dX4_doStep_244 : decode cX4_doStep 244 = .ok (.goto 63, 3) := by decide +kernel
theorem dX4_doStep_247 : decode cX4_doStep 247 = .ok (.aload_n 0, 1) := by decide +kernel
theorem dX4_doStep_248 : decode cX4_doStep 248 = .ok (.getfield 11, 3) := by decide +kernel
theorem dX4_doStep_251 : decode cX4_doStep 251 = .ok (.iconst 4, 1) := by decide +kernel
theorem dX4_doStep_252 : decode cX4_doStep 252 = .ok (.dup2, 1) := by decide +kernel
theorem dX4_doStep_253 : decode cX4_doStep 253 = .ok (.iaload, 1) := by decide +kernel
theorem dX4_doStep_254 : decode cX4_doStep 254 = .ok (.aload_n 1, 1) := by decide +kernel
theorem dX4_doStep_255 : decode cX4_doStep 255 = .ok (.invokevirtual 130, 3) := by decide +kernel
theorem dX4_doStep_258 : decode cX4_doStep 258 = .ok (.iadd, 1) := by decide +kernel
theorem dX4_doStep_259 : decode cX4_doStep 259 = .ok (.iastore, 1) := by decide +kernel
theorem dX4_doStep_260 : decode cX4_doStep 260 = .ok (.goto 47, 3) := by decide +kernel
theorem dX4_doStep_263 : decode cX4_doStep 263 = .ok (.aload_n 0, 1) := by decide +kernel
theorem dX4_doStep_264 : decode cX4_doStep 264 = .ok (.getfield 11, 3) := by decide +kernel
theorem dX4_doStep_267 : decode cX4_doStep 267 = .ok (.iconst 0, 1) := by decide +kernel
theorem dX4_doStep_268 : decode cX4_doStep 268 = .ok (.dup2, 1) := by decide +kernel
theorem dX4_doStep_269 : decode cX4_doStep 269 = .ok (.iaload, 1) := by decide +kernel
theorem dX4_doStep_270 : decode cX4_doStep 270 = .ok (.aload_n 1, 1) := by decide +kernel
theorem dX4_doStep_271 : decode cX4_doStep 271 = .ok (.iload 6, 2) := by decide +kernel
theorem dX4_doStep_273 : decode cX4_doStep 273 = .ok (.aload 4, 2) := by decide +kernel
theorem dX4_doStep_275 : decode cX4_doStep 275 = .ok (.getfield 97, 3) := by decide +kernel
theorem dX4_doStep_278 : decode cX4_doStep 278 = .ok (.iload_n 2, 1) := by decide +kernel
theorem dX4_doStep_279 : decode cX4_doStep 279 = .ok (.iaload, 1) := by decide +kernel
theorem dX4_doStep_280 : decode cX4_doStep 280 = .ok (.invokevirtual 134, 3) := by decide +kernel
theorem dX4_doStep_283 : decode cX4_doStep 283 = .ok (.iconst (-1), 1) := by decide +kernel
theorem dX4_doStep_284 : decode cX4_doStep 284 = .ok (.if_icmp .ne 7, 3) := by decide +kernel
theorem dX4_doStep_287 : decode cX4_doStep 287 = .ok (.iconst 1, 1) := by decide +kernel
theorem dX4_doStep_288 : decode cX4_doStep 288 = .ok (.goto 4, 3) := by decide +kernel
theorem dX4_doStep_291 : decode cX4_doStep 291 = .ok (.iconst 0, 1) := by decide +kernel
theorem dX4_doStep_292 : decode cX4_doStep 292 = .ok (.iadd, 1) := by decide +kernel
theorem dX4_doStep_293 : decode cX4_doStep 293 = .ok (.iastore, 1) := by decide +kernel
theorem dX4_doStep_294 : decode cX4_doStep 294 = .ok (.goto 13, 3) := by decide +kernel
theorem dX4_doStep_297 : decode cX4_doStep 297 = .ok (.aload_n 0, 1) := by decide +kernel
theorem dX4_doStep_298 : decode cX4_doStep 298 = .ok (.aload_n 1, 1) := by decide +kernel
theorem dX4_doStep_299 : decode cX4_doStep 299 = .ok (.iload 7, 2) := by decide +kernel
theorem dX4_doStep_301 : decode cX4_doStep 301 = .ok (.invokevirtual 137, 3) := by decide +kernel
theorem dX4_doStep_304 : decode cX4_doStep 304 = .ok (.goto 3, 3) := by decide +kernel
theorem dX4_doStep_307 : decode cX4_doStep 307 = .ok (.return_, 1) := by decide +kernel
theorem dX4_ticketFor_0 : decode cX4_ticketFor 0 = .ok (.aload_n 0, 1) := by decide +kernel
theorem dX4_ticketFor_1 : decode cX4_ticketFor 1 = .ok (.iconst 0, 1) := by decide +kernel
theorem dX4_ticketFor_2 : decode cX4_ticketFor 2 = .ok (.invokevirtual 140, 3) := by decide +kernel
theorem dX4_ticketFor_5 : decode cX4_ticketFor 5 = .ok (.ifCond .eq 17, 3) := by decide +kernel
theorem dX4_ticketFor_8 : decode cX4_ticketFor 8 = .ok (.aload_n 0, 1) := by decide +kernel
theorem dX4_ticketFor_9 : decode cX4_ticketFor 9 = .ok (.getfield 143, 3) := by decide +kernel
theorem dX4_ticketFor_12 : decode cX4_ticketFor 12 = .ok (.iconst 0, 1) := by decide +kernel
theorem dX4_ticketFor_13 : decode cX4_ticketFor 13 = .ok (.iaload, 1) := by decide +kernel
theorem dX4_ticketFor_14 : decode cX4_ticketFor 14 = .ok (.iload_n 1, 1) := by decide +kernel
theorem dX4_ticketFor_15 : decode cX4_ticketFor 15 = .ok (.if_icmp .ne 7, 3) := by decide +kernel
theorem dX4_ticketFor_18 : decode cX4_ticketFor 18 = .ok (.iconst 0, 1) := by decide +kernel
theorem dX4_ticketFor_19 : decode cX4_ticketFor 19 = .ok (.goto 4, 3) := by decide +kernel
theorem dX4_ticketFor_22 : decode cX4_ticketFor 22 = .ok (.iconst (-1), 1) := by decide +kernel
theorem dX4_ticketFor_23 : decode cX4_ticketFor 23 = .ok (.ireturn, 1) := by decide +kernel
theorem dX4_countTold_0 : decode cX4_countTold 0 = .ok (.iload_n 2, 1) := by decide +kernel
theorem dX4_countTold_1 : decode cX4_countTold 1 = .ok (.iconst (-1), 1) := by decide +kernel
theorem dX4_countTold_2 : decode cX4_countTold 2 = .ok (.if_icmp .ne 16, 3) := by decide +kernel
theorem dX4_countTold_5 : decode cX4_countTold 5 = .ok (.aload_n 0, 1) := by decide +kernel
theorem dX4_countTold_6 : decode cX4_countTold 6 = .ok (.getfield 11, 3) := by decide +kernel
theorem dX4_countTold_9 : decode cX4_countTold 9 = .ok (.iconst 0, 1) := by decide +kernel
theorem dX4_countTold_10 : decode cX4_countTold 10 = .ok (.dup2, 1) := by decide +kernel
theorem dX4_countTold_11 : decode cX4_countTold 11 = .ok (.iaload, 1) := by decide +kernel
theorem dX4_countTold_12 : decode cX4_countTold 12 = .ok (.iconst 1, 1) := by decide +kernel
theorem dX4_countTold_13 : decode cX4_countTold 13 = .ok (.iadd, 1) := by decide +kernel
theorem dX4_countTold_14 : decode cX4_countTold 14 = .ok (.iastore, 1) := by decide +kernel
theorem dX4_countTold_15 : decode cX4_countTold 15 = .ok (.goto 28, 3) := by decide +kernel
theorem dX4_countTold_18 : decode cX4_countTold 18 = .ok (.aload_n 0, 1) := by decide +kernel
theorem dX4_countTold_19 : decode cX4_countTold 19 = .ok (.getfield 11, 3) := by decide +kernel
theorem dX4_countTold_22 : decode cX4_countTold 22 = .ok (.iload_n 2, 1) := by decide +kernel
theorem dX4_countTold_23 : decode cX4_countTold 23 = .ok (.aload_n 1, 1) := by decide +kernel
theorem dX4_countTold_24 : decode cX4_countTold 24 = .ok (.getfield 146, 3) := by decide +kernel
theorem dX4_countTold_27 : decode cX4_countTold 27 = .ok (.getfield 150, 3) := by decide +kernel
theorem dX4_countTold_30 : decode cX4_countTold 30 = .ok (.if_icmp .lt 7, 3) := by decide +kernel
theorem dX4_countTold_33 : decode cX4_countTold 33 = .ok (.iconst 1, 1) := by decide +kernel
theorem dX4_countTold_34 : decode cX4_countTold 34 = .ok (.goto 4, 3) := by decide +kernel
theorem dX4_countTold_37 : decode cX4_countTold 37 = .ok (.iconst 2, 1) := by decide +kernel
theorem dX4_countTold_38 : decode cX4_countTold 38 = .ok (.dup2, 1) := by decide +kernel
theorem dX4_countTold_39 : decode cX4_countTold 39 = .ok (.iaload, 1) := by decide +kernel
theorem dX4_countTold_40 : decode cX4_countTold 40 = .ok (.iconst 1, 1) := by decide +kernel
theorem dX4_countTold_41 : decode cX4_countTold 41 = .ok (.iadd, 1) := by decide +kernel
theorem dX4_countTold_42 : decode cX4_countTold 42 = .ok (.iastore, 1) := by decide +kernel
theorem dX4_countTold_43 : decode cX4_countTold 43 = .ok (.return_, 1) := by decide +kernel
theorem dX4_drawStorm_0 : decode cX4_drawStorm 0 = .ok (.iconst 0, 1) := by decide +kernel
theorem dX4_drawStorm_1 : decode cX4_drawStorm 1 = .ok (.istore_n 3, 1) := by decide +kernel
theorem dX4_drawStorm_2 : decode cX4_drawStorm 2 = .ok (.iload_n 3, 1) := by decide +kernel
theorem dX4_drawStorm_3 : decode cX4_drawStorm 3 = .ok (.aload_n 1, 1) := by decide +kernel
theorem dX4_drawStorm_4 : decode cX4_drawStorm 4 = .ok (.getfield 146, 3) := by decide +kernel
theorem dX4_drawStorm_7 : decode cX4_drawStorm 7 = .ok (.getfield 155, 3) := by decide +kernel
theorem dX4_drawStorm_10 : decode cX4_drawStorm 10 = .ok (.if_icmp .ge 52, 3) := by decide +kernel
theorem dX4_drawStorm_13 : decode cX4_drawStorm 13 = .ok (.aload_n 0, 1) := by decide +kernel
theorem dX4_drawStorm_14 : decode cX4_drawStorm 14 = .ok (.aload_n 0, 1) := by decide +kernel
theorem dX4_drawStorm_15 : decode cX4_drawStorm 15 = .ok (.getfield 24, 3) := by decide +kernel
theorem dX4_drawStorm_18 : decode cX4_drawStorm 18 = .ok (.sipush 2801, 3) := by decide +kernel
theorem dX4_drawStorm_21 : decode cX4_drawStorm 21 = .ok (.imul, 1) := by decide +kernel
theorem dX4_drawStorm_22 : decode cX4_drawStorm 22 = .ok (.sipush 12413, 3) := by decide +kernel
theorem dX4_drawStorm_25 : decode cX4_drawStorm 25 = .ok (.iadd, 1) := by decide +kernel
theorem dX4_drawStorm_26 : decode cX4_drawStorm 26 = .ok (.ldc 158, 2) := by decide +kernel
theorem dX4_drawStorm_28 : decode cX4_drawStorm 28 = .ok (.irem, 1) := by decide +kernel
theorem dX4_drawStorm_29 : decode cX4_drawStorm 29 = .ok (.putfield 24, 3) := by decide +kernel
theorem dX4_drawStorm_32 : decode cX4_drawStorm 32 = .ok (.aload_n 1, 1) := by decide +kernel
theorem dX4_drawStorm_33 : decode cX4_drawStorm 33 = .ok (.iload_n 3, 1) := by decide +kernel
theorem dX4_drawStorm_34 : decode cX4_drawStorm 34 = .ok (.aload_n 0, 1) := by decide +kernel
theorem dX4_drawStorm_35 : decode cX4_drawStorm 35 = .ok (.getfield 24, 3) := by decide +kernel
theorem dX4_drawStorm_38 : decode cX4_drawStorm 38 = .ok (.bipush 8, 2) := by decide +kernel
theorem dX4_drawStorm_40 : decode cX4_drawStorm 40 = .ok (.idiv, 1) := by decide +kernel
theorem dX4_drawStorm_41 : decode cX4_drawStorm 41 = .ok (.bipush 16, 2) := by decide +kernel
theorem dX4_drawStorm_43 : decode cX4_drawStorm 43 = .ok (.irem, 1) := by decide +kernel
theorem dX4_drawStorm_44 : decode cX4_drawStorm 44 = .ok (.iload_n 2, 1) := by decide +kernel
theorem dX4_drawStorm_45 : decode cX4_drawStorm 45 = .ok (.if_icmp .lt 7, 3) := by decide +kernel
theorem dX4_drawStorm_48 : decode cX4_drawStorm 48 = .ok (.iconst 1, 1) := by decide +kernel
theorem dX4_drawStorm_49 : decode cX4_drawStorm 49 = .ok (.goto 4, 3) := by decide +kernel
theorem dX4_drawStorm_52 : decode cX4_drawStorm 52 = .ok (.iconst 0, 1) := by decide +kernel
theorem dX4_drawStorm_53 : decode cX4_drawStorm 53 = .ok (.invokevirtual 119, 3) := by decide +kernel
theorem dX4_drawStorm_56 : decode cX4_drawStorm 56 = .ok (.iinc 3 1, 3) := by decide +kernel
theorem dX4_drawStorm_59 : decode cX4_drawStorm 59 = .ok (.goto (-57), 3) := by decide +kernel
theorem dX4_drawStorm_62 : decode cX4_drawStorm 62 = .ok (.return_, 1) := by decide +kernel
theorem dX5_init_0 : decode cX5_init 0 = .ok (.aload_n 0, 1) := by decide +kernel
theorem dX5_init_1 : decode cX5_init 1 = .ok (.invokespecial 3, 3) := by decide +kernel
theorem dX5_init_4 : decode cX5_init 4 = .ok (.aload_n 0, 1) := by decide +kernel
theorem dX5_init_5 : decode cX5_init 5 = .ok (.new 9, 3) := by decide +kernel
theorem dX5_init_8 : decode cX5_init 8 = .ok (.dup, 1) := by decide +kernel
theorem dX5_init_9 : decode cX5_init 9 = .ok (.bipush 64, 2) := by decide +kernel
theorem dX5_init_11 : decode cX5_init 11 = .ok (.invokespecial 13, 3) := by decide +kernel
theorem dX5_init_14 : decode cX5_init 14 = .ok (.putfield 16, 3) := by decide +kernel
theorem dX5_init_17 : decode cX5_init 17 = .ok (.aload_n 0, 1) := by decide +kernel
theorem dX5_init_18 : decode cX5_init 18 = .ok (.bipush 64, 2) := by decide +kernel
theorem dX5_init_20 : decode cX5_init 20 = .ok (.newarray .boolean, 2) := by decide +kernel
theorem dX5_init_22 : decode cX5_init 22 = .ok (.putfield 20, 3) := by decide +kernel
theorem dX5_init_25 : decode cX5_init 25 = .ok (.aload_n 0, 1) := by decide +kernel
theorem dX5_init_26 : decode cX5_init 26 = .ok (.bipush 6, 2) := by decide +kernel
theorem dX5_init_28 : decode cX5_init 28 = .ok (.newarray .int, 2) := by decide +kernel
theorem dX5_init_30 : decode cX5_init 30 = .ok (.putfield 24, 3) := by decide +kernel
theorem dX5_init_33 : decode cX5_init 33 = .ok (.aload_n 0, 1) := by decide +kernel
theorem dX5_init_34 : decode cX5_init 34 = .ok (.bipush 6, 2) := by decide +kernel
theorem dX5_init_36 : decode cX5_init 36 = .ok (.newarray .int, 2) := by decide +kernel
theorem dX5_init_38 : decode cX5_init 38 = .ok (.putfield 28, 3) := by decide +kernel
theorem dX5_init_41 : decode cX5_init 41 = .ok (.aload_n 0, 1) := by decide +kernel
theorem dX5_init_42 : decode cX5_init 42 = .ok (.iconst 0, 1) := by decide +kernel
theorem dX5_init_43 : decode cX5_init 43 = .ok (.putfield 31, 3) := by decide +kernel
theorem dX5_init_46 : decode cX5_init 46 = .ok (.aload_n 0, 1) := by decide +kernel
theorem dX5_init_47 : decode cX5_init 47 = .ok (.iconst 0, 1) := by decide +kernel
theorem dX5_init_48 : decode cX5_init 48 = .ok (.putfield 35, 3) := by decide +kernel
theorem dX5_init_51 : decode cX5_init 51 = .ok (.return_, 1) := by decide +kernel
theorem dX5_fewest_0 : decode cX5_fewest 0 = .ok (.aload_n 0, 1) := by decide +kernel
theorem dX5_fewest_1 : decode cX5_fewest 1 = .ok (.aload_n 1, 1) := by decide +kernel
theorem dX5_fewest_2 : decode cX5_fewest 2 = .ok (.iload_n 2, 1) := by decide +kernel
theorem dX5_fewest_3 : decode cX5_fewest 3 = .ok (.invokevirtual 38, 3) := by decide +kernel
theorem dX5_fewest_6 : decode cX5_fewest 6 = .ok (.iconst 0, 1) := by decide +kernel
theorem dX5_fewest_7 : decode cX5_fewest 7 = .ok (.istore_n 3, 1) := by decide +kernel
theorem dX5_fewest_8 : decode cX5_fewest 8 = .ok (.iload_n 3, 1) := by decide +kernel
theorem dX5_fewest_9 : decode cX5_fewest 9 = .ok (.iconst 4, 1) := by decide +kernel
theorem dX5_fewest_10 : decode cX5_fewest 10 = .ok (.if_icmp .gt 19, 3) := by decide +kernel
theorem dX5_fewest_13 : decode cX5_fewest 13 = .ok (.aload_n 0, 1) := by decide +kernel
theorem dX5_fewest_14 : decode cX5_fewest 14 = .ok (.iload_n 3, 1) := by decide +kernel
theorem dX5_fewest_15 : decode cX5_fewest 15 = .ok (.invokestatic 42, 3) := by decide +kernel
theorem dX5_fewest_18 : decode cX5_fewest 18 = .ok (.ifCond .eq 5, 3) := by decide +kernel
theorem dX5_fewest_21 : decode cX5_fewest 21 = .ok (.iload_n 3, 1) := by decide +kernel
theorem dX5_fewest_22 : decode cX5_fewest 22 = .ok (.ireturn, 1) := by decide +kernel
theorem dX5_fewest_23 : decode cX5_fewest 23 = .ok (.iinc 3 1, 3) := by decide +kernel
theorem dX5_fewest_26 : decode cX5_fewest 26 = .ok (.goto (-18), 3) := by decide +kernel
theorem dX5_fewest_29 : decode cX5_fewest 29 = .ok (.iconst (-1), 1) := by decide +kernel
theorem dX5_fewest_30 : decode cX5_fewest 30 = .ok (.ireturn, 1) := by decide +kernel
theorem dX5_begin_0 : decode cX5_begin 0 = .ok (.aload_n 0, 1) := by decide +kernel
theorem dX5_begin_1 : decode cX5_begin 1 = .ok (.aload_n 1, 1) := by decide +kernel
theorem dX5_begin_2 : decode cX5_begin 2 = .ok (.getfield 46, 3) := by decide +kernel
theorem dX5_begin_5 : decode cX5_begin 5 = .ok (.getfield 52, 3) := by decide +kernel
theorem dX5_begin_8 : decode cX5_begin 8 = .ok (.putfield 31, 3) := by decide +kernel
theorem dX5_begin_11 : decode cX5_begin 11 = .ok (.aload_n 0, 1) := by decide +kernel
theorem dX5_begin_12 : decode cX5_begin 12 = .ok (.aload_n 1, 1) := by decide +kernel
theorem dX5_begin_13 : decode cX5_begin 13 = .ok (.getfield 46, 3) := by decide +kernel
theorem dX5_begin_16 : decode cX5_begin 16 = .ok (.getfield 55, 3) := by decide +kernel
theorem dX5_begin_19 : decode cX5_begin 19 = .ok (.iload_n 2, 1) := by decide +kernel
theorem dX5_begin_20 : decode cX5_begin 20 = .ok (.iaload, 1) := by decide +kernel
theorem dX5_begin_21 : decode cX5_begin 21 = .ok (.putfield 35, 3) := by decide +kernel
theorem dX5_begin_24 : decode cX5_begin 24 = .ok (.iconst 0, 1) := by decide +kernel
theorem dX5_begin_25 : decode cX5_begin 25 = .ok (.istore_n 3, 1) := by decide +kernel
theorem dX5_begin_26 : decode cX5_begin 26 = .ok (.iload_n 3, 1) := by decide +kernel
theorem dX5_begin_27 : decode cX5_begin 27 = .ok (.aload_n 0, 1) := by decide +kernel
theorem dX5_begin_28 : decode cX5_begin 28 = .ok (.getfield 31, 3) := by decide +kernel
theorem dX5_begin_31 : decode cX5_begin 31 = .ok (.if_icmp .ge 45, 3) := by decide +kernel
theorem dX5_begin_34 : decode cX5_begin 34 = .ok (.aload_n 0, 1) := by decide +kernel
theorem dX5_begin_35 : decode cX5_begin 35 = .ok (.getfield 24, 3) := by decide +kernel
theorem dX5_begin_38 : decode cX5_begin 38 = .ok (.iload_n 3, 1) := by decide +kernel
theorem dX5_begin_39 : decode cX5_begin 39 = .ok (.iconst 1, 1) := by decide +kernel
theorem dX5_begin_40 : decode cX5_begin 40 = .ok (.iload_n 3, 1) := by decide +kernel
theorem dX5_begin_41 : decode cX5_begin 41 = .ok (.ishl, 1) := by decide +kernel
theorem dX5_begin_42 : decode cX5_begin 42 = .ok (.iastore, 1) := by decide +kernel
theorem dX5_begin_43 : decode cX5_begin 43 = .ok (.aload_n 0, 1) := by decide +kernel
theorem dX5_begin_44 : decode cX5_begin 44 = .ok (.getfield 28, 3) := by decide +kernel
theorem dX5_begin_47 : decode cX5_begin 47 = .ok (.iload_n 3, 1) := by decide +kernel
theorem dX5_begin_48 : decode cX5_begin 48 = .ok (.aload_n 0, 1) := by decide +kernel
theorem dX5_begin_49 : decode cX5_begin 49 = .ok (.getfield 35, 3) := by decide +kernel
theorem dX5_begin_52 : decode cX5_begin 52 = .ok (.iload_n 3, 1) := by decide +kernel
theorem dX5_begin_53 : decode cX5_begin 53 = .ok (.ishr, 1) := by decide +kernel
theorem dX5_begin_54 : decode cX5_begin 54 = .ok (.iconst 1, 1) := by decide +kernel
theorem dX5_begin_55 : decode cX5_begin 55 = .ok (.iand, 1) := by decide +kernel
theorem dX5_begin_56 : decode cX5_begin 56 = .ok (.ifCond .eq 12, 3) := by decide +kernel
theorem dX5_begin_59 : decode cX5_begin 59 = .ok (.aload_n 1, 1) := by decide +kernel
theorem dX5_begin_60 : decode cX5_begin 60 = .ok (.iload_n 2, 1) := by decide +kernel
theorem dX5_begin_61 : decode cX5_begin 61 = .ok (.iload_n 3, 1) := by decide +kernel
theorem dX5_begin_62 : decode cX5_begin 62 = .ok (.invokevirtual 57, 3) := by decide +kernel
theorem dX5_begin_65 : decode cX5_begin 65 = .ok (.goto 4, 3) := by decide +kernel
theorem dX5_begin_68 : decode cX5_begin 68 = .ok (.iconst 0, 1) := by decide +kernel
theorem dX5_begin_69 : decode cX5_begin 69 = .ok (.iastore, 1) := by decide +kernel
theorem dX5_begin_70 : decode cX5_begin 70 = .ok (.iinc 3 1, 3) := by decide +kernel
theorem dX5_begin_73 : decode cX5_begin 73 = .ok (.goto (-47), 3) := by decide +kernel
theorem dX5_begin_76 : decode cX5_begin 76 = .ok (.iconst 0, 1) := by decide +kernel
theorem dX5_begin_77 : decode cX5_begin 77 = .ok (.istore_n 3, 1) := by decide +kernel
theorem dX5_begin_78 : decode cX5_begin 78 = .ok (.iload_n 3, 1) := by decide +kernel
theorem dX5_begin_79 : decode cX5_begin 79 = .ok (.aload_n 0, 1) := by decide +kernel
theorem dX5_begin_80 : decode cX5_begin 80 = .ok (.getfield 35, 3) := by decide +kernel
theorem dX5_begin_83 : decode cX5_begin 83 = .ok (.if_icmp .gt 31, 3) := by decide +kernel
theorem dX5_begin_86 : decode cX5_begin 86 = .ok (.iload_n 3, 1) := by decide +kernel
theorem dX5_begin_87 : decode cX5_begin 87 = .ok (.aload_n 0, 1) := by decide +kernel
theorem dX5_begin_88 : decode cX5_begin 88 = .ok (.getfield 35, 3) := by decide +kernel
theorem dX5_begin_91 : decode cX5_begin 91 = .ok (.iconst (-1), 1) := by decide +kernel
theorem dX5_begin_92 : decode cX5_begin 92 = .ok (.ixor, 1) := by decide +kernel
theorem dX5_begin_93 : decode cX5_begin 93 = .ok (.iand, 1) := by decide +kernel
theorem dX5_begin_94 : decode cX5_begin 94 = .ok (.ifCond .ne 14, 3) := by decide +kernel
theorem dX5_begin_97 : decode cX5_begin 97 = .ok (.aload_n 1, 1) := by decide +kernel
theorem dX5_begin_98 : decode cX5_begin 98 = .ok (.iload_n 3, 1) := by decide +kernel
theorem dX5_begin_99 : decode cX5_begin 99 = .ok (.iload_n 2, 1) := by decide +kernel
theorem dX5_begin_100 : decode cX5_begin 100 = .ok (.aload_n 0, 1) := by decide +kernel
theorem dX5_begin_101 : decode cX5_begin 101 = .ok (.getfield 16, 3) := by decide +kernel
theorem dX5_begin_104 : decode cX5_begin 104 = .ok (.iload_n 3, 1) := by decide +kernel
theorem dX5_begin_105 : decode cX5_begin 105 = .ok (.invokevirtual 61, 3) := by decide +kernel
theorem dX5_begin_108 : decode cX5_begin 108 = .ok (.iinc 3 1, 3) := by decide +kernel
theorem dX5_begin_111 : decode cX5_begin 111 = .ok (.goto (-33), 3) := by decide +kernel
theorem dX5_begin_114 : decode cX5_begin 114 = .ok (.iconst 0, 1) := by decide +kernel
theorem dX5_begin_115 : decode cX5_begin 115 = .ok (.istore_n 3, 1) := by decide +kernel
theorem dX5_begin_116 : decode cX5_begin 116 = .ok (.iload_n 3, 1) := by decide +kernel
theorem dX5_begin_117 : decode cX5_begin 117 = .ok (.aload_n 0, 1) := by decide +kernel
theorem dX5_begin_118 : decode cX5_begin 118 = .ok (.getfield 35, 3) := by decide +kernel
theorem dX5_begin_121 : decode cX5_begin 121 = .ok (.if_icmp .gt 50, 3) := by decide +kernel
theorem dX5_begin_124 : decode cX5_begin 124 = .ok (.aload_n 0, 1) := by decide +kernel
theorem dX5_begin_125 : decode cX5_begin 125 = .ok (.getfield 20, 3) := by decide +kernel
theorem dX5_begin_128 : decode cX5_begin 128 = .ok (.iload_n 3, 1) := by decide +kernel
theorem dX5_begin_129 : decode cX5_begin 129 = .ok (.iload_n 3, 1) := by decide +kernel
theorem dX5_begin_130 : decode cX5_begin 130 = .ok (.aload_n 0, 1) := by decide +kernel
theorem dX5_begin_131 : decode cX5_begin 131 = .ok (.getfield 35, 3) := by decide +kernel
theorem dX5_begin_134 : decode cX5_begin 134 = .ok (.iconst (-1), 1) := by decide +kernel
theorem dX5_begin_135 : decode cX5_begin 135 = .ok (.ixor, 1) := by decide +kernel
theorem dX5_begin_136 : decode cX5_begin 136 = .ok (.iand, 1) := by decide +kernel
theorem dX5_begin_137 : decode cX5_begin 137 = .ok (.ifCond .ne 26, 3) := by decide +kernel
theorem dX5_begin_140 : decode cX5_begin 140 = .ok (.aload_n 0, 1) := by decide +kernel
theorem dX5_begin_141 : decode cX5_begin 141 = .ok (.getfield 16, 3) := by decide +kernel
theorem dX5_begin_144 : decode cX5_begin 144 = .ok (.iload_n 3, 1) := by decide +kernel
theorem dX5_begin_145 : decode cX5_begin 145 = .ok (.aload_n 0, 1) := by decide +kernel
theorem dX5_begin_146 : decode cX5_begin 146 = .ok (.getfield 16, 3) := by decide +kernel
theorem dX5_begin_149 : decode cX5_begin 149 = .ok (.aload_n 0, 1) := by decide +kernel
theorem dX5_begin_150 : decode cX5_begin 150 = .ok (.getfield 35, 3) := by decide +kernel
theorem dX5_begin_153 : decode cX5_begin 153 = .ok (.invokevirtual 65, 3) := by decide +kernel
theorem dX5_begin_156 : decode cX5_begin 156 = .ok (.ifCond .eq 7, 3) := by decide +kernel
theorem dX5_begin_159 : decode cX5_begin 159 = .ok (.iconst 1, 1) := by decide +kernel
theorem dX5_begin_160 : decode cX5_begin 160 = .ok (.goto 4, 3) := by decide +kernel
theorem dX5_begin_163 : decode cX5_begin 163 = .ok (.iconst 0, 1) := by decide +kernel
theorem dX5_begin_164 : decode cX5_begin 164 = .ok (.bastore, 1) := by decide +kernel
theorem dX5_begin_165 : decode cX5_begin 165 = .ok (.iinc 3 1, 3) := by decide +kernel
theorem dX5_begin_168 : decode cX5_begin 168 = .ok (.goto (-52), 3) := by decide +kernel
theorem dX5_begin_171 : decode cX5_begin 171 = .ok (.return_, 1) := by decide +kernel
theorem dX5_settles_0 : decode cX5_settles 0 = .ok (.aload_n 0, 1) := by decide +kernel
theorem dX5_settles_1 : decode cX5_settles 1 = .ok (.invokevirtual 69, 3) := by decide +kernel
theorem dX5_settles_4 : decode cX5_settles 4 = .ok (.istore_n 2, 1) := by decide +kernel
theorem dX5_settles_5 : decode cX5_settles 5 = .ok (.iload_n 2, 1) := by decide +kernel
theorem dX5_settles_6 : decode cX5_settles 6 = .ok (.ifCond .ne 5, 3) := by decide +kernel
theorem dX5_settles_9 : decode cX5_settles 9 = .ok (.iconst 1, 1) := by decide +kernel
theorem dX5_settles_10 : decode cX5_settles 10 = .ok (.ireturn, 1) := by decide +kernel
theorem dX5_settles_11 : decode cX5_settles 11 = .ok (.iload_n 2, 1) := by decide +kernel
theorem dX5_settles_12 : decode cX5_settles 12 = .ok (.iconst 2, 1) := by decide +kernel
theorem dX5_settles_13 : decode cX5_settles 13 = .ok (.iload_n 1, 1) := by decide +kernel
theorem dX5_settles_14 : decode cX5_settles 14 = .ok (.imul, 1) := by decide +kernel
theorem dX5_settles_15 : decode cX5_settles 15 = .ok (.if_icmp .le 5, 3) := by decide +kernel
theorem dX5_settles_18 : decode cX5_settles 18 = .ok (.iconst 0, 1) := by decide +kernel
theorem dX5_settles_19 : decode cX5_settles 19 = .ok (.ireturn, 1) := by decide +kernel
theorem dX5_settles_20 : decode cX5_settles 20 = .ok (.iconst 0, 1) := by decide +kernel
theorem dX5_settles_21 : decode cX5_settles 21 = .ok (.istore_n 3, 1) := by decide +kernel
theorem dX5_settles_22 : decode cX5_settles 22 = .ok (.iload_n 3, 1) := by decide +kernel
theorem dX5_settles_23 : decode cX5_settles 23 = .ok (.aload_n 0, 1) := by decide +kernel
theorem dX5_settles_24 : decode cX5_settles 24 = .ok (.getfield 31, 3) := by decide +kernel
theorem dX5_settles_27 : decode cX5_settles 27 = .ok (.if_icmp .ge 54, 3) := by decide +kernel
theorem dX5_settles_30 : decode cX5_settles 30 = .ok (.iload_n 3, 1) := by decide +kernel
theorem dX5_settles_31 : decode cX5_settles 31 = .ok (.iconst 1, 1) := by decide +kernel
theorem dX5_settles_32 : decode cX5_settles 32 = .ok (.iadd, 1) := by decide +kernel
theorem dX5_settles_33 : decode cX5_settles 33 = .ok (.istore 4, 2) := by decide +kernel
theorem dX5_settles_35 : decode cX5_settles 35 = .ok (.iload 4, 2) := by decide +kernel
theorem dX5_settles_37 : decode cX5_settles 37 = .ok (.aload_n 0, 1) := by decide +kernel
theorem dX5_settles_38 : decode cX5_settles 38 = .ok (.getfield 31, 3) := by decide +kernel
theorem dX5_settles_41 : decode cX5_settles 41 = .ok (.if_icmp .ge 34, 3) := by decide +kernel
theorem dX5_settles_44 : decode cX5_settles 44 = .ok (.aload_n 0, 1) := by decide +kernel
theorem dX5_settles_45 : decode cX5_settles 45 = .ok (.iload_n 3, 1) := by decide +kernel
theorem dX5_settles_46 : decode cX5_settles 46 = .ok (.iload 4, 2) := by decide +kernel
theorem dX5_settles_48 : decode cX5_settles 48 = .ok (.invokevirtual 73, 3) := by decide +kernel
theorem dX5_settles_51 : decode cX5_settles 51 = .ok (.ifCond .eq 18, 3) := by decide +kernel
theorem dX5_settles_54 : decode cX5_settles 54 = .ok (.aload_n 0, 1) := by decide +kernel
theorem dX5_settles_55 : decode cX5_settles 55 = .ok (.iload_n 3, 1) := by decide +kernel
theorem dX5_settles_56 : decode cX5_settles 56 = .ok (.iload 4, 2) := by decide +kernel
theorem dX5_settles_58 : decode cX5_settles 58 = .ok (.iload_n 1, 1) := by decide +kernel
theorem dX5_settles_59 : decode cX5_settles 59 = .ok (.iconst 1, 1) := by decide +kernel
theorem dX5_settles_60 : decode cX5_settles 60 = .ok (.isub, 1) := by decide +kernel
theorem dX5_settles_61 : decode cX5_settles 61 = .ok (.invokevirtual 77, 3) := by decide +kernel
theorem dX5_settles_64 : decode cX5_settles 64 = .ok (.ifCond .eq 5, 3) := by decide +kernel
theorem dX5_settles_67 : decode cX5_settles 67 = .ok (.iconst 1, 1) := by decide +kernel
theorem dX5_settles_68 : decode cX5_settles 68 = .ok (.ireturn, 1) := by decide +kernel
theorem dX5_settles_69 : decode cX5_settles 69 = .ok (.iinc 4 1, 3) := by decide +kernel
theorem dX5_settles_72 : decode cX5_settles 72 = .ok (.goto (-37), 3) := by decide +kernel
theorem dX5_settles_75 : decode cX5_settles 75 = .ok (.iinc 3 1, 3) := by decide +kernel
theorem dX5_settles_78 : decode cX5_settles 78 = .ok (.goto (-56), 3) := by decide +kernel
theorem dX5_settles_81 : decode cX5_settles 81 = .ok (.iconst 0, 1) := by decide +kernel
theorem dX5_settles_82 : decode cX5_settles 82 = .ok (.ireturn, 1) := by decide +kernel
theorem dX5_settlesBehind_0 : decode cX5_settlesBehind 0 = .ok (.aload_n 0, 1) := by decide +kernel
theorem dX5_settlesBehind_1 : decode cX5_settlesBehind 1 = .ok (.getfield 24, 3) := by decide +kernel
theorem dX5_settlesBehind_4 : decode cX5_settlesBehind 4 = .ok (.iload_n 1, 1) := by decide +kernel
theorem dX5_settlesBehind_5 : decode cX5_settlesBehind 5 = .ok (.iaload, 1) := by decide +kernel
theorem dX5_settlesBehind_6 : decode cX5_settlesBehind 6 = .ok (.istore 4, 2) := by decide +kernel
theorem dX5_settlesBehind_8 : decode cX5_settlesBehind 8 = .ok (.aload_n 0, 1) := by decide +kernel
theorem dX5_settlesBehind_9 : decode cX5_settlesBehind 9 = .ok (.getfield 24, 3) := by decide +kernel
theorem dX5_settlesBehind_12 : decode cX5_settlesBehind 12 = .ok (.iload_n 2, 1) := by decide +kernel
theorem dX5_settlesBehind_13 : decode cX5_settlesBehind 13 = .ok (.iaload, 1) := by decide +kernel
theorem dX5_settlesBehind_14 : decode cX5_settlesBehind 14 = .ok (.istore 5, 2) := by decide +kernel
theorem dX5_settlesBehind_16 : decode cX5_settlesBehind 16 = .ok (.aload_n 0, 1) := by decide +kernel
theorem dX5_settlesBehind_17 : decode cX5_settlesBehind 17 = .ok (.getfield 24, 3) := by decide +kernel
theorem dX5_settlesBehind_20 : decode cX5_settlesBehind 20 = .ok (.iload_n 1, 1) := by decide +kernel
theorem dX5_settlesBehind_21 : decode cX5_settlesBehind 21 = .ok (.iload 4, 2) := by decide +kernel
theorem dX5_settlesBehind_23 : decode cX5_settlesBehind 23 = .ok (.iload 5, 2) := by decide +kernel
theorem dX5_settlesBehind_25 : decode cX5_settlesBehind 25 = .ok (.ior, 1) := by decide +kernel
theorem dX5_settlesBehind_26 : decode cX5_settlesBehind 26 = .ok (.iastore, 1) := by decide +kernel
theorem dX5_settlesBehind_27 : decode cX5_settlesBehind 27 = .ok (.aload_n 0, 1) := by decide +kernel
theorem dX5_settlesBehind_28 : decode cX5_settlesBehind 28 = .ok (.getfield 24, 3) := by decide +kernel
theorem dX5_settlesBehind_31 : decode cX5_settlesBehind 31 = .ok (.iload_n 2, 1) := by decide +kernel
theorem dX5_settlesBehind_32 : decode cX5_settlesBehind 32 = .ok (.iload 4, 2) := by decide +kernel
theorem dX5_settlesBehind_34 : decode cX5_settlesBehind 34 = .ok (.iload 5, 2) := by decide +kernel
theorem dX5_settlesBehind_36 : decode cX5_settlesBehind 36 = .ok (.ior, 1) := by decide +kernel
theorem dX5_settlesBehind_37 : decode cX5_settlesBehind 37 = .ok (.iastore, 1) := by decide +kernel
theorem dX5_settlesBehind_38 : decode cX5_settlesBehind 38 = .ok (.aload_n 0, 1) := by decide +kernel
theorem dX5_settlesBehind_39 : decode cX5_settlesBehind 39 = .ok (.iload_n 3, 1) := by decide +kernel
theorem dX5_settlesBehind_40 : decode cX5_settlesBehind 40 = .ok (.invokestatic 42, 3) := by decide +kernel
theorem dX5_settlesBehind_43 : decode cX5_settlesBehind 43 = .ok (.istore 6, 2) := by decide +kernel
theorem dX5_settlesBehind_45 : decode cX5_settlesBehind 45 = .ok (.aload_n 0, 1) := by decide +kernel
theorem dX5_settlesBehind_46 : decode cX5_settlesBehind 46 = .ok (.getfield 24, 3) := by decide +kernel
theorem dX5_settlesBehind_49 : decode cX5_settlesBehind 49 = .ok (.iload_n 1, 1) := by decide +kernel
theorem dX5_settlesBehind_50 : decode cX5_settlesBehind 50 = .ok (.iload 4, 2) := by decide +kernel
theorem dX5_settlesBehind_52 : decode cX5_settlesBehind 52 = .ok (.iastore, 1) := by decide +kernel
theorem dX5_settlesBehind_53 : decode cX5_settlesBehind 53 = .ok (.aload_n 0, 1) := by decide +kernel
theorem dX5_settlesBehind_54 : decode cX5_settlesBehind 54 = .ok (.getfield 24, 3) := by decide +kernel
theorem dX5_settlesBehind_57 : decode cX5_settlesBehind 57 = .ok (.iload_n 2, 1) := by decide +kernel
theorem dX5_settlesBehind_58 : decode cX5_settlesBehind 58 = .ok (.iload 5, 2) := by decide +kernel
theorem dX5_settlesBehind_60 : decode cX5_settlesBehind 60 = .ok (.iastore, 1) := by decide +kernel
theorem dX5_settlesBehind_61 : decode cX5_settlesBehind 61 = .ok (.iload 6, 2) := by decide +kernel
theorem dX5_settlesBehind_63 : decode cX5_settlesBehind 63 = .ok (.ireturn, 1) := by decide +kernel
theorem dX5_lackingPlaces_0 : decode cX5_lackingPlaces 0 = .ok (.iconst 0, 1) := by decide +kernel
theorem dX5_lackingPlaces_1 : decode cX5_lackingPlaces 1 = .ok (.istore_n 1, 1) := by decide +kernel
theorem dX5_lackingPlaces_2 : decode cX5_lackingPlaces 2 = .ok (.iconst 0, 1) := by decide +kernel
theorem dX5_lackingPlaces_3 : decode cX5_lackingPlaces 3 = .ok (.istore_n 2, 1) := by decide +kernel
theorem dX5_lackingPlaces_4 : decode cX5_lackingPlaces 4 = .ok (.iload_n 2, 1) := by decide +kernel
theorem dX5_lackingPlaces_5 : decode cX5_lackingPlaces 5 = .ok (.aload_n 0, 1) := by decide +kernel
theorem dX5_lackingPlaces_6 : decode cX5_lackingPlaces 6 = .ok (.getfield 31, 3) := by decide +kernel
theorem dX5_lackingPlaces_9 : decode cX5_lackingPlaces 9 = .ok (.if_icmp .ge 37, 3) := by decide +kernel
theorem dX5_lackingPlaces_12 : decode cX5_lackingPlaces 12 = .ok (.aload_n 0, 1) := by decide +kernel
theorem dX5_lackingPlaces_13 : decode cX5_lackingPlaces 13 = .ok (.getfield 35, 3) := by decide +kernel
theorem dX5_lackingPlaces_16 : decode cX5_lackingPlaces 16 = .ok (.iload_n 2, 1) := by decide +kernel
theorem dX5_lackingPlaces_17 : decode cX5_lackingPlaces 17 = .ok (.ishr, 1) := by decide +kernel
theorem dX5_lackingPlaces_18 : decode cX5_lackingPlaces 18 = .ok (.iconst 1, 1) := by decide +kernel
theorem dX5_lackingPlaces_19 : decode cX5_lackingPlaces 19 = .ok (.iand, 1) := by decide +kernel
theorem dX5_lackingPlaces_20 : decode cX5_lackingPlaces 20 = .ok (.ifCond .eq 20, 3) := by decide +kernel
theorem dX5_lackingPlaces_23 : decode cX5_lackingPlaces 23 = .ok (.aload_n 0, 1) := by decide +kernel
theorem dX5_lackingPlaces_24 : decode cX5_lackingPlaces 24 = .ok (.getfield 20, 3) := by decide +kernel
theorem dX5_lackingPlaces_27 : decode cX5_lackingPlaces 27 = .ok (.aload_n 0, 1) := by decide +kernel
theorem dX5_lackingPlaces_28 : decode cX5_lackingPlaces 28 = .ok (.getfield 24, 3) := by decide +kernel
theorem dX5_lackingPlaces_31 : decode cX5_lackingPlaces 31 = .ok (.iload_n 2, 1) := by decide +kernel
theorem dX5_lackingPlaces_32 : decode cX5_lackingPlaces 32 = .ok (.iaload, 1) := by decide +kernel
theorem dX5_lackingPlaces_33 : decode cX5_lackingPlaces 33 = .ok (.baload, 1) := by decide +kernel
theorem dX5_lackingPlaces_34 : decode cX5_lackingPlaces 34 = .ok (.ifCond .ne 6, 3) := by decide +kernel
theorem dX5_lackingPlaces_37 : decode cX5_lackingPlaces 37 = .ok (.iinc 1 1, 3) := by decide +kernel
theorem dX5_lackingPlaces_40 : decode cX5_lackingPlaces 40 = .ok (.iinc 2 1, 3) := by decide +kernel
theorem dX5_lackingPlaces_43 : decode cX5_lackingPlaces 43 = .ok (.goto (-39), 3) := by decide +kernel
theorem dX5_lackingPlaces_46 : decode cX5_lackingPlaces 46 = .ok (.iload_n 1, 1) := by decide +kernel
theorem dX5_lackingPlaces_47 : decode cX5_lackingPlaces 47 = .ok (.ireturn, 1) := by decide +kernel
theorem dX5_isOfUse_0 : decode cX5_isOfUse 0 = .ok (.aload_n 0, 1) := by decide +kernel
theorem dX5_isOfUse_1 : decode cX5_isOfUse 1 = .ok (.getfield 28, 3) := by decide +kernel
theorem dX5_isOfUse_4 : decode cX5_isOfUse 4 = .ok (.iload_n 1, 1) := by decide +kernel
theorem dX5_isOfUse_5 : decode cX5_isOfUse 5 = .ok (.iaload, 1) := by decide +kernel
theorem dX5_isOfUse_6 : decode cX5_isOfUse 6 = .ok (.iload_n 2, 1) := by decide +kernel
theorem dX5_isOfUse_7 : decode cX5_isOfUse 7 = .ok (.ishr, 1) := by decide +kernel
theorem dX5_isOfUse_8 : decode cX5_isOfUse 8 = .ok (.iconst 1, 1) := by decide +kernel
theorem dX5_isOfUse_9 : decode cX5_isOfUse 9 = .ok (.iand, 1) := by decide +kernel
theorem dX5_isOfUse_10 : decode cX5_isOfUse 10 = .ok (.ifCond .eq 22, 3) := by decide +kernel
theorem dX5_isOfUse_13 : decode cX5_isOfUse 13 = .ok (.aload_n 0, 1) := by decide +kernel
theorem dX5_isOfUse_14 : decode cX5_isOfUse 14 = .ok (.getfield 24, 3) := by decide +kernel
theorem dX5_isOfUse_17 : decode cX5_isOfUse 17 = .ok (.iload_n 1, 1) := by decide +kernel
theorem dX5_isOfUse_18 : decode cX5_isOfUse 18 = .ok (.iaload, 1) := by decide +kernel
theorem dX5_isOfUse_19 : decode cX5_isOfUse 19 = .ok (.aload_n 0, 1) := by decide +kernel
theorem dX5_isOfUse_20 : decode cX5_isOfUse 20 = .ok (.getfield 24, 3) := by decide +kernel
theorem dX5_isOfUse_23 : decode cX5_isOfUse 23 = .ok (.iload_n 2, 1) := by decide +kernel
theorem dX5_isOfUse_24 : decode cX5_isOfUse 24 = .ok (.iaload, 1) := by decide +kernel
theorem dX5_isOfUse_25 : decode cX5_isOfUse 25 = .ok (.if_icmp .eq 7, 3) := by decide +kernel
theorem dX5_isOfUse_28 : decode cX5_isOfUse 28 = .ok (.iconst 1, 1) := by decide +kernel
theorem dX5_isOfUse_29 : decode cX5_isOfUse 29 = .ok (.goto 4, 3) := by decide +kernel
theorem dX5_isOfUse_32 : decode cX5_isOfUse 32 = .ok (.iconst 0, 1) := by decide +kernel
theorem dX5_isOfUse_33 : decode cX5_isOfUse 33 = .ok (.ireturn, 1) := by decide +kernel
theorem dX6_init_0 : decode cX6_init 0 = .ok (.aload_n 0, 1) := by decide +kernel
theorem dX6_init_1 : decode cX6_init 1 = .ok (.invokespecial 3, 3) := by decide +kernel
theorem dX6_init_4 : decode cX6_init 4 = .ok (.aload_n 0, 1) := by decide +kernel
theorem dX6_init_5 : decode cX6_init 5 = .ok (.sipush 900, 3) := by decide +kernel
theorem dX6_init_8 : decode cX6_init 8 = .ok (.newarray .int, 2) := by decide +kernel
theorem dX6_init_10 : decode cX6_init 10 = .ok (.putfield 9, 3) := by decide +kernel
theorem dX6_init_13 : decode cX6_init 13 = .ok (.aload_n 0, 1) := by decide +kernel
theorem dX6_init_14 : decode cX6_init 14 = .ok (.iconst 0, 1) := by decide +kernel
theorem dX6_init_15 : decode cX6_init 15 = .ok (.putfield 15, 3) := by decide +kernel
theorem dX6_init_18 : decode cX6_init 18 = .ok (.aload_n 0, 1) := by decide +kernel
theorem dX6_init_19 : decode cX6_init 19 = .ok (.iconst (-1), 1) := by decide +kernel
theorem dX6_init_20 : decode cX6_init 20 = .ok (.putfield 19, 3) := by decide +kernel
theorem dX6_init_23 : decode cX6_init 23 = .ok (.aload_n 0, 1) := by decide +kernel
theorem dX6_init_24 : decode cX6_init 24 = .ok (.iconst (-1), 1) := by decide +kernel
theorem dX6_init_25 : decode cX6_init 25 = .ok (.putfield 22, 3) := by decide +kernel
theorem dX6_init_28 : decode cX6_init 28 = .ok (.aload_n 0, 1) := by decide +kernel
theorem dX6_init_29 : decode cX6_init 29 = .ok (.iconst 0, 1) := by decide +kernel
theorem dX6_init_30 : decode cX6_init 30 = .ok (.putfield 25, 3) := by decide +kernel
theorem dX6_init_33 : decode cX6_init 33 = .ok (.aload_n 0, 1) := by decide +kernel
theorem dX6_init_34 : decode cX6_init 34 = .ok (.iconst 0, 1) := by decide +kernel
theorem dX6_init_35 : decode cX6_init 35 = .ok (.putfield 28, 3) := by decide +kernel
theorem dX6_init_38 : decode cX6_init 38 = .ok (.aload_n 0, 1) := by decide +kernel
theorem dX6_init_39 : decode cX6_init 39 = .ok (.iconst 0, 1) := by decide +kernel
theorem dX6_init_40 : decode cX6_init 40 = .ok (.putfield 31, 3) := by decide +kernel
theorem dX6_init_43 : decode cX6_init 43 = .ok (.aload_n 0, 1) := by decide +kernel
theorem dX6_init_44 : decode cX6_init 44 = .ok (.iconst 0, 1) := by decide +kernel
theorem dX6_init_45 : decode cX6_init 45 = .ok (.putfield 34, 3) := by decide +kernel
theorem dX6_init_48 : decode cX6_init 48 = .ok (.aload_n 0, 1) := by decide +kernel
theorem dX6_init_49 : decode cX6_init 49 = .ok (.iconst (-1), 1) := by decide +kernel
theorem dX6_init_50 : decode cX6_init 50 = .ok (.putfield 37, 3) := by decide +kernel
theorem dX6_init_53 : decode cX6_init 53 = .ok (.aload_n 0, 1) := by decide +kernel
theorem dX6_init_54 : decode cX6_init 54 = .ok (.ldc2_w 40, 3) := by decide +kernel
theorem dX6_init_57 : decode cX6_init 57 = .ok (.putfield 42, 3) := by decide +kernel
theorem dX6_init_60 : decode cX6_init 60 = .ok (.aload_n 0, 1) := by decide +kernel
theorem dX6_init_61 : decode cX6_init 61 = .ok (.iconst 0, 1) := by decide +kernel
theorem dX6_init_62 : decode cX6_init 62 = .ok (.putfield 46, 3) := by decide +kernel
theorem dX6_init_65 : decode cX6_init 65 = .ok (.aload_n 0, 1) := by decide +kernel
theorem dX6_init_66 : decode cX6_init 66 = .ok (.iconst 0, 1) := by decide +kernel
theorem dX6_init_67 : decode cX6_init 67 = .ok (.putfield 49, 3) := by decide +kernel
theorem dX6_init_70 : decode cX6_init 70 = .ok (.return_, 1) := by decide +kernel
theorem dX6_take_0 : decode cX6_take 0 = .ok (.bipush 24, 2) := by decide +kernel
theorem dX6_take_2 : decode cX6_take 2 = .ok (.istore_n 2, 1) := by decide +kernel
theorem dX6_take_3 : decode cX6_take 3 = .ok (.iload_n 2, 1) := by decide +kernel
theorem dX6_take_4 : decode cX6_take 4 = .ok (.ifCond .lt 45, 3) := by decide +kernel
theorem dX6_take_7 : decode cX6_take 7 = .ok (.aload_n 0, 1) := by decide +kernel
theorem dX6_take_8 : decode cX6_take 8 = .ok (.getfield 15, 3) := by decide +kernel
theorem dX6_take_11 : decode cX6_take 11 = .ok (.sipush 900, 3) := by decide +kernel
theorem dX6_take_14 : decode cX6_take 14 = .ok (.if_icmp .ge 35, 3) := by decide +kernel
theorem dX6_take_17 : decode cX6_take 17 = .ok (.aload_n 0, 1) := by decide +kernel
theorem dX6_take_18 : decode cX6_take 18 = .ok (.getfield 9, 3) := by decide +kernel
theorem dX6_take_21 : decode cX6_take 21 = .ok (.aload_n 0, 1) := by decide +kernel
theorem dX6_take_22 : decode cX6_take 22 = .ok (.getfield 15, 3) := by decide +kernel
theorem dX6_take_25 : decode cX6_take 25 = .ok (.iload_n 1, 1) := by decide +kernel
theorem dX6_take_26 : decode cX6_take 26 = .ok (.iload_n 2, 1) := by decide +kernel
theorem dX6_take_27 : decode cX6_take 27 = .ok (.ishr, 1) := by decide +kernel
theorem dX6_take_28 : decode cX6_take 28 = .ok (.sipush 255, 3) := by decide +kernel
theorem dX6_take_31 : decode cX6_take 31 = .ok (.iand, 1) := by decide +kernel
theorem dX6_take_32 : decode cX6_take 32 = .ok (.iastore, 1) := by decide +kernel
theorem dX6_take_33 : decode cX6_take 33 = .ok (.aload_n 0, 1) := by decide +kernel
theorem dX6_take_34 : decode cX6_take 34 = .ok (.dup, 1) := by decide +kernel
theorem dX6_take_35 : decode cX6_take 35 = .ok (.getfield 15, 3) := by decide +kernel
theorem dX6_take_38 : decode cX6_take 38 = .ok (.iconst 1, 1) := by decide +kernel
theorem dX6_take_39 : decode cX6_take 39 = .ok (.iadd, 1) := by decide +kernel
theorem dX6_take_40 : decode cX6_take 40 = .ok (.putfield 15, 3) := by decide +kernel
theorem dX6_take_43 : decode cX6_take 43 = .ok (.iinc 2 (-8), 3) := by decide +kernel
theorem dX6_take_46 : decode cX6_take 46 = .ok (.goto (-43), 3) := by decide +kernel
theorem dX6_take_49 : decode cX6_take 49 = .ok (.return_, 1) := by decide +kernel
theorem dX6_open_0 : decode cX6_open 0 = .ok (.aload_n 0, 1) := by decide +kernel
theorem dX6_open_1 : decode cX6_open 1 = .ok (.iconst 0, 1) := by decide +kernel
theorem dX6_open_2 : decode cX6_open 2 = .ok (.putfield 15, 3) := by decide +kernel
theorem dX6_open_5 : decode cX6_open 5 = .ok (.aload_n 0, 1) := by decide +kernel
theorem dX6_open_6 : decode cX6_open 6 = .ok (.iload_n 1, 1) := by decide +kernel
theorem dX6_open_7 : decode cX6_open 7 = .ok (.putfield 46, 3) := by decide +kernel
theorem dX6_open_10 : decode cX6_open 10 = .ok (.aload_n 0, 1) := by decide +kernel
theorem dX6_open_11 : decode cX6_open 11 = .ok (.iconst 0, 1) := by decide +kernel
theorem dX6_open_12 : decode cX6_open 12 = .ok (.putfield 49, 3) := by decide +kernel
theorem dX6_open_15 : decode cX6_open 15 = .ok (.aload_n 0, 1) := by decide +kernel
theorem dX6_open_16 : decode cX6_open 16 = .ok (.iconst 0, 1) := by decide +kernel
theorem dX6_open_17 : decode cX6_open 17 = .ok (.putfield 19, 3) := by decide +kernel
theorem dX6_open_20 : decode cX6_open 20 = .ok (.aload_n 0, 1) := by decide +kernel
theorem dX6_open_21 : decode cX6_open 21 = .ok (.iconst (-1), 1) := by decide +kernel
theorem dX6_open_22 : decode cX6_open 22 = .ok (.putfield 22, 3) := by decide +kernel
theorem dX6_open_25 : decode cX6_open 25 = .ok (.return_, 1) := by decide +kernel
theorem dX6_step_0 : decode cX6_step 0 = .ok (.aload_n 0, 1) := by decide +kernel
theorem dX6_step_1 : decode cX6_step 1 = .ok (.getfield 49, 3) := by decide +kernel
theorem dX6_step_4 : decode cX6_step 4 = .ok (.aload_n 0, 1) := by decide +kernel
theorem dX6_step_5 : decode cX6_step 5 = .ok (.getfield 46, 3) := by decide +kernel
theorem dX6_step_8 : decode cX6_step 8 = .ok (.if_icmp .ge 44, 3) := by decide +kernel
theorem dX6_step_11 : decode cX6_step 11 = .ok (.aload_n 0, 1) := by decide +kernel
theorem dX6_step_12 : decode cX6_step 12 = .ok (.getfield 9, 3) := by decide +kernel
theorem dX6_step_15 : decode cX6_step 15 = .ok (.aload_n 0, 1) := by decide +kernel
theorem dX6_step_16 : decode cX6_step 16 = .ok (.getfield 49, 3) := by decide +kernel
theorem dX6_step_19 : decode cX6_step 19 = .ok (.iaload, 1) := by decide +kernel
theorem dX6_step_20 : decode cX6_step 20 = .ok (.bipush 10, 2) := by decide +kernel
theorem dX6_step_22 : decode cX6_step 22 = .ok (.if_icmp .eq 17, 3) := by decide +kernel
theorem dX6_step_25 : decode cX6_step 25 = .ok (.aload_n 0, 1) := by decide +kernel
theorem dX6_step_26 : decode cX6_step 26 = .ok (.getfield 9, 3) := by decide +kernel
theorem dX6_step_29 : decode cX6_step 29 = .ok (.aload_n 0, 1) := by decide +kernel
theorem dX6_step_30 : decode cX6_step 30 = .ok (.getfield 49, 3) := by decide +kernel
theorem dX6_step_33 : decode cX6_step 33 = .ok (.iaload, 1) := by decide +kernel
theorem dX6_step_34 : decode cX6_step 34 = .ok (.bipush 32, 2) := by decide +kernel
theorem dX6_step_36 : decode cX6_step 36 = .ok (.if_icmp .ne 16, 3) := by decide +kernel
theorem dX6_step_39 : decode cX6_step 39 = .ok (.aload_n 0, 1) := by decide +kernel
theorem dX6_step_40 : decode cX6_step 40 = .ok (.dup, 1) := by decide +kernel
theorem dX6_step_41 : decode cX6_step 41 = .ok (.getfield 49, 3) := by decide +kernel
theorem dX6_step_44 : decode cX6_step 44 = .ok (.iconst 1, 1) := by decide +kernel
theorem dX6_step_45 : decode cX6_step 45 = .ok (.iadd, 1) := by decide +kernel
theorem dX6_step_46 : decode cX6_step 46 = .ok (.putfield 49, 3) := by decide +kernel
theorem dX6_step_49 : decode cX6_step 49 = .ok (.goto (-49), 3) := by decide +kernel
theorem dX6_step_52 : decode cX6_step 52 = .ok (.aload_n 0, 1) := by decide +kernel
theorem dX6_step_53 : decode cX6_step 53 = .ok (.aload_n 0, 1) := by decide +kernel
theorem dX6_step_54 : decode cX6_step 54 = .ok (.getfield 49, 3) := by decide +kernel
theorem dX6_step_57 : decode cX6_step 57 = .ok (.putfield 28, 3) := by decide +kernel
theorem dX6_step_60 : decode cX6_step 60 = .ok (.aload_n 0, 1) := by decide +kernel
theorem dX6_step_61 : decode cX6_step 61 = .ok (.iconst (-1), 1) := by decide +kernel
theorem dX6_step_62 : decode cX6_step 62 = .ok (.putfield 37, 3) := by decide +kernel
theorem dX6_step_65 : decode cX6_step 65 = .ok (.aload_n 0, 1) := by decide +kernel
theorem dX6_step_66 : decode cX6_step 66 = .ok (.ldc2_w 40, 3) := by decide +kernel
theorem dX6_step_69 : decode cX6_step 69 = .ok (.putfield 42, 3) := by decide +kernel
theorem dX6_step_72 : decode cX6_step 72 = .ok (.aload_n 0, 1) := by decide +kernel
theorem dX6_step_73 : decode cX6_step 73 = .ok (.getfield 49, 3) := by decide +kernel
theorem dX6_step_76 : decode cX6_step 76 = .ok (.aload_n 0, 1) := by decide +kernel
theorem dX6_step_77 : decode cX6_step 77 = .ok (.getfield 46, 3) := by decide +kernel
theorem dX6_step_80 : decode cX6_step 80 = .ok (.if_icmp .lt 11, 3) := by decide +kernel
theorem dX6_step_83 : decode cX6_step 83 = .ok (.aload_n 0, 1) := by decide +kernel
theorem dX6_step_84 : decode cX6_step 84 = .ok (.iconst 0, 1) := by decide +kernel
theorem dX6_step_85 : decode cX6_step 85 = .ok (.putfield 25, 3) := by decide +kernel
theorem dX6_step_88 : decode cX6_step 88 = .ok (.goto 115, 3) := by decide +kernel
theorem dX6_step_91 : decode cX6_step 91 = .ok (.aload_n 0, 1) := by decide +kernel
theorem dX6_step_92 : decode cX6_step 92 = .ok (.getfield 9, 3) := by decide +kernel
theorem dX6_step_95 : decode cX6_step 95 = .ok (.aload_n 0, 1) := by decide +kernel
theorem dX6_step_96 : decode cX6_step 96 = .ok (.getfield 49, 3) := by decide +kernel
theorem dX6_step_99 : decode cX6_step 99 = .ok (.iaload, 1) := by decide +kernel
theorem dX6_step_100 : decode cX6_step 100 = .ok (.invokestatic 52, 3) := by decide +kernel
theorem dX6_step_103 : decode cX6_step 103 = .ok (.ifCond .eq 10, 3) := by decide +kernel
theorem dX6_step_106 : decode cX6_step 106 = .ok (.aload_n 0, 1) := by decide +kernel
theorem dX6_step_107 : decode cX6_step 107 = .ok (.invokevirtual 56, 3) := by decide +kernel
theorem dX6_step_110 : decode cX6_step 110 = .ok (.goto 93, 3) := by decide +kernel
theorem dX6_step_113 : decode cX6_step 113 = .ok (.aload_n 0, 1) := by decide +kernel
theorem dX6_step_114 : decode cX6_step 114 = .ok (.getfield 9, 3) := by decide +kernel
theorem dX6_step_117 : decode cX6_step 117 = .ok (.aload_n 0, 1) := by decide +kernel
theorem dX6_step_118 : decode cX6_step 118 = .ok (.getfield 49, 3) := by decide +kernel
theorem dX6_step_121 : decode cX6_step 121 = .ok (.iaload, 1) := by decide +kernel
theorem dX6_step_122 : decode cX6_step 122 = .ok (.invokestatic 59, 3) := by decide +kernel
theorem dX6_step_125 : decode cX6_step 125 = .ok (.ifCond .eq 10, 3) := by decide +kernel
theorem dX6_step_128 : decode cX6_step 128 = .ok (.aload_n 0, 1) := by decide +kernel
theorem dX6_step_129 : decode cX6_step 129 = .ok (.invokevirtual 62, 3) := by decide +kernel
theorem dX6_step_132 : decode cX6_step 132 = .ok (.goto 71, 3) := by decide +kernel
theorem dX6_step_135 : decode cX6_step 135 = .ok (.aload_n 0, 1) := by decide +kernel
theorem dX6_step_136 : decode cX6_step 136 = .ok (.aload_n 0, 1) := by decide +kernel
theorem dX6_step_137 : decode cX6_step 137 = .ok (.getfield 9, 3) := by decide +kernel
theorem dX6_step_140 : decode cX6_step 140 = .ok (.aload_n 0, 1) := by decide +kernel
theorem dX6_step_141 : decode cX6_step 141 = .ok (.getfield 49, 3) := by decide +kernel
theorem dX6_step_144 : decode cX6_step 144 = .ok (.iaload, 1) := by decide +kernel
theorem dX6_step_145 : decode cX6_step 145 = .ok (.putfield 34, 3) := by decide +kernel
theorem dX6_step_148 : decode cX6_step 148 = .ok (.aload_n 0, 1) := by decide +kernel
theorem dX6_step_149 : decode cX6_step 149 = .ok (.aload_n 0, 1) := by decide +kernel
theorem dX6_step_150 : decode cX6_step 150 = .ok (.getfield 34, 3) := by decide +kernel
theorem dX6_step_153 : decode cX6_step 153 = .ok (.bipush 59, 2) := by decide +kernel
theorem dX6_step_155 : decode cX6_step 155 = .ok (.if_icmp .eq 30, 3) := by decide +kernel
theorem dX6_step_158 : decode cX6_step 158 = .ok (.aload_n 0, 1) := by decide +kernel
theorem dX6_step_159 : decode cX6_step 159 = .ok (.getfield 34, 3) := by decide +kernel
theorem dX6_step_162 : decode cX6_step 162 = .ok (.bipush 60, 2) := by decide +kernel
theorem dX6_step_164 : decode cX6_step 164 = .ok (.if_icmp .eq 21, 3) := by decide +kernel
theorem dX6_step_167 : decode cX6_step 167 = .ok (.aload_n 0, 1) := by decide +kernel
theorem dX6_step_168 : decode cX6_step 168 = .ok (.getfield 34, 3) := by decide +kernel
theorem dX6_step_171 : decode cX6_step 171 = .ok (.bipush 62, 2) := by decide +kernel
theorem dX6_step_173 : decode cX6_step 173 = .ok (.if_icmp .eq 12, 3) := by decide +kernel
theorem dX6_step_176 : decode cX6_step 176 = .ok (.aload_n 0, 1) := by decide +kernel
theorem dX6_step_177 : decode cX6_step 177 = .ok (.getfield 34, 3) := by decide +kernel
theorem dX6_step_180 : decode cX6_step 180 = .ok (.bipush 61, 2) := by decide +kernel
theorem dX6_step_182 : decode cX6_step 182 = .ok (.if_icmp .ne 7, 3) := by decide +kernel
theorem dX6_step_185 : decode cX6_step 185 = .ok (.iconst 3, 1) := by decide +kernel
theorem dX6_step_186 : decode cX6_step 186 = .ok (.goto 4, 3) := by decide +kernel
theorem dX6_step_189 : decode cX6_step 189 = .ok (.iconst 4, 1) := by decide +kernel
theorem dX6_step_190 : decode cX6_step 190 = .ok (.putfield 25, 3) := by decide +kernel
theorem dX6_step_193 : decode cX6_step 193 = .ok (.aload_n 0, 1) := by decide +kernel
theorem dX6_step_194 : decode cX6_step 194 = .ok (.dup, 1) := by decide +kernel
theorem dX6_step_195 : decode cX6_step 195 = .ok (.getfield 49, 3) := by decide +kernel
theorem dX6_step_198 : decode cX6_step 198 = .ok (.iconst 1, 1) := by decide +kernel
theorem dX6_step_199 : decode cX6_step 199 = .ok (.iadd, 1) := by decide +kernel
theorem dX6_step_200 : decode cX6_step 200 = .ok (.putfield 49, 3) := by decide +kernel
theorem dX6_step_203 : decode cX6_step 203 = .ok (.return_, 1) := by decide +kernel
theorem dX6_stepWord_0 : decode cX6_stepWord 0 = .ok (.aload_n 0, 1) := by decide +kernel
theorem dX6_stepWord_1 : decode cX6_stepWord 1 = .ok (.iconst 1, 1) := by decide +kernel
theorem dX6_stepWord_2 : decode cX6_stepWord 2 = .ok (.putfield 25, 3) := by decide +kernel
theorem dX6_stepWord_5 : decode cX6_stepWord 5 = .ok (.lconst 0, 1) := by decide +kernel
theorem dX6_stepWord_6 : decode cX6_stepWord 6 = .ok (.lstore_n 1, 1) := by decide +kernel
theorem dX6_stepWord_7 : decode cX6_stepWord 7 = .ok (.aload_n 0, 1) := by decide +kernel
theorem dX6_stepWord_8 : decode cX6_stepWord 8 = .ok (.getfield 49, 3) := by decide +kernel
theorem dX6_stepWord_11 : decode cX6_stepWord 11 = .ok (.aload_n 0, 1) := by decide +kernel
theorem dX6_stepWord_12 : decode cX6_stepWord 12 = .ok (.getfield 46, 3) := by decide +kernel
theorem dX6_stepWord_15 : decode cX6_stepWord 15 = .ok (.if_icmp .ge 67, 3) := by decide +kernel
theorem dX6_stepWord_18 : decode cX6_stepWord 18 = .ok (.aload_n 0, 1) := by decide +kernel
theorem dX6_stepWord_19 : decode cX6_stepWord 19 = .ok (.getfield 9, 3) := by decide +kernel
theorem dX6_stepWord_22 : decode cX6_stepWord 22 = .ok (.aload_n 0, 1) := by decide +kernel
theorem dX6_stepWord_23 : decode cX6_stepWord 23 = .ok (.getfield 49, 3) := by decide +kernel
theorem dX6_stepWord_26 : decode cX6_stepWord 26 = .ok (.iaload, 1) := by decide +kernel
theorem dX6_stepWord_27 : decode cX6_stepWord 27 = .ok (.invokestatic 52, 3) := by decide +kernel
theorem dX6_stepWord_30 : decode cX6_stepWord 30 = .ok (.ifCond .eq 52, 3) := by decide +kernel
theorem dX6_stepWord_33 : decode cX6_stepWord 33 = .ok (.aload_n 0, 1) := by decide +kernel
theorem dX6_stepWord_34 : decode cX6_stepWord 34 = .ok (.getfield 49, 3) := by decide +kernel
theorem dX6_stepWord_37 : decode cX6_stepWord 37 = .ok (.aload_n 0, 1) := by decide +kernel
theorem dX6_stepWord_38 : decode cX6_stepWord 38 = .ok (.getfield 28, 3) := by decide +kernel
theorem dX6_stepWord_41 : decode cX6_stepWord 41 = .ok (.isub, 1) := by decide +kernel
theorem dX6_stepWord_42 : decode cX6_stepWord 42 = .ok (.bipush 8, 2) := by decide +kernel
theorem dX6_stepWord_44 : decode cX6_stepWord 44 = .ok (.if_icmp .ge 25, 3) := by decide +kernel
theorem dX6_stepWord_47 : decode cX6_stepWord 47 = .ok (.lload_n 1, 1) := by decide +kernel
theorem dX6_stepWord_48 : decode cX6_stepWord 48 = .ok (.ldc2_w 65, 3) := by decide +kernel
theorem dX6_stepWord_51 : decode cX6_stepWord 51 = .ok (.lmul, 1) := by decide +kernel
theorem dX6_stepWord_52 : decode cX6_stepWord 52 = .ok (.aload_n 0, 1) := by decide +kernel
theorem dX6_stepWord_53 : decode cX6_stepWord 53 = .ok (.getfield 9, 3) := by decide +kernel
theorem dX6_stepWord_56 : decode cX6_stepWord 56 = .ok (.aload_n 0, 1) := by decide +kernel
theorem dX6_stepWord_57 : decode cX6_stepWord 57 = .ok (.getfield 49, 3) := by decide +kernel
theorem dX6_stepWord_60 : decode cX6_stepWord 60 = .ok (.iaload, 1) := by decide +kernel
theorem dX6_stepWord_61 : decode cX6_stepWord 61 = .ok (.bipush 97, 2) := by decide +kernel
theorem dX6_stepWord_63 : decode cX6_stepWord 63 = .ok (.isub, 1) := by decide +kernel
theorem dX6_stepWord_64 : decode cX6_stepWord 64 = .ok (.iconst 1, 1) := by decide +kernel
theorem dX6_stepWord_65 : decode cX6_stepWord 65 = .ok (.iadd, 1) := by decide +kernel
theorem dX6_stepWord_66 : decode cX6_stepWord 66 = .ok (.i2l, 1) := by decide +kernel
theorem dX6_stepWord_67 : decode cX6_stepWord 67 = .ok (.ladd, 1) := by decide +kernel
theorem dX6_stepWord_68 : decode cX6_stepWord 68 = .ok (.lstore_n 1, 1) := by decide +kernel
theorem dX6_stepWord_69 : decode cX6_stepWord 69 = .ok (.aload_n 0, 1) := by decide +kernel
theorem dX6_stepWord_70 : decode cX6_stepWord 70 = .ok (.dup, 1) := by decide +kernel
theorem dX6_stepWord_71 : decode cX6_stepWord 71 = .ok (.getfield 49, 3) := by decide +kernel
theorem dX6_stepWord_74 : decode cX6_stepWord 74 = .ok (.iconst 1, 1) := by decide +kernel
theorem dX6_stepWord_75 : decode cX6_stepWord 75 = .ok (.iadd, 1) := by decide +kernel
theorem dX6_stepWord_76 : decode cX6_stepWord 76 = .ok (.putfield 49, 3) := by decide +kernel
theorem dX6_stepWord_79 : decode cX6_stepWord 79 = .ok (.goto (-72), 3) := by decide +kernel
theorem dX6_stepWord_82 : decode cX6_stepWord 82 = .ok (.aload_n 0, 1) := by decide +kernel
theorem dX6_stepWord_83 : decode cX6_stepWord 83 = .ok (.aload_n 0, 1) := by decide +kernel
theorem dX6_stepWord_84 : decode cX6_stepWord 84 = .ok (.aload_n 0, 1) := by decide +kernel
theorem dX6_stepWord_85 : decode cX6_stepWord 85 = .ok (.getfield 49, 3) := by decide +kernel
theorem dX6_stepWord_88 : decode cX6_stepWord 88 = .ok (.aload_n 0, 1) := by decide +kernel
theorem dX6_stepWord_89 : decode cX6_stepWord 89 = .ok (.getfield 28, 3) := by decide +kernel
theorem dX6_stepWord_92 : decode cX6_stepWord 92 = .ok (.isub, 1) := by decide +kernel
theorem dX6_stepWord_93 : decode cX6_stepWord 93 = .ok (.invokevirtual 67, 3) := by decide +kernel
theorem dX6_stepWord_96 : decode cX6_stepWord 96 = .ok (.putfield 37, 3) := by decide +kernel
theorem dX6_stepWord_99 : decode cX6_stepWord 99 = .ok (.aload_n 0, 1) := by decide +kernel
theorem dX6_stepWord_100 : decode cX6_stepWord 100 = .ok (.getfield 37, 3) := by decide +kernel
theorem dX6_stepWord_103 : decode cX6_stepWord 103 = .ok (.iconst (-1), 1) := by decide +kernel
theorem dX6_stepWord_104 : decode cX6_stepWord 104 = .ok (.if_icmp .ne 22, 3) := by decide +kernel
theorem dX6_stepWord_107 : decode cX6_stepWord 107 = .ok (.aload_n 0, 1) := by decide +kernel
theorem dX6_stepWord_108 : decode cX6_stepWord 108 = .ok (.getfield 49, 3) := by decide +kernel
theorem dX6_stepWord_111 : decode cX6_stepWord 111 = .ok (.aload_n 0, 1) := by decide +kernel
theorem dX6_stepWord_112 : decode cX6_stepWord 112 = .ok (.getfield 28, 3) := by decide +kernel
theorem dX6_stepWord_115 : decode cX6_stepWord 115 = .ok (.isub, 1) := by decide +kernel
theorem dX6_stepWord_116 : decode cX6_stepWord 116 = .ok (.bipush 8, 2) := by decide +kernel
theorem dX6_stepWord_118 : decode cX6_stepWord 118 = .ok (.if_icmp .gt 8, 3) := by decide +kernel
theorem dX6_stepWord_121 : decode cX6_stepWord 121 = .ok (.aload_n 0, 1) := by decide +kernel
theorem dX6_stepWord_122 : decode cX6_stepWord 122 = .ok (.lload_n 1, 1) := by decide +kernel
theorem dX6_stepWord_123 : decode cX6_stepWord 123 = .ok (.putfield 42, 3) := by decide +kernel
theorem dX6_stepWord_126 : decode cX6_stepWord 126 = .ok (.return_, 1) := by decide +kernel
theorem dX6_stepNumber_0 : decode cX6_stepNumber 0 = .ok (.aload_n 0, 1) := by decide +kernel
theorem dX6_stepNumber_1 : decode cX6_stepNumber 1 = .ok (.iconst 2, 1) := by decide +kernel
theorem dX6_stepNumber_2 : decode cX6_stepNumber 2 = .ok (.putfield 25, 3) := by decide +kernel
theorem dX6_stepNumber_5 : decode cX6_stepNumber 5 = .ok (.aload_n 0, 1) := by decide +kernel
theorem dX6_stepNumber_6 : decode cX6_stepNumber 6 = .ok (.iconst 0, 1) := by decide +kernel
theorem dX6_stepNumber_7 : decode cX6_stepNumber 7 = .ok (.putfield 31, 3) := by decide +kernel
theorem dX6_stepNumber_10 : decode cX6_stepNumber 10 = .ok (.aload_n 0, 1) := by decide +kernel
theorem dX6_stepNumber_11 : decode cX6_stepNumber 11 = .ok (.getfield 49, 3) := by decide +kernel
theorem dX6_stepNumber_14 : decode cX6_stepNumber 14 = .ok (.aload_n 0, 1) := by decide +kernel
theorem dX6_stepNumber_15 : decode cX6_stepNumber 15 = .ok (.getfield 46, 3) := by decide +kernel
theorem dX6_stepNumber_18 : decode cX6_stepNumber 18 = .ok (.if_icmp .ge 76, 3) := by decide +kernel
theorem dX6_stepNumber_21 : decode cX6_stepNumber 21 = .ok (.aload_n 0, 1) := by decide +kernel
theorem dX6_stepNumber_22 : decode cX6_stepNumber 22 = .ok (.getfield 9, 3) := by decide +kernel
theorem dX6_stepNumber_25 : decode cX6_stepNumber 25 = .ok (.aload_n 0, 1) := by decide +kernel
theorem dX6_stepNumber_26 : decode cX6_stepNumber 26 = .ok (.getfield 49, 3) := by decide +kernel
theorem dX6_stepNumber_29 : decode cX6_stepNumber 29 = .ok (.iaload, 1) := by decide +kernel
theorem dX6_stepNumber_30 : decode cX6_stepNumber 30 = .ok (.invokestatic 59, 3) := by decide +kernel
theorem dX6_stepNumber_33 : decode cX6_stepNumber 33 = .ok (.ifCond .eq 61, 3) := by decide +kernel
theorem dX6_stepNumber_36 : decode cX6_stepNumber 36 = .ok (.aload_n 0, 1) := by decide +kernel
theorem dX6_stepNumber_37 : decode cX6_stepNumber 37 = .ok (.getfield 49, 3) := by decide +kernel
theorem dX6_stepNumber_40 : decode cX6_stepNumber 40 = .ok (.aload_n 0, 1) := by decide +kernel
theorem dX6_stepNumber_41 : decode cX6_stepNumber 41 = .ok (.getfield 28, 3) := by decide +kernel
theorem dX6_stepNumber_44 : decode cX6_stepNumber 44 = .ok (.isub, 1) := by decide +kernel
theorem dX6_stepNumber_45 : decode cX6_stepNumber 45 = .ok (.iconst 4, 1) := by decide +kernel
theorem dX6_stepNumber_46 : decode cX6_stepNumber 46 = .ok (.if_icmp .ge 30, 3) := by decide +kernel
theorem dX6_stepNumber_49 : decode cX6_stepNumber 49 = .ok (.aload_n 0, 1) := by decide +kernel
theorem dX6_stepNumber_50 : decode cX6_stepNumber 50 = .ok (.aload_n 0, 1) := by decide +kernel
theorem dX6_stepNumber_51 : decode cX6_stepNumber 51 = .ok (.getfield 31, 3) := by decide +kernel
theorem dX6_stepNumber_54 : decode cX6_stepNumber 54 = .ok (.bipush 10, 2) := by decide +kernel
theorem dX6_stepNumber_56 : decode cX6_stepNumber 56 = .ok (.imul, 1) := by decide +kernel
theorem dX6_stepNumber_57 : decode cX6_stepNumber 57 = .ok (.aload_n 0, 1) := by decide +kernel
theorem dX6_stepNumber_58 : decode cX6_stepNumber 58 = .ok (.getfield 9, 3) := by decide +kernel
theorem dX6_stepNumber_61 : decode cX6_stepNumber 61 = .ok (.aload_n 0, 1) := by decide +kernel
theorem dX6_stepNumber_62 : decode cX6_stepNumber 62 = .ok (.getfield 49, 3) := by decide +kernel
theorem dX6_stepNumber_65 : decode cX6_stepNumber 65 = .ok (.iaload, 1) := by decide +kernel
theorem dX6_stepNumber_66 : decode cX6_stepNumber 66 = .ok (.bipush 48, 2) := by decide +kernel
theorem dX6_stepNumber_68 : decode cX6_stepNumber 68 = .ok (.isub, 1) := by decide +kernel
theorem dX6_stepNumber_69 : decode cX6_stepNumber 69 = .ok (.iadd, 1) := by decide +kernel
theorem dX6_stepNumber_70 : decode cX6_stepNumber 70 = .ok (.putfield 31, 3) := by decide +kernel
theorem dX6_stepNumber_73 : decode cX6_stepNumber 73 = .ok (.goto 8, 3) := by decide +kernel
theorem dX6_stepNumber_76 : decode cX6_stepNumber 76 = .ok (.aload_n 0, 1) := by decide +kernel
theorem dX6_stepNumber_77 : decode cX6_stepNumber 77 = .ok (.iconst 4, 1) := by decide +kernel
theorem dX6_stepNumber_78 : decode cX6_stepNumber 78 = .ok (.putfield 25, 3) := by decide +kernel
theorem dX6_stepNumber_81 : decode cX6_stepNumber 81 = .ok (.aload_n 0, 1) := by decide +kernel
theorem dX6_stepNumber_82 : decode cX6_stepNumber 82 = .ok (.dup, 1) := by decide +kernel
theorem dX6_stepNumber_83 : decode cX6_stepNumber 83 = .ok (.getfield 49, 3) := by decide +kernel
theorem dX6_stepNumber_86 : decode cX6_stepNumber 86 = .ok (.iconst 1, 1) := by decide +kernel
theorem dX6_stepNumber_87 : decode cX6_stepNumber 87 = .ok (.iadd, 1) := by decide +kernel
theorem dX6_stepNumber_88 : decode cX6_stepNumber 88 = .ok (.putfield 49, 3) := by decide +kernel
theorem dX6_stepNumber_91 : decode cX6_stepNumber 91 = .ok (.goto (-81), 3) := by decide +kernel
theorem dX6_stepNumber_94 : decode cX6_stepNumber 94 = .ok (.return_, 1) := by decide +kernel
theorem dX6_findOwnWord_0 : decode cX6_findOwnWord 0 = .ok (.iconst 0, 1) := by decide +kernel
theorem dX6_findOwnWord_1 : decode cX6_findOwnWord 1 = .ok (.istore_n 2, 1) := by decide +kernel
theorem dX6_findOwnWord_2 : decode cX6_findOwnWord 2 = .ok (.iconst 0, 1) := by decide +kernel
theorem dX6_findOwnWord_3 : decode cX6_findOwnWord 3 = .ok (.istore_n 3, 1) := by decide +kernel
theorem dX6_findOwnWord_4 : decode cX6_findOwnWord 4 = .ok (.iconst 1, 1) := by decide +kernel
theorem dX6_findOwnWord_5 : decode cX6_findOwnWord 5 = .ok (.istore 4, 2) := by decide +kernel
theorem dX6_findOwnWord_7 : decode cX6_findOwnWord 7 = .ok (.iconst 0, 1) := by decide +kernel
theorem dX6_findOwnWord_8 : decode cX6_findOwnWord 8 = .ok (.istore 5, 2) := by decide +kernel
theorem dX6_findOwnWord_10 : decode cX6_findOwnWord 10 = .ok (.iload 5, 2) := by decide +kernel
theorem dX6_findOwnWord_12 : decode cX6_findOwnWord 12 = .ok (.ldc 71, 2) := by decide +kernel
theorem dX6_findOwnWord_14 : decode cX6_findOwnWord 14 = .ok (.invokevirtual 73, 3) := by decide +kernel
theorem dX6_findOwnWord_17 : decode cX6_findOwnWord 17 = .ok (.if_icmp .ge 84, 3) := by decide +kernel
theorem dX6_findOwnWord_20 : decode cX6_findOwnWord 20 = .ok (.ldc 71, 2) := by decide +kernel
theorem dX6_findOwnWord_22 : decode cX6_findOwnWord 22 = .ok (.iload 5, 2) := by decide +kernel
theorem dX6_findOwnWord_24 : decode cX6_findOwnWord 24 = .ok (.invokevirtual 78, 3) := by decide +kernel
theorem dX6_findOwnWord_27 : decode cX6_findOwnWord 27 = .ok (.istore 6, 2) := by decide +kernel
theorem dX6_findOwnWord_29 : decode cX6_findOwnWord 29 = .ok (.iload 6, 2) := by decide +kernel
theorem dX6_findOwnWord_31 : decode cX6_findOwnWord 31 = .ok (.bipush 32, 2) := by decide +kernel
theorem dX6_findOwnWord_33 : decode cX6_findOwnWord 33 = .ok (.if_icmp .ne 26, 3) := by decide +kernel
theorem dX6_findOwnWord_36 : decode cX6_findOwnWord 36 = .ok (.iload 4, 2) := by decide +kernel
theorem dX6_findOwnWord_38 : decode cX6_findOwnWord 38 = .ok (.ifCond .eq 10, 3) := by decide +kernel
theorem dX6_findOwnWord_41 : decode cX6_findOwnWord 41 = .ok (.iload_n 3, 1) := by decide +kernel
theorem dX6_findOwnWord_42 : decode cX6_findOwnWord 42 = .ok (.iload_n 1, 1) := by decide +kernel
theorem dX6_findOwnWord_43 : decode cX6_findOwnWord 43 = .ok (.if_icmp .ne 5, 3) := by decide +kernel
theorem dX6_findOwnWord_46 : decode cX6_findOwnWord 46 = .ok (.iload_n 2, 1) := by decide +kernel
theorem dX6_findOwnWord_47 : decode cX6_findOwnWord 47 = .ok (.ireturn, 1) := by decide +kernel
theorem dX6_findOwnWord_48 : decode cX6_findOwnWord 48 = .ok (.iinc 2 1, 3) := by decide +kernel
theorem dX6_findOwnWord_51 : decode cX6_findOwnWord 51 = .ok (.iconst 0, 1) := by decide +kernel
theorem dX6_findOwnWord_52 : decode cX6_findOwnWord 52 = .ok (.istore_n 3, 1) := by decide +kernel
theorem dX6_findOwnWord_53 : decode cX6_findOwnWord 53 = .ok (.iconst 1, 1) := by decide +kernel
theorem dX6_findOwnWord_54 : decode cX6_findOwnWord 54 = .ok (.istore 4, 2) := by decide +kernel
theorem dX6_findOwnWord_56 : decode cX6_findOwnWord 56 = .ok (.goto 39, 3) := by decide +kernel
theorem dX6_findOwnWord_59 : decode cX6_findOwnWord 59 = .ok (.iload 4, 2) := by decide +kernel
theorem dX6_findOwnWord_61 : decode cX6_findOwnWord 61 = .ok (.ifCond .eq 28, 3) := by decide +kernel
theorem dX6_findOwnWord_64 : decode cX6_findOwnWord 64 = .ok (.iload_n 3, 1) := by decide +kernel
theorem dX6_findOwnWord_65 : decode cX6_findOwnWord 65 = .ok (.iload_n 1, 1) := by decide +kernel
theorem dX6_findOwnWord_66 : decode cX6_findOwnWord 66 = .ok (.if_icmp .ge 23, 3) := by decide +kernel
theorem dX6_findOwnWord_69 : decode cX6_findOwnWord 69 = .ok (.aload_n 0, 1) := by decide +kernel
theorem dX6_findOwnWord_70 : decode cX6_findOwnWord 70 = .ok (.getfield 9, 3) := by decide +kernel
theorem dX6_findOwnWord_73 : decode cX6_findOwnWord 73 = .ok (.aload_n 0, 1) := by decide +kernel
theorem dX6_findOwnWord_74 : decode cX6_findOwnWord 74 = .ok (.getfield 28, 3) := by decide +kernel
theorem dX6_findOwnWord_77 : decode cX6_findOwnWord 77 = .ok (.iload_n 3, 1) := by decide +kernel
theorem dX6_findOwnWord_78 : decode cX6_findOwnWord 78 = .ok (.iadd, 1) := by decide +kernel
theorem dX6_findOwnWord_79 : decode cX6_findOwnWord 79 = .ok (.iaload, 1) := by decide +kernel
theorem dX6_findOwnWord_80 : decode cX6_findOwnWord 80 = .ok (.iload 6, 2) := by decide +kernel
theorem dX6_findOwnWord_82 : decode cX6_findOwnWord 82 = .ok (.if_icmp .ne 7, 3) := by decide +kernel
theorem dX6_findOwnWord_85 : decode cX6_findOwnWord 85 = .ok (.iconst 1, 1) := by decide +kernel
theorem dX6_findOwnWord_86 : decode cX6_findOwnWord 86 = .ok (.goto 4, 3) := by decide +kernel
theorem dX6_findOwnWord_89 : decode cX6_findOwnWord 89 = .ok (.iconst 0, 1) := by decide +kernel
theorem dX6_findOwnWord_90 : decode cX6_findOwnWord 90 = .ok (.istore 4, 2) := by decide +kernel
theorem dX6_findOwnWord_92 : decode cX6_findOwnWord 92 = .ok (.iinc 3 1, 3) := by decide +kernel
theorem dX6_findOwnWord_95 : decode cX6_findOwnWord 95 = .ok (.iinc 5 1, 3) := by decide +kernel
theorem dX6_findOwnWord_98 : decode cX6_findOwnWord 98 = .ok (.goto (-88), 3) := by decide +kernel
theorem dX6_findOwnWord_101 : decode cX6_findOwnWord 101 = .ok (.iconst (-1), 1) := by decide +kernel
theorem dX6_findOwnWord_102 : decode cX6_findOwnWord 102 = .ok (.ireturn, 1) := by decide +kernel
theorem dX6_isLetter_0 : decode cX6_isLetter 0 = .ok (.iload_n 0, 1) := by decide +kernel
theorem dX6_isLetter_1 : decode cX6_isLetter 1 = .ok (.bipush 97, 2) := by decide +kernel
theorem dX6_isLetter_3 : decode cX6_isLetter 3 = .ok (.if_icmp .lt 13, 3) := by decide +kernel
theorem dX6_isLetter_6 : decode cX6_isLetter 6 = .ok (.iload_n 0, 1) := by decide +kernel
theorem dX6_isLetter_7 : decode cX6_isLetter 7 = .ok (.bipush 122, 2) := by decide +kernel
theorem dX6_isLetter_9 : decode cX6_isLetter 9 = .ok (.if_icmp .gt 7, 3) := by decide +kernel
theorem dX6_isLetter_12 : decode cX6_isLetter 12 = .ok (.iconst 1, 1) := by decide +kernel
theorem dX6_isLetter_13 : decode cX6_isLetter 13 = .ok (.goto 4, 3) := by decide +kernel
theorem dX6_isLetter_16 : decode cX6_isLetter 16 = .ok (.iconst 0, 1) := by decide +kernel
theorem dX6_isLetter_17 : decode cX6_isLetter 17 = .ok (.ireturn, 1) := by decide +kernel
theorem dX6_isDigit_0 : decode cX6_isDigit 0 = .ok (.iload_n 0, 1) := by decide +kernel
theorem dX6_isDigit_1 : decode cX6_isDigit 1 = .ok (.bipush 48, 2) := by decide +kernel
theorem dX6_isDigit_3 : decode cX6_isDigit 3 = .ok (.if_icmp .lt 13, 3) := by decide +kernel
theorem dX6_isDigit_6 : decode cX6_isDigit 6 = .ok (.iload_n 0, 1) := by decide +kernel
theorem dX6_isDigit_7 : decode cX6_isDigit 7 = .ok (.bipush 57, 2) := by decide +kernel
theorem dX6_isDigit_9 : decode cX6_isDigit 9 = .ok (.if_icmp .gt 7, 3) := by decide +kernel
theorem dX6_isDigit_12 : decode cX6_isDigit 12 = .ok (.iconst 1, 1) := by decide +kernel
theorem dX6_isDigit_13 : decode cX6_isDigit 13 = .ok (.goto 4, 3) := by decide +kernel
theorem dX6_isDigit_16 : decode cX6_isDigit 16 = .ok (.iconst 0, 1) := by decide +kernel
theorem dX6_isDigit_17 : decode cX6_isDigit 17 = .ok (.ireturn, 1) := by decide +kernel
theorem dX6_blame_0 : decode cX6_blame 0 = .ok (.aload_n 0, 1) := by decide +kernel
theorem dX6_blame_1 : decode cX6_blame 1 = .ok (.aload_n 0, 1) := by decide +kernel
theorem dX6_blame_2 : decode cX6_blame 2 = .ok (.getfield 25, 3) := by decide +kernel
theorem dX6_blame_5 : decode cX6_blame 5 = .ok (.iconst 4, 1) := by decide +kernel
theorem dX6_blame_6 : decode cX6_blame 6 = .ok (.if_icmp .ne 7, 3) := by decide +kernel
theorem dX6_blame_9 : decode cX6_blame 9 = .ok (.iconst 1, 1) := by decide +kernel
theorem dX6_blame_10 : decode cX6_blame 10 = .ok (.goto 4, 3) := by decide +kernel
theorem dX6_blame_13 : decode cX6_blame 13 = .ok (.iload_n 1, 1) := by decide +kernel
theorem dX6_blame_14 : decode cX6_blame 14 = .ok (.putfield 19, 3) := by decide +kernel
theorem dX6_blame_17 : decode cX6_blame 17 = .ok (.aload_n 0, 1) := by decide +kernel
theorem dX6_blame_18 : decode cX6_blame 18 = .ok (.aload_n 0, 1) := by decide +kernel
theorem dX6_blame_19 : decode cX6_blame 19 = .ok (.getfield 28, 3) := by decide +kernel
theorem dX6_blame_22 : decode cX6_blame 22 = .ok (.putfield 22, 3) := by decide +kernel
theorem dX6_blame_25 : decode cX6_blame 25 = .ok (.iconst 0, 1) := by decide +kernel
theorem dX6_blame_26 : decode cX6_blame 26 = .ok (.ireturn, 1) := by decide +kernel
theorem dX6_isSign_0 : decode cX6_isSign 0 = .ok (.aload_n 0, 1) := by decide +kernel
theorem dX6_isSign_1 : decode cX6_isSign 1 = .ok (.getfield 25, 3) := by decide +kernel
theorem dX6_isSign_4 : decode cX6_isSign 4 = .ok (.iconst 3, 1) := by decide +kernel
theorem dX6_isSign_5 : decode cX6_isSign 5 = .ok (.if_icmp .ne 11, 3) := by decide +kernel
theorem dX6_isSign_8 : decode cX6_isSign 8 = .ok (.aload_n 0, 1) := by decide +kernel
theorem dX6_isSign_9 : decode cX6_isSign 9 = .ok (.getfield 34, 3) := by decide +kernel
theorem dX6_isSign_12 : decode cX6_isSign 12 = .ok (.iload_n 1, 1) := by decide +kernel
theorem dX6_isSign_13 : decode cX6_isSign 13 = .ok (.if_icmp .eq 11, 3) := by decide +kernel
theorem dX6_isSign_16 : decode cX6_isSign 16 = .ok (.aload_n 0, 1) := by decide +kernel
theorem dX6_isSign_17 : decode cX6_isSign 17 = .ok (.iconst 2, 1) := by decide +kernel
theorem dX6_isSign_18 : decode cX6_isSign 18 = .ok (.invokevirtual 82, 3) := by decide +kernel
theorem dX6_isSign_21 : decode cX6_isSign 21 = .ok (.ifCond .eq 7, 3) := by decide +kernel
theorem dX6_isSign_24 : decode cX6_isSign 24 = .ok (.iconst 1, 1) := by decide +kernel
theorem dX6_isSign_25 : decode cX6_isSign 25 = .ok (.goto 4, 3) := by decide +kernel
theorem dX6_isSign_28 : decode cX6_isSign 28 = .ok (.iconst 0, 1) := by decide +kernel
theorem dX6_isSign_29 : decode cX6_isSign 29 = .ok (.ireturn, 1) := by decide +kernel
theorem dX6_isOwnWord_0 : decode cX6_isOwnWord 0 = .ok (.aload_n 0, 1) := by decide +kernel
theorem dX6_isOwnWord_1 : decode cX6_isOwnWord 1 = .ok (.getfield 37, 3) := by decide +kernel
theorem dX6_isOwnWord_4 : decode cX6_isOwnWord 4 = .ok (.iload_n 1, 1) := by decide +kernel
theorem dX6_isOwnWord_5 : decode cX6_isOwnWord 5 = .ok (.if_icmp .eq 11, 3) := by decide +kernel
theorem dX6_isOwnWord_8 : decode cX6_isOwnWord 8 = .ok (.aload_n 0, 1) := by decide +kernel
theorem dX6_isOwnWord_9 : decode cX6_isOwnWord 9 = .ok (.iconst 2, 1) := by decide +kernel
theorem dX6_isOwnWord_10 : decode cX6_isOwnWord 10 = .ok (.invokevirtual 82, 3) := by decide +kernel
theorem dX6_isOwnWord_13 : decode cX6_isOwnWord 13 = .ok (.ifCond .eq 7, 3) := by decide +kernel
theorem dX6_isOwnWord_16 : decode cX6_isOwnWord 16 = .ok (.iconst 1, 1) := by decide +kernel
theorem dX6_isOwnWord_17 : decode cX6_isOwnWord 17 = .ok (.goto 4, 3) := by decide +kernel
theorem dX6_isOwnWord_20 : decode cX6_isOwnWord 20 = .ok (.iconst 0, 1) := by decide +kernel
theorem dX6_isOwnWord_21 : decode cX6_isOwnWord 21 = .ok (.ireturn, 1) := by decide +kernel
theorem dX6_isNumberFrom_0 : decode cX6_isNumberFrom 0 = .ok (.aload_n 0, 1) := by decide +kernel
theorem dX6_isNumberFrom_1 : decode cX6_isNumberFrom 1 = .ok (.getfield 25, 3) := by decide +kernel
theorem dX6_isNumberFrom_4 : decode cX6_isNumberFrom 4 = .ok (.iconst 2, 1) := by decide +kernel
theorem dX6_isNumberFrom_5 : decode cX6_isNumberFrom 5 = .ok (.if_icmp .eq 9, 3) := by decide +kernel
theorem dX6_isNumberFrom_8 : decode cX6_isNumberFrom 8 = .ok (.aload_n 0, 1) := by decide +kernel
theorem dX6_isNumberFrom_9 : decode cX6_isNumberFrom 9 = .ok (.iconst 2, 1) := by decide +kernel
theorem dX6_isNumberFrom_10 : decode cX6_isNumberFrom 10 = .ok (.invokevirtual 82, 3) := by decide +kernel
theorem dX6_isNumberFrom_13 : decode cX6_isNumberFrom 13 = .ok (.ireturn, 1) := by decide +kernel
theorem dX6_isNumberFrom_14 : decode cX6_isNumberFrom 14 = .ok (.aload_n 0, 1) := by decide +kernel
theorem dX6_isNumberFrom_15 : decode cX6_isNumberFrom 15 = .ok (.getfield 31, 3) := by decide +kernel
theorem dX6_isNumberFrom_18 : decode cX6_isNumberFrom 18 = .ok (.iload_n 1, 1) := by decide +kernel
theorem dX6_isNumberFrom_19 : decode cX6_isNumberFrom 19 = .ok (.if_icmp .lt 11, 3) := by decide +kernel
theorem dX6_isNumberFrom_22 : decode cX6_isNumberFrom 22 = .ok (.aload_n 0, 1) := by decide +kernel
theorem dX6_isNumberFrom_23 : decode cX6_isNumberFrom 23 = .ok (.getfield 31, 3) := by decide +kernel
theorem dX6_isNumberFrom_26 : decode cX6_isNumberFrom 26 = .ok (.iload_n 2, 1) := by decide +kernel
theorem dX6_isNumberFrom_27 : decode cX6_isNumberFrom 27 = .ok (.if_icmp .le 11, 3) := by decide +kernel
theorem dX6_isNumberFrom_30 : decode cX6_isNumberFrom 30 = .ok (.aload_n 0, 1) := by decide +kernel
theorem dX6_isNumberFrom_31 : decode cX6_isNumberFrom 31 = .ok (.iconst 4, 1) := by decide +kernel
theorem dX6_isNumberFrom_32 : decode cX6_isNumberFrom 32 = .ok (.invokevirtual 82, 3) := by decide +kernel
theorem dX6_isNumberFrom_35 : decode cX6_isNumberFrom 35 = .ok (.ifCond .eq 7, 3) := by decide +kernel
theorem dX6_isNumberFrom_38 : decode cX6_isNumberFrom 38 = .ok (.iconst 1, 1) := by decide +kernel
theorem dX6_isNumberFrom_39 : decode cX6_isNumberFrom 39 = .ok (.goto 4, 3) := by decide +kernel
theorem dX6_isNumberFrom_42 : decode cX6_isNumberFrom 42 = .ok (.iconst 0, 1) := by decide +kernel
theorem dX6_isNumberFrom_43 : decode cX6_isNumberFrom 43 = .ok (.ireturn, 1) := by decide +kernel
theorem dX6_isName_0 : decode cX6_isName 0 = .ok (.aload_n 0, 1) := by decide +kernel
theorem dX6_isName_1 : decode cX6_isName 1 = .ok (.getfield 42, 3) := by decide +kernel
theorem dX6_isName_4 : decode cX6_isName 4 = .ok (.ldc2_w 40, 3) := by decide +kernel
theorem dX6_isName_7 : decode cX6_isName 7 = .ok (.lcmp, 1) := by decide +kernel
theorem dX6_isName_8 : decode cX6_isName 8 = .ok (.ifCond .ne 11, 3) := by decide +kernel
theorem dX6_isName_11 : decode cX6_isName 11 = .ok (.aload_n 0, 1) := by decide +kernel
theorem dX6_isName_12 : decode cX6_isName 12 = .ok (.iconst 2, 1) := by decide +kernel
theorem dX6_isName_13 : decode cX6_isName 13 = .ok (.invokevirtual 82, 3) := by decide +kernel
theorem dX6_isName_16 : decode cX6_isName 16 = .ok (.ifCond .eq 7, 3) := by decide +kernel
theorem dX6_isName_19 : decode cX6_isName 19 = .ok (.iconst 1, 1) := by decide +kernel
theorem dX6_isName_20 : decode cX6_isName 20 = .ok (.goto 4, 3) := by decide +kernel
theorem dX6_isName_23 : decode cX6_isName 23 = .ok (.iconst 0, 1) := by decide +kernel
theorem dX6_isName_24 : decode cX6_isName 24 = .ok (.ireturn, 1) := by decide +kernel
theorem dX7_init_0 : decode cX7_init 0 = .ok (.aload_n 0, 1) := by decide +kernel
theorem dX7_init_1 : decode cX7_init 1 = .ok (.invokespecial 3, 3) := by decide +kernel
theorem dX7_init_4 : decode cX7_init 4 = .ok (.aload_n 0, 1) := by decide +kernel
theorem dX7_init_5 : decode cX7_init 5 = .ok (.bipush 6, 2) := by decide +kernel
theorem dX7_init_7 : decode cX7_init 7 = .ok (.newarray .int, 2) := by decide +kernel
theorem dX7_init_9 : decode cX7_init 9 = .ok (.putfield 9, 3) := by decide +kernel
theorem dX7_init_12 : decode cX7_init 12 = .ok (.aload_n 0, 1) := by decide +kernel
theorem dX7_init_13 : decode cX7_init 13 = .ok (.bipush 6, 2) := by decide +kernel
theorem dX7_init_15 : decode cX7_init 15 = .ok (.newarray .long, 2) := by decide +kernel
theorem dX7_init_17 : decode cX7_init 17 = .ok (.putfield 15, 3) := by decide +kernel
theorem dX7_init_20 : decode cX7_init 20 = .ok (.aload_n 0, 1) := by decide +kernel
theorem dX7_init_21 : decode cX7_init 21 = .ok (.bipush 6, 2) := by decide +kernel
theorem dX7_init_23 : decode cX7_init 23 = .ok (.newarray .int, 2) := by decide +kernel
theorem dX7_init_25 : decode cX7_init 25 = .ok (.putfield 19, 3) := by decide +kernel
theorem dX7_init_28 : decode cX7_init 28 = .ok (.aload_n 0, 1) := by decide +kernel
theorem dX7_init_29 : decode cX7_init 29 = .ok (.bipush 6, 2) := by decide +kernel
theorem dX7_init_31 : decode cX7_init 31 = .ok (.newarray .long, 2) := by decide +kernel
theorem dX7_init_33 : decode cX7_init 33 = .ok (.putfield 22, 3) := by decide +kernel
theorem dX7_init_36 : decode cX7_init 36 = .ok (.aload_n 0, 1) := by decide +kernel
theorem dX7_init_37 : decode cX7_init 37 = .ok (.bipush 36, 2) := by decide +kernel
theorem dX7_init_39 : decode cX7_init 39 = .ok (.newarray .int, 2) := by decide +kernel
theorem dX7_init_41 : decode cX7_init 41 = .ok (.putfield 25, 3) := by decide +kernel
theorem dX7_init_44 : decode cX7_init 44 = .ok (.aload_n 0, 1) := by decide +kernel
theorem dX7_init_45 : decode cX7_init 45 = .ok (.bipush 6, 2) := by decide +kernel
theorem dX7_init_47 : decode cX7_init 47 = .ok (.newarray .int, 2) := by decide +kernel
theorem dX7_init_49 : decode cX7_init 49 = .ok (.putfield 28, 3) := by decide +kernel
theorem dX7_init_52 : decode cX7_init 52 = .ok (.aload_n 0, 1) := by decide +kernel
theorem dX7_init_53 : decode cX7_init 53 = .ok (.iconst 0, 1) := by decide +kernel
theorem dX7_init_54 : decode cX7_init 54 = .ok (.putfield 31, 3) := by decide +kernel
theorem dX7_init_57 : decode cX7_init 57 = .ok (.aload_n 0, 1) := by decide +kernel
theorem dX7_init_58 : decode cX7_init 58 = .ok (.iconst 0, 1) := by decide +kernel
theorem dX7_init_59 : decode cX7_init 59 = .ok (.putfield 35, 3) := by decide +kernel
theorem dX7_init_62 : decode cX7_init 62 = .ok (.aload_n 0, 1) := by decide +kernel
theorem dX7_init_63 : decode cX7_init 63 = .ok (.iconst 0, 1) := by decide +kernel
theorem dX7_init_64 : decode cX7_init 64 = .ok (.putfield 38, 3) := by decide +kernel
theorem dX7_init_67 : decode cX7_init 67 = .ok (.aload_n 0, 1) := by decide +kernel
theorem dX7_init_68 : decode cX7_init 68 = .ok (.iconst 3, 1) := by decide +kernel
theorem dX7_init_69 : decode cX7_init 69 = .ok (.putfield 41, 3) := by decide +kernel
theorem dX7_init_72 : decode cX7_init 72 = .ok (.aload_n 0, 1) := by decide +kernel
theorem dX7_init_73 : decode cX7_init 73 = .ok (.iconst 1, 1) := by decide +kernel
theorem dX7_init_74 : decode cX7_init 74 = .ok (.putfield 44, 3) := by decide +kernel
theorem dX7_init_77 : decode cX7_init 77 = .ok (.aload_n 0, 1) := by decide +kernel
theorem dX7_init_78 : decode cX7_init 78 = .ok (.iconst 1, 1) := by decide +kernel
theorem dX7_init_79 : decode cX7_init 79 = .ok (.putfield 47, 3) := by decide +kernel
theorem dX7_init_82 : decode cX7_init 82 = .ok (.return_, 1) := by decide +kernel
theorem dX7_clear_0 : decode cX7_clear 0 = .ok (.aload_n 0, 1) := by decide +kernel
theorem dX7_clear_1 : decode cX7_clear 1 = .ok (.iconst 0, 1) := by decide +kernel
theorem dX7_clear_2 : decode cX7_clear 2 = .ok (.putfield 31, 3) := by decide +kernel
theorem dX7_clear_5 : decode cX7_clear 5 = .ok (.aload_n 0, 1) := by decide +kernel
theorem dX7_clear_6 : decode cX7_clear 6 = .ok (.iconst 0, 1) := by decide +kernel
theorem dX7_clear_7 : decode cX7_clear 7 = .ok (.putfield 35, 3) := by decide +kernel
theorem dX7_clear_10 : decode cX7_clear 10 = .ok (.aload_n 0, 1) := by decide +kernel
theorem dX7_clear_11 : decode cX7_clear 11 = .ok (.iconst 0, 1) := by decide +kernel
theorem dX7_clear_12 : decode cX7_clear 12 = .ok (.putfield 38, 3) := by decide +kernel
theorem dX7_clear_15 : decode cX7_clear 15 = .ok (.aload_n 0, 1) := by decide +kernel
theorem dX7_clear_16 : decode cX7_clear 16 = .ok (.iconst 3, 1) := by decide +kernel
theorem dX7_clear_17 : decode cX7_clear 17 = .ok (.putfield 41, 3) := by decide +kernel
theorem dX7_clear_20 : decode cX7_clear 20 = .ok (.aload_n 0, 1) := by decide +kernel
theorem dX7_clear_21 : decode cX7_clear 21 = .ok (.iconst 1, 1) := by decide +kernel
theorem dX7_clear_22 : decode cX7_clear 22 = .ok (.putfield 44, 3) := by decide +kernel
theorem dX7_clear_25 : decode cX7_clear 25 = .ok (.aload_n 0, 1) := by decide +kernel
theorem dX7_clear_26 : decode cX7_clear 26 = .ok (.iconst 1, 1) := by decide +kernel
theorem dX7_clear_27 : decode cX7_clear 27 = .ok (.putfield 47, 3) := by decide +kernel
theorem dX7_clear_30 : decode cX7_clear 30 = .ok (.return_, 1) := by decide +kernel
theorem dX7_copy_0 : decode cX7_copy 0 = .ok (.aload_n 0, 1) := by decide +kernel
theorem dX7_copy_1 : decode cX7_copy 1 = .ok (.aload_n 1, 1) := by decide +kernel
theorem dX7_copy_2 : decode cX7_copy 2 = .ok (.getfield 31, 3) := by decide +kernel
theorem dX7_copy_5 : decode cX7_copy 5 = .ok (.putfield 31, 3) := by decide +kernel
theorem dX7_copy_8 : decode cX7_copy 8 = .ok (.aload_n 0, 1) := by decide +kernel
theorem dX7_copy_9 : decode cX7_copy 9 = .ok (.aload_n 1, 1) := by decide +kernel
theorem dX7_copy_10 : decode cX7_copy 10 = .ok (.getfield 35, 3) := by decide +kernel
theorem dX7_copy_13 : decode cX7_copy 13 = .ok (.putfield 35, 3) := by decide +kernel
theorem dX7_copy_16 : decode cX7_copy 16 = .ok (.aload_n 0, 1) := by decide +kernel
theorem dX7_copy_17 : decode cX7_copy 17 = .ok (.aload_n 1, 1) := by decide +kernel
theorem dX7_copy_18 : decode cX7_copy 18 = .ok (.getfield 38, 3) := by decide +kernel
theorem dX7_copy_21 : decode cX7_copy 21 = .ok (.putfield 38, 3) := by decide +kernel
theorem dX7_copy_24 : decode cX7_copy 24 = .ok (.aload_n 0, 1) := by decide +kernel
theorem dX7_copy_25 : decode cX7_copy 25 = .ok (.aload_n 1, 1) := by decide +kernel
theorem dX7_copy_26 : decode cX7_copy 26 = .ok (.getfield 41, 3) := by decide +kernel
theorem dX7_copy_29 : decode cX7_copy 29 = .ok (.putfield 41, 3) := by decide +kernel
theorem dX7_copy_32 : decode cX7_copy 32 = .ok (.aload_n 0, 1) := by decide +kernel
theorem dX7_copy_33 : decode cX7_copy 33 = .ok (.aload_n 1, 1) := by decide +kernel
theorem dX7_copy_34 : decode cX7_copy 34 = .ok (.getfield 44, 3) := by decide +kernel
theorem dX7_copy_37 : decode cX7_copy 37 = .ok (.putfield 44, 3) := by decide +kernel
theorem dX7_copy_40 : decode cX7_copy 40 = .ok (.aload_n 0, 1) := by decide +kernel
theorem dX7_copy_41 : decode cX7_copy 41 = .ok (.aload_n 1, 1) := by decide +kernel
theorem dX7_copy_42 : decode cX7_copy 42 = .ok (.getfield 47, 3) := by decide +kernel
theorem dX7_copy_45 : decode cX7_copy 45 = .ok (.putfield 47, 3) := by decide +kernel
theorem dX7_copy_48 : decode cX7_copy 48 = .ok (.aload_n 1, 1) := by decide +kernel
theorem dX7_copy_49 : decode cX7_copy 49 = .ok (.getfield 9, 3) := by decide +kernel
theorem dX7_copy_52 : decode cX7_copy 52 = .ok (.iconst 0, 1) := by decide +kernel
theorem dX7_copy_53 : decode cX7_copy 53 = .ok (.aload_n 0, 1) := by decide +kernel
theorem dX7_copy_54 : decode cX7_copy 54 = .ok (.getfield 9, 3) := by decide +kernel
theorem dX7_copy_57 : decode cX7_copy 57 = .ok (.iconst 0, 1) := by decide +kernel
theorem dX7_copy_58 : decode cX7_copy 58 = .ok (.bipush 6, 2) := by decide +kernel
theorem dX7_copy_60 : decode cX7_copy 60 = .ok (.invokestatic 50, 3) := by decide +kernel
theorem dX7_copy_63 : decode cX7_copy 63 = .ok (.aload_n 1, 1) := by decide +kernel
theorem dX7_copy_64 : decode cX7_copy 64 = .ok (.getfield 15, 3) := by decide +kernel
theorem dX7_copy_67 : decode cX7_copy 67 = .ok (.iconst 0, 1) := by decide +kernel
theorem dX7_copy_68 : decode cX7_copy 68 = .ok (.aload_n 0, 1) := by decide +kernel
theorem dX7_copy_69 : decode cX7_copy 69 = .ok (.getfield 15, 3) := by decide +kernel
theorem dX7_copy_72 : decode cX7_copy 72 = .ok (.iconst 0, 1) := by decide +kernel
theorem dX7_copy_73 : decode cX7_copy 73 = .ok (.bipush 6, 2) := by decide +kernel
theorem dX7_copy_75 : decode cX7_copy 75 = .ok (.invokestatic 50, 3) := by decide +kernel
theorem dX7_copy_78 : decode cX7_copy 78 = .ok (.aload_n 1, 1) := by decide +kernel
theorem dX7_copy_79 : decode cX7_copy 79 = .ok (.getfield 19, 3) := by decide +kernel
theorem dX7_copy_82 : decode cX7_copy 82 = .ok (.iconst 0, 1) := by decide +kernel
theorem dX7_copy_83 : decode cX7_copy 83 = .ok (.aload_n 0, 1) := by decide +kernel
theorem dX7_copy_84 : decode cX7_copy 84 = .ok (.getfield 19, 3) := by decide +kernel
theorem dX7_copy_87 : decode cX7_copy 87 = .ok (.iconst 0, 1) := by decide +kernel
theorem dX7_copy_88 : decode cX7_copy 88 = .ok (.bipush 6, 2) := by decide +kernel
theorem dX7_copy_90 : decode cX7_copy 90 = .ok (.invokestatic 50, 3) := by decide +kernel
theorem dX7_copy_93 : decode cX7_copy 93 = .ok (.aload_n 1, 1) := by decide +kernel
theorem dX7_copy_94 : decode cX7_copy 94 = .ok (.getfield 22, 3) := by decide +kernel
theorem dX7_copy_97 : decode cX7_copy 97 = .ok (.iconst 0, 1) := by decide +kernel
theorem dX7_copy_98 : decode cX7_copy 98 = .ok (.aload_n 0, 1) := by decide +kernel
theorem dX7_copy_99 : decode cX7_copy 99 = .ok (.getfield 22, 3) := by decide +kernel
theorem dX7_copy_102 : decode cX7_copy 102 = .ok (.iconst 0, 1) := by decide +kernel
theorem dX7_copy_103 : decode cX7_copy 103 = .ok (.bipush 6, 2) := by decide +kernel
theorem dX7_copy_105 : decode cX7_copy 105 = .ok (.invokestatic 50, 3) := by decide +kernel
theorem dX7_copy_108 : decode cX7_copy 108 = .ok (.aload_n 1, 1) := by decide +kernel
theorem dX7_copy_109 : decode cX7_copy 109 = .ok (.getfield 25, 3) := by decide +kernel
theorem dX7_copy_112 : decode cX7_copy 112 = .ok (.iconst 0, 1) := by decide +kernel
theorem dX7_copy_113 : decode cX7_copy 113 = .ok (.aload_n 0, 1) := by decide +kernel
theorem dX7_copy_114 : decode cX7_copy 114 = .ok (.getfield 25, 3) := by decide +kernel
theorem dX7_copy_117 : decode cX7_copy 117 = .ok (.iconst 0, 1) := by decide +kernel
theorem dX7_copy_118 : decode cX7_copy 118 = .ok (.aload_n 0, 1) := by decide +kernel
theorem dX7_copy_119 : decode cX7_copy 119 = .ok (.getfield 25, 3) := by decide +kernel
theorem dX7_copy_122 : decode cX7_copy 122 = .ok (.arraylength, 1) := by decide +kernel
theorem dX7_copy_123 : decode cX7_copy 123 = .ok (.invokestatic 50, 3) := by decide +kernel
theorem dX7_copy_126 : decode cX7_copy 126 = .ok (.aload_n 1, 1) := by decide +kernel
theorem dX7_copy_127 : decode cX7_copy 127 = .ok (.getfield 28, 3) := by decide +kernel
theorem dX7_copy_130 : decode cX7_copy 130 = .ok (.iconst 0, 1) := by decide +kernel
theorem dX7_copy_131 : decode cX7_copy 131 = .ok (.aload_n 0, 1) := by decide +kernel
theorem dX7_copy_132 : decode cX7_copy 132 = .ok (.getfield 28, 3) := by decide +kernel
theorem dX7_copy_135 : decode cX7_copy 135 = .ok (.iconst 0, 1) := by decide +kernel
theorem dX7_copy_136 : decode cX7_copy 136 = .ok (.bipush 6, 2) := by decide +kernel
theorem dX7_copy_138 : decode cX7_copy 138 = .ok (.invokestatic 50, 3) := by decide +kernel
theorem dX7_copy_141 : decode cX7_copy 141 = .ok (.return_, 1) := by decide +kernel
theorem dX7_layRows_0 : decode cX7_layRows 0 = .ok (.iconst 0, 1) := by decide +kernel
theorem dX7_layRows_1 : decode cX7_layRows 1 = .ok (.istore_n 1, 1) := by decide +kernel
theorem dX7_layRows_2 : decode cX7_layRows 2 = .ok (.iload_n 1, 1) := by decide +kernel
theorem dX7_layRows_3 : decode cX7_layRows 3 = .ok (.aload_n 0, 1) := by decide +kernel
theorem dX7_layRows_4 : decode cX7_layRows 4 = .ok (.getfield 35, 3) := by decide +kernel
theorem dX7_layRows_7 : decode cX7_layRows 7 = .ok (.if_icmp .ge 76, 3) := by decide +kernel
theorem dX7_layRows_10 : decode cX7_layRows 10 = .ok (.aload_n 0, 1) := by decide +kernel
theorem dX7_layRows_11 : decode cX7_layRows 11 = .ok (.getfield 28, 3) := by decide +kernel
theorem dX7_layRows_14 : decode cX7_layRows 14 = .ok (.iload_n 1, 1) := by decide +kernel
theorem dX7_layRows_15 : decode cX7_layRows 15 = .ok (.iconst 0, 1) := by decide +kernel
theorem dX7_layRows_16 : decode cX7_layRows 16 = .ok (.iastore, 1) := by decide +kernel
theorem dX7_layRows_17 : decode cX7_layRows 17 = .ok (.iconst 0, 1) := by decide +kernel
theorem dX7_layRows_18 : decode cX7_layRows 18 = .ok (.istore_n 2, 1) := by decide +kernel
theorem dX7_layRows_19 : decode cX7_layRows 19 = .ok (.iload_n 2, 1) := by decide +kernel
theorem dX7_layRows_20 : decode cX7_layRows 20 = .ok (.aload_n 0, 1) := by decide +kernel
theorem dX7_layRows_21 : decode cX7_layRows 21 = .ok (.getfield 31, 3) := by decide +kernel
theorem dX7_layRows_24 : decode cX7_layRows 24 = .ok (.if_icmp .ge 53, 3) := by decide +kernel
theorem dX7_layRows_27 : decode cX7_layRows 27 = .ok (.aload_n 0, 1) := by decide +kernel
theorem dX7_layRows_28 : decode cX7_layRows 28 = .ok (.iload_n 1, 1) := by decide +kernel
theorem dX7_layRows_29 : decode cX7_layRows 29 = .ok (.aload_n 0, 1) := by decide +kernel
theorem dX7_layRows_30 : decode cX7_layRows 30 = .ok (.getfield 9, 3) := by decide +kernel
theorem dX7_layRows_33 : decode cX7_layRows 33 = .ok (.iload_n 2, 1) := by decide +kernel
theorem dX7_layRows_34 : decode cX7_layRows 34 = .ok (.iaload, 1) := by decide +kernel
theorem dX7_layRows_35 : decode cX7_layRows 35 = .ok (.invokevirtual 56, 3) := by decide +kernel
theorem dX7_layRows_38 : decode cX7_layRows 38 = .ok (.istore_n 3, 1) := by decide +kernel
theorem dX7_layRows_39 : decode cX7_layRows 39 = .ok (.aload_n 0, 1) := by decide +kernel
theorem dX7_layRows_40 : decode cX7_layRows 40 = .ok (.getfield 25, 3) := by decide +kernel
theorem dX7_layRows_43 : decode cX7_layRows 43 = .ok (.iload_n 1, 1) := by decide +kernel
theorem dX7_layRows_44 : decode cX7_layRows 44 = .ok (.bipush 6, 2) := by decide +kernel
theorem dX7_layRows_46 : decode cX7_layRows 46 = .ok (.imul, 1) := by decide +kernel
theorem dX7_layRows_47 : decode cX7_layRows 47 = .ok (.iload_n 3, 1) := by decide +kernel
theorem dX7_layRows_48 : decode cX7_layRows 48 = .ok (.iadd, 1) := by decide +kernel
theorem dX7_layRows_49 : decode cX7_layRows 49 = .ok (.iload_n 2, 1) := by decide +kernel
theorem dX7_layRows_50 : decode cX7_layRows 50 = .ok (.iastore, 1) := by decide +kernel
theorem dX7_layRows_51 : decode cX7_layRows 51 = .ok (.iload_n 3, 1) := by decide +kernel
theorem dX7_layRows_52 : decode cX7_layRows 52 = .ok (.aload_n 0, 1) := by decide +kernel
theorem dX7_layRows_53 : decode cX7_layRows 53 = .ok (.getfield 41, 3) := by decide +kernel
theorem dX7_layRows_56 : decode cX7_layRows 56 = .ok (.if_icmp .ge 15, 3) := by decide +kernel
theorem dX7_layRows_59 : decode cX7_layRows 59 = .ok (.aload_n 0, 1) := by decide +kernel
theorem dX7_layRows_60 : decode cX7_layRows 60 = .ok (.getfield 28, 3) := by decide +kernel
theorem dX7_layRows_63 : decode cX7_layRows 63 = .ok (.iload_n 1, 1) := by decide +kernel
theorem dX7_layRows_64 : decode cX7_layRows 64 = .ok (.dup2, 1) := by decide +kernel
theorem dX7_layRows_65 : decode cX7_layRows 65 = .ok (.iaload, 1) := by decide +kernel
theorem dX7_layRows_66 : decode cX7_layRows 66 = .ok (.iconst 1, 1) := by decide +kernel
theorem dX7_layRows_67 : decode cX7_layRows 67 = .ok (.iload_n 2, 1) := by decide +kernel
theorem dX7_layRows_68 : decode cX7_layRows 68 = .ok (.ishl, 1) := by decide +kernel
theorem dX7_layRows_69 : decode cX7_layRows 69 = .ok (.ior, 1) := by decide +kernel
theorem dX7_layRows_70 : decode cX7_layRows 70 = .ok (.iastore, 1) := by decide +kernel
theorem dX7_layRows_71 : decode cX7_layRows 71 = .ok (.iinc 2 1, 3) := by decide +kernel
theorem dX7_layRows_74 : decode cX7_layRows 74 = .ok (.goto (-55), 3) := by decide +kernel
theorem dX7_layRows_77 : decode cX7_layRows 77 = .ok (.iinc 1 1, 3) := by decide +kernel
theorem dX7_layRows_80 : decode cX7_layRows 80 = .ok (.goto (-78), 3) := by decide +kernel
theorem dX7_layRows_83 : decode cX7_layRows 83 = .ok (.return_, 1) := by decide +kernel
theorem dX7_keepersAhead_0 : decode cX7_keepersAhead 0 = .ok (.aload_n 0, 1) := by decide +kernel
theorem dX7_keepersAhead_1 : decode cX7_keepersAhead 1 = .ok (.iload_n 1, 1) := by decide +kernel
theorem dX7_keepersAhead_2 : decode cX7_keepersAhead 2 = .ok (.iload_n 2, 1) := by decide +kernel
theorem dX7_keepersAhead_3 : decode cX7_keepersAhead 3 = .ok (.invokevirtual 60, 3) := by decide +kernel
theorem dX7_keepersAhead_6 : decode cX7_keepersAhead 6 = .ok (.istore_n 3, 1) := by decide +kernel
theorem dX7_keepersAhead_7 : decode cX7_keepersAhead 7 = .ok (.iconst 0, 1) := by decide +kernel
theorem dX7_keepersAhead_8 : decode cX7_keepersAhead 8 = .ok (.istore 4, 2) := by decide +kernel
theorem dX7_keepersAhead_10 : decode cX7_keepersAhead 10 = .ok (.iconst 0, 1) := by decide +kernel
theorem dX7_keepersAhead_11 : decode cX7_keepersAhead 11 = .ok (.istore 5, 2) := by decide +kernel
theorem dX7_keepersAhead_13 : decode cX7_keepersAhead 13 = .ok (.iload 5, 2) := by decide +kernel
theorem dX7_keepersAhead_15 : decode cX7_keepersAhead 15 = .ok (.aload_n 0, 1) := by decide +kernel
theorem dX7_keepersAhead_16 : decode cX7_keepersAhead 16 = .ok (.getfield 31, 3) := by decide +kernel
theorem dX7_keepersAhead_19 : decode cX7_keepersAhead 19 = .ok (.if_icmp .ge 28, 3) := by decide +kernel
theorem dX7_keepersAhead_22 : decode cX7_keepersAhead 22 = .ok (.aload_n 0, 1) := by decide +kernel
theorem dX7_keepersAhead_23 : decode cX7_keepersAhead 23 = .ok (.iload_n 1, 1) := by decide +kernel
theorem dX7_keepersAhead_24 : decode cX7_keepersAhead 24 = .ok (.aload_n 0, 1) := by decide +kernel
theorem dX7_keepersAhead_25 : decode cX7_keepersAhead 25 = .ok (.getfield 9, 3) := by decide +kernel
theorem dX7_keepersAhead_28 : decode cX7_keepersAhead 28 = .ok (.iload 5, 2) := by decide +kernel
theorem dX7_keepersAhead_30 : decode cX7_keepersAhead 30 = .ok (.iaload, 1) := by decide +kernel
theorem dX7_keepersAhead_31 : decode cX7_keepersAhead 31 = .ok (.invokevirtual 60, 3) := by decide +kernel
theorem dX7_keepersAhead_34 : decode cX7_keepersAhead 34 = .ok (.iload_n 3, 1) := by decide +kernel
theorem dX7_keepersAhead_35 : decode cX7_keepersAhead 35 = .ok (.if_icmp .ge 6, 3) := by decide +kernel
theorem dX7_keepersAhead_38 : decode cX7_keepersAhead 38 = .ok (.iinc 4 1, 3) := by decide +kernel
theorem dX7_keepersAhead_41 : decode cX7_keepersAhead 41 = .ok (.iinc 5 1, 3) := by decide +kernel
theorem dX7_keepersAhead_44 : decode cX7_keepersAhead 44 = .ok (.goto (-31), 3) := by decide +kernel
theorem dX7_keepersAhead_47 : decode cX7_keepersAhead 47 = .ok (.iload 4, 2) := by decide +kernel
theorem dX7_keepersAhead_49 : decode cX7_keepersAhead 49 = .ok (.ireturn, 1) := by decide +kernel
theorem dX7_wayFrom_0 : decode cX7_wayFrom 0 = .ok (.iload_n 2, 1) := by decide +kernel
theorem dX7_wayFrom_1 : decode cX7_wayFrom 1 = .ok (.aload_n 0, 1) := by decide +kernel
theorem dX7_wayFrom_2 : decode cX7_wayFrom 2 = .ok (.getfield 19, 3) := by decide +kernel
theorem dX7_wayFrom_5 : decode cX7_wayFrom 5 = .ok (.iload_n 1, 1) := by decide +kernel
theorem dX7_wayFrom_6 : decode cX7_wayFrom 6 = .ok (.iaload, 1) := by decide +kernel
theorem dX7_wayFrom_7 : decode cX7_wayFrom 7 = .ok (.if_icmp .lt 14, 3) := by decide +kernel
theorem dX7_wayFrom_10 : decode cX7_wayFrom 10 = .ok (.iload_n 2, 1) := by decide +kernel
theorem dX7_wayFrom_11 : decode cX7_wayFrom 11 = .ok (.aload_n 0, 1) := by decide +kernel
theorem dX7_wayFrom_12 : decode cX7_wayFrom 12 = .ok (.getfield 19, 3) := by decide +kernel
theorem dX7_wayFrom_15 : decode cX7_wayFrom 15 = .ok (.iload_n 1, 1) := by decide +kernel
theorem dX7_wayFrom_16 : decode cX7_wayFrom 16 = .ok (.iaload, 1) := by decide +kernel
theorem dX7_wayFrom_17 : decode cX7_wayFrom 17 = .ok (.isub, 1) := by decide +kernel
theorem dX7_wayFrom_18 : decode cX7_wayFrom 18 = .ok (.goto 15, 3) := by decide +kernel
theorem dX7_wayFrom_21 : decode cX7_wayFrom 21 = .ok (.iload_n 2, 1) := by decide +kernel
theorem dX7_wayFrom_22 : decode cX7_wayFrom 22 = .ok (.aload_n 0, 1) := by decide +kernel
theorem dX7_wayFrom_23 : decode cX7_wayFrom 23 = .ok (.getfield 19, 3) := by decide +kernel
theorem dX7_wayFrom_26 : decode cX7_wayFrom 26 = .ok (.iload_n 1, 1) := by decide +kernel
theorem dX7_wayFrom_27 : decode cX7_wayFrom 27 = .ok (.iaload, 1) := by decide +kernel
theorem dX7_wayFrom_28 : decode cX7_wayFrom 28 = .ok (.isub, 1) := by decide +kernel
theorem dX7_wayFrom_29 : decode cX7_wayFrom 29 = .ok (.sipush 1000, 3) := by decide +kernel
theorem dX7_wayFrom_32 : decode cX7_wayFrom 32 = .ok (.iadd, 1) := by decide +kernel
theorem dX7_wayFrom_33 : decode cX7_wayFrom 33 = .ok (.ireturn, 1) := by decide +kernel
theorem dX7_keeperAlong_0 : decode cX7_keeperAlong 0 = .ok (.aload_n 0, 1) := by decide +kernel
theorem dX7_keeperAlong_1 : decode cX7_keeperAlong 1 = .ok (.getfield 25, 3) := by decide +kernel
theorem dX7_keeperAlong_4 : decode cX7_keeperAlong 4 = .ok (.iload_n 1, 1) := by decide +kernel
theorem dX7_keeperAlong_5 : decode cX7_keeperAlong 5 = .ok (.bipush 6, 2) := by decide +kernel
theorem dX7_keeperAlong_7 : decode cX7_keeperAlong 7 = .ok (.imul, 1) := by decide +kernel
theorem dX7_keeperAlong_8 : decode cX7_keeperAlong 8 = .ok (.iload_n 2, 1) := by decide +kernel
theorem dX7_keeperAlong_9 : decode cX7_keeperAlong 9 = .ok (.iadd, 1) := by decide +kernel
theorem dX7_keeperAlong_10 : decode cX7_keeperAlong 10 = .ok (.iaload, 1) := by decide +kernel
theorem dX7_keeperAlong_11 : decode cX7_keeperAlong 11 = .ok (.ireturn, 1) := by decide +kernel
theorem dX7_keeperSet_0 : decode cX7_keeperSet 0 = .ok (.iconst 1, 1) := by decide +kernel
theorem dX7_keeperSet_1 : decode cX7_keeperSet 1 = .ok (.aload_n 0, 1) := by decide +kernel
theorem dX7_keeperSet_2 : decode cX7_keeperSet 2 = .ok (.getfield 31, 3) := by decide +kernel
theorem dX7_keeperSet_5 : decode cX7_keeperSet 5 = .ok (.ishl, 1) := by decide +kernel
theorem dX7_keeperSet_6 : decode cX7_keeperSet 6 = .ok (.iconst 1, 1) := by decide +kernel
theorem dX7_keeperSet_7 : decode cX7_keeperSet 7 = .ok (.isub, 1) := by decide +kernel
theorem dX7_keeperSet_8 : decode cX7_keeperSet 8 = .ok (.ireturn, 1) := by decide +kernel
theorem dX7_isSum_0 : decode cX7_isSum 0 = .ok (.aload_n 0, 1) := by decide +kernel
theorem dX7_isSum_1 : decode cX7_isSum 1 = .ok (.getfield 38, 3) := by decide +kernel
theorem dX7_isSum_4 : decode cX7_isSum 4 = .ok (.iload_n 1, 1) := by decide +kernel
theorem dX7_isSum_5 : decode cX7_isSum 5 = .ok (.ishr, 1) := by decide +kernel
theorem dX7_isSum_6 : decode cX7_isSum 6 = .ok (.iconst 1, 1) := by decide +kernel
theorem dX7_isSum_7 : decode cX7_isSum 7 = .ok (.iand, 1) := by decide +kernel
theorem dX7_isSum_8 : decode cX7_isSum 8 = .ok (.ifCond .eq 7, 3) := by decide +kernel
theorem dX7_isSum_11 : decode cX7_isSum 11 = .ok (.iconst 1, 1) := by decide +kernel
theorem dX7_isSum_12 : decode cX7_isSum 12 = .ok (.goto 4, 3) := by decide +kernel
theorem dX7_isSum_15 : decode cX7_isSum 15 = .ok (.iconst 0, 1) := by decide +kernel
theorem dX7_isSum_16 : decode cX7_isSum 16 = .ok (.ireturn, 1) := by decide +kernel
theorem dX7_isPlace_0 : decode cX7_isPlace 0 = .ok (.aload_n 0, 1) := by decide +kernel
theorem dX7_isPlace_1 : decode cX7_isPlace 1 = .ok (.getfield 28, 3) := by decide +kernel
theorem dX7_isPlace_4 : decode cX7_isPlace 4 = .ok (.iload_n 1, 1) := by decide +kernel
theorem dX7_isPlace_5 : decode cX7_isPlace 5 = .ok (.iaload, 1) := by decide +kernel
theorem dX7_isPlace_6 : decode cX7_isPlace 6 = .ok (.iload_n 2, 1) := by decide +kernel
theorem dX7_isPlace_7 : decode cX7_isPlace 7 = .ok (.ishr, 1) := by decide +kernel
theorem dX7_isPlace_8 : decode cX7_isPlace 8 = .ok (.iconst 1, 1) := by decide +kernel
theorem dX7_isPlace_9 : decode cX7_isPlace 9 = .ok (.iand, 1) := by decide +kernel
theorem dX7_isPlace_10 : decode cX7_isPlace 10 = .ok (.ifCond .eq 7, 3) := by decide +kernel
theorem dX7_isPlace_13 : decode cX7_isPlace 13 = .ok (.iconst 1, 1) := by decide +kernel
theorem dX7_isPlace_14 : decode cX7_isPlace 14 = .ok (.goto 4, 3) := by decide +kernel
theorem dX7_isPlace_17 : decode cX7_isPlace 17 = .ok (.iconst 0, 1) := by decide +kernel
theorem dX7_isPlace_18 : decode cX7_isPlace 18 = .ok (.ireturn, 1) := by decide +kernel
theorem dX7_areBothPlaces_0 : decode cX7_areBothPlaces 0 = .ok (.aload_n 0, 1) := by decide +kernel
theorem dX7_areBothPlaces_1 : decode cX7_areBothPlaces 1 = .ok (.iload_n 1, 1) := by decide +kernel
theorem dX7_areBothPlaces_2 : decode cX7_areBothPlaces 2 = .ok (.iload_n 2, 1) := by decide +kernel
theorem dX7_areBothPlaces_3 : decode cX7_areBothPlaces 3 = .ok (.invokevirtual 63, 3) := by decide +kernel
theorem dX7_areBothPlaces_6 : decode cX7_areBothPlaces 6 = .ok (.ifCond .eq 16, 3) := by decide +kernel
theorem dX7_areBothPlaces_9 : decode cX7_areBothPlaces 9 = .ok (.aload_n 0, 1) := by decide +kernel
theorem dX7_areBothPlaces_10 : decode cX7_areBothPlaces 10 = .ok (.iload_n 1, 1) := by decide +kernel
theorem dX7_areBothPlaces_11 : decode cX7_areBothPlaces 11 = .ok (.iload_n 3, 1) := by decide +kernel
theorem dX7_areBothPlaces_12 : decode cX7_areBothPlaces 12 = .ok (.invokevirtual 63, 3) := by decide +kernel
theorem dX7_areBothPlaces_15 : decode cX7_areBothPlaces 15 = .ok (.ifCond .eq 7, 3) := by decide +kernel
theorem dX7_areBothPlaces_18 : decode cX7_areBothPlaces 18 = .ok (.iconst 1, 1) := by decide +kernel
theorem dX7_areBothPlaces_19 : decode cX7_areBothPlaces 19 = .ok (.goto 4, 3) := by decide +kernel
theorem dX7_areBothPlaces_22 : decode cX7_areBothPlaces 22 = .ok (.iconst 0, 1) := by decide +kernel
theorem dX7_areBothPlaces_23 : decode cX7_areBothPlaces 23 = .ok (.ireturn, 1) := by decide +kernel
theorem dX7_isTakenAt_0 : decode cX7_isTakenAt 0 = .ok (.iconst 0, 1) := by decide +kernel
theorem dX7_isTakenAt_1 : decode cX7_isTakenAt 1 = .ok (.istore_n 2, 1) := by decide +kernel
theorem dX7_isTakenAt_2 : decode cX7_isTakenAt 2 = .ok (.iload_n 2, 1) := by decide +kernel
theorem dX7_isTakenAt_3 : decode cX7_isTakenAt 3 = .ok (.aload_n 0, 1) := by decide +kernel
theorem dX7_isTakenAt_4 : decode cX7_isTakenAt 4 = .ok (.getfield 31, 3) := by decide +kernel
theorem dX7_isTakenAt_7 : decode cX7_isTakenAt 7 = .ok (.if_icmp .ge 21, 3) := by decide +kernel
theorem dX7_isTakenAt_10 : decode cX7_isTakenAt 10 = .ok (.aload_n 0, 1) := by decide +kernel
theorem dX7_isTakenAt_11 : decode cX7_isTakenAt 11 = .ok (.getfield 9, 3) := by decide +kernel
theorem dX7_isTakenAt_14 : decode cX7_isTakenAt 14 = .ok (.iload_n 2, 1) := by decide +kernel
theorem dX7_isTakenAt_15 : decode cX7_isTakenAt 15 = .ok (.iaload, 1) := by decide +kernel
theorem dX7_isTakenAt_16 : decode cX7_isTakenAt 16 = .ok (.iload_n 1, 1) := by decide +kernel
theorem dX7_isTakenAt_17 : decode cX7_isTakenAt 17 = .ok (.if_icmp .ne 5, 3) := by decide +kernel
theorem dX7_isTakenAt_20 : decode cX7_isTakenAt 20 = .ok (.iconst 1, 1) := by decide +kernel
theorem dX7_isTakenAt_21 : decode cX7_isTakenAt 21 = .ok (.ireturn, 1) := by decide +kernel
theorem dX7_isTakenAt_22 : decode cX7_isTakenAt 22 = .ok (.iinc 2 1, 3) := by decide +kernel
theorem dX7_isTakenAt_25 : decode cX7_isTakenAt 25 = .ok (.goto (-23), 3) := by decide +kernel
theorem dX7_isTakenAt_28 : decode cX7_isTakenAt 28 = .ok (.iconst 0, 1) := by decide +kernel
theorem dX7_isTakenAt_29 : decode cX7_isTakenAt 29 = .ok (.ireturn, 1) := by decide +kernel
theorem dX7_keeperNamed_0 : decode cX7_keeperNamed 0 = .ok (.iconst 0, 1) := by decide +kernel
theorem dX7_keeperNamed_1 : decode cX7_keeperNamed 1 = .ok (.istore_n 3, 1) := by decide +kernel
theorem dX7_keeperNamed_2 : decode cX7_keeperNamed 2 = .ok (.iload_n 3, 1) := by decide +kernel
theorem dX7_keeperNamed_3 : decode cX7_keeperNamed 3 = .ok (.aload_n 0, 1) := by decide +kernel
theorem dX7_keeperNamed_4 : decode cX7_keeperNamed 4 = .ok (.getfield 31, 3) := by decide +kernel
theorem dX7_keeperNamed_7 : decode cX7_keeperNamed 7 = .ok (.if_icmp .ge 22, 3) := by decide +kernel
theorem dX7_keeperNamed_10 : decode cX7_keeperNamed 10 = .ok (.aload_n 0, 1) := by decide +kernel
theorem dX7_keeperNamed_11 : decode cX7_keeperNamed 11 = .ok (.getfield 15, 3) := by decide +kernel
theorem dX7_keeperNamed_14 : decode cX7_keeperNamed 14 = .ok (.iload_n 3, 1) := by decide +kernel
theorem dX7_keeperNamed_15 : decode cX7_keeperNamed 15 = .ok (.laload, 1) := by decide +kernel
theorem dX7_keeperNamed_16 : decode cX7_keeperNamed 16 = .ok (.lload_n 1, 1) := by decide +kernel
theorem dX7_keeperNamed_17 : decode cX7_keeperNamed 17 = .ok (.lcmp, 1) := by decide +kernel
theorem dX7_keeperNamed_18 : decode cX7_keeperNamed 18 = .ok (.ifCond .ne 5, 3) := by decide +kernel
theorem dX7_keeperNamed_21 : decode cX7_keeperNamed 21 = .ok (.iload_n 3, 1) := by decide +kernel
theorem dX7_keeperNamed_22 : decode cX7_keeperNamed 22 = .ok (.ireturn, 1) := by decide +kernel
theorem dX7_keeperNamed_23 : decode cX7_keeperNamed 23 = .ok (.iinc 3 1, 3) := by decide +kernel
theorem dX7_keeperNamed_26 : decode cX7_keeperNamed 26 = .ok (.goto (-24), 3) := by decide +kernel
theorem dX7_keeperNamed_29 : decode cX7_keeperNamed 29 = .ok (.iconst (-1), 1) := by decide +kernel
theorem dX7_keeperNamed_30 : decode cX7_keeperNamed 30 = .ok (.ireturn, 1) := by decide +kernel
theorem dX7_keyNamed_0 : decode cX7_keyNamed 0 = .ok (.iconst 0, 1) := by decide +kernel
theorem dX7_keyNamed_1 : decode cX7_keyNamed 1 = .ok (.istore_n 3, 1) := by decide +kernel
theorem dX7_keyNamed_2 : decode cX7_keyNamed 2 = .ok (.iload_n 3, 1) := by decide +kernel
theorem dX7_keyNamed_3 : decode cX7_keyNamed 3 = .ok (.aload_n 0, 1) := by decide +kernel
theorem dX7_keyNamed_4 : decode cX7_keyNamed 4 = .ok (.getfield 35, 3) := by decide +kernel
theorem dX7_keyNamed_7 : decode cX7_keyNamed 7 = .ok (.if_icmp .ge 22, 3) := by decide +kernel
theorem dX7_keyNamed_10 : decode cX7_keyNamed 10 = .ok (.aload_n 0, 1) := by decide +kernel
theorem dX7_keyNamed_11 : decode cX7_keyNamed 11 = .ok (.getfield 22, 3) := by decide +kernel
theorem dX7_keyNamed_14 : decode cX7_keyNamed 14 = .ok (.iload_n 3, 1) := by decide +kernel
theorem dX7_keyNamed_15 : decode cX7_keyNamed 15 = .ok (.laload, 1) := by decide +kernel
theorem dX7_keyNamed_16 : decode cX7_keyNamed 16 = .ok (.lload_n 1, 1) := by decide +kernel
theorem dX7_keyNamed_17 : decode cX7_keyNamed 17 = .ok (.lcmp, 1) := by decide +kernel
theorem dX7_keyNamed_18 : decode cX7_keyNamed 18 = .ok (.ifCond .ne 5, 3) := by decide +kernel
theorem dX7_keyNamed_21 : decode cX7_keyNamed 21 = .ok (.iload_n 3, 1) := by decide +kernel
theorem dX7_keyNamed_22 : decode cX7_keyNamed 22 = .ok (.ireturn, 1) := by decide +kernel
theorem dX7_keyNamed_23 : decode cX7_keyNamed 23 = .ok (.iinc 3 1, 3) := by decide +kernel
theorem dX7_keyNamed_26 : decode cX7_keyNamed 26 = .ok (.goto (-24), 3) := by decide +kernel
theorem dX7_keyNamed_29 : decode cX7_keyNamed 29 = .ok (.iconst (-1), 1) := by decide +kernel
theorem dX7_keyNamed_30 : decode cX7_keyNamed 30 = .ok (.ireturn, 1) := by decide +kernel
theorem dX8_init_0 : decode cX8_init 0 = .ok (.aload_n 0, 1) := by decide +kernel
theorem dX8_init_1 : decode cX8_init 1 = .ok (.invokespecial 3, 3) := by decide +kernel
theorem dX8_init_4 : decode cX8_init 4 = .ok (.aload_n 0, 1) := by decide +kernel
theorem dX8_init_5 : decode cX8_init 5 = .ok (.new 9, 3) := by decide +kernel
theorem dX8_init_8 : decode cX8_init 8 = .ok (.dup, 1) := by decide +kernel
theorem dX8_init_9 : decode cX8_init 9 = .ok (.invokespecial 11, 3) := by decide +kernel
theorem dX8_init_12 : decode cX8_init 12 = .ok (.putfield 12, 3) := by decide +kernel
theorem dX8_init_15 : decode cX8_init 15 = .ok (.aload_n 0, 1) := by decide +kernel
theorem dX8_init_16 : decode cX8_init 16 = .ok (.iconst 0, 1) := by decide +kernel
theorem dX8_init_17 : decode cX8_init 17 = .ok (.putfield 18, 3) := by decide +kernel
theorem dX8_init_20 : decode cX8_init 20 = .ok (.aload_n 0, 1) := by decide +kernel
theorem dX8_init_21 : decode cX8_init 21 = .ok (.aload_n 1, 1) := by decide +kernel
theorem dX8_init_22 : decode cX8_init 22 = .ok (.putfield 22, 3) := by decide +kernel
theorem dX8_init_25 : decode cX8_init 25 = .ok (.return_, 1) := by decide +kernel
theorem dX8_isTaken_0 : decode cX8_isTaken 0 = .ok (.aload_n 0, 1) := by decide +kernel
theorem dX8_isTaken_1 : decode cX8_isTaken 1 = .ok (.getfield 12, 3) := by decide +kernel
theorem dX8_isTaken_4 : decode cX8_isTaken 4 = .ok (.invokevirtual 26, 3) := by decide +kernel
theorem dX8_isTaken_7 : decode cX8_isTaken 7 = .ok (.aload_n 0, 1) := by decide +kernel
theorem dX8_isTaken_8 : decode cX8_isTaken 8 = .ok (.iconst 0, 1) := by decide +kernel
theorem dX8_isTaken_9 : decode cX8_isTaken 9 = .ok (.putfield 18, 3) := by decide +kernel
theorem dX8_isTaken_12 : decode cX8_isTaken 12 = .ok (.iconst 0, 1) := by decide +kernel
theorem dX8_isTaken_13 : decode cX8_isTaken 13 = .ok (.istore_n 1, 1) := by decide +kernel
theorem dX8_isTaken_14 : decode cX8_isTaken 14 = .ok (.iload_n 1, 1) := by decide +kernel
theorem dX8_isTaken_15 : decode cX8_isTaken 15 = .ok (.sipush 900, 3) := by decide +kernel
theorem dX8_isTaken_18 : decode cX8_isTaken 18 = .ok (.if_icmp .gt 68, 3) := by decide +kernel
theorem dX8_isTaken_21 : decode cX8_isTaken 21 = .ok (.aload_n 0, 1) := by decide +kernel
theorem dX8_isTaken_22 : decode cX8_isTaken 22 = .ok (.getfield 22, 3) := by decide +kernel
theorem dX8_isTaken_25 : decode cX8_isTaken 25 = .ok (.invokevirtual 29, 3) := by decide +kernel
theorem dX8_isTaken_28 : decode cX8_isTaken 28 = .ok (.aload_n 0, 1) := by decide +kernel
theorem dX8_isTaken_29 : decode cX8_isTaken 29 = .ok (.getfield 22, 3) := by decide +kernel
theorem dX8_isTaken_32 : decode cX8_isTaken 32 = .ok (.getfield 34, 3) := by decide +kernel
theorem dX8_isTaken_35 : decode cX8_isTaken 35 = .ok (.ifCond .ne 12, 3) := by decide +kernel
theorem dX8_isTaken_38 : decode cX8_isTaken 38 = .ok (.aload_n 0, 1) := by decide +kernel
theorem dX8_isTaken_39 : decode cX8_isTaken 39 = .ok (.getfield 12, 3) := by decide +kernel
theorem dX8_isTaken_42 : decode cX8_isTaken 42 = .ok (.invokevirtual 38, 3) := by decide +kernel
theorem dX8_isTaken_45 : decode cX8_isTaken 45 = .ok (.iconst 1, 1) := by decide +kernel
theorem dX8_isTaken_46 : decode cX8_isTaken 46 = .ok (.ireturn, 1) := by decide +kernel
theorem dX8_isTaken_47 : decode cX8_isTaken 47 = .ok (.aload_n 0, 1) := by decide +kernel
theorem dX8_isTaken_48 : decode cX8_isTaken 48 = .ok (.aload_n 0, 1) := by decide +kernel
theorem dX8_isTaken_49 : decode cX8_isTaken 49 = .ok (.getfield 22, 3) := by decide +kernel
theorem dX8_isTaken_52 : decode cX8_isTaken 52 = .ok (.getfield 41, 3) := by decide +kernel
theorem dX8_isTaken_55 : decode cX8_isTaken 55 = .ok (.invokevirtual 44, 3) := by decide +kernel
theorem dX8_isTaken_58 : decode cX8_isTaken 58 = .ok (.ifCond .eq 20, 3) := by decide +kernel
theorem dX8_isTaken_61 : decode cX8_isTaken 61 = .ok (.aload_n 0, 1) := by decide +kernel
theorem dX8_isTaken_62 : decode cX8_isTaken 62 = .ok (.aload_n 0, 1) := by decide +kernel
theorem dX8_isTaken_63 : decode cX8_isTaken 63 = .ok (.getfield 22, 3) := by decide +kernel
theorem dX8_isTaken_66 : decode cX8_isTaken 66 = .ok (.getfield 41, 3) := by decide +kernel
theorem dX8_isTaken_69 : decode cX8_isTaken 69 = .ok (.invokestatic 48, 3) := by decide +kernel
theorem dX8_isTaken_72 : decode cX8_isTaken 72 = .ok (.invokevirtual 52, 3) := by decide +kernel
theorem dX8_isTaken_75 : decode cX8_isTaken 75 = .ok (.ifCond .ne 5, 3) := by decide +kernel
theorem dX8_isTaken_78 : decode cX8_isTaken 78 = .ok (.iconst 0, 1) := by decide +kernel
theorem dX8_isTaken_79 : decode cX8_isTaken 79 = .ok (.ireturn, 1) := by decide +kernel
theorem dX8_isTaken_80 : decode cX8_isTaken 80 = .ok (.iinc 1 1, 3) := by decide +kernel
theorem dX8_isTaken_83 : decode cX8_isTaken 83 = .ok (.goto (-69), 3) := by decide +kernel
theorem dX8_isTaken_86 : decode cX8_isTaken 86 = .ok (.iconst 0, 1) := by decide +kernel
theorem dX8_isTaken_87 : decode cX8_isTaken 87 = .ok (.ireturn, 1) := by decide +kernel
theorem dX8_mayBegin_0 : decode cX8_mayBegin 0 = .ok (.iload_n 1, 1) := by decide +kernel
theorem dX8_mayBegin_1 : decode cX8_mayBegin 1 = .ok (.lookupswitch 119 #[(0, 35), (3, 59), (5, 89)], 35) := by decide +kernel
theorem dX8_mayBegin_36 : decode cX8_mayBegin 36 = .ok (.aload_n 0, 1) := by decide +kernel
theorem dX8_mayBegin_37 : decode cX8_mayBegin 37 = .ok (.getfield 18, 3) := by decide +kernel
theorem dX8_mayBegin_40 : decode cX8_mayBegin 40 = .ok (.ifCond .eq 14, 3) := by decide +kernel
theorem dX8_mayBegin_43 : decode cX8_mayBegin 43 = .ok (.aload_n 0, 1) := by decide +kernel
theorem dX8_mayBegin_44 : decode cX8_mayBegin 44 = .ok (.getfield 22, 3) := by decide +kernel
theorem dX8_mayBegin_47 : decode cX8_mayBegin 47 = .ok (.iconst 5, 1) := by decide +kernel
theorem dX8_mayBegin_48 : decode cX8_mayBegin 48 = .ok (.invokevirtual 56, 3) := by decide +kernel
theorem dX8_mayBegin_51 : decode cX8_mayBegin 51 = .ok (.ifCond .eq 7, 3) := by decide +kernel
theorem dX8_mayBegin_54 : decode cX8_mayBegin 54 = .ok (.iconst 1, 1) := by decide +kernel
theorem dX8_mayBegin_55 : decode cX8_mayBegin 55 = .ok (.goto 4, 3) := by decide +kernel
theorem dX8_mayBegin_58 : decode cX8_mayBegin 58 = .ok (.iconst 0, 1) := by decide +kernel
theorem dX8_mayBegin_59 : decode cX8_mayBegin 59 = .ok (.ireturn, 1) := by decide +kernel
theorem dX8_mayBegin_60 : decode cX8_mayBegin 60 = .ok (.aload_n 0, 1) := by decide +kernel
theorem dX8_mayBegin_61 : decode cX8_mayBegin 61 = .ok (.getfield 12, 3) := by decide +kernel
theorem dX8_mayBegin_64 : decode cX8_mayBegin 64 = .ok (.getfield 59, 3) := by decide +kernel
theorem dX8_mayBegin_67 : decode cX8_mayBegin 67 = .ok (.bipush 6, 2) := by decide +kernel
theorem dX8_mayBegin_69 : decode cX8_mayBegin 69 = .ok (.if_icmp .lt 15, 3) := by decide +kernel
theorem dX8_mayBegin_72 : decode cX8_mayBegin 72 = .ok (.aload_n 0, 1) := by decide +kernel
theorem dX8_mayBegin_73 : decode cX8_mayBegin 73 = .ok (.getfield 22, 3) := by decide +kernel
theorem dX8_mayBegin_76 : decode cX8_mayBegin 76 = .ok (.bipush 6, 2) := by decide +kernel
theorem dX8_mayBegin_78 : decode cX8_mayBegin 78 = .ok (.invokevirtual 56, 3) := by decide +kernel
theorem dX8_mayBegin_81 : decode cX8_mayBegin 81 = .ok (.ifCond .eq 7, 3) := by decide +kernel
theorem dX8_mayBegin_84 : decode cX8_mayBegin 84 = .ok (.iconst 1, 1) := by decide +kernel
theorem dX8_mayBegin_85 : decode cX8_mayBegin 85 = .ok (.goto 4, 3) := by decide +kernel
theorem dX8_mayBegin_88 : decode cX8_mayBegin 88 = .ok (.iconst 0, 1) := by decide +kernel
theorem dX8_mayBegin_89 : decode cX8_mayBegin 89 = .ok (.ireturn, 1) := by decide +kernel
theorem dX8_mayBegin_90 : decode cX8_mayBegin 90 = .ok (.aload_n 0, 1) := by decide +kernel
theorem dX8_mayBegin_91 : decode cX8_mayBegin 91 = .ok (.getfield 12, 3) := by decide +kernel
theorem dX8_mayBegin_94 : decode cX8_mayBegin 94 = .ok (.getfield 62, 3) := by decide +kernel
theorem dX8_mayBegin_97 : decode cX8_mayBegin 97 = .ok (.bipush 6, 2) := by decide +kernel
theorem dX8_mayBegin_99 : decode cX8_mayBegin 99 = .ok (.if_icmp .lt 15, 3) := by decide +kernel
theorem dX8_mayBegin_102 : decode cX8_mayBegin 102 = .ok (.aload_n 0, 1) := by decide +kernel
theorem dX8_mayBegin_103 : decode cX8_mayBegin 103 = .ok (.getfield 22, 3) := by decide +kernel
theorem dX8_mayBegin_106 : decode cX8_mayBegin 106 = .ok (.bipush 6, 2) := by decide +kernel
theorem dX8_mayBegin_108 : decode cX8_mayBegin 108 = .ok (.invokevirtual 56, 3) := by decide +kernel
theorem dX8_mayBegin_111 : decode cX8_mayBegin 111 = .ok (.ifCond .eq 7, 3) := by decide +kernel
theorem dX8_mayBegin_114 : decode cX8_mayBegin 114 = .ok (.iconst 1, 1) := by decide +kernel
theorem dX8_mayBegin_115 : decode cX8_mayBegin 115 = .ok (.goto 4, 3) := by decide +kernel
theorem dX8_mayBegin_118 : decode cX8_mayBegin 118 = .ok (.iconst 0, 1) := by decide +kernel
theorem dX8_mayBegin_119 : decode cX8_mayBegin 119 = .ok (.ireturn, 1) := by decide +kernel
theorem dX8_mayBegin_120 : decode cX8_mayBegin 120 = .ok (.aload_n 0, 1) := by decide +kernel
theorem dX8_mayBegin_121 : decode cX8_mayBegin 121 = .ok (.getfield 22, 3) := by decide +kernel
theorem dX8_mayBegin_124 : decode cX8_mayBegin 124 = .ok (.iconst 2, 1) := by decide +kernel
theorem dX8_mayBegin_125 : decode cX8_mayBegin 125 = .ok (.invokevirtual 56, 3) := by decide +kernel
theorem dX8_mayBegin_128 : decode cX8_mayBegin 128 = .ok (.ireturn, 1) := by decide +kernel
theorem dX8_itemsOf_0 : decode cX8_itemsOf 0 = .ok (.iload_n 0, 1) := by decide +kernel
theorem dX8_itemsOf_1 : decode cX8_itemsOf 1 = .ok (.ifCond .ne 6, 3) := by decide +kernel
theorem dX8_itemsOf_4 : decode cX8_itemsOf 4 = .ok (.ldc 65, 2) := by decide +kernel
theorem dX8_itemsOf_6 : decode cX8_itemsOf 6 = .ok (.areturn, 1) := by decide +kernel
theorem dX8_itemsOf_7 : decode cX8_itemsOf 7 = .ok (.iload_n 0, 1) := by decide +kernel
theorem dX8_itemsOf_8 : decode cX8_itemsOf 8 = .ok (.iconst 3, 1) := by decide +kernel
theorem dX8_itemsOf_9 : decode cX8_itemsOf 9 = .ok (.if_icmp .ne 8, 3) := by decide +kernel
theorem dX8_itemsOf_12 : decode cX8_itemsOf 12 = .ok (.ldc 67, 2) := by decide +kernel
theorem dX8_itemsOf_14 : decode cX8_itemsOf 14 = .ok (.goto 5, 3) := by decide +kernel
theorem dX8_itemsOf_17 : decode cX8_itemsOf 17 = .ok (.ldc 69, 2) := by decide +kernel
theorem dX8_itemsOf_19 : decode cX8_itemsOf 19 = .ok (.areturn, 1) := by decide +kernel
theorem dX8_takesItems_0 : decode cX8_takesItems 0 = .ok (.iconst 0, 1) := by decide +kernel
theorem dX8_takesItems_1 : decode cX8_takesItems 1 = .ok (.istore_n 2, 1) := by decide +kernel
theorem dX8_takesItems_2 : decode cX8_takesItems 2 = .ok (.iload_n 2, 1) := by decide +kernel
theorem dX8_takesItems_3 : decode cX8_takesItems 3 = .ok (.aload_n 1, 1) := by decide +kernel
theorem dX8_takesItems_4 : decode cX8_takesItems 4 = .ok (.invokevirtual 71, 3) := by decide +kernel
theorem dX8_takesItems_7 : decode cX8_takesItems 7 = .ok (.if_icmp .ge 82, 3) := by decide +kernel
theorem dX8_takesItems_10 : decode cX8_takesItems 10 = .ok (.aload_n 0, 1) := by decide +kernel
theorem dX8_takesItems_11 : decode cX8_takesItems 11 = .ok (.getfield 22, 3) := by decide +kernel
theorem dX8_takesItems_14 : decode cX8_takesItems 14 = .ok (.invokevirtual 29, 3) := by decide +kernel
theorem dX8_takesItems_17 : decode cX8_takesItems 17 = .ok (.aload_n 1, 1) := by decide +kernel
theorem dX8_takesItems_18 : decode cX8_takesItems 18 = .ok (.iload_n 2, 1) := by decide +kernel
theorem dX8_takesItems_19 : decode cX8_takesItems 19 = .ok (.invokevirtual 77, 3) := by decide +kernel
theorem dX8_takesItems_22 : decode cX8_takesItems 22 = .ok (.bipush 46, 2) := by decide +kernel
theorem dX8_takesItems_24 : decode cX8_takesItems 24 = .ok (.if_icmp .ne 45, 3) := by decide +kernel
theorem dX8_takesItems_27 : decode cX8_takesItems 27 = .ok (.aload_n 0, 1) := by decide +kernel
theorem dX8_takesItems_28 : decode cX8_takesItems 28 = .ok (.getfield 22, 3) := by decide +kernel
theorem dX8_takesItems_31 : decode cX8_takesItems 31 = .ok (.getfield 41, 3) := by decide +kernel
theorem dX8_takesItems_34 : decode cX8_takesItems 34 = .ok (.bipush 6, 2) := by decide +kernel
theorem dX8_takesItems_36 : decode cX8_takesItems 36 = .ok (.if_icmp .ne 33, 3) := by decide +kernel
theorem dX8_takesItems_39 : decode cX8_takesItems 39 = .ok (.aload_n 0, 1) := by decide +kernel
theorem dX8_takesItems_40 : decode cX8_takesItems 40 = .ok (.getfield 12, 3) := by decide +kernel
theorem dX8_takesItems_43 : decode cX8_takesItems 43 = .ok (.dup, 1) := by decide +kernel
theorem dX8_takesItems_44 : decode cX8_takesItems 44 = .ok (.getfield 81, 3) := by decide +kernel
theorem dX8_takesItems_47 : decode cX8_takesItems 47 = .ok (.iconst 1, 1) := by decide +kernel
theorem dX8_takesItems_48 : decode cX8_takesItems 48 = .ok (.aload_n 0, 1) := by decide +kernel
theorem dX8_takesItems_49 : decode cX8_takesItems 49 = .ok (.getfield 12, 3) := by decide +kernel
theorem dX8_takesItems_52 : decode cX8_takesItems 52 = .ok (.getfield 62, 3) := by decide +kernel
theorem dX8_takesItems_55 : decode cX8_takesItems 55 = .ok (.iconst 1, 1) := by decide +kernel
theorem dX8_takesItems_56 : decode cX8_takesItems 56 = .ok (.isub, 1) := by decide +kernel
theorem dX8_takesItems_57 : decode cX8_takesItems 57 = .ok (.ishl, 1) := by decide +kernel
theorem dX8_takesItems_58 : decode cX8_takesItems 58 = .ok (.ior, 1) := by decide +kernel
theorem dX8_takesItems_59 : decode cX8_takesItems 59 = .ok (.putfield 81, 3) := by decide +kernel
theorem dX8_takesItems_62 : decode cX8_takesItems 62 = .ok (.aload_n 0, 1) := by decide +kernel
theorem dX8_takesItems_63 : decode cX8_takesItems 63 = .ok (.getfield 22, 3) := by decide +kernel
theorem dX8_takesItems_66 : decode cX8_takesItems 66 = .ok (.invokevirtual 29, 3) := by decide +kernel
theorem dX8_takesItems_69 : decode cX8_takesItems 69 = .ok (.aload_n 0, 1) := by decide +kernel
theorem dX8_takesItems_70 : decode cX8_takesItems 70 = .ok (.aload_n 1, 1) := by decide +kernel
theorem dX8_takesItems_71 : decode cX8_takesItems 71 = .ok (.iload_n 2, 1) := by decide +kernel
theorem dX8_takesItems_72 : decode cX8_takesItems 72 = .ok (.invokevirtual 77, 3) := by decide +kernel
theorem dX8_takesItems_75 : decode cX8_takesItems 75 = .ok (.invokevirtual 84, 3) := by decide +kernel
theorem dX8_takesItems_78 : decode cX8_takesItems 78 = .ok (.ifCond .ne 5, 3) := by decide +kernel
theorem dX8_takesItems_81 : decode cX8_takesItems 81 = .ok (.iconst 0, 1) := by decide +kernel
theorem dX8_takesItems_82 : decode cX8_takesItems 82 = .ok (.ireturn, 1) := by decide +kernel
theorem dX8_takesItems_83 : decode cX8_takesItems 83 = .ok (.iinc 2 1, 3) := by decide +kernel
theorem dX8_takesItems_86 : decode cX8_takesItems 86 = .ok (.goto (-84), 3) := by decide +kernel
theorem dX8_takesItems_89 : decode cX8_takesItems 89 = .ok (.iconst 1, 1) := by decide +kernel
theorem dX8_takesItems_90 : decode cX8_takesItems 90 = .ok (.ireturn, 1) := by decide +kernel
theorem dX8_takesItem_0 : decode cX8_takesItem 0 = .ok (.iload_n 1, 1) := by decide +kernel
theorem dX8_takesItem_1 : decode cX8_takesItem 1 = .ok (.lookupswitch 247 #[(64, 174), (75, 210), (82, 105), (87, 144), (89, 242), (107, 183), (110, 91), (114, 96), (119, 135), (121, 215)], 91) := by decide +kernel
theorem dX8_takesItem_92 : decode cX8_takesItem 92 = .ok (.aload_n 0, 1) := by decide +kernel
theorem dX8_takesItem_93 : decode cX8_takesItem 93 = .ok (.invokevirtual 87, 3) := by decide +kernel
theorem dX8_takesItem_96 : decode cX8_takesItem 96 = .ok (.ireturn, 1) := by decide +kernel
theorem dX8_takesItem_97 : decode cX8_takesItem 97 = .ok (.aload_n 0, 1) := by decide +kernel
theorem dX8_takesItem_98 : decode cX8_takesItem 98 = .ok (.getfield 22, 3) := by decide +kernel
theorem dX8_takesItem_101 : decode cX8_takesItem 101 = .ok (.iconst 1, 1) := by decide +kernel
theorem dX8_takesItem_102 : decode cX8_takesItem 102 = .ok (.invokevirtual 91, 3) := by decide +kernel
theorem dX8_takesItem_105 : decode cX8_takesItem 105 = .ok (.ireturn, 1) := by decide +kernel
theorem dX8_takesItem_106 : decode cX8_takesItem 106 = .ok (.aload_n 0, 1) := by decide +kernel
theorem dX8_takesItem_107 : decode cX8_takesItem 107 = .ok (.getfield 12, 3) := by decide +kernel
theorem dX8_takesItem_110 : decode cX8_takesItem 110 = .ok (.aload_n 0, 1) := by decide +kernel
theorem dX8_takesItem_111 : decode cX8_takesItem 111 = .ok (.getfield 22, 3) := by decide +kernel
theorem dX8_takesItem_114 : decode cX8_takesItem 114 = .ok (.getfield 94, 3) := by decide +kernel
theorem dX8_takesItem_117 : decode cX8_takesItem 117 = .ok (.putfield 97, 3) := by decide +kernel
theorem dX8_takesItem_120 : decode cX8_takesItem 120 = .ok (.aload_n 0, 1) := by decide +kernel
theorem dX8_takesItem_121 : decode cX8_takesItem 121 = .ok (.getfield 22, 3) := by decide +kernel
theorem dX8_takesItem_124 : decode cX8_takesItem 124 = .ok (.iconst 1, 1) := by decide +kernel
theorem dX8_takesItem_125 : decode cX8_takesItem 125 = .ok (.aload_n 0, 1) := by decide +kernel
theorem dX8_takesItem_126 : decode cX8_takesItem 126 = .ok (.getfield 12, 3) := by decide +kernel
theorem dX8_takesItem_129 : decode cX8_takesItem 129 = .ok (.getfield 100, 3) := by decide +kernel
theorem dX8_takesItem_132 : decode cX8_takesItem 132 = .ok (.invokevirtual 103, 3) := by decide +kernel
theorem dX8_takesItem_135 : decode cX8_takesItem 135 = .ok (.ireturn, 1) := by decide +kernel
theorem dX8_takesItem_136 : decode cX8_takesItem 136 = .ok (.aload_n 0, 1) := by decide +kernel
theorem dX8_takesItem_137 : decode cX8_takesItem 137 = .ok (.getfield 22, 3) := by decide +kernel
theorem dX8_takesItem_140 : decode cX8_takesItem 140 = .ok (.iconst 2, 1) := by decide +kernel
theorem dX8_takesItem_141 : decode cX8_takesItem 141 = .ok (.invokevirtual 91, 3) := by decide +kernel
theorem dX8_takesItem_144 : decode cX8_takesItem 144 = .ok (.ireturn, 1) := by decide +kernel
theorem dX8_takesItem_145 : decode cX8_takesItem 145 = .ok (.aload_n 0, 1) := by decide +kernel
theorem dX8_takesItem_146 : decode cX8_takesItem 146 = .ok (.getfield 12, 3) := by decide +kernel
theorem dX8_takesItem_149 : decode cX8_takesItem 149 = .ok (.aload_n 0, 1) := by decide +kernel
theorem dX8_takesItem_150 : decode cX8_takesItem 150 = .ok (.getfield 22, 3) := by decide +kernel
theorem dX8_takesItem_153 : decode cX8_takesItem 153 = .ok (.getfield 94, 3) := by decide +kernel
theorem dX8_takesItem_156 : decode cX8_takesItem 156 = .ok (.putfield 107, 3) := by decide +kernel
theorem dX8_takesItem_159 : decode cX8_takesItem 159 = .ok (.aload_n 0, 1) := by decide +kernel
theorem dX8_takesItem_160 : decode cX8_takesItem 160 = .ok (.getfield 22, 3) := by decide +kernel
theorem dX8_takesItem_163 : decode cX8_takesItem 163 = .ok (.iconst 1, 1) := by decide +kernel
theorem dX8_takesItem_164 : decode cX8_takesItem 164 = .ok (.aload_n 0, 1) := by decide +kernel
theorem dX8_takesItem_165 : decode cX8_takesItem 165 = .ok (.getfield 12, 3) := by decide +kernel
theorem dX8_takesItem_168 : decode cX8_takesItem 168 = .ok (.getfield 100, 3) := by decide +kernel
theorem dX8_takesItem_171 : decode cX8_takesItem 171 = .ok (.invokevirtual 103, 3) := by decide +kernel
theorem dX8_takesItem_174 : decode cX8_takesItem 174 = .ok (.ireturn, 1) := by decide +kernel
theorem dX8_takesItem_175 : decode cX8_takesItem 175 = .ok (.aload_n 0, 1) := by decide +kernel
theorem dX8_takesItem_176 : decode cX8_takesItem 176 = .ok (.getfield 22, 3) := by decide +kernel
theorem dX8_takesItem_179 : decode cX8_takesItem 179 = .ok (.iconst 4, 1) := by decide +kernel
theorem dX8_takesItem_180 : decode cX8_takesItem 180 = .ok (.invokevirtual 91, 3) := by decide +kernel
theorem dX8_takesItem_183 : decode cX8_takesItem 183 = .ok (.ireturn, 1) := by decide +kernel
theorem dX8_takesItem_184 : decode cX8_takesItem 184 = .ok (.aload_n 0, 1) := by decide +kernel
theorem dX8_takesItem_185 : decode cX8_takesItem 185 = .ok (.getfield 12, 3) := by decide +kernel
theorem dX8_takesItem_188 : decode cX8_takesItem 188 = .ok (.getfield 110, 3) := by decide +kernel
theorem dX8_takesItem_191 : decode cX8_takesItem 191 = .ok (.aload_n 0, 1) := by decide +kernel
theorem dX8_takesItem_192 : decode cX8_takesItem 192 = .ok (.getfield 12, 3) := by decide +kernel
theorem dX8_takesItem_195 : decode cX8_takesItem 195 = .ok (.getfield 59, 3) := by decide +kernel
theorem dX8_takesItem_198 : decode cX8_takesItem 198 = .ok (.aload_n 0, 1) := by decide +kernel
theorem dX8_takesItem_199 : decode cX8_takesItem 199 = .ok (.getfield 22, 3) := by decide +kernel
theorem dX8_takesItem_202 : decode cX8_takesItem 202 = .ok (.getfield 114, 3) := by decide +kernel
theorem dX8_takesItem_205 : decode cX8_takesItem 205 = .ok (.lastore, 1) := by decide +kernel
theorem dX8_takesItem_206 : decode cX8_takesItem 206 = .ok (.aload_n 0, 1) := by decide +kernel
theorem dX8_takesItem_207 : decode cX8_takesItem 207 = .ok (.invokevirtual 118, 3) := by decide +kernel
theorem dX8_takesItem_210 : decode cX8_takesItem 210 = .ok (.ireturn, 1) := by decide +kernel
theorem dX8_takesItem_211 : decode cX8_takesItem 211 = .ok (.aload_n 0, 1) := by decide +kernel
theorem dX8_takesItem_212 : decode cX8_takesItem 212 = .ok (.invokevirtual 121, 3) := by decide +kernel
theorem dX8_takesItem_215 : decode cX8_takesItem 215 = .ok (.ireturn, 1) := by decide +kernel
theorem dX8_takesItem_216 : decode cX8_takesItem 216 = .ok (.aload_n 0, 1) := by decide +kernel
theorem dX8_takesItem_217 : decode cX8_takesItem 217 = .ok (.getfield 12, 3) := by decide +kernel
theorem dX8_takesItem_220 : decode cX8_takesItem 220 = .ok (.getfield 124, 3) := by decide +kernel
theorem dX8_takesItem_223 : decode cX8_takesItem 223 = .ok (.aload_n 0, 1) := by decide +kernel
theorem dX8_takesItem_224 : decode cX8_takesItem 224 = .ok (.getfield 12, 3) := by decide +kernel
theorem dX8_takesItem_227 : decode cX8_takesItem 227 = .ok (.getfield 62, 3) := by decide +kernel
theorem dX8_takesItem_230 : decode cX8_takesItem 230 = .ok (.aload_n 0, 1) := by decide +kernel
theorem dX8_takesItem_231 : decode cX8_takesItem 231 = .ok (.getfield 22, 3) := by decide +kernel
theorem dX8_takesItem_234 : decode cX8_takesItem 234 = .ok (.getfield 114, 3) := by decide +kernel
theorem dX8_takesItem_237 : decode cX8_takesItem 237 = .ok (.lastore, 1) := by decide +kernel
theorem dX8_takesItem_238 : decode cX8_takesItem 238 = .ok (.aload_n 0, 1) := by decide +kernel
theorem dX8_takesItem_239 : decode cX8_takesItem 239 = .ok (.invokevirtual 118, 3) := by decide +kernel
theorem dX8_takesItem_242 : decode cX8_takesItem 242 = .ok (.ireturn, 1) := by decide +kernel
theorem dX8_takesItem_243 : decode cX8_takesItem 243 = .ok (.aload_n 0, 1) := by decide +kernel
theorem dX8_takesItem_244 : decode cX8_takesItem 244 = .ok (.invokevirtual 127, 3) := by decide +kernel
theorem dX8_takesItem_247 : decode cX8_takesItem 247 = .ok (.ireturn, 1) := by decide +kernel
theorem dX8_takesItem_248 : decode cX8_takesItem 248 = .ok (.aload_n 0, 1) := by decide +kernel
theorem dX8_takesItem_249 : decode cX8_takesItem 249 = .ok (.getfield 22, 3) := by decide +kernel
theorem dX8_takesItem_252 : decode cX8_takesItem 252 = .ok (.bipush 59, 2) := by decide +kernel
theorem dX8_takesItem_254 : decode cX8_takesItem 254 = .ok (.invokevirtual 130, 3) := by decide +kernel
theorem dX8_takesItem_257 : decode cX8_takesItem 257 = .ok (.ireturn, 1) := by decide +kernel
theorem dX8_takesCopies_0 : decode cX8_takesCopies 0 = .ok (.aload_n 0, 1) := by decide +kernel
theorem dX8_takesCopies_1 : decode cX8_takesCopies 1 = .ok (.iconst 1, 1) := by decide +kernel
theorem dX8_takesCopies_2 : decode cX8_takesCopies 2 = .ok (.putfield 18, 3) := by decide +kernel
theorem dX8_takesCopies_5 : decode cX8_takesCopies 5 = .ok (.aload_n 0, 1) := by decide +kernel
theorem dX8_takesCopies_6 : decode cX8_takesCopies 6 = .ok (.getfield 12, 3) := by decide +kernel
theorem dX8_takesCopies_9 : decode cX8_takesCopies 9 = .ok (.aload_n 0, 1) := by decide +kernel
theorem dX8_takesCopies_10 : decode cX8_takesCopies 10 = .ok (.getfield 22, 3) := by decide +kernel
theorem dX8_takesCopies_13 : decode cX8_takesCopies 13 = .ok (.getfield 94, 3) := by decide +kernel
theorem dX8_takesCopies_16 : decode cX8_takesCopies 16 = .ok (.putfield 100, 3) := by decide +kernel
theorem dX8_takesCopies_19 : decode cX8_takesCopies 19 = .ok (.aload_n 0, 1) := by decide +kernel
theorem dX8_takesCopies_20 : decode cX8_takesCopies 20 = .ok (.getfield 22, 3) := by decide +kernel
theorem dX8_takesCopies_23 : decode cX8_takesCopies 23 = .ok (.iconst 1, 1) := by decide +kernel
theorem dX8_takesCopies_24 : decode cX8_takesCopies 24 = .ok (.bipush 6, 2) := by decide +kernel
theorem dX8_takesCopies_26 : decode cX8_takesCopies 26 = .ok (.invokevirtual 103, 3) := by decide +kernel
theorem dX8_takesCopies_29 : decode cX8_takesCopies 29 = .ok (.ireturn, 1) := by decide +kernel
theorem dX8_isNewName_0 : decode cX8_isNewName 0 = .ok (.aload_n 0, 1) := by decide +kernel
theorem dX8_isNewName_1 : decode cX8_isNewName 1 = .ok (.getfield 12, 3) := by decide +kernel
theorem dX8_isNewName_4 : decode cX8_isNewName 4 = .ok (.aload_n 0, 1) := by decide +kernel
theorem dX8_isNewName_5 : decode cX8_isNewName 5 = .ok (.getfield 22, 3) := by decide +kernel
theorem dX8_isNewName_8 : decode cX8_isNewName 8 = .ok (.getfield 114, 3) := by decide +kernel
theorem dX8_isNewName_11 : decode cX8_isNewName 11 = .ok (.invokevirtual 133, 3) := by decide +kernel
theorem dX8_isNewName_14 : decode cX8_isNewName 14 = .ok (.iconst (-1), 1) := by decide +kernel
theorem dX8_isNewName_15 : decode cX8_isNewName 15 = .ok (.if_icmp .ne 25, 3) := by decide +kernel
theorem dX8_isNewName_18 : decode cX8_isNewName 18 = .ok (.aload_n 0, 1) := by decide +kernel
theorem dX8_isNewName_19 : decode cX8_isNewName 19 = .ok (.getfield 12, 3) := by decide +kernel
theorem dX8_isNewName_22 : decode cX8_isNewName 22 = .ok (.aload_n 0, 1) := by decide +kernel
theorem dX8_isNewName_23 : decode cX8_isNewName 23 = .ok (.getfield 22, 3) := by decide +kernel
theorem dX8_isNewName_26 : decode cX8_isNewName 26 = .ok (.getfield 114, 3) := by decide +kernel
theorem dX8_isNewName_29 : decode cX8_isNewName 29 = .ok (.invokevirtual 137, 3) := by decide +kernel
theorem dX8_isNewName_32 : decode cX8_isNewName 32 = .ok (.iconst (-1), 1) := by decide +kernel
theorem dX8_isNewName_33 : decode cX8_isNewName 33 = .ok (.if_icmp .ne 7, 3) := by decide +kernel
theorem dX8_isNewName_36 : decode cX8_isNewName 36 = .ok (.iconst 1, 1) := by decide +kernel
theorem dX8_isNewName_37 : decode cX8_isNewName 37 = .ok (.goto 4, 3) := by decide +kernel
theorem dX8_isNewName_40 : decode cX8_isNewName 40 = .ok (.iconst 0, 1) := by decide +kernel
theorem dX8_isNewName_41 : decode cX8_isNewName 41 = .ok (.istore_n 1, 1) := by decide +kernel
theorem dX8_isNewName_42 : decode cX8_isNewName 42 = .ok (.aload_n 0, 1) := by decide +kernel
theorem dX8_isNewName_43 : decode cX8_isNewName 43 = .ok (.getfield 22, 3) := by decide +kernel
theorem dX8_isNewName_46 : decode cX8_isNewName 46 = .ok (.invokevirtual 140, 3) := by decide +kernel
theorem dX8_isNewName_49 : decode cX8_isNewName 49 = .ok (.ifCond .eq 22, 3) := by decide +kernel
theorem dX8_isNewName_52 : decode cX8_isNewName 52 = .ok (.iload_n 1, 1) := by decide +kernel
theorem dX8_isNewName_53 : decode cX8_isNewName 53 = .ok (.ifCond .ne 14, 3) := by decide +kernel
theorem dX8_isNewName_56 : decode cX8_isNewName 56 = .ok (.aload_n 0, 1) := by decide +kernel
theorem dX8_isNewName_57 : decode cX8_isNewName 57 = .ok (.getfield 22, 3) := by decide +kernel
theorem dX8_isNewName_60 : decode cX8_isNewName 60 = .ok (.iconst 3, 1) := by decide +kernel
theorem dX8_isNewName_61 : decode cX8_isNewName 61 = .ok (.invokevirtual 56, 3) := by decide +kernel
theorem dX8_isNewName_64 : decode cX8_isNewName 64 = .ok (.ifCond .eq 7, 3) := by decide +kernel
theorem dX8_isNewName_67 : decode cX8_isNewName 67 = .ok (.iconst 1, 1) := by decide +kernel
theorem dX8_isNewName_68 : decode cX8_isNewName 68 = .ok (.goto 4, 3) := by decide +kernel
theorem dX8_isNewName_71 : decode cX8_isNewName 71 = .ok (.iconst 0, 1) := by decide +kernel
theorem dX8_isNewName_72 : decode cX8_isNewName 72 = .ok (.ireturn, 1) := by decide +kernel
theorem dX8_takesKeeperAt_0 : decode cX8_takesKeeperAt 0 = .ok (.aload_n 0, 1) := by decide +kernel
theorem dX8_takesKeeperAt_1 : decode cX8_takesKeeperAt 1 = .ok (.getfield 22, 3) := by decide +kernel
theorem dX8_takesKeeperAt_4 : decode cX8_takesKeeperAt 4 = .ok (.iconst 0, 1) := by decide +kernel
theorem dX8_takesKeeperAt_5 : decode cX8_takesKeeperAt 5 = .ok (.sipush 999, 3) := by decide +kernel
theorem dX8_takesKeeperAt_8 : decode cX8_takesKeeperAt 8 = .ok (.invokevirtual 103, 3) := by decide +kernel
theorem dX8_takesKeeperAt_11 : decode cX8_takesKeeperAt 11 = .ok (.ifCond .ne 5, 3) := by decide +kernel
theorem dX8_takesKeeperAt_14 : decode cX8_takesKeeperAt 14 = .ok (.iconst 0, 1) := by decide +kernel
theorem dX8_takesKeeperAt_15 : decode cX8_takesKeeperAt 15 = .ok (.ireturn, 1) := by decide +kernel
theorem dX8_takesKeeperAt_16 : decode cX8_takesKeeperAt 16 = .ok (.aload_n 0, 1) := by decide +kernel
theorem dX8_takesKeeperAt_17 : decode cX8_takesKeeperAt 17 = .ok (.getfield 12, 3) := by decide +kernel
theorem dX8_takesKeeperAt_20 : decode cX8_takesKeeperAt 20 = .ok (.aload_n 0, 1) := by decide +kernel
theorem dX8_takesKeeperAt_21 : decode cX8_takesKeeperAt 21 = .ok (.getfield 22, 3) := by decide +kernel
theorem dX8_takesKeeperAt_24 : decode cX8_takesKeeperAt 24 = .ok (.getfield 94, 3) := by decide +kernel
theorem dX8_takesKeeperAt_27 : decode cX8_takesKeeperAt 27 = .ok (.invokevirtual 143, 3) := by decide +kernel
theorem dX8_takesKeeperAt_30 : decode cX8_takesKeeperAt 30 = .ok (.ifCond .eq 12, 3) := by decide +kernel
theorem dX8_takesKeeperAt_33 : decode cX8_takesKeeperAt 33 = .ok (.aload_n 0, 1) := by decide +kernel
theorem dX8_takesKeeperAt_34 : decode cX8_takesKeeperAt 34 = .ok (.getfield 22, 3) := by decide +kernel
theorem dX8_takesKeeperAt_37 : decode cX8_takesKeeperAt 37 = .ok (.iconst 5, 1) := by decide +kernel
theorem dX8_takesKeeperAt_38 : decode cX8_takesKeeperAt 38 = .ok (.invokevirtual 56, 3) := by decide +kernel
theorem dX8_takesKeeperAt_41 : decode cX8_takesKeeperAt 41 = .ok (.ireturn, 1) := by decide +kernel
theorem dX8_takesKeeperAt_42 : decode cX8_takesKeeperAt 42 = .ok (.aload_n 0, 1) := by decide +kernel
theorem dX8_takesKeeperAt_43 : decode cX8_takesKeeperAt 43 = .ok (.getfield 12, 3) := by decide +kernel
theorem dX8_takesKeeperAt_46 : decode cX8_takesKeeperAt 46 = .ok (.getfield 146, 3) := by decide +kernel
theorem dX8_takesKeeperAt_49 : decode cX8_takesKeeperAt 49 = .ok (.aload_n 0, 1) := by decide +kernel
theorem dX8_takesKeeperAt_50 : decode cX8_takesKeeperAt 50 = .ok (.getfield 12, 3) := by decide +kernel
theorem dX8_takesKeeperAt_53 : decode cX8_takesKeeperAt 53 = .ok (.getfield 59, 3) := by decide +kernel
theorem dX8_takesKeeperAt_56 : decode cX8_takesKeeperAt 56 = .ok (.aload_n 0, 1) := by decide +kernel
theorem dX8_takesKeeperAt_57 : decode cX8_takesKeeperAt 57 = .ok (.getfield 22, 3) := by decide +kernel
theorem dX8_takesKeeperAt_60 : decode cX8_takesKeeperAt 60 = .ok (.getfield 94, 3) := by decide +kernel
theorem dX8_takesKeeperAt_63 : decode cX8_takesKeeperAt 63 = .ok (.iastore, 1) := by decide +kernel
theorem dX8_takesKeeperAt_64 : decode cX8_takesKeeperAt 64 = .ok (.aload_n 0, 1) := by decide +kernel
theorem dX8_takesKeeperAt_65 : decode cX8_takesKeeperAt 65 = .ok (.getfield 12, 3) := by decide +kernel
theorem dX8_takesKeeperAt_68 : decode cX8_takesKeeperAt 68 = .ok (.dup, 1) := by decide +kernel
theorem dX8_takesKeeperAt_69 : decode cX8_takesKeeperAt 69 = .ok (.getfield 59, 3) := by decide +kernel
theorem dX8_takesKeeperAt_72 : decode cX8_takesKeeperAt 72 = .ok (.iconst 1, 1) := by decide +kernel
theorem dX8_takesKeeperAt_73 : decode cX8_takesKeeperAt 73 = .ok (.iadd, 1) := by decide +kernel
theorem dX8_takesKeeperAt_74 : decode cX8_takesKeeperAt 74 = .ok (.putfield 59, 3) := by decide +kernel
theorem dX8_takesKeeperAt_77 : decode cX8_takesKeeperAt 77 = .ok (.iconst 1, 1) := by decide +kernel
theorem dX8_takesKeeperAt_78 : decode cX8_takesKeeperAt 78 = .ok (.ireturn, 1) := by decide +kernel
theorem dX8_takesKeyAt_0 : decode cX8_takesKeyAt 0 = .ok (.aload_n 0, 1) := by decide +kernel
theorem dX8_takesKeyAt_1 : decode cX8_takesKeyAt 1 = .ok (.getfield 12, 3) := by decide +kernel
theorem dX8_takesKeyAt_4 : decode cX8_takesKeyAt 4 = .ok (.getfield 150, 3) := by decide +kernel
theorem dX8_takesKeyAt_7 : decode cX8_takesKeyAt 7 = .ok (.aload_n 0, 1) := by decide +kernel
theorem dX8_takesKeyAt_8 : decode cX8_takesKeyAt 8 = .ok (.getfield 12, 3) := by decide +kernel
theorem dX8_takesKeyAt_11 : decode cX8_takesKeyAt 11 = .ok (.getfield 62, 3) := by decide +kernel
theorem dX8_takesKeyAt_14 : decode cX8_takesKeyAt 14 = .ok (.aload_n 0, 1) := by decide +kernel
theorem dX8_takesKeyAt_15 : decode cX8_takesKeyAt 15 = .ok (.getfield 22, 3) := by decide +kernel
theorem dX8_takesKeyAt_18 : decode cX8_takesKeyAt 18 = .ok (.getfield 94, 3) := by decide +kernel
theorem dX8_takesKeyAt_21 : decode cX8_takesKeyAt 21 = .ok (.iastore, 1) := by decide +kernel
theorem dX8_takesKeyAt_22 : decode cX8_takesKeyAt 22 = .ok (.aload_n 0, 1) := by decide +kernel
theorem dX8_takesKeyAt_23 : decode cX8_takesKeyAt 23 = .ok (.getfield 12, 3) := by decide +kernel
theorem dX8_takesKeyAt_26 : decode cX8_takesKeyAt 26 = .ok (.dup, 1) := by decide +kernel
theorem dX8_takesKeyAt_27 : decode cX8_takesKeyAt 27 = .ok (.getfield 62, 3) := by decide +kernel
theorem dX8_takesKeyAt_30 : decode cX8_takesKeyAt 30 = .ok (.iconst 1, 1) := by decide +kernel
theorem dX8_takesKeyAt_31 : decode cX8_takesKeyAt 31 = .ok (.iadd, 1) := by decide +kernel
theorem dX8_takesKeyAt_32 : decode cX8_takesKeyAt 32 = .ok (.putfield 62, 3) := by decide +kernel
theorem dX8_takesKeyAt_35 : decode cX8_takesKeyAt 35 = .ok (.aload_n 0, 1) := by decide +kernel
theorem dX8_takesKeyAt_36 : decode cX8_takesKeyAt 36 = .ok (.getfield 22, 3) := by decide +kernel
theorem dX8_takesKeyAt_39 : decode cX8_takesKeyAt 39 = .ok (.iconst 0, 1) := by decide +kernel
theorem dX8_takesKeyAt_40 : decode cX8_takesKeyAt 40 = .ok (.sipush 999, 3) := by decide +kernel
theorem dX8_takesKeyAt_43 : decode cX8_takesKeyAt 43 = .ok (.invokevirtual 103, 3) := by decide +kernel
theorem dX8_takesKeyAt_46 : decode cX8_takesKeyAt 46 = .ok (.ireturn, 1) := by decide +kernel
theorem dX9_init_0 : decode cX9_init 0 = .ok (.aload_n 0, 1) := by decide +kernel
theorem dX9_init_1 : decode cX9_init 1 = .ok (.invokespecial 3, 3) := by decide +kernel
theorem dX9_init_4 : decode cX9_init 4 = .ok (.aload_n 0, 1) := by decide +kernel
theorem dX9_init_5 : decode cX9_init 5 = .ok (.bipush 60, 2) := by decide +kernel
theorem dX9_init_7 : decode cX9_init 7 = .ok (.newarray .long, 2) := by decide +kernel
theorem dX9_init_9 : decode cX9_init 9 = .ok (.putfield 9, 3) := by decide +kernel
theorem dX9_init_12 : decode cX9_init 12 = .ok (.aload_n 0, 1) := by decide +kernel
theorem dX9_init_13 : decode cX9_init 13 = .ok (.iconst 0, 1) := by decide +kernel
theorem dX9_init_14 : decode cX9_init 14 = .ok (.putfield 15, 3) := by decide +kernel
theorem dX9_init_17 : decode cX9_init 17 = .ok (.aload_n 0, 1) := by decide +kernel
theorem dX9_init_18 : decode cX9_init 18 = .ok (.iconst 0, 1) := by decide +kernel
theorem dX9_init_19 : decode cX9_init 19 = .ok (.putfield 19, 3) := by decide +kernel
theorem dX9_init_22 : decode cX9_init 22 = .ok (.aload_n 0, 1) := by decide +kernel
theorem dX9_init_23 : decode cX9_init 23 = .ok (.iconst 0, 1) := by decide +kernel
theorem dX9_init_24 : decode cX9_init 24 = .ok (.putfield 23, 3) := by decide +kernel
theorem dX9_init_27 : decode cX9_init 27 = .ok (.return_, 1) := by decide +kernel
theorem dX9_begin_0 : decode cX9_begin 0 = .ok (.aload_n 0, 1) := by decide +kernel
theorem dX9_begin_1 : decode cX9_begin 1 = .ok (.iconst 1, 1) := by decide +kernel
theorem dX9_begin_2 : decode cX9_begin 2 = .ok (.putfield 15, 3) := by decide +kernel
theorem dX9_begin_5 : decode cX9_begin 5 = .ok (.aload_n 0, 1) := by decide +kernel
theorem dX9_begin_6 : decode cX9_begin 6 = .ok (.iload_n 1, 1) := by decide +kernel
theorem dX9_begin_7 : decode cX9_begin 7 = .ok (.putfield 19, 3) := by decide +kernel
theorem dX9_begin_10 : decode cX9_begin 10 = .ok (.aload_n 0, 1) := by decide +kernel
theorem dX9_begin_11 : decode cX9_begin 11 = .ok (.iload_n 2, 1) := by decide +kernel
theorem dX9_begin_12 : decode cX9_begin 12 = .ok (.putfield 23, 3) := by decide +kernel
theorem dX9_begin_15 : decode cX9_begin 15 = .ok (.aload_n 0, 1) := by decide +kernel
theorem dX9_begin_16 : decode cX9_begin 16 = .ok (.getfield 9, 3) := by decide +kernel
theorem dX9_begin_19 : decode cX9_begin 19 = .ok (.lconst 0, 1) := by decide +kernel
theorem dX9_begin_20 : decode cX9_begin 20 = .ok (.invokestatic 26, 3) := by decide +kernel
theorem dX9_begin_23 : decode cX9_begin 23 = .ok (.return_, 1) := by decide +kernel
theorem dX9_keep_0 : decode cX9_keep 0 = .ok (.aload_n 0, 1) := by decide +kernel
theorem dX9_keep_1 : decode cX9_keep 1 = .ok (.getfield 9, 3) := by decide +kernel
theorem dX9_keep_4 : decode cX9_keep 4 = .ok (.iload_n 1, 1) := by decide +kernel
theorem dX9_keep_5 : decode cX9_keep 5 = .ok (.aload_n 0, 1) := by decide +kernel
theorem dX9_keep_6 : decode cX9_keep 6 = .ok (.lload_n 2, 1) := by decide +kernel
theorem dX9_keep_7 : decode cX9_keep 7 = .ok (.invokevirtual 32, 3) := by decide +kernel
theorem dX9_keep_10 : decode cX9_keep 10 = .ok (.lastore, 1) := by decide +kernel
theorem dX9_keep_11 : decode cX9_keep 11 = .ok (.return_, 1) := by decide +kernel
theorem dX9_cut_0 : decode cX9_cut 0 = .ok (.aload_n 0, 1) := by decide +kernel
theorem dX9_cut_1 : decode cX9_cut 1 = .ok (.getfield 19, 3) := by decide +kernel
theorem dX9_cut_4 : decode cX9_cut 4 = .ok (.tableswitch 42 0 2 #[28, 33, 38], 28) := by decide +kernel
theorem dX9_cut_32 : decode cX9_cut 32 = .ok (.lload_n 1, 1) := by decide +kernel
theorem dX9_cut_33 : decode cX9_cut 33 = .ok (.l2i, 1) := by decide +kernel
theorem dX9_cut_34 : decode cX9_cut 34 = .ok (.i2b, 1) := by decide +kernel
theorem dX9_cut_35 : decode cX9_cut 35 = .ok (.i2l, 1) := by decide +kernel
theorem dX9_cut_36 : decode cX9_cut 36 = .ok (.lreturn, 1) := by decide +kernel
theorem dX9_cut_37 : decode cX9_cut 37 = .ok (.lload_n 1, 1) := by decide +kernel
theorem dX9_cut_38 : decode cX9_cut 38 = .ok (.l2i, 1) := by decide +kernel
theorem dX9_cut_39 : decode cX9_cut 39 = .ok (.i2s, 1) := by decide +kernel
theorem dX9_cut_40 : decode cX9_cut 40 = .ok (.i2l, 1) := by decide +kernel
theorem dX9_cut_41 : decode cX9_cut 41 = .ok (.lreturn, 1) := by decide +kernel
theorem dX9_cut_42 : decode cX9_cut 42 = .ok (.lload_n 1, 1) := by decide +kernel
theorem dX9_cut_43 : decode cX9_cut 43 = .ok (.l2i, 1) := by decide +kernel
theorem dX9_cut_44 : decode cX9_cut 44 = .ok (.i2l, 1) := by decide +kernel
theorem dX9_cut_45 : decode cX9_cut 45 = .ok (.lreturn, 1) := by decide +kernel
theorem dX9_cut_46 : decode cX9_cut 46 = .ok (.lload_n 1, 1) := by decide +kernel
theorem dX9_cut_47 : decode cX9_cut 47 = .ok (.lreturn, 1) := by decide +kernel
theorem dJ6_bitCount_0f7a4_0 : decode cJ6_bitCount_0f7a4 0 = .ok (.iload_n 0, 1) := by decide +kernel
theorem dJ6_bitCount_0f7a4_1 : decode cJ6_bitCount_0f7a4 1 = .ok (.iload_n 0, 1) := by decide +kernel
theorem dJ6_bitCount_0f7a4_2 : decode cJ6_bitCount_0f7a4 2 = .ok (.iconst 1, 1) := by decide +kernel
theorem dJ6_bitCount_0f7a4_3 : decode cJ6_bitCount_0f7a4 3 = .ok (.iushr, 1) := by decide +kernel
theorem dJ6_bitCount_0f7a4_4 : decode cJ6_bitCount_0f7a4 4 = .ok (.ldc_w 265, 3) := by decide +kernel
theorem dJ6_bitCount_0f7a4_7 : decode cJ6_bitCount_0f7a4 7 = .ok (.iand, 1) := by decide +kernel
theorem dJ6_bitCount_0f7a4_8 : decode cJ6_bitCount_0f7a4 8 = .ok (.isub, 1) := by decide +kernel
theorem dJ6_bitCount_0f7a4_9 : decode cJ6_bitCount_0f7a4 9 = .ok (.istore_n 0, 1) := by decide +kernel
theorem dJ6_bitCount_0f7a4_10 : decode cJ6_bitCount_0f7a4 10 = .ok (.iload_n 0, 1) := by decide +kernel
theorem dJ6_bitCount_0f7a4_11 : decode cJ6_bitCount_0f7a4 11 = .ok (.ldc_w 266, 3) := by decide +kernel
theorem dJ6_bitCount_0f7a4_14 : decode cJ6_bitCount_0f7a4 14 = .ok (.iand, 1) := by decide +kernel
theorem dJ6_bitCount_0f7a4_15 : decode cJ6_bitCount_0f7a4 15 = .ok (.iload_n 0, 1) := by decide +kernel
theorem dJ6_bitCount_0f7a4_16 : decode cJ6_bitCount_0f7a4 16 = .ok (.iconst 2, 1) := by decide +kernel
theorem dJ6_bitCount_0f7a4_17 : decode cJ6_bitCount_0f7a4 17 = .ok (.iushr, 1) := by decide +kernel
theorem dJ6_bitCount_0f7a4_18 : decode cJ6_bitCount_0f7a4 18 = .ok (.ldc_w 266, 3) := by decide +kernel
theorem dJ6_bitCount_0f7a4_21 : decode cJ6_bitCount_0f7a4 21 = .ok (.iand, 1) := by decide +kernel
theorem dJ6_bitCount_0f7a4_22 : decode cJ6_bitCount_0f7a4 22 = .ok (.iadd, 1) := by decide +kernel
theorem dJ6_bitCount_0f7a4_23 : decode cJ6_bitCount_0f7a4 23 = .ok (.istore_n 0, 1) := by decide +kernel
theorem dJ6_bitCount_0f7a4_24 : decode cJ6_bitCount_0f7a4 24 = .ok (.iload_n 0, 1) := by decide +kernel
theorem dJ6_bitCount_0f7a4_25 : decode cJ6_bitCount_0f7a4 25 = .ok (.iload_n 0, 1) := by decide +kernel
theorem dJ6_bitCount_0f7a4_26 : decode cJ6_bitCount_0f7a4 26 = .ok (.iconst 4, 1) := by decide +kernel
theorem dJ6_bitCount_0f7a4_27 : decode cJ6_bitCount_0f7a4 27 = .ok (.iushr, 1) := by decide +kernel
theorem dJ6_bitCount_0f7a4_28 : decode cJ6_bitCount_0f7a4 28 = .ok (.iadd, 1) := by decide +kernel
theorem dJ6_bitCount_0f7a4_29 : decode cJ6_bitCount_0f7a4 29 = .ok (.ldc_w 267, 3) := by decide +kernel
theorem dJ6_bitCount_0f7a4_32 : decode cJ6_bitCount_0f7a4 32 = .ok (.iand, 1) := by decide +kernel
theorem dJ6_bitCount_0f7a4_33 : decode cJ6_bitCount_0f7a4 33 = .ok (.istore_n 0, 1) := by decide +kernel
theorem dJ6_bitCount_0f7a4_34 : decode cJ6_bitCount_0f7a4 34 = .ok (.iload_n 0, 1) := by decide +kernel
theorem dJ6_bitCount_0f7a4_35 : decode cJ6_bitCount_0f7a4 35 = .ok (.iload_n 0, 1) := by decide +kernel
theorem dJ6_bitCount_0f7a4_36 : decode cJ6_bitCount_0f7a4 36 = .ok (.bipush 8, 2) := by decide +kernel
theorem dJ6_bitCount_0f7a4_38 : decode cJ6_bitCount_0f7a4 38 = .ok (.iushr, 1) := by decide +kernel
theorem dJ6_bitCount_0f7a4_39 : decode cJ6_bitCount_0f7a4 39 = .ok (.iadd, 1) := by decide +kernel
theorem dJ6_bitCount_0f7a4_40 : decode cJ6_bitCount_0f7a4 40 = .ok (.istore_n 0, 1) := by decide +kernel
theorem dJ6_bitCount_0f7a4_41 : decode cJ6_bitCount_0f7a4 41 = .ok (.iload_n 0, 1) := by decide +kernel
theorem dJ6_bitCount_0f7a4_42 : decode cJ6_bitCount_0f7a4 42 = .ok (.iload_n 0, 1) := by decide +kernel
theorem dJ6_bitCount_0f7a4_43 : decode cJ6_bitCount_0f7a4 43 = .ok (.bipush 16, 2) := by decide +kernel
theorem dJ6_bitCount_0f7a4_45 : decode cJ6_bitCount_0f7a4 45 = .ok (.iushr, 1) := by decide +kernel
theorem dJ6_bitCount_0f7a4_46 : decode cJ6_bitCount_0f7a4 46 = .ok (.iadd, 1) := by decide +kernel
theorem dJ6_bitCount_0f7a4_47 : decode cJ6_bitCount_0f7a4 47 = .ok (.istore_n 0, 1) := by decide +kernel
theorem dJ6_bitCount_0f7a4_48 : decode cJ6_bitCount_0f7a4 48 = .ok (.iload_n 0, 1) := by decide +kernel
theorem dJ6_bitCount_0f7a4_49 : decode cJ6_bitCount_0f7a4 49 = .ok (.bipush 63, 2) := by decide +kernel
theorem dJ6_bitCount_0f7a4_51 : decode cJ6_bitCount_0f7a4 51 = .ok (.iand, 1) := by decide +kernel
theorem dJ6_bitCount_0f7a4_52 : decode cJ6_bitCount_0f7a4 52 = .ok (.ireturn, 1) := by decide +kernel
theorem dJ9_min_7cf53_0 : decode cJ9_min_7cf53 0 = .ok (.iload_n 0, 1) := by decide +kernel
theorem dJ9_min_7cf53_1 : decode cJ9_min_7cf53 1 = .ok (.iload_n 1, 1) := by decide +kernel
theorem dJ9_min_7cf53_2 : decode cJ9_min_7cf53 2 = .ok (.if_icmp .gt 7, 3) := by decide +kernel
theorem dJ9_min_7cf53_5 : decode cJ9_min_7cf53 5 = .ok (.iload_n 0, 1) := by decide +kernel
theorem dJ9_min_7cf53_6 : decode cJ9_min_7cf53 6 = .ok (.goto 4, 3) := by decide +kernel
theorem dJ9_min_7cf53_9 : decode cJ9_min_7cf53 9 = .ok (.iload_n 1, 1) := by decide +kernel
theorem dJ9_min_7cf53_10 : decode cJ9_min_7cf53 10 = .ok (.ireturn, 1) := by decide +kernel
theorem dJ0_length_8abf5_0 : decode cJ0_length_8abf5 0 = .ok (.aload_n 0, 1) := by decide +kernel
theorem dJ0_length_8abf5_1 : decode cJ0_length_8abf5 1 = .ok (.getfield 9, 3) := by decide +kernel
theorem dJ0_length_8abf5_4 : decode cJ0_length_8abf5 4 = .ok (.arraylength, 1) := by decide +kernel
theorem dJ0_length_8abf5_5 : decode cJ0_length_8abf5 5 = .ok (.aload_n 0, 1) := by decide +kernel
theorem dJ0_length_8abf5_6 : decode cJ0_length_8abf5 6 = .ok (.invokevirtual 335, 3) := by decide +kernel
theorem dJ0_length_8abf5_9 : decode cJ0_length_8abf5 9 = .ok (.ishr, 1) := by decide +kernel
theorem dJ0_length_8abf5_10 : decode cJ0_length_8abf5 10 = .ok (.ireturn, 1) := by decide +kernel
theorem dJ0_charAt_5068e_0 : decode cJ0_charAt_5068e 0 = .ok (.aload_n 0, 1) := by decide +kernel
theorem dJ0_charAt_5068e_1 : decode cJ0_charAt_5068e 1 = .ok (.invokevirtual 492, 3) := by decide +kernel
theorem dJ0_charAt_5068e_4 : decode cJ0_charAt_5068e 4 = .ok (.ifCond .eq 12, 3) := by decide +kernel
theorem dJ0_charAt_5068e_7 : decode cJ0_charAt_5068e 7 = .ok (.aload_n 0, 1) := by decide +kernel
theorem dJ0_charAt_5068e_8 : decode cJ0_charAt_5068e 8 = .ok (.getfield 9, 3) := by decide +kernel
theorem dJ0_charAt_5068e_11 : decode cJ0_charAt_5068e 11 = .ok (.iload_n 1, 1) := by decide +kernel
theorem dJ0_charAt_5068e_12 : decode cJ0_charAt_5068e 12 = .ok (.invokestatic 495, 3) := by decide +kernel
theorem dJ0_charAt_5068e_15 : decode cJ0_charAt_5068e 15 = .ok (.ireturn, 1) := by decide +kernel
theorem dJ0_charAt_5068e_16 : decode cJ0_charAt_5068e 16 = .ok (.aload_n 0, 1) := by decide +kernel
theorem dJ0_charAt_5068e_17 : decode cJ0_charAt_5068e 17 = .ok (.getfield 9, 3) := by decide +kernel
theorem dJ0_charAt_5068e_20 : decode cJ0_charAt_5068e 20 = .ok (.iload_n 1, 1) := by decide +kernel
theorem dJ0_charAt_5068e_21 : decode cJ0_charAt_5068e 21 = .ok (.invokestatic 498, 3) := by decide +kernel
theorem dJ0_charAt_5068e_24 : decode cJ0_charAt_5068e 24 = .ok (.ireturn, 1) := by decide +kernel
theorem dJ0_coder_7d493_0 : decode cJ0_coder_7d493 0 = .ok (.getstatic 38, 3) := by decide +kernel
theorem dJ0_coder_7d493_3 : decode cJ0_coder_7d493 3 = .ok (.ifCond .eq 10, 3) := by decide +kernel
theorem dJ0_coder_7d493_6 : decode cJ0_coder_7d493 6 = .ok (.aload_n 0, 1) := by decide +kernel
theorem dJ0_coder_7d493_7 : decode cJ0_coder_7d493 7 = .ok (.getfield 15, 3) := by decide +kernel
theorem dJ0_coder_7d493_10 : decode cJ0_coder_7d493 10 = .ok (.goto 4, 3) := by decide +kernel
theorem dJ0_coder_7d493_13 : decode cJ0_coder_7d493 13 = .ok (.iconst 1, 1) := by decide +kernel
theorem dJ0_coder_7d493_14 : decode cJ0_coder_7d493 14 = .ok (.ireturn, 1) := by decide +kernel
theorem dJ0_isLatin1_aae02_0 : decode cJ0_isLatin1_aae02 0 = .ok (.getstatic 38, 3) := by decide +kernel
theorem dJ0_isLatin1_aae02_3 : decode cJ0_isLatin1_aae02 3 = .ok (.ifCond .eq 14, 3) := by decide +kernel
theorem dJ0_isLatin1_aae02_6 : decode cJ0_isLatin1_aae02 6 = .ok (.aload_n 0, 1) := by decide +kernel
theorem dJ0_isLatin1_aae02_7 : decode cJ0_isLatin1_aae02 7 = .ok (.getfield 15, 3) := by decide +kernel
theorem dJ0_isLatin1_aae02_10 : decode cJ0_isLatin1_aae02 10 = .ok (.ifCond .ne 7, 3) := by decide +kernel
theorem dJ0_isLatin1_aae02_13 : decode cJ0_isLatin1_aae02 13 = .ok (.iconst 1, 1) := by decide +kernel
theorem dJ0_isLatin1_aae02_14 : decode cJ0_isLatin1_aae02 14 = .ok (.goto 4, 3) := by decide +kernel
theorem dJ0_isLatin1_aae02_17 : decode cJ0_isLatin1_aae02 17 = .ok (.iconst 0, 1) := by decide +kernel
theorem dJ0_isLatin1_aae02_18 : decode cJ0_isLatin1_aae02 18 = .ok (.ireturn, 1) := by decide +kernel
theorem dJ0_checkIndex_df160_0 : decode cJ0_checkIndex_df160 0 = .ok (.iload_n 0, 1) := by decide +kernel
theorem dJ0_checkIndex_df160_1 : decode cJ0_checkIndex_df160 1 = .ok (.iload_n 1, 1) := by decide +kernel
theorem dJ0_checkIndex_df160_2 : decode cJ0_checkIndex_df160 2 = .ok (.getstatic 1053, 3) := by decide +kernel
theorem dJ0_checkIndex_df160_5 : decode cJ0_checkIndex_df160 5 = .ok (.invokestatic 1059, 3) := by decide +kernel
theorem dJ0_checkIndex_df160_8 : decode cJ0_checkIndex_df160 8 = .ok (.pop, 1) := by decide +kernel
theorem dJ0_checkIndex_df160_9 : decode cJ0_checkIndex_df160 9 = .ok (.return_, 1) := by decide +kernel
theorem dJ1_charAt_3b067_0 : decode cJ1_charAt_3b067 0 = .ok (.iload_n 1, 1) := by decide +kernel
theorem dJ1_charAt_3b067_1 : decode cJ1_charAt_3b067 1 = .ok (.aload_n 0, 1) := by decide +kernel
theorem dJ1_charAt_3b067_2 : decode cJ1_charAt_3b067 2 = .ok (.arraylength, 1) := by decide +kernel
theorem dJ1_charAt_3b067_3 : decode cJ1_charAt_3b067 3 = .ok (.invokestatic 9, 3) := by decide +kernel
theorem dJ1_charAt_3b067_6 : decode cJ1_charAt_3b067 6 = .ok (.aload_n 0, 1) := by decide +kernel
theorem dJ1_charAt_3b067_7 : decode cJ1_charAt_3b067 7 = .ok (.iload_n 1, 1) := by decide +kernel
theorem dJ1_charAt_3b067_8 : decode cJ1_charAt_3b067 8 = .ok (.baload, 1) := by decide +kernel
theorem dJ1_charAt_3b067_9 : decode cJ1_charAt_3b067 9 = .ok (.sipush 255, 3) := by decide +kernel
theorem dJ1_charAt_3b067_12 : decode cJ1_charAt_3b067 12 = .ok (.iand, 1) := by decide +kernel
theorem dJ1_charAt_3b067_13 : decode cJ1_charAt_3b067 13 = .ok (.i2c, 1) := by decide +kernel
theorem dJ1_charAt_3b067_14 : decode cJ1_charAt_3b067 14 = .ok (.ireturn, 1) := by decide +kernel
theorem dJ2_getChar_3b067_0 : decode cJ2_getChar_3b067 0 = .ok (.getstatic 44, 3) := by decide +kernel
theorem dJ2_getChar_3b067_3 : decode cJ2_getChar_3b067 3 = .ok (.ifCond .ne 25, 3) := by decide +kernel
theorem dJ2_getChar_3b067_6 : decode cJ2_getChar_3b067 6 = .ok (.iload_n 1, 1) := by decide +kernel
theorem dJ2_getChar_3b067_7 : decode cJ2_getChar_3b067 7 = .ok (.ifCond .lt 11, 3) := by decide +kernel
theorem dJ2_getChar_3b067_10 : decode cJ2_getChar_3b067 10 = .ok (.iload_n 1, 1) := by decide +kernel
theorem dJ2_getChar_3b067_11 : decode cJ2_getChar_3b067 11 = .ok (.aload_n 0, 1) := by decide +kernel
theorem dJ2_getChar_3b067_12 : decode cJ2_getChar_3b067 12 = .ok (.invokestatic 48, 3) := by decide +kernel
theorem dJ2_getChar_3b067_15 : decode cJ2_getChar_3b067 15 = .ok (.if_icmp .lt 13, 3) := by decide +kernel
theorem dJ2_getChar_3b067_18 : decode cJ2_getChar_3b067 18 = .ok (.new 52, 3) := by decide +kernel
theorem dJ2_getChar_3b067_21 : decode cJ2_getChar_3b067 21 = .ok (.dup, 1) := by decide +kernel
theorem dJ2_getChar_3b067_22 : decode cJ2_getChar_3b067 22 = .ok (.ldc 54, 2) := by decide +kernel
theorem dJ2_getChar_3b067_24 : decode cJ2_getChar_3b067 24 = .ok (.invokespecial 56, 3) := by decide +kernel
theorem dJ2_getChar_3b067_27 : decode cJ2_getChar_3b067 27 = .ok (.athrow, 1) := by decide +kernel
theorem dJ2_getChar_3b067_28 : decode cJ2_getChar_3b067 28 = .ok (.iload_n 1, 1) := by decide +kernel
theorem dJ2_getChar_3b067_29 : decode cJ2_getChar_3b067 29 = .ok (.iconst 1, 1) := by decide +kernel
theorem dJ2_getChar_3b067_30 : decode cJ2_getChar_3b067 30 = .ok (.ishl, 1) := by decide +kernel
theorem dJ2_getChar_3b067_31 : decode cJ2_getChar_3b067 31 = .ok (.istore_n 1, 1) := by decide +kernel
theorem dJ2_getChar_3b067_32 : decode cJ2_getChar_3b067 32 = .ok (.aload_n 0, 1) := by decide +kernel
theorem dJ2_getChar_3b067_33 : decode cJ2_getChar_3b067 33 = .ok (.iload_n 1, 1) := by decide +kernel
theorem dJ2_getChar_3b067_34 : decode cJ2_getChar_3b067 34 = .ok (.iinc 1 1, 3) := by decide +kernel
theorem dJ2_getChar_3b067_37 : decode cJ2_getChar_3b067 37 = .ok (.baload, 1) := by decide +kernel
theorem dJ2_getChar_3b067_38 : decode cJ2_getChar_3b067 38 = .ok (.sipush 255, 3) := by decide +kernel
theorem dJ2_getChar_3b067_41 : decode cJ2_getChar_3b067 41 = .ok (.iand, 1) := by decide +kernel
theorem dJ2_getChar_3b067_42 : decode cJ2_getChar_3b067 42 = .ok (.getstatic 59, 3) := by decide +kernel
theorem dJ2_getChar_3b067_45 : decode cJ2_getChar_3b067 45 = .ok (.ishl, 1) := by decide +kernel
theorem dJ2_getChar_3b067_46 : decode cJ2_getChar_3b067 46 = .ok (.aload_n 0, 1) := by decide +kernel
theorem dJ2_getChar_3b067_47 : decode cJ2_getChar_3b067 47 = .ok (.iload_n 1, 1) := by decide +kernel
theorem dJ2_getChar_3b067_48 : decode cJ2_getChar_3b067 48 = .ok (.baload, 1) := by decide +kernel
theorem dJ2_getChar_3b067_49 : decode cJ2_getChar_3b067 49 = .ok (.sipush 255, 3) := by decide +kernel
theorem dJ2_getChar_3b067_52 : decode cJ2_getChar_3b067 52 = .ok (.iand, 1) := by decide +kernel
theorem dJ2_getChar_3b067_53 : decode cJ2_getChar_3b067 53 = .ok (.getstatic 63, 3) := by decide +kernel
theorem dJ2_getChar_3b067_56 : decode cJ2_getChar_3b067 56 = .ok (.ishl, 1) := by decide +kernel
theorem dJ2_getChar_3b067_57 : decode cJ2_getChar_3b067 57 = .ok (.ior, 1) := by decide +kernel
theorem dJ2_getChar_3b067_58 : decode cJ2_getChar_3b067 58 = .ok (.i2c, 1) := by decide +kernel
theorem dJ2_getChar_3b067_59 : decode cJ2_getChar_3b067 59 = .ok (.ireturn, 1) := by decide +kernel
theorem dJ2_length_9d52b_0 : decode cJ2_length_9d52b 0 = .ok (.aload_n 0, 1) := by decide +kernel
theorem dJ2_length_9d52b_1 : decode cJ2_length_9d52b 1 = .ok (.arraylength, 1) := by decide +kernel
theorem dJ2_length_9d52b_2 : decode cJ2_length_9d52b 2 = .ok (.iconst 1, 1) := by decide +kernel
theorem dJ2_length_9d52b_3 : decode cJ2_length_9d52b 3 = .ok (.ishr, 1) := by decide +kernel
theorem dJ2_length_9d52b_4 : decode cJ2_length_9d52b 4 = .ok (.ireturn, 1) := by decide +kernel
theorem dJ2_charAt_3b067_0 : decode cJ2_charAt_3b067 0 = .ok (.iload_n 1, 1) := by decide +kernel
theorem dJ2_charAt_3b067_1 : decode cJ2_charAt_3b067 1 = .ok (.aload_n 0, 1) := by decide +kernel
theorem dJ2_charAt_3b067_2 : decode cJ2_charAt_3b067 2 = .ok (.invokestatic 67, 3) := by decide +kernel
theorem dJ2_charAt_3b067_5 : decode cJ2_charAt_3b067 5 = .ok (.aload_n 0, 1) := by decide +kernel
theorem dJ2_charAt_3b067_6 : decode cJ2_charAt_3b067 6 = .ok (.iload_n 1, 1) := by decide +kernel
theorem dJ2_charAt_3b067_7 : decode cJ2_charAt_3b067 7 = .ok (.invokestatic 71, 3) := by decide +kernel
theorem dJ2_charAt_3b067_10 : decode cJ2_charAt_3b067 10 = .ok (.ireturn, 1) := by decide +kernel
theorem dJ2_checkIndex_2214a_0 : decode cJ2_checkIndex_2214a 0 = .ok (.iload_n 0, 1) := by decide +kernel
theorem dJ2_checkIndex_2214a_1 : decode cJ2_checkIndex_2214a 1 = .ok (.aload_n 1, 1) := by decide +kernel
theorem dJ2_checkIndex_2214a_2 : decode cJ2_checkIndex_2214a 2 = .ok (.invokestatic 48, 3) := by decide +kernel
theorem dJ2_checkIndex_2214a_5 : decode cJ2_checkIndex_2214a 5 = .ok (.invokestatic 414, 3) := by decide +kernel
theorem dJ2_checkIndex_2214a_8 : decode cJ2_checkIndex_2214a 8 = .ok (.return_, 1) := by decide +kernel
theorem dJ7_rangeCheck_23922_0 : decode cJ7_rangeCheck_23922 0 = .ok (.iload_n 1, 1) := by decide +kernel
theorem dJ7_rangeCheck_23922_1 : decode cJ7_rangeCheck_23922 1 = .ok (.iload_n 2, 1) := by decide +kernel
theorem dJ7_rangeCheck_23922_2 : decode cJ7_rangeCheck_23922 2 = .ok (.if_icmp .le 44, 3) := by decide +kernel
theorem dJ7_rangeCheck_23922_5 : decode cJ7_rangeCheck_23922 5 = .ok (.new 43, 3) := by decide +kernel
theorem dJ7_rangeCheck_23922_8 : decode cJ7_rangeCheck_23922 8 = .ok (.dup, 1) := by decide +kernel
theorem dJ7_rangeCheck_23922_9 : decode cJ7_rangeCheck_23922 9 = .ok (.new 45, 3) := by decide +kernel
theorem dJ7_rangeCheck_23922_12 : decode cJ7_rangeCheck_23922 12 = .ok (.dup, 1) := by decide +kernel
theorem dJ7_rangeCheck_23922_13 : decode cJ7_rangeCheck_23922 13 = .ok (.invokespecial 47, 3) := by decide +kernel
theorem dJ7_rangeCheck_23922_16 : decode cJ7_rangeCheck_23922 16 = .ok (.ldc 48, 2) := by decide +kernel
theorem dJ7_rangeCheck_23922_18 : decode cJ7_rangeCheck_23922 18 = .ok (.invokevirtual 50, 3) := by decide +kernel
theorem dJ7_rangeCheck_23922_21 : decode cJ7_rangeCheck_23922 21 = .ok (.iload_n 1, 1) := by decide +kernel
theorem dJ7_rangeCheck_23922_22 : decode cJ7_rangeCheck_23922 22 = .ok (.invokevirtual 54, 3) := by decide +kernel
theorem dJ7_rangeCheck_23922_25 : decode cJ7_rangeCheck_23922 25 = .ok (.ldc 57, 2) := by decide +kernel
theorem dJ7_rangeCheck_23922_27 : decode cJ7_rangeCheck_23922 27 = .ok (.invokevirtual 50, 3) := by decide +kernel
theorem dJ7_rangeCheck_23922_30 : decode cJ7_rangeCheck_23922 30 = .ok (.iload_n 2, 1) := by decide +kernel
theorem dJ7_rangeCheck_23922_31 : decode cJ7_rangeCheck_23922 31 = .ok (.invokevirtual 54, 3) := by decide +kernel
theorem dJ7_rangeCheck_23922_34 : decode cJ7_rangeCheck_23922 34 = .ok (.ldc 59, 2) := by decide +kernel
theorem dJ7_rangeCheck_23922_36 : decode cJ7_rangeCheck_23922 36 = .ok (.invokevirtual 50, 3) := by decide +kernel
theorem dJ7_rangeCheck_23922_39 : decode cJ7_rangeCheck_23922 39 = .ok (.invokevirtual 61, 3) := by decide +kernel
theorem dJ7_rangeCheck_23922_42 : decode cJ7_rangeCheck_23922 42 = .ok (.invokespecial 65, 3) := by decide +kernel
theorem dJ7_rangeCheck_23922_45 : decode cJ7_rangeCheck_23922 45 = .ok (.athrow, 1) := by decide +kernel
theorem dJ7_rangeCheck_23922_46 : decode cJ7_rangeCheck_23922 46 = .ok (.iload_n 1, 1) := by decide +kernel
theorem dJ7_rangeCheck_23922_47 : decode cJ7_rangeCheck_23922 47 = .ok (.ifCond .ge 12, 3) := by decide +kernel
theorem dJ7_rangeCheck_23922_50 : decode cJ7_rangeCheck_23922 50 = .ok (.new 68, 3) := by decide +kernel
theorem dJ7_rangeCheck_23922_53 : decode cJ7_rangeCheck_23922 53 = .ok (.dup, 1) := by decide +kernel
theorem dJ7_rangeCheck_23922_54 : decode cJ7_rangeCheck_23922 54 = .ok (.iload_n 1, 1) := by decide +kernel
theorem dJ7_rangeCheck_23922_55 : decode cJ7_rangeCheck_23922 55 = .ok (.invokespecial 70, 3) := by decide +kernel
theorem dJ7_rangeCheck_23922_58 : decode cJ7_rangeCheck_23922 58 = .ok (.athrow, 1) := by decide +kernel
theorem dJ7_rangeCheck_23922_59 : decode cJ7_rangeCheck_23922 59 = .ok (.iload_n 2, 1) := by decide +kernel
theorem dJ7_rangeCheck_23922_60 : decode cJ7_rangeCheck_23922 60 = .ok (.iload_n 0, 1) := by decide +kernel
theorem dJ7_rangeCheck_23922_61 : decode cJ7_rangeCheck_23922 61 = .ok (.if_icmp .le 12, 3) := by decide +kernel
theorem dJ7_rangeCheck_23922_64 : decode cJ7_rangeCheck_23922 64 = .ok (.new 68, 3) := by decide +kernel
theorem dJ7_rangeCheck_23922_67 : decode cJ7_rangeCheck_23922 67 = .ok (.dup, 1) := by decide +kernel
theorem dJ7_rangeCheck_23922_68 : decode cJ7_rangeCheck_23922 68 = .ok (.iload_n 2, 1) := by decide +kernel
theorem dJ7_rangeCheck_23922_69 : decode cJ7_rangeCheck_23922 69 = .ok (.invokespecial 70, 3) := by decide +kernel
theorem dJ7_rangeCheck_23922_72 : decode cJ7_rangeCheck_23922 72 = .ok (.athrow, 1) := by decide +kernel
theorem dJ7_rangeCheck_23922_73 : decode cJ7_rangeCheck_23922 73 = .ok (.return_, 1) := by decide +kernel
theorem dJ7_fill_d0a16_0 : decode cJ7_fill_d0a16 0 = .ok (.iconst 0, 1) := by decide +kernel
theorem dJ7_fill_d0a16_1 : decode cJ7_fill_d0a16 1 = .ok (.istore_n 3, 1) := by decide +kernel
theorem dJ7_fill_d0a16_2 : decode cJ7_fill_d0a16 2 = .ok (.aload_n 0, 1) := by decide +kernel
theorem dJ7_fill_d0a16_3 : decode cJ7_fill_d0a16 3 = .ok (.arraylength, 1) := by decide +kernel
theorem dJ7_fill_d0a16_4 : decode cJ7_fill_d0a16 4 = .ok (.istore 4, 2) := by decide +kernel
theorem dJ7_fill_d0a16_6 : decode cJ7_fill_d0a16 6 = .ok (.iload_n 3, 1) := by decide +kernel
theorem dJ7_fill_d0a16_7 : decode cJ7_fill_d0a16 7 = .ok (.iload 4, 2) := by decide +kernel
theorem dJ7_fill_d0a16_9 : decode cJ7_fill_d0a16 9 = .ok (.if_icmp .ge 13, 3) := by decide +kernel
theorem dJ7_fill_d0a16_12 : decode cJ7_fill_d0a16 12 = .ok (.aload_n 0, 1) := by decide +kernel
theorem dJ7_fill_d0a16_13 : decode cJ7_fill_d0a16 13 = .ok (.iload_n 3, 1) := by decide +kernel
theorem dJ7_fill_d0a16_14 : decode cJ7_fill_d0a16 14 = .ok (.lload_n 1, 1) := by decide +kernel
theorem dJ7_fill_d0a16_15 : decode cJ7_fill_d0a16 15 = .ok (.lastore, 1) := by decide +kernel
theorem dJ7_fill_d0a16_16 : decode cJ7_fill_d0a16 16 = .ok (.iinc 3 1, 3) := by decide +kernel
theorem dJ7_fill_d0a16_19 : decode cJ7_fill_d0a16 19 = .ok (.goto (-13), 3) := by decide +kernel
theorem dJ7_fill_d0a16_22 : decode cJ7_fill_d0a16 22 = .ok (.return_, 1) := by decide +kernel
theorem dJ7_fill_53178_0 : decode cJ7_fill_53178 0 = .ok (.iconst 0, 1) := by decide +kernel
theorem dJ7_fill_53178_1 : decode cJ7_fill_53178 1 = .ok (.istore_n 2, 1) := by decide +kernel
theorem dJ7_fill_53178_2 : decode cJ7_fill_53178 2 = .ok (.aload_n 0, 1) := by decide +kernel
theorem dJ7_fill_53178_3 : decode cJ7_fill_53178 3 = .ok (.arraylength, 1) := by decide +kernel
theorem dJ7_fill_53178_4 : decode cJ7_fill_53178 4 = .ok (.istore_n 3, 1) := by decide +kernel
theorem dJ7_fill_53178_5 : decode cJ7_fill_53178 5 = .ok (.iload_n 2, 1) := by decide +kernel
theorem dJ7_fill_53178_6 : decode cJ7_fill_53178 6 = .ok (.iload_n 3, 1) := by decide +kernel
theorem dJ7_fill_53178_7 : decode cJ7_fill_53178 7 = .ok (.if_icmp .ge 13, 3) := by decide +kernel
theorem dJ7_fill_53178_10 : decode cJ7_fill_53178 10 = .ok (.aload_n 0, 1) := by decide +kernel
theorem dJ7_fill_53178_11 : decode cJ7_fill_53178 11 = .ok (.iload_n 2, 1) := by decide +kernel
theorem dJ7_fill_53178_12 : decode cJ7_fill_53178 12 = .ok (.iload_n 1, 1) := by decide +kernel
theorem dJ7_fill_53178_13 : decode cJ7_fill_53178 13 = .ok (.iastore, 1) := by decide +kernel
theorem dJ7_fill_53178_14 : decode cJ7_fill_53178 14 = .ok (.iinc 2 1, 3) := by decide +kernel
theorem dJ7_fill_53178_17 : decode cJ7_fill_53178 17 = .ok (.goto (-12), 3) := by decide +kernel
theorem dJ7_fill_53178_20 : decode cJ7_fill_53178 20 = .ok (.return_, 1) := by decide +kernel
theorem dJ7_fill_fda19_0 : decode cJ7_fill_fda19 0 = .ok (.aload_n 0, 1) := by decide +kernel
theorem dJ7_fill_fda19_1 : decode cJ7_fill_fda19 1 = .ok (.arraylength, 1) := by decide +kernel
theorem dJ7_fill_fda19_2 : decode cJ7_fill_fda19 2 = .ok (.iload_n 1, 1) := by decide +kernel
theorem dJ7_fill_fda19_3 : decode cJ7_fill_fda19 3 = .ok (.iload_n 2, 1) := by decide +kernel
theorem dJ7_fill_fda19_4 : decode cJ7_fill_fda19 4 = .ok (.invokestatic 13, 3) := by decide +kernel
theorem dJ7_fill_fda19_7 : decode cJ7_fill_fda19 7 = .ok (.iload_n 1, 1) := by decide +kernel
theorem dJ7_fill_fda19_8 : decode cJ7_fill_fda19 8 = .ok (.istore 4, 2) := by decide +kernel
theorem dJ7_fill_fda19_10 : decode cJ7_fill_fda19 10 = .ok (.iload 4, 2) := by decide +kernel
theorem dJ7_fill_fda19_12 : decode cJ7_fill_fda19 12 = .ok (.iload_n 2, 1) := by decide +kernel
theorem dJ7_fill_fda19_13 : decode cJ7_fill_fda19 13 = .ok (.if_icmp .ge 14, 3) := by decide +kernel
theorem dJ7_fill_fda19_16 : decode cJ7_fill_fda19 16 = .ok (.aload_n 0, 1) := by decide +kernel
theorem dJ7_fill_fda19_17 : decode cJ7_fill_fda19 17 = .ok (.iload 4, 2) := by decide +kernel
theorem dJ7_fill_fda19_19 : decode cJ7_fill_fda19 19 = .ok (.iload_n 3, 1) := by decide +kernel
theorem dJ7_fill_fda19_20 : decode cJ7_fill_fda19 20 = .ok (.iastore, 1) := by decide +kernel
theorem dJ7_fill_fda19_21 : decode cJ7_fill_fda19 21 = .ok (.iinc 4 1, 3) := by decide +kernel
theorem dJ7_fill_fda19_24 : decode cJ7_fill_fda19 24 = .ok (.goto (-14), 3) := by decide +kernel
theorem dJ7_fill_fda19_27 : decode cJ7_fill_fda19 27 = .ok (.return_, 1) := by decide +kernel
theorem dJ3_checkIndex_8e157_0 : decode cJ3_checkIndex_8e157 0 = .ok (.iload_n 0, 1) := by decide +kernel
theorem dJ3_checkIndex_8e157_1 : decode cJ3_checkIndex_8e157 1 = .ok (.ifCond .lt 8, 3) := by decide +kernel
theorem dJ3_checkIndex_8e157_4 : decode cJ3_checkIndex_8e157 4 = .ok (.iload_n 0, 1) := by decide +kernel
theorem dJ3_checkIndex_8e157_5 : decode cJ3_checkIndex_8e157 5 = .ok (.iload_n 1, 1) := by decide +kernel
theorem dJ3_checkIndex_8e157_6 : decode cJ3_checkIndex_8e157 6 = .ok (.if_icmp .lt 10, 3) := by decide +kernel
theorem dJ3_checkIndex_8e157_9 : decode cJ3_checkIndex_8e157 9 = .ok (.aload_n 2, 1) := by decide +kernel
theorem dJ3_checkIndex_8e157_10 : decode cJ3_checkIndex_8e157 10 = .ok (.iload_n 0, 1) := by decide +kernel
theorem dJ3_checkIndex_8e157_11 : decode cJ3_checkIndex_8e157 11 = .ok (.iload_n 1, 1) := by decide +kernel
theorem dJ3_checkIndex_8e157_12 : decode cJ3_checkIndex_8e157 12 = .ok (.invokestatic 95, 3) := by decide +kernel
theorem dJ3_checkIndex_8e157_15 : decode cJ3_checkIndex_8e157 15 = .ok (.athrow, 1) := by decide +kernel
theorem dJ3_checkIndex_8e157_16 : decode cJ3_checkIndex_8e157 16 = .ok (.iload_n 0, 1) := by decide +kernel
theorem dJ3_checkIndex_8e157_17 : decode cJ3_checkIndex_8e157 17 = .ok (.ireturn, 1) := by decide +kernel
