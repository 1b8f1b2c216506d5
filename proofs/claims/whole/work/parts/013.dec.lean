theorem dX10_init_0 : decode cX10_init 0 = .ok (.aload_n 0, 1) := by decide +kernel
theorem dX10_init_1 : decode cX10_init 1 = .ok (.invokespecial 3, 3) := by decide +kernel
theorem dX10_init_4 : decode cX10_init 4 = .ok (.aload_n 0, 1) := by decide +kernel
theorem dX10_init_5 : decode cX10_init 5 = .ok (.new 9, 3) := by decide +kernel
theorem dX10_init_8 : decode cX10_init 8 = .ok (.dup, 1) := by decide +kernel
theorem dX10_init_9 : decode cX10_init 9 = .ok (.invokespecial 11, 3) := by decide +kernel
theorem dX10_init_12 : decode cX10_init 12 = .ok (.putfield 12, 3) := by decide +kernel
theorem dX10_init_15 : decode cX10_init 15 = .ok (.aload_n 0, 1) := by decide +kernel
theorem dX10_init_16 : decode cX10_init 16 = .ok (.new 18, 3) := by decide +kernel
theorem dX10_init_19 : decode cX10_init 19 = .ok (.dup, 1) := by decide +kernel
theorem dX10_init_20 : decode cX10_init 20 = .ok (.invokespecial 20, 3) := by decide +kernel
theorem dX10_init_23 : decode cX10_init 23 = .ok (.putfield 21, 3) := by decide +kernel
theorem dX10_init_26 : decode cX10_init 26 = .ok (.aload_n 0, 1) := by decide +kernel
theorem dX10_init_27 : decode cX10_init 27 = .ok (.new 25, 3) := by decide +kernel
theorem dX10_init_30 : decode cX10_init 30 = .ok (.dup, 1) := by decide +kernel
theorem dX10_init_31 : decode cX10_init 31 = .ok (.bipush 36, 2) := by decide +kernel
theorem dX10_init_33 : decode cX10_init 33 = .ok (.invokespecial 27, 3) := by decide +kernel
theorem dX10_init_36 : decode cX10_init 36 = .ok (.putfield 30, 3) := by decide +kernel
theorem dX10_init_39 : decode cX10_init 39 = .ok (.aload_n 0, 1) := by decide +kernel
theorem dX10_init_40 : decode cX10_init 40 = .ok (.new 25, 3) := by decide +kernel
theorem dX10_init_43 : decode cX10_init 43 = .ok (.dup, 1) := by decide +kernel
theorem dX10_init_44 : decode cX10_init 44 = .ok (.sipush 216, 3) := by decide +kernel
theorem dX10_init_47 : decode cX10_init 47 = .ok (.invokespecial 27, 3) := by decide +kernel
theorem dX10_init_50 : decode cX10_init 50 = .ok (.putfield 34, 3) := by decide +kernel
theorem dX10_init_53 : decode cX10_init 53 = .ok (.aload_n 0, 1) := by decide +kernel
theorem dX10_init_54 : decode cX10_init 54 = .ok (.bipush 36, 2) := by decide +kernel
theorem dX10_init_56 : decode cX10_init 56 = .ok (.newarray .int, 2) := by decide +kernel
theorem dX10_init_58 : decode cX10_init 58 = .ok (.putfield 37, 3) := by decide +kernel
theorem dX10_init_61 : decode cX10_init 61 = .ok (.aload_n 0, 1) := by decide +kernel
theorem dX10_init_62 : decode cX10_init 62 = .ok (.new 25, 3) := by decide +kernel
theorem dX10_init_65 : decode cX10_init 65 = .ok (.dup, 1) := by decide +kernel
theorem dX10_init_66 : decode cX10_init 66 = .ok (.iconst 4, 1) := by decide +kernel
theorem dX10_init_67 : decode cX10_init 67 = .ok (.invokespecial 27, 3) := by decide +kernel
theorem dX10_init_70 : decode cX10_init 70 = .ok (.putfield 41, 3) := by decide +kernel
theorem dX10_init_73 : decode cX10_init 73 = .ok (.aload_n 0, 1) := by decide +kernel
theorem dX10_init_74 : decode cX10_init 74 = .ok (.iconst 4, 1) := by decide +kernel
theorem dX10_init_75 : decode cX10_init 75 = .ok (.newarray .int, 2) := by decide +kernel
theorem dX10_init_77 : decode cX10_init 77 = .ok (.putfield 44, 3) := by decide +kernel
theorem dX10_init_80 : decode cX10_init 80 = .ok (.aload_n 0, 1) := by decide +kernel
theorem dX10_init_81 : decode cX10_init 81 = .ok (.bipush 36, 2) := by decide +kernel
theorem dX10_init_83 : decode cX10_init 83 = .ok (.newarray .int, 2) := by decide +kernel
theorem dX10_init_85 : decode cX10_init 85 = .ok (.putfield 47, 3) := by decide +kernel
theorem dX10_init_88 : decode cX10_init 88 = .ok (.aload_n 0, 1) := by decide +kernel
theorem dX10_init_89 : decode cX10_init 89 = .ok (.sipush 1080, 3) := by decide +kernel
theorem dX10_init_92 : decode cX10_init 92 = .ok (.newarray .int, 2) := by decide +kernel
theorem dX10_init_94 : decode cX10_init 94 = .ok (.putfield 50, 3) := by decide +kernel
theorem dX10_init_97 : decode cX10_init 97 = .ok (.aload_n 0, 1) := by decide +kernel
theorem dX10_init_98 : decode cX10_init 98 = .ok (.iconst 0, 1) := by decide +kernel
theorem dX10_init_99 : decode cX10_init 99 = .ok (.putfield 53, 3) := by decide +kernel
theorem dX10_init_102 : decode cX10_init 102 = .ok (.aload_n 0, 1) := by decide +kernel
theorem dX10_init_103 : decode cX10_init 103 = .ok (.iconst 0, 1) := by decide +kernel
theorem dX10_init_104 : decode cX10_init 104 = .ok (.putfield 57, 3) := by decide +kernel
theorem dX10_init_107 : decode cX10_init 107 = .ok (.aload_n 0, 1) := by decide +kernel
theorem dX10_init_108 : decode cX10_init 108 = .ok (.iconst 0, 1) := by decide +kernel
theorem dX10_init_109 : decode cX10_init 109 = .ok (.putfield 60, 3) := by decide +kernel
theorem dX10_init_112 : decode cX10_init 112 = .ok (.return_, 1) := by decide +kernel
theorem dX10_cellOf_0 : decode cX10_cellOf 0 = .ok (.iload_n 0, 1) := by decide +kernel
theorem dX10_cellOf_1 : decode cX10_cellOf 1 = .ok (.bipush 6, 2) := by decide +kernel
theorem dX10_cellOf_3 : decode cX10_cellOf 3 = .ok (.imul, 1) := by decide +kernel
theorem dX10_cellOf_4 : decode cX10_cellOf 4 = .ok (.iload_n 1, 1) := by decide +kernel
theorem dX10_cellOf_5 : decode cX10_cellOf 5 = .ok (.iadd, 1) := by decide +kernel
theorem dX10_cellOf_6 : decode cX10_cellOf 6 = .ok (.ireturn, 1) := by decide +kernel
theorem dX10_copy_0 : decode cX10_copy 0 = .ok (.aload_n 0, 1) := by decide +kernel
theorem dX10_copy_1 : decode cX10_copy 1 = .ok (.getfield 12, 3) := by decide +kernel
theorem dX10_copy_4 : decode cX10_copy 4 = .ok (.aload_n 1, 1) := by decide +kernel
theorem dX10_copy_5 : decode cX10_copy 5 = .ok (.getfield 12, 3) := by decide +kernel
theorem dX10_copy_8 : decode cX10_copy 8 = .ok (.invokevirtual 63, 3) := by decide +kernel
theorem dX10_copy_11 : decode cX10_copy 11 = .ok (.aload_n 0, 1) := by decide +kernel
theorem dX10_copy_12 : decode cX10_copy 12 = .ok (.getfield 21, 3) := by decide +kernel
theorem dX10_copy_15 : decode cX10_copy 15 = .ok (.aload_n 1, 1) := by decide +kernel
theorem dX10_copy_16 : decode cX10_copy 16 = .ok (.getfield 21, 3) := by decide +kernel
theorem dX10_copy_19 : decode cX10_copy 19 = .ok (.invokevirtual 67, 3) := by decide +kernel
theorem dX10_copy_22 : decode cX10_copy 22 = .ok (.aload_n 0, 1) := by decide +kernel
theorem dX10_copy_23 : decode cX10_copy 23 = .ok (.getfield 30, 3) := by decide +kernel
theorem dX10_copy_26 : decode cX10_copy 26 = .ok (.aload_n 1, 1) := by decide +kernel
theorem dX10_copy_27 : decode cX10_copy 27 = .ok (.getfield 30, 3) := by decide +kernel
theorem dX10_copy_30 : decode cX10_copy 30 = .ok (.invokevirtual 70, 3) := by decide +kernel
theorem dX10_copy_33 : decode cX10_copy 33 = .ok (.aload_n 0, 1) := by decide +kernel
theorem dX10_copy_34 : decode cX10_copy 34 = .ok (.getfield 34, 3) := by decide +kernel
theorem dX10_copy_37 : decode cX10_copy 37 = .ok (.aload_n 1, 1) := by decide +kernel
theorem dX10_copy_38 : decode cX10_copy 38 = .ok (.getfield 34, 3) := by decide +kernel
theorem dX10_copy_41 : decode cX10_copy 41 = .ok (.invokevirtual 70, 3) := by decide +kernel
theorem dX10_copy_44 : decode cX10_copy 44 = .ok (.aload_n 1, 1) := by decide +kernel
theorem dX10_copy_45 : decode cX10_copy 45 = .ok (.getfield 37, 3) := by decide +kernel
theorem dX10_copy_48 : decode cX10_copy 48 = .ok (.iconst 0, 1) := by decide +kernel
theorem dX10_copy_49 : decode cX10_copy 49 = .ok (.aload_n 0, 1) := by decide +kernel
theorem dX10_copy_50 : decode cX10_copy 50 = .ok (.getfield 37, 3) := by decide +kernel
theorem dX10_copy_53 : decode cX10_copy 53 = .ok (.iconst 0, 1) := by decide +kernel
theorem dX10_copy_54 : decode cX10_copy 54 = .ok (.aload_n 0, 1) := by decide +kernel
theorem dX10_copy_55 : decode cX10_copy 55 = .ok (.getfield 37, 3) := by decide +kernel
theorem dX10_copy_58 : decode cX10_copy 58 = .ok (.arraylength, 1) := by decide +kernel
theorem dX10_copy_59 : decode cX10_copy 59 = .ok (.invokestatic 74, 3) := by decide +kernel
theorem dX10_copy_62 : decode cX10_copy 62 = .ok (.aload_n 0, 1) := by decide +kernel
theorem dX10_copy_63 : decode cX10_copy 63 = .ok (.getfield 41, 3) := by decide +kernel
theorem dX10_copy_66 : decode cX10_copy 66 = .ok (.aload_n 1, 1) := by decide +kernel
theorem dX10_copy_67 : decode cX10_copy 67 = .ok (.getfield 41, 3) := by decide +kernel
theorem dX10_copy_70 : decode cX10_copy 70 = .ok (.invokevirtual 70, 3) := by decide +kernel
theorem dX10_copy_73 : decode cX10_copy 73 = .ok (.aload_n 1, 1) := by decide +kernel
theorem dX10_copy_74 : decode cX10_copy 74 = .ok (.getfield 44, 3) := by decide +kernel
theorem dX10_copy_77 : decode cX10_copy 77 = .ok (.iconst 0, 1) := by decide +kernel
theorem dX10_copy_78 : decode cX10_copy 78 = .ok (.aload_n 0, 1) := by decide +kernel
theorem dX10_copy_79 : decode cX10_copy 79 = .ok (.getfield 44, 3) := by decide +kernel
theorem dX10_copy_82 : decode cX10_copy 82 = .ok (.iconst 0, 1) := by decide +kernel
theorem dX10_copy_83 : decode cX10_copy 83 = .ok (.iconst 4, 1) := by decide +kernel
theorem dX10_copy_84 : decode cX10_copy 84 = .ok (.invokestatic 74, 3) := by decide +kernel
theorem dX10_copy_87 : decode cX10_copy 87 = .ok (.aload_n 1, 1) := by decide +kernel
theorem dX10_copy_88 : decode cX10_copy 88 = .ok (.getfield 47, 3) := by decide +kernel
theorem dX10_copy_91 : decode cX10_copy 91 = .ok (.iconst 0, 1) := by decide +kernel
theorem dX10_copy_92 : decode cX10_copy 92 = .ok (.aload_n 0, 1) := by decide +kernel
theorem dX10_copy_93 : decode cX10_copy 93 = .ok (.getfield 47, 3) := by decide +kernel
theorem dX10_copy_96 : decode cX10_copy 96 = .ok (.iconst 0, 1) := by decide +kernel
theorem dX10_copy_97 : decode cX10_copy 97 = .ok (.aload_n 0, 1) := by decide +kernel
theorem dX10_copy_98 : decode cX10_copy 98 = .ok (.getfield 47, 3) := by decide +kernel
theorem dX10_copy_101 : decode cX10_copy 101 = .ok (.arraylength, 1) := by decide +kernel
theorem dX10_copy_102 : decode cX10_copy 102 = .ok (.invokestatic 74, 3) := by decide +kernel
theorem dX10_copy_105 : decode cX10_copy 105 = .ok (.aload_n 1, 1) := by decide +kernel
theorem dX10_copy_106 : decode cX10_copy 106 = .ok (.getfield 50, 3) := by decide +kernel
theorem dX10_copy_109 : decode cX10_copy 109 = .ok (.iconst 0, 1) := by decide +kernel
theorem dX10_copy_110 : decode cX10_copy 110 = .ok (.aload_n 0, 1) := by decide +kernel
theorem dX10_copy_111 : decode cX10_copy 111 = .ok (.getfield 50, 3) := by decide +kernel
theorem dX10_copy_114 : decode cX10_copy 114 = .ok (.iconst 0, 1) := by decide +kernel
theorem dX10_copy_115 : decode cX10_copy 115 = .ok (.aload_n 0, 1) := by decide +kernel
theorem dX10_copy_116 : decode cX10_copy 116 = .ok (.getfield 50, 3) := by decide +kernel
theorem dX10_copy_119 : decode cX10_copy 119 = .ok (.arraylength, 1) := by decide +kernel
theorem dX10_copy_120 : decode cX10_copy 120 = .ok (.invokestatic 74, 3) := by decide +kernel
theorem dX10_copy_123 : decode cX10_copy 123 = .ok (.aload_n 0, 1) := by decide +kernel
theorem dX10_copy_124 : decode cX10_copy 124 = .ok (.aload_n 1, 1) := by decide +kernel
theorem dX10_copy_125 : decode cX10_copy 125 = .ok (.getfield 53, 3) := by decide +kernel
theorem dX10_copy_128 : decode cX10_copy 128 = .ok (.putfield 53, 3) := by decide +kernel
theorem dX10_copy_131 : decode cX10_copy 131 = .ok (.aload_n 0, 1) := by decide +kernel
theorem dX10_copy_132 : decode cX10_copy 132 = .ok (.aload_n 1, 1) := by decide +kernel
theorem dX10_copy_133 : decode cX10_copy 133 = .ok (.getfield 57, 3) := by decide +kernel
theorem dX10_copy_136 : decode cX10_copy 136 = .ok (.putfield 57, 3) := by decide +kernel
theorem dX10_copy_139 : decode cX10_copy 139 = .ok (.aload_n 0, 1) := by decide +kernel
theorem dX10_copy_140 : decode cX10_copy 140 = .ok (.aload_n 1, 1) := by decide +kernel
theorem dX10_copy_141 : decode cX10_copy 141 = .ok (.getfield 60, 3) := by decide +kernel
theorem dX10_copy_144 : decode cX10_copy 144 = .ok (.putfield 60, 3) := by decide +kernel
theorem dX10_copy_147 : decode cX10_copy 147 = .ok (.return_, 1) := by decide +kernel
theorem dX10_begin_0 : decode cX10_begin 0 = .ok (.aload_n 0, 1) := by decide +kernel
theorem dX10_begin_1 : decode cX10_begin 1 = .ok (.getfield 12, 3) := by decide +kernel
theorem dX10_begin_4 : decode cX10_begin 4 = .ok (.aload_n 1, 1) := by decide +kernel
theorem dX10_begin_5 : decode cX10_begin 5 = .ok (.invokevirtual 63, 3) := by decide +kernel
theorem dX10_begin_8 : decode cX10_begin 8 = .ok (.aload_n 0, 1) := by decide +kernel
theorem dX10_begin_9 : decode cX10_begin 9 = .ok (.getfield 21, 3) := by decide +kernel
theorem dX10_begin_12 : decode cX10_begin 12 = .ok (.invokevirtual 80, 3) := by decide +kernel
theorem dX10_begin_15 : decode cX10_begin 15 = .ok (.aload_n 0, 1) := by decide +kernel
theorem dX10_begin_16 : decode cX10_begin 16 = .ok (.getfield 30, 3) := by decide +kernel
theorem dX10_begin_19 : decode cX10_begin 19 = .ok (.invokevirtual 83, 3) := by decide +kernel
theorem dX10_begin_22 : decode cX10_begin 22 = .ok (.aload_n 0, 1) := by decide +kernel
theorem dX10_begin_23 : decode cX10_begin 23 = .ok (.getfield 34, 3) := by decide +kernel
theorem dX10_begin_26 : decode cX10_begin 26 = .ok (.invokevirtual 83, 3) := by decide +kernel
theorem dX10_begin_29 : decode cX10_begin 29 = .ok (.aload_n 0, 1) := by decide +kernel
theorem dX10_begin_30 : decode cX10_begin 30 = .ok (.getfield 37, 3) := by decide +kernel
theorem dX10_begin_33 : decode cX10_begin 33 = .ok (.iconst 0, 1) := by decide +kernel
theorem dX10_begin_34 : decode cX10_begin 34 = .ok (.invokestatic 86, 3) := by decide +kernel
theorem dX10_begin_37 : decode cX10_begin 37 = .ok (.aload_n 0, 1) := by decide +kernel
theorem dX10_begin_38 : decode cX10_begin 38 = .ok (.getfield 47, 3) := by decide +kernel
theorem dX10_begin_41 : decode cX10_begin 41 = .ok (.iconst 0, 1) := by decide +kernel
theorem dX10_begin_42 : decode cX10_begin 42 = .ok (.invokestatic 86, 3) := by decide +kernel
theorem dX10_begin_45 : decode cX10_begin 45 = .ok (.aload_n 0, 1) := by decide +kernel
theorem dX10_begin_46 : decode cX10_begin 46 = .ok (.aload_n 0, 1) := by decide +kernel
theorem dX10_begin_47 : decode cX10_begin 47 = .ok (.getfield 12, 3) := by decide +kernel
theorem dX10_begin_50 : decode cX10_begin 50 = .ok (.invokevirtual 92, 3) := by decide +kernel
theorem dX10_begin_53 : decode cX10_begin 53 = .ok (.putfield 53, 3) := by decide +kernel
theorem dX10_begin_56 : decode cX10_begin 56 = .ok (.aload_n 0, 1) := by decide +kernel
theorem dX10_begin_57 : decode cX10_begin 57 = .ok (.iconst 0, 1) := by decide +kernel
theorem dX10_begin_58 : decode cX10_begin 58 = .ok (.putfield 57, 3) := by decide +kernel
theorem dX10_begin_61 : decode cX10_begin 61 = .ok (.aload_n 0, 1) := by decide +kernel
theorem dX10_begin_62 : decode cX10_begin 62 = .ok (.iconst 0, 1) := by decide +kernel
theorem dX10_begin_63 : decode cX10_begin 63 = .ok (.putfield 60, 3) := by decide +kernel
theorem dX10_begin_66 : decode cX10_begin 66 = .ok (.return_, 1) := by decide +kernel
theorem dX10_isUp_0 : decode cX10_isUp 0 = .ok (.aload_n 0, 1) := by decide +kernel
theorem dX10_isUp_1 : decode cX10_isUp 1 = .ok (.getfield 53, 3) := by decide +kernel
theorem dX10_isUp_4 : decode cX10_isUp 4 = .ok (.iload_n 1, 1) := by decide +kernel
theorem dX10_isUp_5 : decode cX10_isUp 5 = .ok (.ishr, 1) := by decide +kernel
theorem dX10_isUp_6 : decode cX10_isUp 6 = .ok (.iconst 1, 1) := by decide +kernel
theorem dX10_isUp_7 : decode cX10_isUp 7 = .ok (.iand, 1) := by decide +kernel
theorem dX10_isUp_8 : decode cX10_isUp 8 = .ok (.ifCond .eq 7, 3) := by decide +kernel
theorem dX10_isUp_11 : decode cX10_isUp 11 = .ok (.iconst 1, 1) := by decide +kernel
theorem dX10_isUp_12 : decode cX10_isUp 12 = .ok (.goto 4, 3) := by decide +kernel
theorem dX10_isUp_15 : decode cX10_isUp 15 = .ok (.iconst 0, 1) := by decide +kernel
theorem dX10_isUp_16 : decode cX10_isUp 16 = .ok (.ireturn, 1) := by decide +kernel
theorem dX10_areUp_0 : decode cX10_areUp 0 = .ok (.iload_n 1, 1) := by decide +kernel
theorem dX10_areUp_1 : decode cX10_areUp 1 = .ok (.aload_n 0, 1) := by decide +kernel
theorem dX10_areUp_2 : decode cX10_areUp 2 = .ok (.getfield 53, 3) := by decide +kernel
theorem dX10_areUp_5 : decode cX10_areUp 5 = .ok (.iconst (-1), 1) := by decide +kernel
theorem dX10_areUp_6 : decode cX10_areUp 6 = .ok (.ixor, 1) := by decide +kernel
theorem dX10_areUp_7 : decode cX10_areUp 7 = .ok (.iand, 1) := by decide +kernel
theorem dX10_areUp_8 : decode cX10_areUp 8 = .ok (.ifCond .ne 7, 3) := by decide +kernel
theorem dX10_areUp_11 : decode cX10_areUp 11 = .ok (.iconst 1, 1) := by decide +kernel
theorem dX10_areUp_12 : decode cX10_areUp 12 = .ok (.goto 4, 3) := by decide +kernel
theorem dX10_areUp_15 : decode cX10_areUp 15 = .ok (.iconst 0, 1) := by decide +kernel
theorem dX10_areUp_16 : decode cX10_areUp 16 = .ok (.ireturn, 1) := by decide +kernel
theorem dX10_setUp_0 : decode cX10_setUp 0 = .ok (.aload_n 0, 1) := by decide +kernel
theorem dX10_setUp_1 : decode cX10_setUp 1 = .ok (.iload_n 2, 1) := by decide +kernel
theorem dX10_setUp_2 : decode cX10_setUp 2 = .ok (.ifCond .eq 14, 3) := by decide +kernel
theorem dX10_setUp_5 : decode cX10_setUp 5 = .ok (.aload_n 0, 1) := by decide +kernel
theorem dX10_setUp_6 : decode cX10_setUp 6 = .ok (.getfield 53, 3) := by decide +kernel
theorem dX10_setUp_9 : decode cX10_setUp 9 = .ok (.iconst 1, 1) := by decide +kernel
theorem dX10_setUp_10 : decode cX10_setUp 10 = .ok (.iload_n 1, 1) := by decide +kernel
theorem dX10_setUp_11 : decode cX10_setUp 11 = .ok (.ishl, 1) := by decide +kernel
theorem dX10_setUp_12 : decode cX10_setUp 12 = .ok (.ior, 1) := by decide +kernel
theorem dX10_setUp_13 : decode cX10_setUp 13 = .ok (.goto 13, 3) := by decide +kernel
theorem dX10_setUp_16 : decode cX10_setUp 16 = .ok (.aload_n 0, 1) := by decide +kernel
theorem dX10_setUp_17 : decode cX10_setUp 17 = .ok (.getfield 53, 3) := by decide +kernel
theorem dX10_setUp_20 : decode cX10_setUp 20 = .ok (.iconst 1, 1) := by decide +kernel
theorem dX10_setUp_21 : decode cX10_setUp 21 = .ok (.iload_n 1, 1) := by decide +kernel
theorem dX10_setUp_22 : decode cX10_setUp 22 = .ok (.ishl, 1) := by decide +kernel
theorem dX10_setUp_23 : decode cX10_setUp 23 = .ok (.iconst (-1), 1) := by decide +kernel
theorem dX10_setUp_24 : decode cX10_setUp 24 = .ok (.ixor, 1) := by decide +kernel
theorem dX10_setUp_25 : decode cX10_setUp 25 = .ok (.iand, 1) := by decide +kernel
theorem dX10_setUp_26 : decode cX10_setUp 26 = .ok (.putfield 53, 3) := by decide +kernel
theorem dX10_setUp_29 : decode cX10_setUp 29 = .ok (.return_, 1) := by decide +kernel
theorem dX10_reaches_0 : decode cX10_reaches 0 = .ok (.aload_n 0, 1) := by decide +kernel
theorem dX10_reaches_1 : decode cX10_reaches 1 = .ok (.iload_n 1, 1) := by decide +kernel
theorem dX10_reaches_2 : decode cX10_reaches 2 = .ok (.invokevirtual 96, 3) := by decide +kernel
theorem dX10_reaches_5 : decode cX10_reaches 5 = .ok (.ifCond .eq 34, 3) := by decide +kernel
theorem dX10_reaches_8 : decode cX10_reaches 8 = .ok (.aload_n 0, 1) := by decide +kernel
theorem dX10_reaches_9 : decode cX10_reaches 9 = .ok (.iload_n 2, 1) := by decide +kernel
theorem dX10_reaches_10 : decode cX10_reaches 10 = .ok (.invokevirtual 96, 3) := by decide +kernel
theorem dX10_reaches_13 : decode cX10_reaches 13 = .ok (.ifCond .eq 26, 3) := by decide +kernel
theorem dX10_reaches_16 : decode cX10_reaches 16 = .ok (.aload_n 0, 1) := by decide +kernel
theorem dX10_reaches_17 : decode cX10_reaches 17 = .ok (.getfield 57, 3) := by decide +kernel
theorem dX10_reaches_20 : decode cX10_reaches 20 = .ok (.iload_n 1, 1) := by decide +kernel
theorem dX10_reaches_21 : decode cX10_reaches 21 = .ok (.ishr, 1) := by decide +kernel
theorem dX10_reaches_22 : decode cX10_reaches 22 = .ok (.iconst 1, 1) := by decide +kernel
theorem dX10_reaches_23 : decode cX10_reaches 23 = .ok (.iand, 1) := by decide +kernel
theorem dX10_reaches_24 : decode cX10_reaches 24 = .ok (.aload_n 0, 1) := by decide +kernel
theorem dX10_reaches_25 : decode cX10_reaches 25 = .ok (.getfield 57, 3) := by decide +kernel
theorem dX10_reaches_28 : decode cX10_reaches 28 = .ok (.iload_n 2, 1) := by decide +kernel
theorem dX10_reaches_29 : decode cX10_reaches 29 = .ok (.ishr, 1) := by decide +kernel
theorem dX10_reaches_30 : decode cX10_reaches 30 = .ok (.iconst 1, 1) := by decide +kernel
theorem dX10_reaches_31 : decode cX10_reaches 31 = .ok (.iand, 1) := by decide +kernel
theorem dX10_reaches_32 : decode cX10_reaches 32 = .ok (.if_icmp .ne 7, 3) := by decide +kernel
theorem dX10_reaches_35 : decode cX10_reaches 35 = .ok (.iconst 1, 1) := by decide +kernel
theorem dX10_reaches_36 : decode cX10_reaches 36 = .ok (.goto 4, 3) := by decide +kernel
theorem dX10_reaches_39 : decode cX10_reaches 39 = .ok (.iconst 0, 1) := by decide +kernel
theorem dX10_reaches_40 : decode cX10_reaches 40 = .ok (.ireturn, 1) := by decide +kernel
theorem dX10_hasTicket_0 : decode cX10_hasTicket 0 = .ok (.aload_n 0, 1) := by decide +kernel
theorem dX10_hasTicket_1 : decode cX10_hasTicket 1 = .ok (.getfield 60, 3) := by decide +kernel
theorem dX10_hasTicket_4 : decode cX10_hasTicket 4 = .ok (.iload_n 1, 1) := by decide +kernel
theorem dX10_hasTicket_5 : decode cX10_hasTicket 5 = .ok (.ishr, 1) := by decide +kernel
theorem dX10_hasTicket_6 : decode cX10_hasTicket 6 = .ok (.iconst 1, 1) := by decide +kernel
theorem dX10_hasTicket_7 : decode cX10_hasTicket 7 = .ok (.iand, 1) := by decide +kernel
theorem dX10_hasTicket_8 : decode cX10_hasTicket 8 = .ok (.ifCond .eq 7, 3) := by decide +kernel
theorem dX10_hasTicket_11 : decode cX10_hasTicket 11 = .ok (.iconst 1, 1) := by decide +kernel
theorem dX10_hasTicket_12 : decode cX10_hasTicket 12 = .ok (.goto 4, 3) := by decide +kernel
theorem dX10_hasTicket_15 : decode cX10_hasTicket 15 = .ok (.iconst 0, 1) := by decide +kernel
theorem dX10_hasTicket_16 : decode cX10_hasTicket 16 = .ok (.ireturn, 1) := by decide +kernel
theorem dX10_putValue_0 : decode cX10_putValue 0 = .ok (.iload_n 2, 1) := by decide +kernel
theorem dX10_putValue_1 : decode cX10_putValue 1 = .ok (.iload_n 1, 1) := by decide +kernel
theorem dX10_putValue_2 : decode cX10_putValue 2 = .ok (.invokestatic 100, 3) := by decide +kernel
theorem dX10_putValue_5 : decode cX10_putValue 5 = .ok (.istore 5, 2) := by decide +kernel
theorem dX10_putValue_7 : decode cX10_putValue 7 = .ok (.iload 4, 2) := by decide +kernel
theorem dX10_putValue_9 : decode cX10_putValue 9 = .ok (.iconst (-1), 1) := by decide +kernel
theorem dX10_putValue_10 : decode cX10_putValue 10 = .ok (.if_icmp .eq 18, 3) := by decide +kernel
theorem dX10_putValue_13 : decode cX10_putValue 13 = .ok (.aload_n 0, 1) := by decide +kernel
theorem dX10_putValue_14 : decode cX10_putValue 14 = .ok (.getfield 44, 3) := by decide +kernel
theorem dX10_putValue_17 : decode cX10_putValue 17 = .ok (.iload 4, 2) := by decide +kernel
theorem dX10_putValue_19 : decode cX10_putValue 19 = .ok (.iaload, 1) := by decide +kernel
theorem dX10_putValue_20 : decode cX10_putValue 20 = .ok (.iload_n 1, 1) := by decide +kernel
theorem dX10_putValue_21 : decode cX10_putValue 21 = .ok (.if_icmp .eq 7, 3) := by decide +kernel
theorem dX10_putValue_24 : decode cX10_putValue 24 = .ok (.iconst 1, 1) := by decide +kernel
theorem dX10_putValue_25 : decode cX10_putValue 25 = .ok (.goto 4, 3) := by decide +kernel
theorem dX10_putValue_28 : decode cX10_putValue 28 = .ok (.iconst 0, 1) := by decide +kernel
theorem dX10_putValue_29 : decode cX10_putValue 29 = .ok (.istore 6, 2) := by decide +kernel
theorem dX10_putValue_31 : decode cX10_putValue 31 = .ok (.aload_n 0, 1) := by decide +kernel
theorem dX10_putValue_32 : decode cX10_putValue 32 = .ok (.getfield 12, 3) := by decide +kernel
theorem dX10_putValue_35 : decode cX10_putValue 35 = .ok (.iload_n 1, 1) := by decide +kernel
theorem dX10_putValue_36 : decode cX10_putValue 36 = .ok (.invokevirtual 104, 3) := by decide +kernel
theorem dX10_putValue_39 : decode cX10_putValue 39 = .ok (.ifCond .ne 29, 3) := by decide +kernel
theorem dX10_putValue_42 : decode cX10_putValue 42 = .ok (.iload 6, 2) := by decide +kernel
theorem dX10_putValue_44 : decode cX10_putValue 44 = .ok (.ifCond .ne 24, 3) := by decide +kernel
theorem dX10_putValue_47 : decode cX10_putValue 47 = .ok (.aload_n 0, 1) := by decide +kernel
theorem dX10_putValue_48 : decode cX10_putValue 48 = .ok (.iload_n 1, 1) := by decide +kernel
theorem dX10_putValue_49 : decode cX10_putValue 49 = .ok (.iload_n 2, 1) := by decide +kernel
theorem dX10_putValue_50 : decode cX10_putValue 50 = .ok (.invokevirtual 107, 3) := by decide +kernel
theorem dX10_putValue_53 : decode cX10_putValue 53 = .ok (.ifCond .eq 15, 3) := by decide +kernel
theorem dX10_putValue_56 : decode cX10_putValue 56 = .ok (.aload_n 0, 1) := by decide +kernel
theorem dX10_putValue_57 : decode cX10_putValue 57 = .ok (.getfield 47, 3) := by decide +kernel
theorem dX10_putValue_60 : decode cX10_putValue 60 = .ok (.iload 5, 2) := by decide +kernel
theorem dX10_putValue_62 : decode cX10_putValue 62 = .ok (.iaload, 1) := by decide +kernel
theorem dX10_putValue_63 : decode cX10_putValue 63 = .ok (.bipush 30, 2) := by decide +kernel
theorem dX10_putValue_65 : decode cX10_putValue 65 = .ok (.if_icmp .lt 5, 3) := by decide +kernel
theorem dX10_putValue_68 : decode cX10_putValue 68 = .ok (.iconst (-1), 1) := by decide +kernel
theorem dX10_putValue_69 : decode cX10_putValue 69 = .ok (.ireturn, 1) := by decide +kernel
theorem dX10_putValue_70 : decode cX10_putValue 70 = .ok (.iload 4, 2) := by decide +kernel
theorem dX10_putValue_72 : decode cX10_putValue 72 = .ok (.iconst (-1), 1) := by decide +kernel
theorem dX10_putValue_73 : decode cX10_putValue 73 = .ok (.if_icmp .eq 18, 3) := by decide +kernel
theorem dX10_putValue_76 : decode cX10_putValue 76 = .ok (.aload_n 0, 1) := by decide +kernel
theorem dX10_putValue_77 : decode cX10_putValue 77 = .ok (.getfield 30, 3) := by decide +kernel
theorem dX10_putValue_80 : decode cX10_putValue 80 = .ok (.iload 5, 2) := by decide +kernel
theorem dX10_putValue_82 : decode cX10_putValue 82 = .ok (.aload_n 0, 1) := by decide +kernel
theorem dX10_putValue_83 : decode cX10_putValue 83 = .ok (.getfield 41, 3) := by decide +kernel
theorem dX10_putValue_86 : decode cX10_putValue 86 = .ok (.iload 4, 2) := by decide +kernel
theorem dX10_putValue_88 : decode cX10_putValue 88 = .ok (.invokevirtual 111, 3) := by decide +kernel
theorem dX10_putValue_91 : decode cX10_putValue 91 = .ok (.aload_n 0, 1) := by decide +kernel
theorem dX10_putValue_92 : decode cX10_putValue 92 = .ok (.getfield 47, 3) := by decide +kernel
theorem dX10_putValue_95 : decode cX10_putValue 95 = .ok (.iload 5, 2) := by decide +kernel
theorem dX10_putValue_97 : decode cX10_putValue 97 = .ok (.dup2, 1) := by decide +kernel
theorem dX10_putValue_98 : decode cX10_putValue 98 = .ok (.iaload, 1) := by decide +kernel
theorem dX10_putValue_99 : decode cX10_putValue 99 = .ok (.iconst 1, 1) := by decide +kernel
theorem dX10_putValue_100 : decode cX10_putValue 100 = .ok (.iadd, 1) := by decide +kernel
theorem dX10_putValue_101 : decode cX10_putValue 101 = .ok (.iastore, 1) := by decide +kernel
theorem dX10_putValue_102 : decode cX10_putValue 102 = .ok (.aload_n 0, 1) := by decide +kernel
theorem dX10_putValue_103 : decode cX10_putValue 103 = .ok (.getfield 50, 3) := by decide +kernel
theorem dX10_putValue_106 : decode cX10_putValue 106 = .ok (.iload_n 1, 1) := by decide +kernel
theorem dX10_putValue_107 : decode cX10_putValue 107 = .ok (.sipush 180, 3) := by decide +kernel
theorem dX10_putValue_110 : decode cX10_putValue 110 = .ok (.imul, 1) := by decide +kernel
theorem dX10_putValue_111 : decode cX10_putValue 111 = .ok (.iload_n 2, 1) := by decide +kernel
theorem dX10_putValue_112 : decode cX10_putValue 112 = .ok (.bipush 30, 2) := by decide +kernel
theorem dX10_putValue_114 : decode cX10_putValue 114 = .ok (.imul, 1) := by decide +kernel
theorem dX10_putValue_115 : decode cX10_putValue 115 = .ok (.iadd, 1) := by decide +kernel
theorem dX10_putValue_116 : decode cX10_putValue 116 = .ok (.aload_n 0, 1) := by decide +kernel
theorem dX10_putValue_117 : decode cX10_putValue 117 = .ok (.getfield 47, 3) := by decide +kernel
theorem dX10_putValue_120 : decode cX10_putValue 120 = .ok (.iload 5, 2) := by decide +kernel
theorem dX10_putValue_122 : decode cX10_putValue 122 = .ok (.iaload, 1) := by decide +kernel
theorem dX10_putValue_123 : decode cX10_putValue 123 = .ok (.iadd, 1) := by decide +kernel
theorem dX10_putValue_124 : decode cX10_putValue 124 = .ok (.iconst 1, 1) := by decide +kernel
theorem dX10_putValue_125 : decode cX10_putValue 125 = .ok (.isub, 1) := by decide +kernel
theorem dX10_putValue_126 : decode cX10_putValue 126 = .ok (.iload_n 3, 1) := by decide +kernel
theorem dX10_putValue_127 : decode cX10_putValue 127 = .ok (.iastore, 1) := by decide +kernel
theorem dX10_putValue_128 : decode cX10_putValue 128 = .ok (.aload_n 0, 1) := by decide +kernel
theorem dX10_putValue_129 : decode cX10_putValue 129 = .ok (.getfield 30, 3) := by decide +kernel
theorem dX10_putValue_132 : decode cX10_putValue 132 = .ok (.iload 5, 2) := by decide +kernel
theorem dX10_putValue_134 : decode cX10_putValue 134 = .ok (.iload_n 2, 1) := by decide +kernel
theorem dX10_putValue_135 : decode cX10_putValue 135 = .ok (.aload_n 0, 1) := by decide +kernel
theorem dX10_putValue_136 : decode cX10_putValue 136 = .ok (.getfield 47, 3) := by decide +kernel
theorem dX10_putValue_139 : decode cX10_putValue 139 = .ok (.iload 5, 2) := by decide +kernel
theorem dX10_putValue_141 : decode cX10_putValue 141 = .ok (.iaload, 1) := by decide +kernel
theorem dX10_putValue_142 : decode cX10_putValue 142 = .ok (.invokevirtual 115, 3) := by decide +kernel
theorem dX10_putValue_145 : decode cX10_putValue 145 = .ok (.aload_n 0, 1) := by decide +kernel
theorem dX10_putValue_146 : decode cX10_putValue 146 = .ok (.iload_n 1, 1) := by decide +kernel
theorem dX10_putValue_147 : decode cX10_putValue 147 = .ok (.iload_n 2, 1) := by decide +kernel
theorem dX10_putValue_148 : decode cX10_putValue 148 = .ok (.invokevirtual 119, 3) := by decide +kernel
theorem dX10_putValue_151 : decode cX10_putValue 151 = .ok (.ireturn, 1) := by decide +kernel
theorem dX10_addPart_0 : decode cX10_addPart 0 = .ok (.aload_n 0, 1) := by decide +kernel
theorem dX10_addPart_1 : decode cX10_addPart 1 = .ok (.getfield 12, 3) := by decide +kernel
theorem dX10_addPart_4 : decode cX10_addPart 4 = .ok (.iload_n 1, 1) := by decide +kernel
theorem dX10_addPart_5 : decode cX10_addPart 5 = .ok (.invokevirtual 104, 3) := by decide +kernel
theorem dX10_addPart_8 : decode cX10_addPart 8 = .ok (.ifCond .eq 12, 3) := by decide +kernel
theorem dX10_addPart_11 : decode cX10_addPart 11 = .ok (.aload_n 0, 1) := by decide +kernel
theorem dX10_addPart_12 : decode cX10_addPart 12 = .ok (.iload_n 1, 1) := by decide +kernel
theorem dX10_addPart_13 : decode cX10_addPart 13 = .ok (.iload_n 2, 1) := by decide +kernel
theorem dX10_addPart_14 : decode cX10_addPart 14 = .ok (.invokevirtual 107, 3) := by decide +kernel
theorem dX10_addPart_17 : decode cX10_addPart 17 = .ok (.ifCond .ne 5, 3) := by decide +kernel
theorem dX10_addPart_20 : decode cX10_addPart 20 = .ok (.iconst (-1), 1) := by decide +kernel
theorem dX10_addPart_21 : decode cX10_addPart 21 = .ok (.ireturn, 1) := by decide +kernel
theorem dX10_addPart_22 : decode cX10_addPart 22 = .ok (.aload_n 0, 1) := by decide +kernel
theorem dX10_addPart_23 : decode cX10_addPart 23 = .ok (.getfield 30, 3) := by decide +kernel
theorem dX10_addPart_26 : decode cX10_addPart 26 = .ok (.getfield 122, 3) := by decide +kernel
theorem dX10_addPart_29 : decode cX10_addPart 29 = .ok (.iload_n 2, 1) := by decide +kernel
theorem dX10_addPart_30 : decode cX10_addPart 30 = .ok (.iload_n 1, 1) := by decide +kernel
theorem dX10_addPart_31 : decode cX10_addPart 31 = .ok (.invokestatic 100, 3) := by decide +kernel
theorem dX10_addPart_34 : decode cX10_addPart 34 = .ok (.bipush 6, 2) := by decide +kernel
theorem dX10_addPart_36 : decode cX10_addPart 36 = .ok (.imul, 1) := by decide +kernel
theorem dX10_addPart_37 : decode cX10_addPart 37 = .ok (.iload_n 2, 1) := by decide +kernel
theorem dX10_addPart_38 : decode cX10_addPart 38 = .ok (.iadd, 1) := by decide +kernel
theorem dX10_addPart_39 : decode cX10_addPart 39 = .ok (.dup2, 1) := by decide +kernel
theorem dX10_addPart_40 : decode cX10_addPart 40 = .ok (.iaload, 1) := by decide +kernel
theorem dX10_addPart_41 : decode cX10_addPart 41 = .ok (.iload_n 3, 1) := by decide +kernel
theorem dX10_addPart_42 : decode cX10_addPart 42 = .ok (.iadd, 1) := by decide +kernel
theorem dX10_addPart_43 : decode cX10_addPart 43 = .ok (.iastore, 1) := by decide +kernel
theorem dX10_addPart_44 : decode cX10_addPart 44 = .ok (.aload_n 0, 1) := by decide +kernel
theorem dX10_addPart_45 : decode cX10_addPart 45 = .ok (.iload_n 1, 1) := by decide +kernel
theorem dX10_addPart_46 : decode cX10_addPart 46 = .ok (.iload_n 2, 1) := by decide +kernel
theorem dX10_addPart_47 : decode cX10_addPart 47 = .ok (.invokevirtual 119, 3) := by decide +kernel
theorem dX10_addPart_50 : decode cX10_addPart 50 = .ok (.ireturn, 1) := by decide +kernel
theorem dX10_canTake_0 : decode cX10_canTake 0 = .ok (.aload_n 0, 1) := by decide +kernel
theorem dX10_canTake_1 : decode cX10_canTake 1 = .ok (.getfield 12, 3) := by decide +kernel
theorem dX10_canTake_4 : decode cX10_canTake 4 = .ok (.iload_n 1, 1) := by decide +kernel
theorem dX10_canTake_5 : decode cX10_canTake 5 = .ok (.iload_n 2, 1) := by decide +kernel
theorem dX10_canTake_6 : decode cX10_canTake 6 = .ok (.invokevirtual 125, 3) := by decide +kernel
theorem dX10_canTake_9 : decode cX10_canTake 9 = .ok (.ifCond .eq 15, 3) := by decide +kernel
theorem dX10_canTake_12 : decode cX10_canTake 12 = .ok (.aload_n 0, 1) := by decide +kernel
theorem dX10_canTake_13 : decode cX10_canTake 13 = .ok (.iload_n 2, 1) := by decide +kernel
theorem dX10_canTake_14 : decode cX10_canTake 14 = .ok (.invokevirtual 96, 3) := by decide +kernel
theorem dX10_canTake_17 : decode cX10_canTake 17 = .ok (.ifCond .eq 7, 3) := by decide +kernel
theorem dX10_canTake_20 : decode cX10_canTake 20 = .ok (.iconst 1, 1) := by decide +kernel
theorem dX10_canTake_21 : decode cX10_canTake 21 = .ok (.goto 4, 3) := by decide +kernel
theorem dX10_canTake_24 : decode cX10_canTake 24 = .ok (.iconst 0, 1) := by decide +kernel
theorem dX10_canTake_25 : decode cX10_canTake 25 = .ok (.ireturn, 1) := by decide +kernel
theorem dX10_giveOut_0 : decode cX10_giveOut 0 = .ok (.iload_n 2, 1) := by decide +kernel
theorem dX10_giveOut_1 : decode cX10_giveOut 1 = .ok (.iload_n 1, 1) := by decide +kernel
theorem dX10_giveOut_2 : decode cX10_giveOut 2 = .ok (.invokestatic 100, 3) := by decide +kernel
theorem dX10_giveOut_5 : decode cX10_giveOut 5 = .ok (.istore_n 3, 1) := by decide +kernel
theorem dX10_giveOut_6 : decode cX10_giveOut 6 = .ok (.aload_n 0, 1) := by decide +kernel
theorem dX10_giveOut_7 : decode cX10_giveOut 7 = .ok (.getfield 12, 3) := by decide +kernel
theorem dX10_giveOut_10 : decode cX10_giveOut 10 = .ok (.getfield 128, 3) := by decide +kernel
theorem dX10_giveOut_13 : decode cX10_giveOut 13 = .ok (.aload_n 0, 1) := by decide +kernel
theorem dX10_giveOut_14 : decode cX10_giveOut 14 = .ok (.getfield 12, 3) := by decide +kernel
theorem dX10_giveOut_17 : decode cX10_giveOut 17 = .ok (.getfield 131, 3) := by decide +kernel
theorem dX10_giveOut_20 : decode cX10_giveOut 20 = .ok (.invokestatic 134, 3) := by decide +kernel
theorem dX10_giveOut_23 : decode cX10_giveOut 23 = .ok (.istore 4, 2) := by decide +kernel
theorem dX10_giveOut_25 : decode cX10_giveOut 25 = .ok (.iload 4, 2) := by decide +kernel
theorem dX10_giveOut_27 : decode cX10_giveOut 27 = .ok (.istore 5, 2) := by decide +kernel
theorem dX10_giveOut_29 : decode cX10_giveOut 29 = .ok (.iconst 1, 1) := by decide +kernel
theorem dX10_giveOut_30 : decode cX10_giveOut 30 = .ok (.istore 6, 2) := by decide +kernel
theorem dX10_giveOut_32 : decode cX10_giveOut 32 = .ok (.iconst 0, 1) := by decide +kernel
theorem dX10_giveOut_33 : decode cX10_giveOut 33 = .ok (.istore 7, 2) := by decide +kernel
theorem dX10_giveOut_35 : decode cX10_giveOut 35 = .ok (.iload 7, 2) := by decide +kernel
theorem dX10_giveOut_37 : decode cX10_giveOut 37 = .ok (.iload 4, 2) := by decide +kernel
theorem dX10_giveOut_39 : decode cX10_giveOut 39 = .ok (.if_icmp .ge 113, 3) := by decide +kernel
theorem dX10_giveOut_42 : decode cX10_giveOut 42 = .ok (.aload_n 0, 1) := by decide +kernel
theorem dX10_giveOut_43 : decode cX10_giveOut 43 = .ok (.getfield 12, 3) := by decide +kernel
theorem dX10_giveOut_46 : decode cX10_giveOut 46 = .ok (.iload_n 1, 1) := by decide +kernel
theorem dX10_giveOut_47 : decode cX10_giveOut 47 = .ok (.iload 7, 2) := by decide +kernel
theorem dX10_giveOut_49 : decode cX10_giveOut 49 = .ok (.invokevirtual 139, 3) := by decide +kernel
theorem dX10_giveOut_52 : decode cX10_giveOut 52 = .ok (.istore 8, 2) := by decide +kernel
theorem dX10_giveOut_54 : decode cX10_giveOut 54 = .ok (.iload 8, 2) := by decide +kernel
theorem dX10_giveOut_56 : decode cX10_giveOut 56 = .ok (.iload_n 2, 1) := by decide +kernel
theorem dX10_giveOut_57 : decode cX10_giveOut 57 = .ok (.if_icmp .eq 37, 3) := by decide +kernel
theorem dX10_giveOut_60 : decode cX10_giveOut 60 = .ok (.aload_n 0, 1) := by decide +kernel
theorem dX10_giveOut_61 : decode cX10_giveOut 61 = .ok (.iload_n 2, 1) := by decide +kernel
theorem dX10_giveOut_62 : decode cX10_giveOut 62 = .ok (.iload 8, 2) := by decide +kernel
theorem dX10_giveOut_64 : decode cX10_giveOut 64 = .ok (.invokevirtual 142, 3) := by decide +kernel
theorem dX10_giveOut_67 : decode cX10_giveOut 67 = .ok (.ifCond .eq 27, 3) := by decide +kernel
theorem dX10_giveOut_70 : decode cX10_giveOut 70 = .ok (.aload_n 0, 1) := by decide +kernel
theorem dX10_giveOut_71 : decode cX10_giveOut 71 = .ok (.getfield 30, 3) := by decide +kernel
theorem dX10_giveOut_74 : decode cX10_giveOut 74 = .ok (.iload 8, 2) := by decide +kernel
theorem dX10_giveOut_76 : decode cX10_giveOut 76 = .ok (.iload_n 1, 1) := by decide +kernel
theorem dX10_giveOut_77 : decode cX10_giveOut 77 = .ok (.invokestatic 100, 3) := by decide +kernel
theorem dX10_giveOut_80 : decode cX10_giveOut 80 = .ok (.aload_n 0, 1) := by decide +kernel
theorem dX10_giveOut_81 : decode cX10_giveOut 81 = .ok (.getfield 30, 3) := by decide +kernel
theorem dX10_giveOut_84 : decode cX10_giveOut 84 = .ok (.iload_n 3, 1) := by decide +kernel
theorem dX10_giveOut_85 : decode cX10_giveOut 85 = .ok (.invokevirtual 111, 3) := by decide +kernel
theorem dX10_giveOut_88 : decode cX10_giveOut 88 = .ok (.iinc 6 1, 3) := by decide +kernel
theorem dX10_giveOut_91 : decode cX10_giveOut 91 = .ok (.goto 55, 3) := by decide +kernel
theorem dX10_giveOut_94 : decode cX10_giveOut 94 = .ok (.iload 8, 2) := by decide +kernel
theorem dX10_giveOut_96 : decode cX10_giveOut 96 = .ok (.iload_n 2, 1) := by decide +kernel
theorem dX10_giveOut_97 : decode cX10_giveOut 97 = .ok (.if_icmp .eq 49, 3) := by decide +kernel
theorem dX10_giveOut_100 : decode cX10_giveOut 100 = .ok (.aload_n 0, 1) := by decide +kernel
theorem dX10_giveOut_101 : decode cX10_giveOut 101 = .ok (.iload_n 1, 1) := by decide +kernel
theorem dX10_giveOut_102 : decode cX10_giveOut 102 = .ok (.iload_n 2, 1) := by decide +kernel
theorem dX10_giveOut_103 : decode cX10_giveOut 103 = .ok (.iload 5, 2) := by decide +kernel
theorem dX10_giveOut_105 : decode cX10_giveOut 105 = .ok (.invokevirtual 145, 3) := by decide +kernel
theorem dX10_giveOut_108 : decode cX10_giveOut 108 = .ok (.istore 5, 2) := by decide +kernel
theorem dX10_giveOut_110 : decode cX10_giveOut 110 = .ok (.iload 5, 2) := by decide +kernel
theorem dX10_giveOut_112 : decode cX10_giveOut 112 = .ok (.aload_n 0, 1) := by decide +kernel
theorem dX10_giveOut_113 : decode cX10_giveOut 113 = .ok (.getfield 12, 3) := by decide +kernel
theorem dX10_giveOut_116 : decode cX10_giveOut 116 = .ok (.getfield 131, 3) := by decide +kernel
theorem dX10_giveOut_119 : decode cX10_giveOut 119 = .ok (.if_icmp .ge 27, 3) := by decide +kernel
theorem dX10_giveOut_122 : decode cX10_giveOut 122 = .ok (.aload_n 0, 1) := by decide +kernel
theorem dX10_giveOut_123 : decode cX10_giveOut 123 = .ok (.aload_n 0, 1) := by decide +kernel
theorem dX10_giveOut_124 : decode cX10_giveOut 124 = .ok (.getfield 12, 3) := by decide +kernel
theorem dX10_giveOut_127 : decode cX10_giveOut 127 = .ok (.iload_n 1, 1) := by decide +kernel
theorem dX10_giveOut_128 : decode cX10_giveOut 128 = .ok (.iload 5, 2) := by decide +kernel
theorem dX10_giveOut_130 : decode cX10_giveOut 130 = .ok (.invokevirtual 139, 3) := by decide +kernel
theorem dX10_giveOut_133 : decode cX10_giveOut 133 = .ok (.iload 8, 2) := by decide +kernel
theorem dX10_giveOut_135 : decode cX10_giveOut 135 = .ok (.iload_n 1, 1) := by decide +kernel
theorem dX10_giveOut_136 : decode cX10_giveOut 136 = .ok (.iload_n 3, 1) := by decide +kernel
theorem dX10_giveOut_137 : decode cX10_giveOut 137 = .ok (.invokevirtual 149, 3) := by decide +kernel
theorem dX10_giveOut_140 : decode cX10_giveOut 140 = .ok (.iinc 6 1, 3) := by decide +kernel
theorem dX10_giveOut_143 : decode cX10_giveOut 143 = .ok (.iinc 5 1, 3) := by decide +kernel
theorem dX10_giveOut_146 : decode cX10_giveOut 146 = .ok (.iinc 7 1, 3) := by decide +kernel
theorem dX10_giveOut_149 : decode cX10_giveOut 149 = .ok (.goto (-114), 3) := by decide +kernel
theorem dX10_giveOut_152 : decode cX10_giveOut 152 = .ok (.iload 6, 2) := by decide +kernel
theorem dX10_giveOut_154 : decode cX10_giveOut 154 = .ok (.ireturn, 1) := by decide +kernel
theorem dX10_nextWatcher_0 : decode cX10_nextWatcher 0 = .ok (.iload_n 3, 1) := by decide +kernel
theorem dX10_nextWatcher_1 : decode cX10_nextWatcher 1 = .ok (.istore 4, 2) := by decide +kernel
theorem dX10_nextWatcher_3 : decode cX10_nextWatcher 3 = .ok (.iload 4, 2) := by decide +kernel
theorem dX10_nextWatcher_5 : decode cX10_nextWatcher 5 = .ok (.aload_n 0, 1) := by decide +kernel
theorem dX10_nextWatcher_6 : decode cX10_nextWatcher 6 = .ok (.getfield 12, 3) := by decide +kernel
theorem dX10_nextWatcher_9 : decode cX10_nextWatcher 9 = .ok (.getfield 131, 3) := by decide +kernel
theorem dX10_nextWatcher_12 : decode cX10_nextWatcher 12 = .ok (.if_icmp .ge 30, 3) := by decide +kernel
theorem dX10_nextWatcher_15 : decode cX10_nextWatcher 15 = .ok (.aload_n 0, 1) := by decide +kernel
theorem dX10_nextWatcher_16 : decode cX10_nextWatcher 16 = .ok (.iload_n 2, 1) := by decide +kernel
theorem dX10_nextWatcher_17 : decode cX10_nextWatcher 17 = .ok (.aload_n 0, 1) := by decide +kernel
theorem dX10_nextWatcher_18 : decode cX10_nextWatcher 18 = .ok (.getfield 12, 3) := by decide +kernel
theorem dX10_nextWatcher_21 : decode cX10_nextWatcher 21 = .ok (.iload_n 1, 1) := by decide +kernel
theorem dX10_nextWatcher_22 : decode cX10_nextWatcher 22 = .ok (.iload 4, 2) := by decide +kernel
theorem dX10_nextWatcher_24 : decode cX10_nextWatcher 24 = .ok (.invokevirtual 139, 3) := by decide +kernel
theorem dX10_nextWatcher_27 : decode cX10_nextWatcher 27 = .ok (.invokevirtual 142, 3) := by decide +kernel
theorem dX10_nextWatcher_30 : decode cX10_nextWatcher 30 = .ok (.ifCond .eq 6, 3) := by decide +kernel
theorem dX10_nextWatcher_33 : decode cX10_nextWatcher 33 = .ok (.iload 4, 2) := by decide +kernel
theorem dX10_nextWatcher_35 : decode cX10_nextWatcher 35 = .ok (.ireturn, 1) := by decide +kernel
theorem dX10_nextWatcher_36 : decode cX10_nextWatcher 36 = .ok (.iinc 4 1, 3) := by decide +kernel
theorem dX10_nextWatcher_39 : decode cX10_nextWatcher 39 = .ok (.goto (-36), 3) := by decide +kernel
theorem dX10_nextWatcher_42 : decode cX10_nextWatcher 42 = .ok (.aload_n 0, 1) := by decide +kernel
theorem dX10_nextWatcher_43 : decode cX10_nextWatcher 43 = .ok (.getfield 12, 3) := by decide +kernel
theorem dX10_nextWatcher_46 : decode cX10_nextWatcher 46 = .ok (.getfield 131, 3) := by decide +kernel
theorem dX10_nextWatcher_49 : decode cX10_nextWatcher 49 = .ok (.ireturn, 1) := by decide +kernel
theorem dX10_takeHint_0 : decode cX10_takeHint 0 = .ok (.iload_n 1, 1) := by decide +kernel
theorem dX10_takeHint_1 : decode cX10_takeHint 1 = .ok (.bipush 6, 2) := by decide +kernel
theorem dX10_takeHint_3 : decode cX10_takeHint 3 = .ok (.imul, 1) := by decide +kernel
theorem dX10_takeHint_4 : decode cX10_takeHint 4 = .ok (.iload_n 2, 1) := by decide +kernel
theorem dX10_takeHint_5 : decode cX10_takeHint 5 = .ok (.iadd, 1) := by decide +kernel
theorem dX10_takeHint_6 : decode cX10_takeHint 6 = .ok (.istore 5, 2) := by decide +kernel
theorem dX10_takeHint_8 : decode cX10_takeHint 8 = .ok (.aload_n 0, 1) := by decide +kernel
theorem dX10_takeHint_9 : decode cX10_takeHint 9 = .ok (.getfield 37, 3) := by decide +kernel
theorem dX10_takeHint_12 : decode cX10_takeHint 12 = .ok (.iload 5, 2) := by decide +kernel
theorem dX10_takeHint_14 : decode cX10_takeHint 14 = .ok (.dup2, 1) := by decide +kernel
theorem dX10_takeHint_15 : decode cX10_takeHint 15 = .ok (.iaload, 1) := by decide +kernel
theorem dX10_takeHint_16 : decode cX10_takeHint 16 = .ok (.iconst 1, 1) := by decide +kernel
theorem dX10_takeHint_17 : decode cX10_takeHint 17 = .ok (.iload_n 3, 1) := by decide +kernel
theorem dX10_takeHint_18 : decode cX10_takeHint 18 = .ok (.ishl, 1) := by decide +kernel
theorem dX10_takeHint_19 : decode cX10_takeHint 19 = .ok (.ior, 1) := by decide +kernel
theorem dX10_takeHint_20 : decode cX10_takeHint 20 = .ok (.iastore, 1) := by decide +kernel
theorem dX10_takeHint_21 : decode cX10_takeHint 21 = .ok (.aload_n 0, 1) := by decide +kernel
theorem dX10_takeHint_22 : decode cX10_takeHint 22 = .ok (.getfield 34, 3) := by decide +kernel
theorem dX10_takeHint_25 : decode cX10_takeHint 25 = .ok (.iload 5, 2) := by decide +kernel
theorem dX10_takeHint_27 : decode cX10_takeHint 27 = .ok (.bipush 6, 2) := by decide +kernel
theorem dX10_takeHint_29 : decode cX10_takeHint 29 = .ok (.imul, 1) := by decide +kernel
theorem dX10_takeHint_30 : decode cX10_takeHint 30 = .ok (.iload_n 3, 1) := by decide +kernel
theorem dX10_takeHint_31 : decode cX10_takeHint 31 = .ok (.iadd, 1) := by decide +kernel
theorem dX10_takeHint_32 : decode cX10_takeHint 32 = .ok (.aload_n 0, 1) := by decide +kernel
theorem dX10_takeHint_33 : decode cX10_takeHint 33 = .ok (.getfield 30, 3) := by decide +kernel
theorem dX10_takeHint_36 : decode cX10_takeHint 36 = .ok (.iload 4, 2) := by decide +kernel
theorem dX10_takeHint_38 : decode cX10_takeHint 38 = .ok (.invokevirtual 111, 3) := by decide +kernel
theorem dX10_takeHint_41 : decode cX10_takeHint 41 = .ok (.return_, 1) := by decide +kernel
theorem dX10_dropHints_0 : decode cX10_dropHints 0 = .ok (.aload_n 0, 1) := by decide +kernel
theorem dX10_dropHints_1 : decode cX10_dropHints 1 = .ok (.getfield 37, 3) := by decide +kernel
theorem dX10_dropHints_4 : decode cX10_dropHints 4 = .ok (.iload_n 1, 1) := by decide +kernel
theorem dX10_dropHints_5 : decode cX10_dropHints 5 = .ok (.iaload, 1) := by decide +kernel
theorem dX10_dropHints_6 : decode cX10_dropHints 6 = .ok (.ifCond .ne 4, 3) := by decide +kernel
theorem dX10_dropHints_9 : decode cX10_dropHints 9 = .ok (.return_, 1) := by decide +kernel
theorem dX10_dropHints_10 : decode cX10_dropHints 10 = .ok (.iconst 0, 1) := by decide +kernel
theorem dX10_dropHints_11 : decode cX10_dropHints 11 = .ok (.istore_n 2, 1) := by decide +kernel
theorem dX10_dropHints_12 : decode cX10_dropHints 12 = .ok (.iload_n 2, 1) := by decide +kernel
theorem dX10_dropHints_13 : decode cX10_dropHints 13 = .ok (.aload_n 0, 1) := by decide +kernel
theorem dX10_dropHints_14 : decode cX10_dropHints 14 = .ok (.getfield 12, 3) := by decide +kernel
theorem dX10_dropHints_17 : decode cX10_dropHints 17 = .ok (.getfield 153, 3) := by decide +kernel
theorem dX10_dropHints_20 : decode cX10_dropHints 20 = .ok (.if_icmp .ge 22, 3) := by decide +kernel
theorem dX10_dropHints_23 : decode cX10_dropHints 23 = .ok (.aload_n 0, 1) := by decide +kernel
theorem dX10_dropHints_24 : decode cX10_dropHints 24 = .ok (.getfield 34, 3) := by decide +kernel
theorem dX10_dropHints_27 : decode cX10_dropHints 27 = .ok (.iload_n 1, 1) := by decide +kernel
theorem dX10_dropHints_28 : decode cX10_dropHints 28 = .ok (.bipush 6, 2) := by decide +kernel
theorem dX10_dropHints_30 : decode cX10_dropHints 30 = .ok (.imul, 1) := by decide +kernel
theorem dX10_dropHints_31 : decode cX10_dropHints 31 = .ok (.iload_n 2, 1) := by decide +kernel
theorem dX10_dropHints_32 : decode cX10_dropHints 32 = .ok (.iadd, 1) := by decide +kernel
theorem dX10_dropHints_33 : decode cX10_dropHints 33 = .ok (.invokevirtual 156, 3) := by decide +kernel
theorem dX10_dropHints_36 : decode cX10_dropHints 36 = .ok (.iinc 2 1, 3) := by decide +kernel
theorem dX10_dropHints_39 : decode cX10_dropHints 39 = .ok (.goto (-27), 3) := by decide +kernel
theorem dX10_dropHints_42 : decode cX10_dropHints 42 = .ok (.aload_n 0, 1) := by decide +kernel
theorem dX10_dropHints_43 : decode cX10_dropHints 43 = .ok (.getfield 37, 3) := by decide +kernel
theorem dX10_dropHints_46 : decode cX10_dropHints 46 = .ok (.iload_n 1, 1) := by decide +kernel
theorem dX10_dropHints_47 : decode cX10_dropHints 47 = .ok (.iconst 0, 1) := by decide +kernel
theorem dX10_dropHints_48 : decode cX10_dropHints 48 = .ok (.iastore, 1) := by decide +kernel
theorem dX10_dropHints_49 : decode cX10_dropHints 49 = .ok (.return_, 1) := by decide +kernel
theorem dX10_hintCount_0 : decode cX10_hintCount 0 = .ok (.iconst 0, 1) := by decide +kernel
theorem dX10_hintCount_1 : decode cX10_hintCount 1 = .ok (.istore_n 2, 1) := by decide +kernel
theorem dX10_hintCount_2 : decode cX10_hintCount 2 = .ok (.iconst 0, 1) := by decide +kernel
theorem dX10_hintCount_3 : decode cX10_hintCount 3 = .ok (.istore_n 3, 1) := by decide +kernel
theorem dX10_hintCount_4 : decode cX10_hintCount 4 = .ok (.iload_n 3, 1) := by decide +kernel
theorem dX10_hintCount_5 : decode cX10_hintCount 5 = .ok (.aload_n 0, 1) := by decide +kernel
theorem dX10_hintCount_6 : decode cX10_hintCount 6 = .ok (.getfield 12, 3) := by decide +kernel
theorem dX10_hintCount_9 : decode cX10_hintCount 9 = .ok (.getfield 131, 3) := by decide +kernel
theorem dX10_hintCount_12 : decode cX10_hintCount 12 = .ok (.if_icmp .ge 26, 3) := by decide +kernel
theorem dX10_hintCount_15 : decode cX10_hintCount 15 = .ok (.iload_n 2, 1) := by decide +kernel
theorem dX10_hintCount_16 : decode cX10_hintCount 16 = .ok (.aload_n 0, 1) := by decide +kernel
theorem dX10_hintCount_17 : decode cX10_hintCount 17 = .ok (.getfield 37, 3) := by decide +kernel
theorem dX10_hintCount_20 : decode cX10_hintCount 20 = .ok (.iload_n 1, 1) := by decide +kernel
theorem dX10_hintCount_21 : decode cX10_hintCount 21 = .ok (.bipush 6, 2) := by decide +kernel
theorem dX10_hintCount_23 : decode cX10_hintCount 23 = .ok (.imul, 1) := by decide +kernel
theorem dX10_hintCount_24 : decode cX10_hintCount 24 = .ok (.iload_n 3, 1) := by decide +kernel
theorem dX10_hintCount_25 : decode cX10_hintCount 25 = .ok (.iadd, 1) := by decide +kernel
theorem dX10_hintCount_26 : decode cX10_hintCount 26 = .ok (.iaload, 1) := by decide +kernel
theorem dX10_hintCount_27 : decode cX10_hintCount 27 = .ok (.invokestatic 159, 3) := by decide +kernel
theorem dX10_hintCount_30 : decode cX10_hintCount 30 = .ok (.iadd, 1) := by decide +kernel
theorem dX10_hintCount_31 : decode cX10_hintCount 31 = .ok (.istore_n 2, 1) := by decide +kernel
theorem dX10_hintCount_32 : decode cX10_hintCount 32 = .ok (.iinc 3 1, 3) := by decide +kernel
theorem dX10_hintCount_35 : decode cX10_hintCount 35 = .ok (.goto (-31), 3) := by decide +kernel
theorem dX10_hintCount_38 : decode cX10_hintCount 38 = .ok (.iload_n 2, 1) := by decide +kernel
theorem dX10_hintCount_39 : decode cX10_hintCount 39 = .ok (.ireturn, 1) := by decide +kernel
theorem dX10_wipeAll_0 : decode cX10_wipeAll 0 = .ok (.iconst 0, 1) := by decide +kernel
theorem dX10_wipeAll_1 : decode cX10_wipeAll 1 = .ok (.istore_n 2, 1) := by decide +kernel
theorem dX10_wipeAll_2 : decode cX10_wipeAll 2 = .ok (.iload_n 2, 1) := by decide +kernel
theorem dX10_wipeAll_3 : decode cX10_wipeAll 3 = .ok (.aload_n 0, 1) := by decide +kernel
theorem dX10_wipeAll_4 : decode cX10_wipeAll 4 = .ok (.getfield 12, 3) := by decide +kernel
theorem dX10_wipeAll_7 : decode cX10_wipeAll 7 = .ok (.getfield 153, 3) := by decide +kernel
theorem dX10_wipeAll_10 : decode cX10_wipeAll 10 = .ok (.if_icmp .ge 21, 3) := by decide +kernel
theorem dX10_wipeAll_13 : decode cX10_wipeAll 13 = .ok (.aload_n 0, 1) := by decide +kernel
theorem dX10_wipeAll_14 : decode cX10_wipeAll 14 = .ok (.getfield 30, 3) := by decide +kernel
theorem dX10_wipeAll_17 : decode cX10_wipeAll 17 = .ok (.iload_n 1, 1) := by decide +kernel
theorem dX10_wipeAll_18 : decode cX10_wipeAll 18 = .ok (.iload_n 2, 1) := by decide +kernel
theorem dX10_wipeAll_19 : decode cX10_wipeAll 19 = .ok (.invokestatic 100, 3) := by decide +kernel
theorem dX10_wipeAll_22 : decode cX10_wipeAll 22 = .ok (.invokevirtual 156, 3) := by decide +kernel
theorem dX10_wipeAll_25 : decode cX10_wipeAll 25 = .ok (.iinc 2 1, 3) := by decide +kernel
theorem dX10_wipeAll_28 : decode cX10_wipeAll 28 = .ok (.goto (-26), 3) := by decide +kernel
theorem dX10_wipeAll_31 : decode cX10_wipeAll 31 = .ok (.iconst 0, 1) := by decide +kernel
theorem dX10_wipeAll_32 : decode cX10_wipeAll 32 = .ok (.istore_n 2, 1) := by decide +kernel
theorem dX10_wipeAll_33 : decode cX10_wipeAll 33 = .ok (.iload_n 2, 1) := by decide +kernel
theorem dX10_wipeAll_34 : decode cX10_wipeAll 34 = .ok (.aload_n 0, 1) := by decide +kernel
theorem dX10_wipeAll_35 : decode cX10_wipeAll 35 = .ok (.getfield 12, 3) := by decide +kernel
theorem dX10_wipeAll_38 : decode cX10_wipeAll 38 = .ok (.getfield 131, 3) := by decide +kernel
theorem dX10_wipeAll_41 : decode cX10_wipeAll 41 = .ok (.if_icmp .ge 19, 3) := by decide +kernel
theorem dX10_wipeAll_44 : decode cX10_wipeAll 44 = .ok (.aload_n 0, 1) := by decide +kernel
theorem dX10_wipeAll_45 : decode cX10_wipeAll 45 = .ok (.iload_n 1, 1) := by decide +kernel
theorem dX10_wipeAll_46 : decode cX10_wipeAll 46 = .ok (.bipush 6, 2) := by decide +kernel
theorem dX10_wipeAll_48 : decode cX10_wipeAll 48 = .ok (.imul, 1) := by decide +kernel
theorem dX10_wipeAll_49 : decode cX10_wipeAll 49 = .ok (.iload_n 2, 1) := by decide +kernel
theorem dX10_wipeAll_50 : decode cX10_wipeAll 50 = .ok (.iadd, 1) := by decide +kernel
theorem dX10_wipeAll_51 : decode cX10_wipeAll 51 = .ok (.invokevirtual 165, 3) := by decide +kernel
theorem dX10_wipeAll_54 : decode cX10_wipeAll 54 = .ok (.iinc 2 1, 3) := by decide +kernel
theorem dX10_wipeAll_57 : decode cX10_wipeAll 57 = .ok (.goto (-24), 3) := by decide +kernel
theorem dX10_wipeAll_60 : decode cX10_wipeAll 60 = .ok (.return_, 1) := by decide +kernel
theorem dX10_handOn_0 : decode cX10_handOn 0 = .ok (.iconst 0, 1) := by decide +kernel
theorem dX10_handOn_1 : decode cX10_handOn 1 = .ok (.istore_n 1, 1) := by decide +kernel
theorem dX10_handOn_2 : decode cX10_handOn 2 = .ok (.iconst 0, 1) := by decide +kernel
theorem dX10_handOn_3 : decode cX10_handOn 3 = .ok (.istore_n 2, 1) := by decide +kernel
theorem dX10_handOn_4 : decode cX10_handOn 4 = .ok (.iload_n 2, 1) := by decide +kernel
theorem dX10_handOn_5 : decode cX10_handOn 5 = .ok (.aload_n 0, 1) := by decide +kernel
theorem dX10_handOn_6 : decode cX10_handOn 6 = .ok (.getfield 12, 3) := by decide +kernel
theorem dX10_handOn_9 : decode cX10_handOn 9 = .ok (.getfield 131, 3) := by decide +kernel
theorem dX10_handOn_12 : decode cX10_handOn 12 = .ok (.if_icmp .ge 51, 3) := by decide +kernel
theorem dX10_handOn_15 : decode cX10_handOn 15 = .ok (.iconst 0, 1) := by decide +kernel
theorem dX10_handOn_16 : decode cX10_handOn 16 = .ok (.istore_n 3, 1) := by decide +kernel
theorem dX10_handOn_17 : decode cX10_handOn 17 = .ok (.iload_n 3, 1) := by decide +kernel
theorem dX10_handOn_18 : decode cX10_handOn 18 = .ok (.aload_n 0, 1) := by decide +kernel
theorem dX10_handOn_19 : decode cX10_handOn 19 = .ok (.getfield 12, 3) := by decide +kernel
theorem dX10_handOn_22 : decode cX10_handOn 22 = .ok (.getfield 131, 3) := by decide +kernel
theorem dX10_handOn_25 : decode cX10_handOn 25 = .ok (.if_icmp .ge 32, 3) := by decide +kernel
theorem dX10_handOn_28 : decode cX10_handOn 28 = .ok (.aload_n 0, 1) := by decide +kernel
theorem dX10_handOn_29 : decode cX10_handOn 29 = .ok (.iload_n 2, 1) := by decide +kernel
theorem dX10_handOn_30 : decode cX10_handOn 30 = .ok (.iload_n 3, 1) := by decide +kernel
theorem dX10_handOn_31 : decode cX10_handOn 31 = .ok (.invokevirtual 142, 3) := by decide +kernel
theorem dX10_handOn_34 : decode cX10_handOn 34 = .ok (.ifCond .eq 17, 3) := by decide +kernel
theorem dX10_handOn_37 : decode cX10_handOn 37 = .ok (.iload_n 1, 1) := by decide +kernel
theorem dX10_handOn_38 : decode cX10_handOn 38 = .ok (.aload_n 0, 1) := by decide +kernel
theorem dX10_handOn_39 : decode cX10_handOn 39 = .ok (.iload_n 2, 1) := by decide +kernel
theorem dX10_handOn_40 : decode cX10_handOn 40 = .ok (.bipush 6, 2) := by decide +kernel
theorem dX10_handOn_42 : decode cX10_handOn 42 = .ok (.imul, 1) := by decide +kernel
theorem dX10_handOn_43 : decode cX10_handOn 43 = .ok (.iload_n 3, 1) := by decide +kernel
theorem dX10_handOn_44 : decode cX10_handOn 44 = .ok (.iadd, 1) := by decide +kernel
theorem dX10_handOn_45 : decode cX10_handOn 45 = .ok (.iload_n 3, 1) := by decide +kernel
theorem dX10_handOn_46 : decode cX10_handOn 46 = .ok (.invokevirtual 168, 3) := by decide +kernel
theorem dX10_handOn_49 : decode cX10_handOn 49 = .ok (.iadd, 1) := by decide +kernel
theorem dX10_handOn_50 : decode cX10_handOn 50 = .ok (.istore_n 1, 1) := by decide +kernel
theorem dX10_handOn_51 : decode cX10_handOn 51 = .ok (.iinc 3 1, 3) := by decide +kernel
theorem dX10_handOn_54 : decode cX10_handOn 54 = .ok (.goto (-37), 3) := by decide +kernel
theorem dX10_handOn_57 : decode cX10_handOn 57 = .ok (.iinc 2 1, 3) := by decide +kernel
theorem dX10_handOn_60 : decode cX10_handOn 60 = .ok (.goto (-56), 3) := by decide +kernel
theorem dX10_handOn_63 : decode cX10_handOn 63 = .ok (.iload_n 1, 1) := by decide +kernel
theorem dX10_handOn_64 : decode cX10_handOn 64 = .ok (.ireturn, 1) := by decide +kernel
theorem dX10_handTo_0 : decode cX10_handTo 0 = .ok (.aload_n 0, 1) := by decide +kernel
theorem dX10_handTo_1 : decode cX10_handTo 1 = .ok (.getfield 37, 3) := by decide +kernel
theorem dX10_handTo_4 : decode cX10_handTo 4 = .ok (.iload_n 1, 1) := by decide +kernel
theorem dX10_handTo_5 : decode cX10_handTo 5 = .ok (.iaload, 1) := by decide +kernel
theorem dX10_handTo_6 : decode cX10_handTo 6 = .ok (.istore_n 3, 1) := by decide +kernel
theorem dX10_handTo_7 : decode cX10_handTo 7 = .ok (.iconst 0, 1) := by decide +kernel
theorem dX10_handTo_8 : decode cX10_handTo 8 = .ok (.istore 4, 2) := by decide +kernel
theorem dX10_handTo_10 : decode cX10_handTo 10 = .ok (.iload 4, 2) := by decide +kernel
theorem dX10_handTo_12 : decode cX10_handTo 12 = .ok (.aload_n 0, 1) := by decide +kernel
theorem dX10_handTo_13 : decode cX10_handTo 13 = .ok (.getfield 12, 3) := by decide +kernel
theorem dX10_handTo_16 : decode cX10_handTo 16 = .ok (.getfield 153, 3) := by decide +kernel
theorem dX10_handTo_19 : decode cX10_handTo 19 = .ok (.if_icmp .ge 42, 3) := by decide +kernel
theorem dX10_handTo_22 : decode cX10_handTo 22 = .ok (.iload_n 3, 1) := by decide +kernel
theorem dX10_handTo_23 : decode cX10_handTo 23 = .ok (.iload 4, 2) := by decide +kernel
theorem dX10_handTo_25 : decode cX10_handTo 25 = .ok (.ishr, 1) := by decide +kernel
theorem dX10_handTo_26 : decode cX10_handTo 26 = .ok (.iconst 1, 1) := by decide +kernel
theorem dX10_handTo_27 : decode cX10_handTo 27 = .ok (.iand, 1) := by decide +kernel
theorem dX10_handTo_28 : decode cX10_handTo 28 = .ok (.ifCond .eq 27, 3) := by decide +kernel
theorem dX10_handTo_31 : decode cX10_handTo 31 = .ok (.aload_n 0, 1) := by decide +kernel
theorem dX10_handTo_32 : decode cX10_handTo 32 = .ok (.getfield 30, 3) := by decide +kernel
theorem dX10_handTo_35 : decode cX10_handTo 35 = .ok (.iload_n 2, 1) := by decide +kernel
theorem dX10_handTo_36 : decode cX10_handTo 36 = .ok (.iload 4, 2) := by decide +kernel
theorem dX10_handTo_38 : decode cX10_handTo 38 = .ok (.invokestatic 100, 3) := by decide +kernel
theorem dX10_handTo_41 : decode cX10_handTo 41 = .ok (.aload_n 0, 1) := by decide +kernel
theorem dX10_handTo_42 : decode cX10_handTo 42 = .ok (.getfield 34, 3) := by decide +kernel
theorem dX10_handTo_45 : decode cX10_handTo 45 = .ok (.iload_n 1, 1) := by decide +kernel
theorem dX10_handTo_46 : decode cX10_handTo 46 = .ok (.bipush 6, 2) := by decide +kernel
theorem dX10_handTo_48 : decode cX10_handTo 48 = .ok (.imul, 1) := by decide +kernel
theorem dX10_handTo_49 : decode cX10_handTo 49 = .ok (.iload 4, 2) := by decide +kernel
theorem dX10_handTo_51 : decode cX10_handTo 51 = .ok (.iadd, 1) := by decide +kernel
theorem dX10_handTo_52 : decode cX10_handTo 52 = .ok (.invokevirtual 111, 3) := by decide +kernel
theorem dX10_handTo_55 : decode cX10_handTo 55 = .ok (.iinc 4 1, 3) := by decide +kernel
theorem dX10_handTo_58 : decode cX10_handTo 58 = .ok (.goto (-48), 3) := by decide +kernel
theorem dX10_handTo_61 : decode cX10_handTo 61 = .ok (.aload_n 0, 1) := by decide +kernel
theorem dX10_handTo_62 : decode cX10_handTo 62 = .ok (.iload_n 1, 1) := by decide +kernel
theorem dX10_handTo_63 : decode cX10_handTo 63 = .ok (.invokevirtual 165, 3) := by decide +kernel
theorem dX10_handTo_66 : decode cX10_handTo 66 = .ok (.iload_n 3, 1) := by decide +kernel
theorem dX10_handTo_67 : decode cX10_handTo 67 = .ok (.invokestatic 159, 3) := by decide +kernel
theorem dX10_handTo_70 : decode cX10_handTo 70 = .ok (.ireturn, 1) := by decide +kernel
theorem dX10_placesReached_0 : decode cX10_placesReached 0 = .ok (.iconst 0, 1) := by decide +kernel
theorem dX10_placesReached_1 : decode cX10_placesReached 1 = .ok (.istore_n 3, 1) := by decide +kernel
theorem dX10_placesReached_2 : decode cX10_placesReached 2 = .ok (.iconst 0, 1) := by decide +kernel
theorem dX10_placesReached_3 : decode cX10_placesReached 3 = .ok (.istore 4, 2) := by decide +kernel
theorem dX10_placesReached_5 : decode cX10_placesReached 5 = .ok (.iload 4, 2) := by decide +kernel
theorem dX10_placesReached_7 : decode cX10_placesReached 7 = .ok (.aload_n 0, 1) := by decide +kernel
theorem dX10_placesReached_8 : decode cX10_placesReached 8 = .ok (.getfield 12, 3) := by decide +kernel
theorem dX10_placesReached_11 : decode cX10_placesReached 11 = .ok (.getfield 131, 3) := by decide +kernel
theorem dX10_placesReached_14 : decode cX10_placesReached 14 = .ok (.if_icmp .ge 39, 3) := by decide +kernel
theorem dX10_placesReached_17 : decode cX10_placesReached 17 = .ok (.aload_n 0, 1) := by decide +kernel
theorem dX10_placesReached_18 : decode cX10_placesReached 18 = .ok (.getfield 12, 3) := by decide +kernel
theorem dX10_placesReached_21 : decode cX10_placesReached 21 = .ok (.iload_n 1, 1) := by decide +kernel
theorem dX10_placesReached_22 : decode cX10_placesReached 22 = .ok (.iload 4, 2) := by decide +kernel
theorem dX10_placesReached_24 : decode cX10_placesReached 24 = .ok (.invokevirtual 125, 3) := by decide +kernel
theorem dX10_placesReached_27 : decode cX10_placesReached 27 = .ok (.ifCond .eq 20, 3) := by decide +kernel
theorem dX10_placesReached_30 : decode cX10_placesReached 30 = .ok (.aload_n 0, 1) := by decide +kernel
theorem dX10_placesReached_31 : decode cX10_placesReached 31 = .ok (.iload_n 2, 1) := by decide +kernel
theorem dX10_placesReached_32 : decode cX10_placesReached 32 = .ok (.iload 4, 2) := by decide +kernel
theorem dX10_placesReached_34 : decode cX10_placesReached 34 = .ok (.invokevirtual 142, 3) := by decide +kernel
theorem dX10_placesReached_37 : decode cX10_placesReached 37 = .ok (.ifCond .eq 10, 3) := by decide +kernel
theorem dX10_placesReached_40 : decode cX10_placesReached 40 = .ok (.iload_n 3, 1) := by decide +kernel
theorem dX10_placesReached_41 : decode cX10_placesReached 41 = .ok (.iconst 1, 1) := by decide +kernel
theorem dX10_placesReached_42 : decode cX10_placesReached 42 = .ok (.iload 4, 2) := by decide +kernel
theorem dX10_placesReached_44 : decode cX10_placesReached 44 = .ok (.ishl, 1) := by decide +kernel
theorem dX10_placesReached_45 : decode cX10_placesReached 45 = .ok (.ior, 1) := by decide +kernel
theorem dX10_placesReached_46 : decode cX10_placesReached 46 = .ok (.istore_n 3, 1) := by decide +kernel
theorem dX10_placesReached_47 : decode cX10_placesReached 47 = .ok (.iinc 4 1, 3) := by decide +kernel
theorem dX10_placesReached_50 : decode cX10_placesReached 50 = .ok (.goto (-45), 3) := by decide +kernel
theorem dX10_placesReached_53 : decode cX10_placesReached 53 = .ok (.iload_n 3, 1) := by decide +kernel
theorem dX10_placesReached_54 : decode cX10_placesReached 54 = .ok (.ireturn, 1) := by decide +kernel
theorem dX10_joinSet_0 : decode cX10_joinSet 0 = .ok (.aload_n 3, 1) := by decide +kernel
theorem dX10_joinSet_1 : decode cX10_joinSet 1 = .ok (.iload 4, 2) := by decide +kernel
theorem dX10_joinSet_3 : decode cX10_joinSet 3 = .ok (.invokevirtual 156, 3) := by decide +kernel
theorem dX10_joinSet_6 : decode cX10_joinSet 6 = .ok (.iconst 0, 1) := by decide +kernel
theorem dX10_joinSet_7 : decode cX10_joinSet 7 = .ok (.istore 5, 2) := by decide +kernel
theorem dX10_joinSet_9 : decode cX10_joinSet 9 = .ok (.iload 5, 2) := by decide +kernel
theorem dX10_joinSet_11 : decode cX10_joinSet 11 = .ok (.aload_n 0, 1) := by decide +kernel
theorem dX10_joinSet_12 : decode cX10_joinSet 12 = .ok (.getfield 12, 3) := by decide +kernel
theorem dX10_joinSet_15 : decode cX10_joinSet 15 = .ok (.getfield 131, 3) := by decide +kernel
theorem dX10_joinSet_18 : decode cX10_joinSet 18 = .ok (.if_icmp .ge 34, 3) := by decide +kernel
theorem dX10_joinSet_21 : decode cX10_joinSet 21 = .ok (.iload_n 1, 1) := by decide +kernel
theorem dX10_joinSet_22 : decode cX10_joinSet 22 = .ok (.iload 5, 2) := by decide +kernel
theorem dX10_joinSet_24 : decode cX10_joinSet 24 = .ok (.ishr, 1) := by decide +kernel
theorem dX10_joinSet_25 : decode cX10_joinSet 25 = .ok (.iconst 1, 1) := by decide +kernel
theorem dX10_joinSet_26 : decode cX10_joinSet 26 = .ok (.iand, 1) := by decide +kernel
theorem dX10_joinSet_27 : decode cX10_joinSet 27 = .ok (.ifCond .eq 19, 3) := by decide +kernel
theorem dX10_joinSet_30 : decode cX10_joinSet 30 = .ok (.aload_n 3, 1) := by decide +kernel
theorem dX10_joinSet_31 : decode cX10_joinSet 31 = .ok (.iload 4, 2) := by decide +kernel
theorem dX10_joinSet_33 : decode cX10_joinSet 33 = .ok (.aload_n 0, 1) := by decide +kernel
theorem dX10_joinSet_34 : decode cX10_joinSet 34 = .ok (.getfield 30, 3) := by decide +kernel
theorem dX10_joinSet_37 : decode cX10_joinSet 37 = .ok (.iload 5, 2) := by decide +kernel
theorem dX10_joinSet_39 : decode cX10_joinSet 39 = .ok (.iload_n 2, 1) := by decide +kernel
theorem dX10_joinSet_40 : decode cX10_joinSet 40 = .ok (.invokestatic 100, 3) := by decide +kernel
theorem dX10_joinSet_43 : decode cX10_joinSet 43 = .ok (.invokevirtual 111, 3) := by decide +kernel
theorem dX10_joinSet_46 : decode cX10_joinSet 46 = .ok (.iinc 5 1, 3) := by decide +kernel
theorem dX10_joinSet_49 : decode cX10_joinSet 49 = .ok (.goto (-40), 3) := by decide +kernel
theorem dX10_joinSet_52 : decode cX10_joinSet 52 = .ok (.return_, 1) := by decide +kernel
theorem dX10_collect_0 : decode cX10_collect 0 = .ok (.aload_n 0, 1) := by decide +kernel
theorem dX10_collect_1 : decode cX10_collect 1 = .ok (.iload_n 1, 1) := by decide +kernel
theorem dX10_collect_2 : decode cX10_collect 2 = .ok (.iload_n 2, 1) := by decide +kernel
theorem dX10_collect_3 : decode cX10_collect 3 = .ok (.invokevirtual 171, 3) := by decide +kernel
theorem dX10_collect_6 : decode cX10_collect 6 = .ok (.istore 5, 2) := by decide +kernel
theorem dX10_collect_8 : decode cX10_collect 8 = .ok (.iload 5, 2) := by decide +kernel
theorem dX10_collect_10 : decode cX10_collect 10 = .ok (.ifCond .ne 5, 3) := by decide +kernel
theorem dX10_collect_13 : decode cX10_collect 13 = .ok (.iconst 0, 1) := by decide +kernel
theorem dX10_collect_14 : decode cX10_collect 14 = .ok (.ireturn, 1) := by decide +kernel
theorem dX10_collect_15 : decode cX10_collect 15 = .ok (.aload_n 0, 1) := by decide +kernel
theorem dX10_collect_16 : decode cX10_collect 16 = .ok (.iload 5, 2) := by decide +kernel
theorem dX10_collect_18 : decode cX10_collect 18 = .ok (.iload_n 1, 1) := by decide +kernel
theorem dX10_collect_19 : decode cX10_collect 19 = .ok (.aload 4, 2) := by decide +kernel
theorem dX10_collect_21 : decode cX10_collect 21 = .ok (.iconst 0, 1) := by decide +kernel
theorem dX10_collect_22 : decode cX10_collect 22 = .ok (.invokevirtual 174, 3) := by decide +kernel
theorem dX10_collect_25 : decode cX10_collect 25 = .ok (.iconst 0, 1) := by decide +kernel
theorem dX10_collect_26 : decode cX10_collect 26 = .ok (.istore 6, 2) := by decide +kernel
theorem dX10_collect_28 : decode cX10_collect 28 = .ok (.iload 6, 2) := by decide +kernel
theorem dX10_collect_30 : decode cX10_collect 30 = .ok (.aload_n 0, 1) := by decide +kernel
theorem dX10_collect_31 : decode cX10_collect 31 = .ok (.getfield 12, 3) := by decide +kernel
theorem dX10_collect_34 : decode cX10_collect 34 = .ok (.getfield 131, 3) := by decide +kernel
theorem dX10_collect_37 : decode cX10_collect 37 = .ok (.if_icmp .ge 35, 3) := by decide +kernel
theorem dX10_collect_40 : decode cX10_collect 40 = .ok (.iload 5, 2) := by decide +kernel
theorem dX10_collect_42 : decode cX10_collect 42 = .ok (.iload 6, 2) := by decide +kernel
theorem dX10_collect_44 : decode cX10_collect 44 = .ok (.ishr, 1) := by decide +kernel
theorem dX10_collect_45 : decode cX10_collect 45 = .ok (.iconst 1, 1) := by decide +kernel
theorem dX10_collect_46 : decode cX10_collect 46 = .ok (.iand, 1) := by decide +kernel
theorem dX10_collect_47 : decode cX10_collect 47 = .ok (.ifCond .eq 19, 3) := by decide +kernel
theorem dX10_collect_50 : decode cX10_collect 50 = .ok (.aload_n 0, 1) := by decide +kernel
theorem dX10_collect_51 : decode cX10_collect 51 = .ok (.getfield 30, 3) := by decide +kernel
theorem dX10_collect_54 : decode cX10_collect 54 = .ok (.iload 6, 2) := by decide +kernel
theorem dX10_collect_56 : decode cX10_collect 56 = .ok (.iload_n 1, 1) := by decide +kernel
theorem dX10_collect_57 : decode cX10_collect 57 = .ok (.invokestatic 100, 3) := by decide +kernel
theorem dX10_collect_60 : decode cX10_collect 60 = .ok (.aload 4, 2) := by decide +kernel
theorem dX10_collect_62 : decode cX10_collect 62 = .ok (.iconst 0, 1) := by decide +kernel
theorem dX10_collect_63 : decode cX10_collect 63 = .ok (.invokevirtual 178, 3) := by decide +kernel
theorem dX10_collect_66 : decode cX10_collect 66 = .ok (.iinc 6 1, 3) := by decide +kernel
theorem dX10_collect_69 : decode cX10_collect 69 = .ok (.goto (-41), 3) := by decide +kernel
theorem dX10_collect_72 : decode cX10_collect 72 = .ok (.iload_n 3, 1) := by decide +kernel
theorem dX10_collect_73 : decode cX10_collect 73 = .ok (.iconst (-1), 1) := by decide +kernel
theorem dX10_collect_74 : decode cX10_collect 74 = .ok (.if_icmp .eq 44, 3) := by decide +kernel
theorem dX10_collect_77 : decode cX10_collect 77 = .ok (.aload_n 0, 1) := by decide +kernel
theorem dX10_collect_78 : decode cX10_collect 78 = .ok (.getfield 12, 3) := by decide +kernel
theorem dX10_collect_81 : decode cX10_collect 81 = .ok (.iload_n 1, 1) := by decide +kernel
theorem dX10_collect_82 : decode cX10_collect 82 = .ok (.invokevirtual 104, 3) := by decide +kernel
theorem dX10_collect_85 : decode cX10_collect 85 = .ok (.ifCond .ne 33, 3) := by decide +kernel
theorem dX10_collect_88 : decode cX10_collect 88 = .ok (.aload_n 0, 1) := by decide +kernel
theorem dX10_collect_89 : decode cX10_collect 89 = .ok (.getfield 41, 3) := by decide +kernel
theorem dX10_collect_92 : decode cX10_collect 92 = .ok (.iload_n 3, 1) := by decide +kernel
theorem dX10_collect_93 : decode cX10_collect 93 = .ok (.aload 4, 2) := by decide +kernel
theorem dX10_collect_95 : decode cX10_collect 95 = .ok (.iconst 0, 1) := by decide +kernel
theorem dX10_collect_96 : decode cX10_collect 96 = .ok (.invokevirtual 181, 3) := by decide +kernel
theorem dX10_collect_99 : decode cX10_collect 99 = .ok (.aload_n 0, 1) := by decide +kernel
theorem dX10_collect_100 : decode cX10_collect 100 = .ok (.getfield 44, 3) := by decide +kernel
theorem dX10_collect_103 : decode cX10_collect 103 = .ok (.iload_n 3, 1) := by decide +kernel
theorem dX10_collect_104 : decode cX10_collect 104 = .ok (.iload_n 1, 1) := by decide +kernel
theorem dX10_collect_105 : decode cX10_collect 105 = .ok (.iastore, 1) := by decide +kernel
theorem dX10_collect_106 : decode cX10_collect 106 = .ok (.aload_n 0, 1) := by decide +kernel
theorem dX10_collect_107 : decode cX10_collect 107 = .ok (.dup, 1) := by decide +kernel
theorem dX10_collect_108 : decode cX10_collect 108 = .ok (.getfield 60, 3) := by decide +kernel
theorem dX10_collect_111 : decode cX10_collect 111 = .ok (.iconst 1, 1) := by decide +kernel
theorem dX10_collect_112 : decode cX10_collect 112 = .ok (.iload_n 3, 1) := by decide +kernel
theorem dX10_collect_113 : decode cX10_collect 113 = .ok (.ishl, 1) := by decide +kernel
theorem dX10_collect_114 : decode cX10_collect 114 = .ok (.ior, 1) := by decide +kernel
theorem dX10_collect_115 : decode cX10_collect 115 = .ok (.putfield 60, 3) := by decide +kernel
theorem dX10_collect_118 : decode cX10_collect 118 = .ok (.iconst 1, 1) := by decide +kernel
theorem dX10_collect_119 : decode cX10_collect 119 = .ok (.ireturn, 1) := by decide +kernel
theorem dX10_firstReached_0 : decode cX10_firstReached 0 = .ok (.aload_n 0, 1) := by decide +kernel
theorem dX10_firstReached_1 : decode cX10_firstReached 1 = .ok (.iload_n 1, 1) := by decide +kernel
theorem dX10_firstReached_2 : decode cX10_firstReached 2 = .ok (.iload_n 2, 1) := by decide +kernel
theorem dX10_firstReached_3 : decode cX10_firstReached 3 = .ok (.invokevirtual 184, 3) := by decide +kernel
theorem dX10_firstReached_6 : decode cX10_firstReached 6 = .ok (.istore_n 3, 1) := by decide +kernel
theorem dX10_firstReached_7 : decode cX10_firstReached 7 = .ok (.iload_n 3, 1) := by decide +kernel
theorem dX10_firstReached_8 : decode cX10_firstReached 8 = .ok (.invokestatic 159, 3) := by decide +kernel
theorem dX10_firstReached_11 : decode cX10_firstReached 11 = .ok (.aload_n 0, 1) := by decide +kernel
theorem dX10_firstReached_12 : decode cX10_firstReached 12 = .ok (.getfield 12, 3) := by decide +kernel
theorem dX10_firstReached_15 : decode cX10_firstReached 15 = .ok (.getfield 187, 3) := by decide +kernel
theorem dX10_firstReached_18 : decode cX10_firstReached 18 = .ok (.if_icmp .ge 5, 3) := by decide +kernel
theorem dX10_firstReached_21 : decode cX10_firstReached 21 = .ok (.iconst 0, 1) := by decide +kernel
theorem dX10_firstReached_22 : decode cX10_firstReached 22 = .ok (.ireturn, 1) := by decide +kernel
theorem dX10_firstReached_23 : decode cX10_firstReached 23 = .ok (.iconst 0, 1) := by decide +kernel
theorem dX10_firstReached_24 : decode cX10_firstReached 24 = .ok (.istore 4, 2) := by decide +kernel
theorem dX10_firstReached_26 : decode cX10_firstReached 26 = .ok (.aload_n 0, 1) := by decide +kernel
theorem dX10_firstReached_27 : decode cX10_firstReached 27 = .ok (.getfield 12, 3) := by decide +kernel
theorem dX10_firstReached_30 : decode cX10_firstReached 30 = .ok (.getfield 187, 3) := by decide +kernel
theorem dX10_firstReached_33 : decode cX10_firstReached 33 = .ok (.istore 5, 2) := by decide +kernel
theorem dX10_firstReached_35 : decode cX10_firstReached 35 = .ok (.iconst 0, 1) := by decide +kernel
theorem dX10_firstReached_36 : decode cX10_firstReached 36 = .ok (.istore 6, 2) := by decide +kernel
theorem dX10_firstReached_38 : decode cX10_firstReached 38 = .ok (.iload 6, 2) := by decide +kernel
theorem dX10_firstReached_40 : decode cX10_firstReached 40 = .ok (.aload_n 0, 1) := by decide +kernel
theorem dX10_firstReached_41 : decode cX10_firstReached 41 = .ok (.getfield 12, 3) := by decide +kernel
theorem dX10_firstReached_44 : decode cX10_firstReached 44 = .ok (.getfield 131, 3) := by decide +kernel
theorem dX10_firstReached_47 : decode cX10_firstReached 47 = .ok (.if_icmp .ge 45, 3) := by decide +kernel
theorem dX10_firstReached_50 : decode cX10_firstReached 50 = .ok (.iload 5, 2) := by decide +kernel
theorem dX10_firstReached_52 : decode cX10_firstReached 52 = .ok (.ifCond .le 40, 3) := by decide +kernel
theorem dX10_firstReached_55 : decode cX10_firstReached 55 = .ok (.iconst 1, 1) := by decide +kernel
theorem dX10_firstReached_56 : decode cX10_firstReached 56 = .ok (.aload_n 0, 1) := by decide +kernel
theorem dX10_firstReached_57 : decode cX10_firstReached 57 = .ok (.getfield 12, 3) := by decide +kernel
theorem dX10_firstReached_60 : decode cX10_firstReached 60 = .ok (.iload_n 1, 1) := by decide +kernel
theorem dX10_firstReached_61 : decode cX10_firstReached 61 = .ok (.iload 6, 2) := by decide +kernel
theorem dX10_firstReached_63 : decode cX10_firstReached 63 = .ok (.invokevirtual 139, 3) := by decide +kernel
theorem dX10_firstReached_66 : decode cX10_firstReached 66 = .ok (.ishl, 1) := by decide +kernel
theorem dX10_firstReached_67 : decode cX10_firstReached 67 = .ok (.istore 7, 2) := by decide +kernel
theorem dX10_firstReached_69 : decode cX10_firstReached 69 = .ok (.iload_n 3, 1) := by decide +kernel
theorem dX10_firstReached_70 : decode cX10_firstReached 70 = .ok (.iload 7, 2) := by decide +kernel
theorem dX10_firstReached_72 : decode cX10_firstReached 72 = .ok (.iand, 1) := by decide +kernel
theorem dX10_firstReached_73 : decode cX10_firstReached 73 = .ok (.ifCond .eq 13, 3) := by decide +kernel
theorem dX10_firstReached_76 : decode cX10_firstReached 76 = .ok (.iload 4, 2) := by decide +kernel
theorem dX10_firstReached_78 : decode cX10_firstReached 78 = .ok (.iload 7, 2) := by decide +kernel
theorem dX10_firstReached_80 : decode cX10_firstReached 80 = .ok (.ior, 1) := by decide +kernel
theorem dX10_firstReached_81 : decode cX10_firstReached 81 = .ok (.istore 4, 2) := by decide +kernel
theorem dX10_firstReached_83 : decode cX10_firstReached 83 = .ok (.iinc 5 (-1), 3) := by decide +kernel
theorem dX10_firstReached_86 : decode cX10_firstReached 86 = .ok (.iinc 6 1, 3) := by decide +kernel
theorem dX10_firstReached_89 : decode cX10_firstReached 89 = .ok (.goto (-51), 3) := by decide +kernel
theorem dX10_firstReached_92 : decode cX10_firstReached 92 = .ok (.iload 4, 2) := by decide +kernel
theorem dX10_firstReached_94 : decode cX10_firstReached 94 = .ok (.ireturn, 1) := by decide +kernel
theorem dX10_compare_0 : decode cX10_compare 0 = .ok (.iload_n 1, 1) := by decide +kernel
theorem dX10_compare_1 : decode cX10_compare 1 = .ok (.iload_n 2, 1) := by decide +kernel
theorem dX10_compare_2 : decode cX10_compare 2 = .ok (.if_icmp .eq 12, 3) := by decide +kernel
theorem dX10_compare_5 : decode cX10_compare 5 = .ok (.aload_n 0, 1) := by decide +kernel
theorem dX10_compare_6 : decode cX10_compare 6 = .ok (.iload_n 1, 1) := by decide +kernel
theorem dX10_compare_7 : decode cX10_compare 7 = .ok (.iload_n 2, 1) := by decide +kernel
theorem dX10_compare_8 : decode cX10_compare 8 = .ok (.invokevirtual 142, 3) := by decide +kernel
theorem dX10_compare_11 : decode cX10_compare 11 = .ok (.ifCond .ne 5, 3) := by decide +kernel
theorem dX10_compare_14 : decode cX10_compare 14 = .ok (.iconst (-1), 1) := by decide +kernel
theorem dX10_compare_15 : decode cX10_compare 15 = .ok (.ireturn, 1) := by decide +kernel
theorem dX10_compare_16 : decode cX10_compare 16 = .ok (.iconst 0, 1) := by decide +kernel
theorem dX10_compare_17 : decode cX10_compare 17 = .ok (.istore_n 3, 1) := by decide +kernel
theorem dX10_compare_18 : decode cX10_compare 18 = .ok (.iconst 0, 1) := by decide +kernel
theorem dX10_compare_19 : decode cX10_compare 19 = .ok (.istore 4, 2) := by decide +kernel
theorem dX10_compare_21 : decode cX10_compare 21 = .ok (.iload 4, 2) := by decide +kernel
theorem dX10_compare_23 : decode cX10_compare 23 = .ok (.aload_n 0, 1) := by decide +kernel
theorem dX10_compare_24 : decode cX10_compare 24 = .ok (.getfield 12, 3) := by decide +kernel
theorem dX10_compare_27 : decode cX10_compare 27 = .ok (.getfield 153, 3) := by decide +kernel
theorem dX10_compare_30 : decode cX10_compare 30 = .ok (.if_icmp .ge 83, 3) := by decide +kernel
theorem dX10_compare_33 : decode cX10_compare 33 = .ok (.aload_n 0, 1) := by decide +kernel
theorem dX10_compare_34 : decode cX10_compare 34 = .ok (.getfield 12, 3) := by decide +kernel
theorem dX10_compare_37 : decode cX10_compare 37 = .ok (.iload 4, 2) := by decide +kernel
theorem dX10_compare_39 : decode cX10_compare 39 = .ok (.iload_n 1, 1) := by decide +kernel
theorem dX10_compare_40 : decode cX10_compare 40 = .ok (.iload_n 2, 1) := by decide +kernel
theorem dX10_compare_41 : decode cX10_compare 41 = .ok (.invokevirtual 190, 3) := by decide +kernel
theorem dX10_compare_44 : decode cX10_compare 44 = .ok (.ifCond .eq 63, 3) := by decide +kernel
theorem dX10_compare_47 : decode cX10_compare 47 = .ok (.aload_n 0, 1) := by decide +kernel
theorem dX10_compare_48 : decode cX10_compare 48 = .ok (.iload_n 1, 1) := by decide +kernel
theorem dX10_compare_49 : decode cX10_compare 49 = .ok (.iload_n 2, 1) := by decide +kernel
theorem dX10_compare_50 : decode cX10_compare 50 = .ok (.iload 4, 2) := by decide +kernel
theorem dX10_compare_52 : decode cX10_compare 52 = .ok (.invokevirtual 194, 3) := by decide +kernel
theorem dX10_compare_55 : decode cX10_compare 55 = .ok (.ifCond .ne 52, 3) := by decide +kernel
theorem dX10_compare_58 : decode cX10_compare 58 = .ok (.aload_n 0, 1) := by decide +kernel
theorem dX10_compare_59 : decode cX10_compare 59 = .ok (.getfield 30, 3) := by decide +kernel
theorem dX10_compare_62 : decode cX10_compare 62 = .ok (.iload_n 1, 1) := by decide +kernel
theorem dX10_compare_63 : decode cX10_compare 63 = .ok (.iload 4, 2) := by decide +kernel
theorem dX10_compare_65 : decode cX10_compare 65 = .ok (.invokestatic 100, 3) := by decide +kernel
theorem dX10_compare_68 : decode cX10_compare 68 = .ok (.aload_n 0, 1) := by decide +kernel
theorem dX10_compare_69 : decode cX10_compare 69 = .ok (.getfield 30, 3) := by decide +kernel
theorem dX10_compare_72 : decode cX10_compare 72 = .ok (.iload_n 2, 1) := by decide +kernel
theorem dX10_compare_73 : decode cX10_compare 73 = .ok (.iload 4, 2) := by decide +kernel
theorem dX10_compare_75 : decode cX10_compare 75 = .ok (.invokestatic 100, 3) := by decide +kernel
theorem dX10_compare_78 : decode cX10_compare 78 = .ok (.invokevirtual 111, 3) := by decide +kernel
theorem dX10_compare_81 : decode cX10_compare 81 = .ok (.aload_n 0, 1) := by decide +kernel
theorem dX10_compare_82 : decode cX10_compare 82 = .ok (.getfield 30, 3) := by decide +kernel
theorem dX10_compare_85 : decode cX10_compare 85 = .ok (.iload_n 2, 1) := by decide +kernel
theorem dX10_compare_86 : decode cX10_compare 86 = .ok (.iload 4, 2) := by decide +kernel
theorem dX10_compare_88 : decode cX10_compare 88 = .ok (.invokestatic 100, 3) := by decide +kernel
theorem dX10_compare_91 : decode cX10_compare 91 = .ok (.aload_n 0, 1) := by decide +kernel
theorem dX10_compare_92 : decode cX10_compare 92 = .ok (.getfield 30, 3) := by decide +kernel
theorem dX10_compare_95 : decode cX10_compare 95 = .ok (.iload_n 1, 1) := by decide +kernel
theorem dX10_compare_96 : decode cX10_compare 96 = .ok (.iload 4, 2) := by decide +kernel
theorem dX10_compare_98 : decode cX10_compare 98 = .ok (.invokestatic 100, 3) := by decide +kernel
theorem dX10_compare_101 : decode cX10_compare 101 = .ok (.invokevirtual 178, 3) := by decide +kernel
theorem dX10_compare_104 : decode cX10_compare 104 = .ok (.iinc 3 1, 3) := by decide +kernel
theorem dX10_compare_107 : decode cX10_compare 107 = .ok (.iinc 4 1, 3) := by decide +kernel
theorem dX10_compare_110 : decode cX10_compare 110 = .ok (.goto (-89), 3) := by decide +kernel
theorem dX10_compare_113 : decode cX10_compare 113 = .ok (.iload_n 3, 1) := by decide +kernel
theorem dX10_compare_114 : decode cX10_compare 114 = .ok (.ireturn, 1) := by decide +kernel
theorem dX10_areLike_0 : decode cX10_areLike 0 = .ok (.aload_n 0, 1) := by decide +kernel
theorem dX10_areLike_1 : decode cX10_areLike 1 = .ok (.getfield 30, 3) := by decide +kernel
theorem dX10_areLike_4 : decode cX10_areLike 4 = .ok (.iload_n 1, 1) := by decide +kernel
theorem dX10_areLike_5 : decode cX10_areLike 5 = .ok (.iload_n 3, 1) := by decide +kernel
theorem dX10_areLike_6 : decode cX10_areLike 6 = .ok (.invokestatic 100, 3) := by decide +kernel
theorem dX10_areLike_9 : decode cX10_areLike 9 = .ok (.aload_n 0, 1) := by decide +kernel
theorem dX10_areLike_10 : decode cX10_areLike 10 = .ok (.getfield 30, 3) := by decide +kernel
theorem dX10_areLike_13 : decode cX10_areLike 13 = .ok (.iload_n 2, 1) := by decide +kernel
theorem dX10_areLike_14 : decode cX10_areLike 14 = .ok (.iload_n 3, 1) := by decide +kernel
theorem dX10_areLike_15 : decode cX10_areLike 15 = .ok (.invokestatic 100, 3) := by decide +kernel
theorem dX10_areLike_18 : decode cX10_areLike 18 = .ok (.invokevirtual 197, 3) := by decide +kernel
theorem dX10_areLike_21 : decode cX10_areLike 21 = .ok (.ireturn, 1) := by decide +kernel
theorem dX10_isAlike_0 : decode cX10_isAlike 0 = .ok (.aload_n 0, 1) := by decide +kernel
theorem dX10_isAlike_1 : decode cX10_isAlike 1 = .ok (.getfield 12, 3) := by decide +kernel
theorem dX10_isAlike_4 : decode cX10_isAlike 4 = .ok (.getfield 128, 3) := by decide +kernel
theorem dX10_isAlike_7 : decode cX10_isAlike 7 = .ok (.aload_n 0, 1) := by decide +kernel
theorem dX10_isAlike_8 : decode cX10_isAlike 8 = .ok (.getfield 12, 3) := by decide +kernel
theorem dX10_isAlike_11 : decode cX10_isAlike 11 = .ok (.getfield 131, 3) := by decide +kernel
theorem dX10_isAlike_14 : decode cX10_isAlike 14 = .ok (.invokestatic 134, 3) := by decide +kernel
theorem dX10_isAlike_17 : decode cX10_isAlike 17 = .ok (.istore_n 2, 1) := by decide +kernel
theorem dX10_isAlike_18 : decode cX10_isAlike 18 = .ok (.iconst 1, 1) := by decide +kernel
theorem dX10_isAlike_19 : decode cX10_isAlike 19 = .ok (.istore_n 3, 1) := by decide +kernel
theorem dX10_isAlike_20 : decode cX10_isAlike 20 = .ok (.iload_n 3, 1) := by decide +kernel
theorem dX10_isAlike_21 : decode cX10_isAlike 21 = .ok (.iload_n 2, 1) := by decide +kernel
theorem dX10_isAlike_22 : decode cX10_isAlike 22 = .ok (.if_icmp .ge 37, 3) := by decide +kernel
theorem dX10_isAlike_25 : decode cX10_isAlike 25 = .ok (.aload_n 0, 1) := by decide +kernel
theorem dX10_isAlike_26 : decode cX10_isAlike 26 = .ok (.aload_n 0, 1) := by decide +kernel
theorem dX10_isAlike_27 : decode cX10_isAlike 27 = .ok (.getfield 12, 3) := by decide +kernel
theorem dX10_isAlike_30 : decode cX10_isAlike 30 = .ok (.iload_n 1, 1) := by decide +kernel
theorem dX10_isAlike_31 : decode cX10_isAlike 31 = .ok (.iconst 0, 1) := by decide +kernel
theorem dX10_isAlike_32 : decode cX10_isAlike 32 = .ok (.invokevirtual 139, 3) := by decide +kernel
theorem dX10_isAlike_35 : decode cX10_isAlike 35 = .ok (.aload_n 0, 1) := by decide +kernel
theorem dX10_isAlike_36 : decode cX10_isAlike 36 = .ok (.getfield 12, 3) := by decide +kernel
theorem dX10_isAlike_39 : decode cX10_isAlike 39 = .ok (.iload_n 1, 1) := by decide +kernel
theorem dX10_isAlike_40 : decode cX10_isAlike 40 = .ok (.iload_n 3, 1) := by decide +kernel
theorem dX10_isAlike_41 : decode cX10_isAlike 41 = .ok (.invokevirtual 139, 3) := by decide +kernel
theorem dX10_isAlike_44 : decode cX10_isAlike 44 = .ok (.iload_n 1, 1) := by decide +kernel
theorem dX10_isAlike_45 : decode cX10_isAlike 45 = .ok (.invokevirtual 194, 3) := by decide +kernel
theorem dX10_isAlike_48 : decode cX10_isAlike 48 = .ok (.ifCond .ne 5, 3) := by decide +kernel
theorem dX10_isAlike_51 : decode cX10_isAlike 51 = .ok (.iconst 0, 1) := by decide +kernel
theorem dX10_isAlike_52 : decode cX10_isAlike 52 = .ok (.ireturn, 1) := by decide +kernel
theorem dX10_isAlike_53 : decode cX10_isAlike 53 = .ok (.iinc 3 1, 3) := by decide +kernel
theorem dX10_isAlike_56 : decode cX10_isAlike 56 = .ok (.goto (-36), 3) := by decide +kernel
theorem dX10_isAlike_59 : decode cX10_isAlike 59 = .ok (.iconst 1, 1) := by decide +kernel
theorem dX10_isAlike_60 : decode cX10_isAlike 60 = .ok (.ireturn, 1) := by decide +kernel
theorem dX10_areAllAlike_0 : decode cX10_areAllAlike 0 = .ok (.iconst 0, 1) := by decide +kernel
theorem dX10_areAllAlike_1 : decode cX10_areAllAlike 1 = .ok (.istore_n 1, 1) := by decide +kernel
theorem dX10_areAllAlike_2 : decode cX10_areAllAlike 2 = .ok (.iload_n 1, 1) := by decide +kernel
theorem dX10_areAllAlike_3 : decode cX10_areAllAlike 3 = .ok (.aload_n 0, 1) := by decide +kernel
theorem dX10_areAllAlike_4 : decode cX10_areAllAlike 4 = .ok (.getfield 12, 3) := by decide +kernel
theorem dX10_areAllAlike_7 : decode cX10_areAllAlike 7 = .ok (.getfield 153, 3) := by decide +kernel
theorem dX10_areAllAlike_10 : decode cX10_areAllAlike 10 = .ok (.if_icmp .ge 19, 3) := by decide +kernel
theorem dX10_areAllAlike_13 : decode cX10_areAllAlike 13 = .ok (.aload_n 0, 1) := by decide +kernel
theorem dX10_areAllAlike_14 : decode cX10_areAllAlike 14 = .ok (.iload_n 1, 1) := by decide +kernel
theorem dX10_areAllAlike_15 : decode cX10_areAllAlike 15 = .ok (.invokevirtual 201, 3) := by decide +kernel
theorem dX10_areAllAlike_18 : decode cX10_areAllAlike 18 = .ok (.ifCond .ne 5, 3) := by decide +kernel
theorem dX10_areAllAlike_21 : decode cX10_areAllAlike 21 = .ok (.iconst 0, 1) := by decide +kernel
theorem dX10_areAllAlike_22 : decode cX10_areAllAlike 22 = .ok (.ireturn, 1) := by decide +kernel
theorem dX10_areAllAlike_23 : decode cX10_areAllAlike 23 = .ok (.iinc 1 1, 3) := by decide +kernel
theorem dX10_areAllAlike_26 : decode cX10_areAllAlike 26 = .ok (.goto (-24), 3) := by decide +kernel
theorem dX10_areAllAlike_29 : decode cX10_areAllAlike 29 = .ok (.iconst 1, 1) := by decide +kernel
theorem dX10_areAllAlike_30 : decode cX10_areAllAlike 30 = .ok (.ireturn, 1) := by decide +kernel
theorem dX10_buryGraves_0 : decode cX10_buryGraves 0 = .ok (.iconst 0, 1) := by decide +kernel
theorem dX10_buryGraves_1 : decode cX10_buryGraves 1 = .ok (.istore_n 2, 1) := by decide +kernel
theorem dX10_buryGraves_2 : decode cX10_buryGraves 2 = .ok (.iconst 0, 1) := by decide +kernel
theorem dX10_buryGraves_3 : decode cX10_buryGraves 3 = .ok (.istore_n 3, 1) := by decide +kernel
theorem dX10_buryGraves_4 : decode cX10_buryGraves 4 = .ok (.iload_n 3, 1) := by decide +kernel
theorem dX10_buryGraves_5 : decode cX10_buryGraves 5 = .ok (.aload_n 0, 1) := by decide +kernel
theorem dX10_buryGraves_6 : decode cX10_buryGraves 6 = .ok (.getfield 12, 3) := by decide +kernel
theorem dX10_buryGraves_9 : decode cX10_buryGraves 9 = .ok (.getfield 131, 3) := by decide +kernel
theorem dX10_buryGraves_12 : decode cX10_buryGraves 12 = .ok (.if_icmp .ge 107, 3) := by decide +kernel
theorem dX10_buryGraves_15 : decode cX10_buryGraves 15 = .ok (.aload_n 0, 1) := by decide +kernel
theorem dX10_buryGraves_16 : decode cX10_buryGraves 16 = .ok (.iload_n 3, 1) := by decide +kernel
theorem dX10_buryGraves_17 : decode cX10_buryGraves 17 = .ok (.iload_n 1, 1) := by decide +kernel
theorem dX10_buryGraves_18 : decode cX10_buryGraves 18 = .ok (.invokevirtual 204, 3) := by decide +kernel
theorem dX10_buryGraves_21 : decode cX10_buryGraves 21 = .ok (.istore 4, 2) := by decide +kernel
theorem dX10_buryGraves_23 : decode cX10_buryGraves 23 = .ok (.iload_n 2, 1) := by decide +kernel
theorem dX10_buryGraves_24 : decode cX10_buryGraves 24 = .ok (.aload_n 0, 1) := by decide +kernel
theorem dX10_buryGraves_25 : decode cX10_buryGraves 25 = .ok (.getfield 30, 3) := by decide +kernel
theorem dX10_buryGraves_28 : decode cX10_buryGraves 28 = .ok (.aload_n 0, 1) := by decide +kernel
theorem dX10_buryGraves_29 : decode cX10_buryGraves 29 = .ok (.getfield 12, 3) := by decide +kernel
theorem dX10_buryGraves_32 : decode cX10_buryGraves 32 = .ok (.iload_n 1, 1) := by decide +kernel
theorem dX10_buryGraves_33 : decode cX10_buryGraves 33 = .ok (.iconst 0, 1) := by decide +kernel
theorem dX10_buryGraves_34 : decode cX10_buryGraves 34 = .ok (.invokevirtual 139, 3) := by decide +kernel
theorem dX10_buryGraves_37 : decode cX10_buryGraves 37 = .ok (.iload_n 1, 1) := by decide +kernel
theorem dX10_buryGraves_38 : decode cX10_buryGraves 38 = .ok (.invokestatic 100, 3) := by decide +kernel
theorem dX10_buryGraves_41 : decode cX10_buryGraves 41 = .ok (.iload_n 3, 1) := by decide +kernel
theorem dX10_buryGraves_42 : decode cX10_buryGraves 42 = .ok (.invokevirtual 207, 3) := by decide +kernel
theorem dX10_buryGraves_45 : decode cX10_buryGraves 45 = .ok (.iload 4, 2) := by decide +kernel
theorem dX10_buryGraves_47 : decode cX10_buryGraves 47 = .ok (.iand, 1) := by decide +kernel
theorem dX10_buryGraves_48 : decode cX10_buryGraves 48 = .ok (.invokestatic 159, 3) := by decide +kernel
theorem dX10_buryGraves_51 : decode cX10_buryGraves 51 = .ok (.iadd, 1) := by decide +kernel
theorem dX10_buryGraves_52 : decode cX10_buryGraves 52 = .ok (.istore_n 2, 1) := by decide +kernel
theorem dX10_buryGraves_53 : decode cX10_buryGraves 53 = .ok (.iconst 0, 1) := by decide +kernel
theorem dX10_buryGraves_54 : decode cX10_buryGraves 54 = .ok (.istore 5, 2) := by decide +kernel
theorem dX10_buryGraves_56 : decode cX10_buryGraves 56 = .ok (.iload 5, 2) := by decide +kernel
theorem dX10_buryGraves_58 : decode cX10_buryGraves 58 = .ok (.aload_n 0, 1) := by decide +kernel
theorem dX10_buryGraves_59 : decode cX10_buryGraves 59 = .ok (.getfield 12, 3) := by decide +kernel
theorem dX10_buryGraves_62 : decode cX10_buryGraves 62 = .ok (.getfield 131, 3) := by decide +kernel
theorem dX10_buryGraves_65 : decode cX10_buryGraves 65 = .ok (.if_icmp .ge 48, 3) := by decide +kernel
theorem dX10_buryGraves_68 : decode cX10_buryGraves 68 = .ok (.aload_n 0, 1) := by decide +kernel
theorem dX10_buryGraves_69 : decode cX10_buryGraves 69 = .ok (.getfield 12, 3) := by decide +kernel
theorem dX10_buryGraves_72 : decode cX10_buryGraves 72 = .ok (.iload_n 1, 1) := by decide +kernel
theorem dX10_buryGraves_73 : decode cX10_buryGraves 73 = .ok (.iload 5, 2) := by decide +kernel
theorem dX10_buryGraves_75 : decode cX10_buryGraves 75 = .ok (.invokevirtual 125, 3) := by decide +kernel
theorem dX10_buryGraves_78 : decode cX10_buryGraves 78 = .ok (.ifCond .eq 29, 3) := by decide +kernel
theorem dX10_buryGraves_81 : decode cX10_buryGraves 81 = .ok (.aload_n 0, 1) := by decide +kernel
theorem dX10_buryGraves_82 : decode cX10_buryGraves 82 = .ok (.getfield 30, 3) := by decide +kernel
theorem dX10_buryGraves_85 : decode cX10_buryGraves 85 = .ok (.getfield 210, 3) := by decide +kernel
theorem dX10_buryGraves_88 : decode cX10_buryGraves 88 = .ok (.iload 5, 2) := by decide +kernel
theorem dX10_buryGraves_90 : decode cX10_buryGraves 90 = .ok (.iload_n 1, 1) := by decide +kernel
theorem dX10_buryGraves_91 : decode cX10_buryGraves 91 = .ok (.invokestatic 100, 3) := by decide +kernel
theorem dX10_buryGraves_94 : decode cX10_buryGraves 94 = .ok (.bipush 6, 2) := by decide +kernel
theorem dX10_buryGraves_96 : decode cX10_buryGraves 96 = .ok (.imul, 1) := by decide +kernel
theorem dX10_buryGraves_97 : decode cX10_buryGraves 97 = .ok (.iload_n 3, 1) := by decide +kernel
theorem dX10_buryGraves_98 : decode cX10_buryGraves 98 = .ok (.iadd, 1) := by decide +kernel
theorem dX10_buryGraves_99 : decode cX10_buryGraves 99 = .ok (.dup2, 1) := by decide +kernel
theorem dX10_buryGraves_100 : decode cX10_buryGraves 100 = .ok (.iaload, 1) := by decide +kernel
theorem dX10_buryGraves_101 : decode cX10_buryGraves 101 = .ok (.iload 4, 2) := by decide +kernel
theorem dX10_buryGraves_103 : decode cX10_buryGraves 103 = .ok (.iconst (-1), 1) := by decide +kernel
theorem dX10_buryGraves_104 : decode cX10_buryGraves 104 = .ok (.ixor, 1) := by decide +kernel
theorem dX10_buryGraves_105 : decode cX10_buryGraves 105 = .ok (.iand, 1) := by decide +kernel
theorem dX10_buryGraves_106 : decode cX10_buryGraves 106 = .ok (.iastore, 1) := by decide +kernel
theorem dX10_buryGraves_107 : decode cX10_buryGraves 107 = .ok (.iinc 5 1, 3) := by decide +kernel
theorem dX10_buryGraves_110 : decode cX10_buryGraves 110 = .ok (.goto (-54), 3) := by decide +kernel
theorem dX10_buryGraves_113 : decode cX10_buryGraves 113 = .ok (.iinc 3 1, 3) := by decide +kernel
theorem dX10_buryGraves_116 : decode cX10_buryGraves 116 = .ok (.goto (-112), 3) := by decide +kernel
theorem dX10_buryGraves_119 : decode cX10_buryGraves 119 = .ok (.iload_n 2, 1) := by decide +kernel
theorem dX10_buryGraves_120 : decode cX10_buryGraves 120 = .ok (.ireturn, 1) := by decide +kernel
theorem dX10_gravesGivenBy_0 : decode cX10_gravesGivenBy 0 = .ok (.iconst 0, 1) := by decide +kernel
theorem dX10_gravesGivenBy_1 : decode cX10_gravesGivenBy 1 = .ok (.istore_n 3, 1) := by decide +kernel
theorem dX10_gravesGivenBy_2 : decode cX10_gravesGivenBy 2 = .ok (.iconst 0, 1) := by decide +kernel
theorem dX10_gravesGivenBy_3 : decode cX10_gravesGivenBy 3 = .ok (.istore 4, 2) := by decide +kernel
theorem dX10_gravesGivenBy_5 : decode cX10_gravesGivenBy 5 = .ok (.iload 4, 2) := by decide +kernel
theorem dX10_gravesGivenBy_7 : decode cX10_gravesGivenBy 7 = .ok (.aload_n 0, 1) := by decide +kernel
theorem dX10_gravesGivenBy_8 : decode cX10_gravesGivenBy 8 = .ok (.getfield 47, 3) := by decide +kernel
theorem dX10_gravesGivenBy_11 : decode cX10_gravesGivenBy 11 = .ok (.iload_n 1, 1) := by decide +kernel
theorem dX10_gravesGivenBy_12 : decode cX10_gravesGivenBy 12 = .ok (.iload_n 2, 1) := by decide +kernel
theorem dX10_gravesGivenBy_13 : decode cX10_gravesGivenBy 13 = .ok (.invokestatic 100, 3) := by decide +kernel
theorem dX10_gravesGivenBy_16 : decode cX10_gravesGivenBy 16 = .ok (.iaload, 1) := by decide +kernel
theorem dX10_gravesGivenBy_17 : decode cX10_gravesGivenBy 17 = .ok (.if_icmp .ge 40, 3) := by decide +kernel
theorem dX10_gravesGivenBy_20 : decode cX10_gravesGivenBy 20 = .ok (.aload_n 0, 1) := by decide +kernel
theorem dX10_gravesGivenBy_21 : decode cX10_gravesGivenBy 21 = .ok (.getfield 50, 3) := by decide +kernel
theorem dX10_gravesGivenBy_24 : decode cX10_gravesGivenBy 24 = .ok (.iload_n 2, 1) := by decide +kernel
theorem dX10_gravesGivenBy_25 : decode cX10_gravesGivenBy 25 = .ok (.sipush 180, 3) := by decide +kernel
theorem dX10_gravesGivenBy_28 : decode cX10_gravesGivenBy 28 = .ok (.imul, 1) := by decide +kernel
theorem dX10_gravesGivenBy_29 : decode cX10_gravesGivenBy 29 = .ok (.iload_n 1, 1) := by decide +kernel
theorem dX10_gravesGivenBy_30 : decode cX10_gravesGivenBy 30 = .ok (.bipush 30, 2) := by decide +kernel
theorem dX10_gravesGivenBy_32 : decode cX10_gravesGivenBy 32 = .ok (.imul, 1) := by decide +kernel
theorem dX10_gravesGivenBy_33 : decode cX10_gravesGivenBy 33 = .ok (.iadd, 1) := by decide +kernel
theorem dX10_gravesGivenBy_34 : decode cX10_gravesGivenBy 34 = .ok (.iload 4, 2) := by decide +kernel
theorem dX10_gravesGivenBy_36 : decode cX10_gravesGivenBy 36 = .ok (.iadd, 1) := by decide +kernel
theorem dX10_gravesGivenBy_37 : decode cX10_gravesGivenBy 37 = .ok (.iaload, 1) := by decide +kernel
theorem dX10_gravesGivenBy_38 : decode cX10_gravesGivenBy 38 = .ok (.sipush 1000, 3) := by decide +kernel
theorem dX10_gravesGivenBy_41 : decode cX10_gravesGivenBy 41 = .ok (.if_icmp .ne 10, 3) := by decide +kernel
theorem dX10_gravesGivenBy_44 : decode cX10_gravesGivenBy 44 = .ok (.iload_n 3, 1) := by decide +kernel
theorem dX10_gravesGivenBy_45 : decode cX10_gravesGivenBy 45 = .ok (.iconst 1, 1) := by decide +kernel
theorem dX10_gravesGivenBy_46 : decode cX10_gravesGivenBy 46 = .ok (.iload 4, 2) := by decide +kernel
theorem dX10_gravesGivenBy_48 : decode cX10_gravesGivenBy 48 = .ok (.ishl, 1) := by decide +kernel
theorem dX10_gravesGivenBy_49 : decode cX10_gravesGivenBy 49 = .ok (.ior, 1) := by decide +kernel
theorem dX10_gravesGivenBy_50 : decode cX10_gravesGivenBy 50 = .ok (.istore_n 3, 1) := by decide +kernel
theorem dX10_gravesGivenBy_51 : decode cX10_gravesGivenBy 51 = .ok (.iinc 4 1, 3) := by decide +kernel
theorem dX10_gravesGivenBy_54 : decode cX10_gravesGivenBy 54 = .ok (.goto (-49), 3) := by decide +kernel
theorem dX10_gravesGivenBy_57 : decode cX10_gravesGivenBy 57 = .ok (.iload_n 3, 1) := by decide +kernel
theorem dX10_gravesGivenBy_58 : decode cX10_gravesGivenBy 58 = .ok (.ireturn, 1) := by decide +kernel
theorem dX10_valuesIn_0 : decode cX10_valuesIn 0 = .ok (.iconst 0, 1) := by decide +kernel
theorem dX10_valuesIn_1 : decode cX10_valuesIn 1 = .ok (.istore 6, 2) := by decide +kernel
theorem dX10_valuesIn_3 : decode cX10_valuesIn 3 = .ok (.iconst 0, 1) := by decide +kernel
theorem dX10_valuesIn_4 : decode cX10_valuesIn 4 = .ok (.istore 7, 2) := by decide +kernel
theorem dX10_valuesIn_6 : decode cX10_valuesIn 6 = .ok (.iload 7, 2) := by decide +kernel
theorem dX10_valuesIn_8 : decode cX10_valuesIn 8 = .ok (.aload_n 0, 1) := by decide +kernel
theorem dX10_valuesIn_9 : decode cX10_valuesIn 9 = .ok (.getfield 12, 3) := by decide +kernel
theorem dX10_valuesIn_12 : decode cX10_valuesIn 12 = .ok (.getfield 131, 3) := by decide +kernel
theorem dX10_valuesIn_15 : decode cX10_valuesIn 15 = .ok (.if_icmp .ge 82, 3) := by decide +kernel
theorem dX10_valuesIn_18 : decode cX10_valuesIn 18 = .ok (.aload_n 1, 1) := by decide +kernel
theorem dX10_valuesIn_19 : decode cX10_valuesIn 19 = .ok (.iload_n 2, 1) := by decide +kernel
theorem dX10_valuesIn_20 : decode cX10_valuesIn 20 = .ok (.iload 7, 2) := by decide +kernel
theorem dX10_valuesIn_22 : decode cX10_valuesIn 22 = .ok (.invokevirtual 207, 3) := by decide +kernel
theorem dX10_valuesIn_25 : decode cX10_valuesIn 25 = .ok (.istore 8, 2) := by decide +kernel
theorem dX10_valuesIn_27 : decode cX10_valuesIn 27 = .ok (.iconst 0, 1) := by decide +kernel
theorem dX10_valuesIn_28 : decode cX10_valuesIn 28 = .ok (.istore 9, 2) := by decide +kernel
theorem dX10_valuesIn_30 : decode cX10_valuesIn 30 = .ok (.iload 9, 2) := by decide +kernel
theorem dX10_valuesIn_32 : decode cX10_valuesIn 32 = .ok (.bipush 30, 2) := by decide +kernel
theorem dX10_valuesIn_34 : decode cX10_valuesIn 34 = .ok (.if_icmp .ge 57, 3) := by decide +kernel
theorem dX10_valuesIn_37 : decode cX10_valuesIn 37 = .ok (.iload 8, 2) := by decide +kernel
theorem dX10_valuesIn_39 : decode cX10_valuesIn 39 = .ok (.iload 9, 2) := by decide +kernel
theorem dX10_valuesIn_41 : decode cX10_valuesIn 41 = .ok (.ishr, 1) := by decide +kernel
theorem dX10_valuesIn_42 : decode cX10_valuesIn 42 = .ok (.ifCond .eq 49, 3) := by decide +kernel
theorem dX10_valuesIn_45 : decode cX10_valuesIn 45 = .ok (.iload 8, 2) := by decide +kernel
theorem dX10_valuesIn_47 : decode cX10_valuesIn 47 = .ok (.iload 9, 2) := by decide +kernel
theorem dX10_valuesIn_49 : decode cX10_valuesIn 49 = .ok (.ishr, 1) := by decide +kernel
theorem dX10_valuesIn_50 : decode cX10_valuesIn 50 = .ok (.iconst 1, 1) := by decide +kernel
theorem dX10_valuesIn_51 : decode cX10_valuesIn 51 = .ok (.iand, 1) := by decide +kernel
theorem dX10_valuesIn_52 : decode cX10_valuesIn 52 = .ok (.ifCond .eq 33, 3) := by decide +kernel
theorem dX10_valuesIn_55 : decode cX10_valuesIn 55 = .ok (.aload 4, 2) := by decide +kernel
theorem dX10_valuesIn_57 : decode cX10_valuesIn 57 = .ok (.iload 5, 2) := by decide +kernel
theorem dX10_valuesIn_59 : decode cX10_valuesIn 59 = .ok (.iload 6, 2) := by decide +kernel
theorem dX10_valuesIn_61 : decode cX10_valuesIn 61 = .ok (.iadd, 1) := by decide +kernel
theorem dX10_valuesIn_62 : decode cX10_valuesIn 62 = .ok (.aload_n 0, 1) := by decide +kernel
theorem dX10_valuesIn_63 : decode cX10_valuesIn 63 = .ok (.getfield 50, 3) := by decide +kernel
theorem dX10_valuesIn_66 : decode cX10_valuesIn 66 = .ok (.iload_n 3, 1) := by decide +kernel
theorem dX10_valuesIn_67 : decode cX10_valuesIn 67 = .ok (.sipush 180, 3) := by decide +kernel
theorem dX10_valuesIn_70 : decode cX10_valuesIn 70 = .ok (.imul, 1) := by decide +kernel
theorem dX10_valuesIn_71 : decode cX10_valuesIn 71 = .ok (.iload 7, 2) := by decide +kernel
theorem dX10_valuesIn_73 : decode cX10_valuesIn 73 = .ok (.bipush 30, 2) := by decide +kernel
theorem dX10_valuesIn_75 : decode cX10_valuesIn 75 = .ok (.imul, 1) := by decide +kernel
theorem dX10_valuesIn_76 : decode cX10_valuesIn 76 = .ok (.iadd, 1) := by decide +kernel
theorem dX10_valuesIn_77 : decode cX10_valuesIn 77 = .ok (.iload 9, 2) := by decide +kernel
theorem dX10_valuesIn_79 : decode cX10_valuesIn 79 = .ok (.iadd, 1) := by decide +kernel
theorem dX10_valuesIn_80 : decode cX10_valuesIn 80 = .ok (.iaload, 1) := by decide +kernel
theorem dX10_valuesIn_81 : decode cX10_valuesIn 81 = .ok (.iastore, 1) := by decide +kernel
theorem dX10_valuesIn_82 : decode cX10_valuesIn 82 = .ok (.iinc 6 1, 3) := by decide +kernel
theorem dX10_valuesIn_85 : decode cX10_valuesIn 85 = .ok (.iinc 9 1, 3) := by decide +kernel
theorem dX10_valuesIn_88 : decode cX10_valuesIn 88 = .ok (.goto (-58), 3) := by decide +kernel
theorem dX10_valuesIn_91 : decode cX10_valuesIn 91 = .ok (.iinc 7 1, 3) := by decide +kernel
theorem dX10_valuesIn_94 : decode cX10_valuesIn 94 = .ok (.goto (-88), 3) := by decide +kernel
theorem dX10_valuesIn_97 : decode cX10_valuesIn 97 = .ok (.iload 6, 2) := by decide +kernel
theorem dX10_valuesIn_99 : decode cX10_valuesIn 99 = .ok (.ireturn, 1) := by decide +kernel
theorem dX10_rootOf_0 : decode cX10_rootOf 0 = .ok (.lconst 0, 1) := by decide +kernel
theorem dX10_rootOf_1 : decode cX10_rootOf 1 = .ok (.lstore_n 2, 1) := by decide +kernel
theorem dX10_rootOf_2 : decode cX10_rootOf 2 = .ok (.iconst 0, 1) := by decide +kernel
theorem dX10_rootOf_3 : decode cX10_rootOf 3 = .ok (.istore 4, 2) := by decide +kernel
theorem dX10_rootOf_5 : decode cX10_rootOf 5 = .ok (.iload 4, 2) := by decide +kernel
theorem dX10_rootOf_7 : decode cX10_rootOf 7 = .ok (.aload_n 0, 1) := by decide +kernel
theorem dX10_rootOf_8 : decode cX10_rootOf 8 = .ok (.getfield 12, 3) := by decide +kernel
theorem dX10_rootOf_11 : decode cX10_rootOf 11 = .ok (.getfield 153, 3) := by decide +kernel
theorem dX10_rootOf_14 : decode cX10_rootOf 14 = .ok (.if_icmp .ge 45, 3) := by decide +kernel
theorem dX10_rootOf_17 : decode cX10_rootOf 17 = .ok (.aload_n 0, 1) := by decide +kernel
theorem dX10_rootOf_18 : decode cX10_rootOf 18 = .ok (.getfield 12, 3) := by decide +kernel
theorem dX10_rootOf_21 : decode cX10_rootOf 21 = .ok (.iload 4, 2) := by decide +kernel
theorem dX10_rootOf_23 : decode cX10_rootOf 23 = .ok (.iload_n 1, 1) := by decide +kernel
theorem dX10_rootOf_24 : decode cX10_rootOf 24 = .ok (.invokevirtual 125, 3) := by decide +kernel
theorem dX10_rootOf_27 : decode cX10_rootOf 27 = .ok (.ifCond .eq 26, 3) := by decide +kernel
theorem dX10_rootOf_30 : decode cX10_rootOf 30 = .ok (.lload_n 2, 1) := by decide +kernel
theorem dX10_rootOf_31 : decode cX10_rootOf 31 = .ok (.ldc2_w 213, 3) := by decide +kernel
theorem dX10_rootOf_34 : decode cX10_rootOf 34 = .ok (.lmul, 1) := by decide +kernel
theorem dX10_rootOf_35 : decode cX10_rootOf 35 = .ok (.aload_n 0, 1) := by decide +kernel
theorem dX10_rootOf_36 : decode cX10_rootOf 36 = .ok (.iload_n 1, 1) := by decide +kernel
theorem dX10_rootOf_37 : decode cX10_rootOf 37 = .ok (.iload 4, 2) := by decide +kernel
theorem dX10_rootOf_39 : decode cX10_rootOf 39 = .ok (.invokestatic 100, 3) := by decide +kernel
theorem dX10_rootOf_42 : decode cX10_rootOf 42 = .ok (.iload 4, 2) := by decide +kernel
theorem dX10_rootOf_44 : decode cX10_rootOf 44 = .ok (.invokevirtual 215, 3) := by decide +kernel
theorem dX10_rootOf_47 : decode cX10_rootOf 47 = .ok (.ladd, 1) := by decide +kernel
theorem dX10_rootOf_48 : decode cX10_rootOf 48 = .ok (.ldc2_w 219, 3) := by decide +kernel
theorem dX10_rootOf_51 : decode cX10_rootOf 51 = .ok (.lrem, 1) := by decide +kernel
theorem dX10_rootOf_52 : decode cX10_rootOf 52 = .ok (.lstore_n 2, 1) := by decide +kernel
theorem dX10_rootOf_53 : decode cX10_rootOf 53 = .ok (.iinc 4 1, 3) := by decide +kernel
theorem dX10_rootOf_56 : decode cX10_rootOf 56 = .ok (.goto (-51), 3) := by decide +kernel
theorem dX10_rootOf_59 : decode cX10_rootOf 59 = .ok (.lload_n 2, 1) := by decide +kernel
theorem dX10_rootOf_60 : decode cX10_rootOf 60 = .ok (.l2i, 1) := by decide +kernel
theorem dX10_rootOf_61 : decode cX10_rootOf 61 = .ok (.ireturn, 1) := by decide +kernel
theorem dX10_weightOf_0 : decode cX10_weightOf 0 = .ok (.aload_n 0, 1) := by decide +kernel
theorem dX10_weightOf_1 : decode cX10_weightOf 1 = .ok (.getfield 12, 3) := by decide +kernel
theorem dX10_weightOf_4 : decode cX10_weightOf 4 = .ok (.iload_n 2, 1) := by decide +kernel
theorem dX10_weightOf_5 : decode cX10_weightOf 5 = .ok (.invokevirtual 104, 3) := by decide +kernel
theorem dX10_weightOf_8 : decode cX10_weightOf 8 = .ok (.ifCond .eq 13, 3) := by decide +kernel
theorem dX10_weightOf_11 : decode cX10_weightOf 11 = .ok (.aload_n 0, 1) := by decide +kernel
theorem dX10_weightOf_12 : decode cX10_weightOf 12 = .ok (.getfield 30, 3) := by decide +kernel
theorem dX10_weightOf_15 : decode cX10_weightOf 15 = .ok (.iload_n 1, 1) := by decide +kernel
theorem dX10_weightOf_16 : decode cX10_weightOf 16 = .ok (.invokevirtual 221, 3) := by decide +kernel
theorem dX10_weightOf_19 : decode cX10_weightOf 19 = .ok (.i2l, 1) := by decide +kernel
theorem dX10_weightOf_20 : decode cX10_weightOf 20 = .ok (.lreturn, 1) := by decide +kernel
theorem dX10_weightOf_21 : decode cX10_weightOf 21 = .ok (.ldc2_w 224, 3) := by decide +kernel
theorem dX10_weightOf_24 : decode cX10_weightOf 24 = .ok (.aload_n 0, 1) := by decide +kernel
theorem dX10_weightOf_25 : decode cX10_weightOf 25 = .ok (.getfield 30, 3) := by decide +kernel
theorem dX10_weightOf_28 : decode cX10_weightOf 28 = .ok (.iload_n 1, 1) := by decide +kernel
theorem dX10_weightOf_29 : decode cX10_weightOf 29 = .ok (.invokevirtual 221, 3) := by decide +kernel
theorem dX10_weightOf_32 : decode cX10_weightOf 32 = .ok (.i2l, 1) := by decide +kernel
theorem dX10_weightOf_33 : decode cX10_weightOf 33 = .ok (.lmul, 1) := by decide +kernel
theorem dX10_weightOf_34 : decode cX10_weightOf 34 = .ok (.lstore_n 3, 1) := by decide +kernel
theorem dX10_weightOf_35 : decode cX10_weightOf 35 = .ok (.iconst 0, 1) := by decide +kernel
theorem dX10_weightOf_36 : decode cX10_weightOf 36 = .ok (.istore 5, 2) := by decide +kernel
theorem dX10_weightOf_38 : decode cX10_weightOf 38 = .ok (.iload 5, 2) := by decide +kernel
theorem dX10_weightOf_40 : decode cX10_weightOf 40 = .ok (.aload_n 0, 1) := by decide +kernel
theorem dX10_weightOf_41 : decode cX10_weightOf 41 = .ok (.getfield 12, 3) := by decide +kernel
theorem dX10_weightOf_44 : decode cX10_weightOf 44 = .ok (.getfield 131, 3) := by decide +kernel
theorem dX10_weightOf_47 : decode cX10_weightOf 47 = .ok (.if_icmp .ge 81, 3) := by decide +kernel
theorem dX10_weightOf_50 : decode cX10_weightOf 50 = .ok (.aload_n 0, 1) := by decide +kernel
theorem dX10_weightOf_51 : decode cX10_weightOf 51 = .ok (.getfield 30, 3) := by decide +kernel
theorem dX10_weightOf_54 : decode cX10_weightOf 54 = .ok (.iload_n 1, 1) := by decide +kernel
theorem dX10_weightOf_55 : decode cX10_weightOf 55 = .ok (.iload 5, 2) := by decide +kernel
theorem dX10_weightOf_57 : decode cX10_weightOf 57 = .ok (.invokevirtual 207, 3) := by decide +kernel
theorem dX10_weightOf_60 : decode cX10_weightOf 60 = .ok (.istore 6, 2) := by decide +kernel
theorem dX10_weightOf_62 : decode cX10_weightOf 62 = .ok (.iconst 0, 1) := by decide +kernel
theorem dX10_weightOf_63 : decode cX10_weightOf 63 = .ok (.istore 7, 2) := by decide +kernel
theorem dX10_weightOf_65 : decode cX10_weightOf 65 = .ok (.iload 7, 2) := by decide +kernel
theorem dX10_weightOf_67 : decode cX10_weightOf 67 = .ok (.bipush 30, 2) := by decide +kernel
theorem dX10_weightOf_69 : decode cX10_weightOf 69 = .ok (.if_icmp .ge 53, 3) := by decide +kernel
theorem dX10_weightOf_72 : decode cX10_weightOf 72 = .ok (.iload 6, 2) := by decide +kernel
theorem dX10_weightOf_74 : decode cX10_weightOf 74 = .ok (.iload 7, 2) := by decide +kernel
theorem dX10_weightOf_76 : decode cX10_weightOf 76 = .ok (.ishr, 1) := by decide +kernel
theorem dX10_weightOf_77 : decode cX10_weightOf 77 = .ok (.ifCond .eq 45, 3) := by decide +kernel
theorem dX10_weightOf_80 : decode cX10_weightOf 80 = .ok (.iload 6, 2) := by decide +kernel
theorem dX10_weightOf_82 : decode cX10_weightOf 82 = .ok (.iload 7, 2) := by decide +kernel
theorem dX10_weightOf_84 : decode cX10_weightOf 84 = .ok (.ishr, 1) := by decide +kernel
theorem dX10_weightOf_85 : decode cX10_weightOf 85 = .ok (.iconst 1, 1) := by decide +kernel
theorem dX10_weightOf_86 : decode cX10_weightOf 86 = .ok (.iand, 1) := by decide +kernel
theorem dX10_weightOf_87 : decode cX10_weightOf 87 = .ok (.ifCond .eq 29, 3) := by decide +kernel
theorem dX10_weightOf_90 : decode cX10_weightOf 90 = .ok (.lload_n 3, 1) := by decide +kernel
theorem dX10_weightOf_91 : decode cX10_weightOf 91 = .ok (.bipush 7, 2) := by decide +kernel
theorem dX10_weightOf_93 : decode cX10_weightOf 93 = .ok (.aload_n 0, 1) := by decide +kernel
theorem dX10_weightOf_94 : decode cX10_weightOf 94 = .ok (.getfield 50, 3) := by decide +kernel
theorem dX10_weightOf_97 : decode cX10_weightOf 97 = .ok (.iload_n 2, 1) := by decide +kernel
theorem dX10_weightOf_98 : decode cX10_weightOf 98 = .ok (.sipush 180, 3) := by decide +kernel
theorem dX10_weightOf_101 : decode cX10_weightOf 101 = .ok (.imul, 1) := by decide +kernel
theorem dX10_weightOf_102 : decode cX10_weightOf 102 = .ok (.iload 5, 2) := by decide +kernel
theorem dX10_weightOf_104 : decode cX10_weightOf 104 = .ok (.bipush 30, 2) := by decide +kernel
theorem dX10_weightOf_106 : decode cX10_weightOf 106 = .ok (.imul, 1) := by decide +kernel
theorem dX10_weightOf_107 : decode cX10_weightOf 107 = .ok (.iadd, 1) := by decide +kernel
theorem dX10_weightOf_108 : decode cX10_weightOf 108 = .ok (.iload 7, 2) := by decide +kernel
theorem dX10_weightOf_110 : decode cX10_weightOf 110 = .ok (.iadd, 1) := by decide +kernel
theorem dX10_weightOf_111 : decode cX10_weightOf 111 = .ok (.iaload, 1) := by decide +kernel
theorem dX10_weightOf_112 : decode cX10_weightOf 112 = .ok (.iadd, 1) := by decide +kernel
theorem dX10_weightOf_113 : decode cX10_weightOf 113 = .ok (.i2l, 1) := by decide +kernel
theorem dX10_weightOf_114 : decode cX10_weightOf 114 = .ok (.ladd, 1) := by decide +kernel
theorem dX10_weightOf_115 : decode cX10_weightOf 115 = .ok (.lstore_n 3, 1) := by decide +kernel
theorem dX10_weightOf_116 : decode cX10_weightOf 116 = .ok (.iinc 7 1, 3) := by decide +kernel
theorem dX10_weightOf_119 : decode cX10_weightOf 119 = .ok (.goto (-54), 3) := by decide +kernel
theorem dX10_weightOf_122 : decode cX10_weightOf 122 = .ok (.iinc 5 1, 3) := by decide +kernel
theorem dX10_weightOf_125 : decode cX10_weightOf 125 = .ok (.goto (-87), 3) := by decide +kernel
theorem dX10_weightOf_128 : decode cX10_weightOf 128 = .ok (.lload_n 3, 1) := by decide +kernel
theorem dX10_weightOf_129 : decode cX10_weightOf 129 = .ok (.lreturn, 1) := by decide +kernel
theorem dX10_noteHolders_0 : decode cX10_noteHolders 0 = .ok (.aload_n 2, 1) := by decide +kernel
theorem dX10_noteHolders_1 : decode cX10_noteHolders 1 = .ok (.iconst 0, 1) := by decide +kernel
theorem dX10_noteHolders_2 : decode cX10_noteHolders 2 = .ok (.invokestatic 86, 3) := by decide +kernel
theorem dX10_noteHolders_5 : decode cX10_noteHolders 5 = .ok (.iconst 0, 1) := by decide +kernel
theorem dX10_noteHolders_6 : decode cX10_noteHolders 6 = .ok (.istore_n 3, 1) := by decide +kernel
theorem dX10_noteHolders_7 : decode cX10_noteHolders 7 = .ok (.iload_n 3, 1) := by decide +kernel
theorem dX10_noteHolders_8 : decode cX10_noteHolders 8 = .ok (.aload_n 0, 1) := by decide +kernel
theorem dX10_noteHolders_9 : decode cX10_noteHolders 9 = .ok (.getfield 12, 3) := by decide +kernel
theorem dX10_noteHolders_12 : decode cX10_noteHolders 12 = .ok (.getfield 131, 3) := by decide +kernel
theorem dX10_noteHolders_15 : decode cX10_noteHolders 15 = .ok (.if_icmp .ge 101, 3) := by decide +kernel
theorem dX10_noteHolders_18 : decode cX10_noteHolders 18 = .ok (.iconst 0, 1) := by decide +kernel
theorem dX10_noteHolders_19 : decode cX10_noteHolders 19 = .ok (.istore 4, 2) := by decide +kernel
theorem dX10_noteHolders_21 : decode cX10_noteHolders 21 = .ok (.iload 4, 2) := by decide +kernel
theorem dX10_noteHolders_23 : decode cX10_noteHolders 23 = .ok (.aload_n 0, 1) := by decide +kernel
theorem dX10_noteHolders_24 : decode cX10_noteHolders 24 = .ok (.getfield 12, 3) := by decide +kernel
theorem dX10_noteHolders_27 : decode cX10_noteHolders 27 = .ok (.getfield 131, 3) := by decide +kernel
theorem dX10_noteHolders_30 : decode cX10_noteHolders 30 = .ok (.if_icmp .ge 80, 3) := by decide +kernel
theorem dX10_noteHolders_33 : decode cX10_noteHolders 33 = .ok (.aload_n 0, 1) := by decide +kernel
theorem dX10_noteHolders_34 : decode cX10_noteHolders 34 = .ok (.iload_n 3, 1) := by decide +kernel
theorem dX10_noteHolders_35 : decode cX10_noteHolders 35 = .ok (.iload_n 1, 1) := by decide +kernel
theorem dX10_noteHolders_36 : decode cX10_noteHolders 36 = .ok (.iload 4, 2) := by decide +kernel
theorem dX10_noteHolders_38 : decode cX10_noteHolders 38 = .ok (.invokevirtual 226, 3) := by decide +kernel
theorem dX10_noteHolders_41 : decode cX10_noteHolders 41 = .ok (.istore 5, 2) := by decide +kernel
theorem dX10_noteHolders_43 : decode cX10_noteHolders 43 = .ok (.iconst 0, 1) := by decide +kernel
theorem dX10_noteHolders_44 : decode cX10_noteHolders 44 = .ok (.istore 6, 2) := by decide +kernel
theorem dX10_noteHolders_46 : decode cX10_noteHolders 46 = .ok (.iload 6, 2) := by decide +kernel
theorem dX10_noteHolders_48 : decode cX10_noteHolders 48 = .ok (.bipush 30, 2) := by decide +kernel
theorem dX10_noteHolders_50 : decode cX10_noteHolders 50 = .ok (.if_icmp .ge 54, 3) := by decide +kernel
theorem dX10_noteHolders_53 : decode cX10_noteHolders 53 = .ok (.iload 5, 2) := by decide +kernel
theorem dX10_noteHolders_55 : decode cX10_noteHolders 55 = .ok (.iload 6, 2) := by decide +kernel
theorem dX10_noteHolders_57 : decode cX10_noteHolders 57 = .ok (.ishr, 1) := by decide +kernel
theorem dX10_noteHolders_58 : decode cX10_noteHolders 58 = .ok (.ifCond .eq 46, 3) := by decide +kernel
theorem dX10_noteHolders_61 : decode cX10_noteHolders 61 = .ok (.iload 5, 2) := by decide +kernel
theorem dX10_noteHolders_63 : decode cX10_noteHolders 63 = .ok (.iload 6, 2) := by decide +kernel
theorem dX10_noteHolders_65 : decode cX10_noteHolders 65 = .ok (.ishr, 1) := by decide +kernel
theorem dX10_noteHolders_66 : decode cX10_noteHolders 66 = .ok (.iconst 1, 1) := by decide +kernel
theorem dX10_noteHolders_67 : decode cX10_noteHolders 67 = .ok (.iand, 1) := by decide +kernel
theorem dX10_noteHolders_68 : decode cX10_noteHolders 68 = .ok (.ifCond .eq 30, 3) := by decide +kernel
theorem dX10_noteHolders_71 : decode cX10_noteHolders 71 = .ok (.aload_n 2, 1) := by decide +kernel
theorem dX10_noteHolders_72 : decode cX10_noteHolders 72 = .ok (.aload_n 0, 1) := by decide +kernel
theorem dX10_noteHolders_73 : decode cX10_noteHolders 73 = .ok (.getfield 50, 3) := by decide +kernel
theorem dX10_noteHolders_76 : decode cX10_noteHolders 76 = .ok (.iload_n 1, 1) := by decide +kernel
theorem dX10_noteHolders_77 : decode cX10_noteHolders 77 = .ok (.sipush 180, 3) := by decide +kernel
theorem dX10_noteHolders_80 : decode cX10_noteHolders 80 = .ok (.imul, 1) := by decide +kernel
theorem dX10_noteHolders_81 : decode cX10_noteHolders 81 = .ok (.iload 4, 2) := by decide +kernel
theorem dX10_noteHolders_83 : decode cX10_noteHolders 83 = .ok (.bipush 30, 2) := by decide +kernel
theorem dX10_noteHolders_85 : decode cX10_noteHolders 85 = .ok (.imul, 1) := by decide +kernel
theorem dX10_noteHolders_86 : decode cX10_noteHolders 86 = .ok (.iadd, 1) := by decide +kernel
theorem dX10_noteHolders_87 : decode cX10_noteHolders 87 = .ok (.iload 6, 2) := by decide +kernel
theorem dX10_noteHolders_89 : decode cX10_noteHolders 89 = .ok (.iadd, 1) := by decide +kernel
theorem dX10_noteHolders_90 : decode cX10_noteHolders 90 = .ok (.iaload, 1) := by decide +kernel
theorem dX10_noteHolders_91 : decode cX10_noteHolders 91 = .ok (.dup2, 1) := by decide +kernel
theorem dX10_noteHolders_92 : decode cX10_noteHolders 92 = .ok (.iaload, 1) := by decide +kernel
theorem dX10_noteHolders_93 : decode cX10_noteHolders 93 = .ok (.iconst 1, 1) := by decide +kernel
theorem dX10_noteHolders_94 : decode cX10_noteHolders 94 = .ok (.iload_n 3, 1) := by decide +kernel
theorem dX10_noteHolders_95 : decode cX10_noteHolders 95 = .ok (.ishl, 1) := by decide +kernel
theorem dX10_noteHolders_96 : decode cX10_noteHolders 96 = .ok (.ior, 1) := by decide +kernel
theorem dX10_noteHolders_97 : decode cX10_noteHolders 97 = .ok (.iastore, 1) := by decide +kernel
theorem dX10_noteHolders_98 : decode cX10_noteHolders 98 = .ok (.iinc 6 1, 3) := by decide +kernel
theorem dX10_noteHolders_101 : decode cX10_noteHolders 101 = .ok (.goto (-55), 3) := by decide +kernel
theorem dX10_noteHolders_104 : decode cX10_noteHolders 104 = .ok (.iinc 4 1, 3) := by decide +kernel
theorem dX10_noteHolders_107 : decode cX10_noteHolders 107 = .ok (.goto (-86), 3) := by decide +kernel
theorem dX10_noteHolders_110 : decode cX10_noteHolders 110 = .ok (.iinc 3 1, 3) := by decide +kernel
theorem dX10_noteHolders_113 : decode cX10_noteHolders 113 = .ok (.goto (-106), 3) := by decide +kernel
theorem dX10_noteHolders_116 : decode cX10_noteHolders 116 = .ok (.return_, 1) := by decide +kernel
theorem dX10_bitsHeld_0 : decode cX10_bitsHeld 0 = .ok (.aload_n 0, 1) := by decide +kernel
theorem dX10_bitsHeld_1 : decode cX10_bitsHeld 1 = .ok (.getfield 30, 3) := by decide +kernel
theorem dX10_bitsHeld_4 : decode cX10_bitsHeld 4 = .ok (.iload_n 1, 1) := by decide +kernel
theorem dX10_bitsHeld_5 : decode cX10_bitsHeld 5 = .ok (.iload_n 2, 1) := by decide +kernel
theorem dX10_bitsHeld_6 : decode cX10_bitsHeld 6 = .ok (.invokestatic 100, 3) := by decide +kernel
theorem dX10_bitsHeld_9 : decode cX10_bitsHeld 9 = .ok (.iload_n 3, 1) := by decide +kernel
theorem dX10_bitsHeld_10 : decode cX10_bitsHeld 10 = .ok (.invokevirtual 207, 3) := by decide +kernel
theorem dX10_bitsHeld_13 : decode cX10_bitsHeld 13 = .ok (.istore 4, 2) := by decide +kernel
theorem dX10_bitsHeld_15 : decode cX10_bitsHeld 15 = .ok (.iconst 0, 1) := by decide +kernel
theorem dX10_bitsHeld_16 : decode cX10_bitsHeld 16 = .ok (.istore 5, 2) := by decide +kernel
theorem dX10_bitsHeld_18 : decode cX10_bitsHeld 18 = .ok (.iload 5, 2) := by decide +kernel
theorem dX10_bitsHeld_20 : decode cX10_bitsHeld 20 = .ok (.aload_n 0, 1) := by decide +kernel
theorem dX10_bitsHeld_21 : decode cX10_bitsHeld 21 = .ok (.getfield 12, 3) := by decide +kernel
theorem dX10_bitsHeld_24 : decode cX10_bitsHeld 24 = .ok (.getfield 131, 3) := by decide +kernel
theorem dX10_bitsHeld_27 : decode cX10_bitsHeld 27 = .ok (.if_icmp .ge 34, 3) := by decide +kernel
theorem dX10_bitsHeld_30 : decode cX10_bitsHeld 30 = .ok (.iload 4, 2) := by decide +kernel
theorem dX10_bitsHeld_32 : decode cX10_bitsHeld 32 = .ok (.aload_n 0, 1) := by decide +kernel
theorem dX10_bitsHeld_33 : decode cX10_bitsHeld 33 = .ok (.getfield 34, 3) := by decide +kernel
theorem dX10_bitsHeld_36 : decode cX10_bitsHeld 36 = .ok (.iload_n 1, 1) := by decide +kernel
theorem dX10_bitsHeld_37 : decode cX10_bitsHeld 37 = .ok (.bipush 6, 2) := by decide +kernel
theorem dX10_bitsHeld_39 : decode cX10_bitsHeld 39 = .ok (.imul, 1) := by decide +kernel
theorem dX10_bitsHeld_40 : decode cX10_bitsHeld 40 = .ok (.iload 5, 2) := by decide +kernel
theorem dX10_bitsHeld_42 : decode cX10_bitsHeld 42 = .ok (.iadd, 1) := by decide +kernel
theorem dX10_bitsHeld_43 : decode cX10_bitsHeld 43 = .ok (.bipush 6, 2) := by decide +kernel
theorem dX10_bitsHeld_45 : decode cX10_bitsHeld 45 = .ok (.imul, 1) := by decide +kernel
theorem dX10_bitsHeld_46 : decode cX10_bitsHeld 46 = .ok (.iload_n 2, 1) := by decide +kernel
theorem dX10_bitsHeld_47 : decode cX10_bitsHeld 47 = .ok (.iadd, 1) := by decide +kernel
theorem dX10_bitsHeld_48 : decode cX10_bitsHeld 48 = .ok (.iload_n 3, 1) := by decide +kernel
theorem dX10_bitsHeld_49 : decode cX10_bitsHeld 49 = .ok (.invokevirtual 207, 3) := by decide +kernel
theorem dX10_bitsHeld_52 : decode cX10_bitsHeld 52 = .ok (.ior, 1) := by decide +kernel
theorem dX10_bitsHeld_53 : decode cX10_bitsHeld 53 = .ok (.istore 4, 2) := by decide +kernel
theorem dX10_bitsHeld_55 : decode cX10_bitsHeld 55 = .ok (.iinc 5 1, 3) := by decide +kernel
theorem dX10_bitsHeld_58 : decode cX10_bitsHeld 58 = .ok (.goto (-40), 3) := by decide +kernel
theorem dX10_bitsHeld_61 : decode cX10_bitsHeld 61 = .ok (.iload 4, 2) := by decide +kernel
theorem dX10_bitsHeld_63 : decode cX10_bitsHeld 63 = .ok (.ireturn, 1) := by decide +kernel
