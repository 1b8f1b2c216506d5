theorem dX12_getsIt_1 : decode cX12_getsIt 1 = .ok (.sipush 29100, 3) := by decide +kernel
theorem dX12_getsIt_4 : decode cX12_getsIt 4 = .ok (.aload_n 0, 1) := by decide +kernel
theorem dX12_getsIt_5 : decode cX12_getsIt 5 = .ok (.aload_n 0, 1) := by decide +kernel
theorem dX12_getsIt_6 : decode cX12_getsIt 6 = .ok (.getfield 62, 3) := by decide +kernel
theorem dX12_getsIt_9 : decode cX12_getsIt 9 = .ok (.iconst 0, 1) := by decide +kernel
theorem dX12_getsIt_10 : decode cX12_getsIt 10 = .ok (.iaload, 1) := by decide +kernel
theorem dX12_getsIt_11 : decode cX12_getsIt 11 = .ok (.iload_n 1, 1) := by decide +kernel
theorem dX12_getsIt_12 : decode cX12_getsIt 12 = .ok (.invokevirtual 303, 3) := by decide +kernel
theorem dX12_getsIt_15 : decode cX12_getsIt 15 = .ok (.invokevirtual 313, 3) := by decide +kernel
theorem dX12_getsIt_18 : decode cX12_getsIt 18 = .ok (.iconst 1, 1) := by decide +kernel
theorem dX12_getsIt_19 : decode cX12_getsIt 19 = .ok (.istore_n 3, 1) := by decide +kernel
theorem dX12_getsIt_20 : decode cX12_getsIt 20 = .ok (.iload_n 3, 1) := by decide +kernel
theorem dX12_getsIt_21 : decode cX12_getsIt 21 = .ok (.aload_n 0, 1) := by decide +kernel
theorem dX12_getsIt_22 : decode cX12_getsIt 22 = .ok (.getfield 7, 3) := by decide +kernel
theorem dX12_getsIt_25 : decode cX12_getsIt 25 = .ok (.iconst 1, 1) := by decide +kernel
theorem dX12_getsIt_26 : decode cX12_getsIt 26 = .ok (.iaload, 1) := by decide +kernel
theorem dX12_getsIt_27 : decode cX12_getsIt 27 = .ok (.if_icmp .ge 28, 3) := by decide +kernel
theorem dX12_getsIt_30 : decode cX12_getsIt 30 = .ok (.aload_n 0, 1) := by decide +kernel
theorem dX12_getsIt_31 : decode cX12_getsIt 31 = .ok (.sipush 29100, 3) := by decide +kernel
theorem dX12_getsIt_34 : decode cX12_getsIt 34 = .ok (.aload_n 0, 1) := by decide +kernel
theorem dX12_getsIt_35 : decode cX12_getsIt 35 = .ok (.aload_n 0, 1) := by decide +kernel
theorem dX12_getsIt_36 : decode cX12_getsIt 36 = .ok (.getfield 62, 3) := by decide +kernel
theorem dX12_getsIt_39 : decode cX12_getsIt 39 = .ok (.iload_n 3, 1) := by decide +kernel
theorem dX12_getsIt_40 : decode cX12_getsIt 40 = .ok (.iaload, 1) := by decide +kernel
theorem dX12_getsIt_41 : decode cX12_getsIt 41 = .ok (.iload_n 1, 1) := by decide +kernel
theorem dX12_getsIt_42 : decode cX12_getsIt 42 = .ok (.invokevirtual 303, 3) := by decide +kernel
theorem dX12_getsIt_45 : decode cX12_getsIt 45 = .ok (.iload_n 1, 1) := by decide +kernel
theorem dX12_getsIt_46 : decode cX12_getsIt 46 = .ok (.invokevirtual 306, 3) := by decide +kernel
theorem dX12_getsIt_49 : decode cX12_getsIt 49 = .ok (.iinc 3 1, 3) := by decide +kernel
theorem dX12_getsIt_52 : decode cX12_getsIt 52 = .ok (.goto (-32), 3) := by decide +kernel
theorem dX12_getsIt_55 : decode cX12_getsIt 55 = .ok (.iconst 0, 1) := by decide +kernel
theorem dX12_getsIt_56 : decode cX12_getsIt 56 = .ok (.istore_n 3, 1) := by decide +kernel
theorem dX12_getsIt_57 : decode cX12_getsIt 57 = .ok (.iload_n 3, 1) := by decide +kernel
theorem dX12_getsIt_58 : decode cX12_getsIt 58 = .ok (.aload_n 0, 1) := by decide +kernel
theorem dX12_getsIt_59 : decode cX12_getsIt 59 = .ok (.getfield 7, 3) := by decide +kernel
theorem dX12_getsIt_62 : decode cX12_getsIt 62 = .ok (.iconst 1, 1) := by decide +kernel
theorem dX12_getsIt_63 : decode cX12_getsIt 63 = .ok (.iaload, 1) := by decide +kernel
theorem dX12_getsIt_64 : decode cX12_getsIt 64 = .ok (.if_icmp .ge 27, 3) := by decide +kernel
theorem dX12_getsIt_67 : decode cX12_getsIt 67 = .ok (.aload_n 0, 1) := by decide +kernel
theorem dX12_getsIt_68 : decode cX12_getsIt 68 = .ok (.aload_n 0, 1) := by decide +kernel
theorem dX12_getsIt_69 : decode cX12_getsIt 69 = .ok (.aload_n 0, 1) := by decide +kernel
theorem dX12_getsIt_70 : decode cX12_getsIt 70 = .ok (.getfield 62, 3) := by decide +kernel
theorem dX12_getsIt_73 : decode cX12_getsIt 73 = .ok (.iload_n 3, 1) := by decide +kernel
theorem dX12_getsIt_74 : decode cX12_getsIt 74 = .ok (.iaload, 1) := by decide +kernel
theorem dX12_getsIt_75 : decode cX12_getsIt 75 = .ok (.iload_n 1, 1) := by decide +kernel
theorem dX12_getsIt_76 : decode cX12_getsIt 76 = .ok (.invokevirtual 303, 3) := by decide +kernel
theorem dX12_getsIt_79 : decode cX12_getsIt 79 = .ok (.sipush 29100, 3) := by decide +kernel
theorem dX12_getsIt_82 : decode cX12_getsIt 82 = .ok (.invokevirtual 313, 3) := by decide +kernel
theorem dX12_getsIt_85 : decode cX12_getsIt 85 = .ok (.iinc 3 1, 3) := by decide +kernel
theorem dX12_getsIt_88 : decode cX12_getsIt 88 = .ok (.goto (-31), 3) := by decide +kernel
theorem dX12_getsIt_91 : decode cX12_getsIt 91 = .ok (.iload_n 2, 1) := by decide +kernel
theorem dX12_getsIt_92 : decode cX12_getsIt 92 = .ok (.iconst (-1), 1) := by decide +kernel
theorem dX12_getsIt_93 : decode cX12_getsIt 93 = .ok (.if_icmp .eq 11, 3) := by decide +kernel
theorem dX12_getsIt_96 : decode cX12_getsIt 96 = .ok (.aload_n 0, 1) := by decide +kernel
theorem dX12_getsIt_97 : decode cX12_getsIt 97 = .ok (.iload_n 1, 1) := by decide +kernel
theorem dX12_getsIt_98 : decode cX12_getsIt 98 = .ok (.invokevirtual 287, 3) := by decide +kernel
theorem dX12_getsIt_101 : decode cX12_getsIt 101 = .ok (.ifCond .eq 4, 3) := by decide +kernel
theorem dX12_getsIt_104 : decode cX12_getsIt 104 = .ok (.return_, 1) := by decide +kernel
theorem dX12_getsIt_105 : decode cX12_getsIt 105 = .ok (.aload_n 0, 1) := by decide +kernel
theorem dX12_getsIt_106 : decode cX12_getsIt 106 = .ok (.getfield 7, 3) := by decide +kernel
theorem dX12_getsIt_109 : decode cX12_getsIt 109 = .ok (.sipush 4440, 3) := by decide +kernel
theorem dX12_getsIt_112 : decode cX12_getsIt 112 = .ok (.bipush 8, 2) := by decide +kernel
theorem dX12_getsIt_114 : decode cX12_getsIt 114 = .ok (.iload_n 2, 1) := by decide +kernel
theorem dX12_getsIt_115 : decode cX12_getsIt 115 = .ok (.imul, 1) := by decide +kernel
theorem dX12_getsIt_116 : decode cX12_getsIt 116 = .ok (.iadd, 1) := by decide +kernel
theorem dX12_getsIt_117 : decode cX12_getsIt 117 = .ok (.iload_n 1, 1) := by decide +kernel
theorem dX12_getsIt_118 : decode cX12_getsIt 118 = .ok (.iastore, 1) := by decide +kernel
theorem dX12_getsIt_119 : decode cX12_getsIt 119 = .ok (.iconst 0, 1) := by decide +kernel
theorem dX12_getsIt_120 : decode cX12_getsIt 120 = .ok (.istore_n 3, 1) := by decide +kernel
theorem dX12_getsIt_121 : decode cX12_getsIt 121 = .ok (.iload_n 3, 1) := by decide +kernel
theorem dX12_getsIt_122 : decode cX12_getsIt 122 = .ok (.bipush 6, 2) := by decide +kernel
theorem dX12_getsIt_124 : decode cX12_getsIt 124 = .ok (.if_icmp .ge 36, 3) := by decide +kernel
theorem dX12_getsIt_127 : decode cX12_getsIt 127 = .ok (.aload_n 0, 1) := by decide +kernel
theorem dX12_getsIt_128 : decode cX12_getsIt 128 = .ok (.getfield 7, 3) := by decide +kernel
theorem dX12_getsIt_131 : decode cX12_getsIt 131 = .ok (.sipush 4440, 3) := by decide +kernel
theorem dX12_getsIt_134 : decode cX12_getsIt 134 = .ok (.bipush 8, 2) := by decide +kernel
theorem dX12_getsIt_136 : decode cX12_getsIt 136 = .ok (.iload_n 2, 1) := by decide +kernel
theorem dX12_getsIt_137 : decode cX12_getsIt 137 = .ok (.imul, 1) := by decide +kernel
theorem dX12_getsIt_138 : decode cX12_getsIt 138 = .ok (.iadd, 1) := by decide +kernel
theorem dX12_getsIt_139 : decode cX12_getsIt 139 = .ok (.iconst 1, 1) := by decide +kernel
theorem dX12_getsIt_140 : decode cX12_getsIt 140 = .ok (.iadd, 1) := by decide +kernel
theorem dX12_getsIt_141 : decode cX12_getsIt 141 = .ok (.iload_n 3, 1) := by decide +kernel
theorem dX12_getsIt_142 : decode cX12_getsIt 142 = .ok (.iadd, 1) := by decide +kernel
theorem dX12_getsIt_143 : decode cX12_getsIt 143 = .ok (.aload_n 0, 1) := by decide +kernel
theorem dX12_getsIt_144 : decode cX12_getsIt 144 = .ok (.getfield 7, 3) := by decide +kernel
theorem dX12_getsIt_147 : decode cX12_getsIt 147 = .ok (.sipush 29106, 3) := by decide +kernel
theorem dX12_getsIt_150 : decode cX12_getsIt 150 = .ok (.iload_n 3, 1) := by decide +kernel
theorem dX12_getsIt_151 : decode cX12_getsIt 151 = .ok (.iadd, 1) := by decide +kernel
theorem dX12_getsIt_152 : decode cX12_getsIt 152 = .ok (.iaload, 1) := by decide +kernel
theorem dX12_getsIt_153 : decode cX12_getsIt 153 = .ok (.iastore, 1) := by decide +kernel
theorem dX12_getsIt_154 : decode cX12_getsIt 154 = .ok (.iinc 3 1, 3) := by decide +kernel
theorem dX12_getsIt_157 : decode cX12_getsIt 157 = .ok (.goto (-36), 3) := by decide +kernel
theorem dX12_getsIt_160 : decode cX12_getsIt 160 = .ok (.return_, 1) := by decide +kernel
theorem dX12_get_0 : decode cX12_get 0 = .ok (.aload_n 0, 1) := by decide +kernel
theorem dX12_get_1 : decode cX12_get 1 = .ok (.iload_n 1, 1) := by decide +kernel
theorem dX12_get_2 : decode cX12_get 2 = .ok (.invokevirtual 278, 3) := by decide +kernel
theorem dX12_get_5 : decode cX12_get 5 = .ok (.ifCond .eq 23, 3) := by decide +kernel
theorem dX12_get_8 : decode cX12_get 8 = .ok (.aload_n 0, 1) := by decide +kernel
theorem dX12_get_9 : decode cX12_get 9 = .ok (.iload_n 2, 1) := by decide +kernel
theorem dX12_get_10 : decode cX12_get 10 = .ok (.invokevirtual 281, 3) := by decide +kernel
theorem dX12_get_13 : decode cX12_get 13 = .ok (.ifCond .eq 15, 3) := by decide +kernel
theorem dX12_get_16 : decode cX12_get 16 = .ok (.iload_n 3, 1) := by decide +kernel
theorem dX12_get_17 : decode cX12_get 17 = .ok (.iconst (-1), 1) := by decide +kernel
theorem dX12_get_18 : decode cX12_get 18 = .ok (.if_icmp .eq 16, 3) := by decide +kernel
theorem dX12_get_21 : decode cX12_get 21 = .ok (.iload_n 3, 1) := by decide +kernel
theorem dX12_get_22 : decode cX12_get 22 = .ok (.invokestatic 332, 3) := by decide +kernel
theorem dX12_get_25 : decode cX12_get 25 = .ok (.ifCond .ne 9, 3) := by decide +kernel
theorem dX12_get_28 : decode cX12_get 28 = .ok (.aload_n 0, 1) := by decide +kernel
theorem dX12_get_29 : decode cX12_get 29 = .ok (.iconst 1, 1) := by decide +kernel
theorem dX12_get_30 : decode cX12_get 30 = .ok (.invokevirtual 190, 3) := by decide +kernel
theorem dX12_get_33 : decode cX12_get 33 = .ok (.ireturn, 1) := by decide +kernel
theorem dX12_get_34 : decode cX12_get 34 = .ok (.aload_n 0, 1) := by decide +kernel
theorem dX12_get_35 : decode cX12_get 35 = .ok (.iload_n 1, 1) := by decide +kernel
theorem dX12_get_36 : decode cX12_get 36 = .ok (.iload_n 2, 1) := by decide +kernel
theorem dX12_get_37 : decode cX12_get 37 = .ok (.invokevirtual 356, 3) := by decide +kernel
theorem dX12_get_40 : decode cX12_get 40 = .ok (.ifCond .ne 10, 3) := by decide +kernel
theorem dX12_get_43 : decode cX12_get 43 = .ok (.aload_n 0, 1) := by decide +kernel
theorem dX12_get_44 : decode cX12_get 44 = .ok (.bipush 7, 2) := by decide +kernel
theorem dX12_get_46 : decode cX12_get 46 = .ok (.invokevirtual 190, 3) := by decide +kernel
theorem dX12_get_49 : decode cX12_get 49 = .ok (.ireturn, 1) := by decide +kernel
theorem dX12_get_50 : decode cX12_get 50 = .ok (.aload_n 0, 1) := by decide +kernel
theorem dX12_get_51 : decode cX12_get 51 = .ok (.iload_n 1, 1) := by decide +kernel
theorem dX12_get_52 : decode cX12_get 52 = .ok (.iload_n 3, 1) := by decide +kernel
theorem dX12_get_53 : decode cX12_get 53 = .ok (.invokevirtual 359, 3) := by decide +kernel
theorem dX12_get_56 : decode cX12_get 56 = .ok (.aload_n 0, 1) := by decide +kernel
theorem dX12_get_57 : decode cX12_get 57 = .ok (.sipush 29100, 3) := by decide +kernel
theorem dX12_get_60 : decode cX12_get 60 = .ok (.iload_n 1, 1) := by decide +kernel
theorem dX12_get_61 : decode cX12_get 61 = .ok (.invokevirtual 362, 3) := by decide +kernel
theorem dX12_get_64 : decode cX12_get 64 = .ok (.iconst 0, 1) := by decide +kernel
theorem dX12_get_65 : decode cX12_get 65 = .ok (.istore 4, 2) := by decide +kernel
theorem dX12_get_67 : decode cX12_get 67 = .ok (.iload 4, 2) := by decide +kernel
theorem dX12_get_69 : decode cX12_get 69 = .ok (.aload_n 0, 1) := by decide +kernel
theorem dX12_get_70 : decode cX12_get 70 = .ok (.getfield 296, 3) := by decide +kernel
theorem dX12_get_73 : decode cX12_get 73 = .ok (.if_icmp .ge 23, 3) := by decide +kernel
theorem dX12_get_76 : decode cX12_get 76 = .ok (.aload_n 0, 1) := by decide +kernel
theorem dX12_get_77 : decode cX12_get 77 = .ok (.getfield 65, 3) := by decide +kernel
theorem dX12_get_80 : decode cX12_get 80 = .ok (.iload 4, 2) := by decide +kernel
theorem dX12_get_82 : decode cX12_get 82 = .ok (.aload_n 0, 1) := by decide +kernel
theorem dX12_get_83 : decode cX12_get 83 = .ok (.getfield 50, 3) := by decide +kernel
theorem dX12_get_86 : decode cX12_get 86 = .ok (.iload 4, 2) := by decide +kernel
theorem dX12_get_88 : decode cX12_get 88 = .ok (.iaload, 1) := by decide +kernel
theorem dX12_get_89 : decode cX12_get 89 = .ok (.iastore, 1) := by decide +kernel
theorem dX12_get_90 : decode cX12_get 90 = .ok (.iinc 4 1, 3) := by decide +kernel
theorem dX12_get_93 : decode cX12_get 93 = .ok (.goto (-26), 3) := by decide +kernel
theorem dX12_get_96 : decode cX12_get 96 = .ok (.aload_n 0, 1) := by decide +kernel
theorem dX12_get_97 : decode cX12_get 97 = .ok (.aload_n 0, 1) := by decide +kernel
theorem dX12_get_98 : decode cX12_get 98 = .ok (.getfield 296, 3) := by decide +kernel
theorem dX12_get_101 : decode cX12_get 101 = .ok (.putfield 365, 3) := by decide +kernel
theorem dX12_get_104 : decode cX12_get 104 = .ok (.aload_n 0, 1) := by decide +kernel
theorem dX12_get_105 : decode cX12_get 105 = .ok (.aload_n 0, 1) := by decide +kernel
theorem dX12_get_106 : decode cX12_get 106 = .ok (.iload_n 1, 1) := by decide +kernel
theorem dX12_get_107 : decode cX12_get 107 = .ok (.invokevirtual 287, 3) := by decide +kernel
theorem dX12_get_110 : decode cX12_get 110 = .ok (.ifCond .eq 13, 3) := by decide +kernel
theorem dX12_get_113 : decode cX12_get 113 = .ok (.aload_n 0, 1) := by decide +kernel
theorem dX12_get_114 : decode cX12_get 114 = .ok (.sipush 29100, 3) := by decide +kernel
theorem dX12_get_117 : decode cX12_get 117 = .ok (.invokevirtual 368, 3) := by decide +kernel
theorem dX12_get_120 : decode cX12_get 120 = .ok (.goto 7, 3) := by decide +kernel
theorem dX12_get_123 : decode cX12_get 123 = .ok (.aload_n 0, 1) := by decide +kernel
theorem dX12_get_124 : decode cX12_get 124 = .ok (.getfield 296, 3) := by decide +kernel
theorem dX12_get_127 : decode cX12_get 127 = .ok (.invokevirtual 193, 3) := by decide +kernel
theorem dX12_get_130 : decode cX12_get 130 = .ok (.ireturn, 1) := by decide +kernel
theorem dX12_got_0 : decode cX12_got 0 = .ok (.iload_n 1, 1) := by decide +kernel
theorem dX12_got_1 : decode cX12_got 1 = .ok (.ifCond .lt 11, 3) := by decide +kernel
theorem dX12_got_4 : decode cX12_got 4 = .ok (.iload_n 1, 1) := by decide +kernel
theorem dX12_got_5 : decode cX12_got 5 = .ok (.aload_n 0, 1) := by decide +kernel
theorem dX12_got_6 : decode cX12_got 6 = .ok (.getfield 365, 3) := by decide +kernel
theorem dX12_got_9 : decode cX12_got 9 = .ok (.if_icmp .lt 12, 3) := by decide +kernel
theorem dX12_got_12 : decode cX12_got 12 = .ok (.aload_n 0, 1) := by decide +kernel
theorem dX12_got_13 : decode cX12_got 13 = .ok (.bipush 6, 2) := by decide +kernel
theorem dX12_got_15 : decode cX12_got 15 = .ok (.invokevirtual 190, 3) := by decide +kernel
theorem dX12_got_18 : decode cX12_got 18 = .ok (.goto 13, 3) := by decide +kernel
theorem dX12_got_21 : decode cX12_got 21 = .ok (.aload_n 0, 1) := by decide +kernel
theorem dX12_got_22 : decode cX12_got 22 = .ok (.aload_n 0, 1) := by decide +kernel
theorem dX12_got_23 : decode cX12_got 23 = .ok (.getfield 65, 3) := by decide +kernel
theorem dX12_got_26 : decode cX12_got 26 = .ok (.iload_n 1, 1) := by decide +kernel
theorem dX12_got_27 : decode cX12_got 27 = .ok (.iaload, 1) := by decide +kernel
theorem dX12_got_28 : decode cX12_got 28 = .ok (.invokevirtual 193, 3) := by decide +kernel
theorem dX12_got_31 : decode cX12_got 31 = .ok (.ireturn, 1) := by decide +kernel
theorem dX12_isDone_0 : decode cX12_isDone 0 = .ok (.aload_n 0, 1) := by decide +kernel
theorem dX12_isDone_1 : decode cX12_isDone 1 = .ok (.getfield 59, 3) := by decide +kernel
theorem dX12_isDone_4 : decode cX12_isDone 4 = .ok (.iconst (-1), 1) := by decide +kernel
theorem dX12_isDone_5 : decode cX12_isDone 5 = .ok (.if_icmp .ne 12, 3) := by decide +kernel
theorem dX12_isDone_8 : decode cX12_isDone 8 = .ok (.aload_n 0, 1) := by decide +kernel
theorem dX12_isDone_9 : decode cX12_isDone 9 = .ok (.bipush 6, 2) := by decide +kernel
theorem dX12_isDone_11 : decode cX12_isDone 11 = .ok (.invokevirtual 190, 3) := by decide +kernel
theorem dX12_isDone_14 : decode cX12_isDone 14 = .ok (.goto 11, 3) := by decide +kernel
theorem dX12_isDone_17 : decode cX12_isDone 17 = .ok (.aload_n 0, 1) := by decide +kernel
theorem dX12_isDone_18 : decode cX12_isDone 18 = .ok (.aload_n 0, 1) := by decide +kernel
theorem dX12_isDone_19 : decode cX12_isDone 19 = .ok (.getfield 59, 3) := by decide +kernel
theorem dX12_isDone_22 : decode cX12_isDone 22 = .ok (.invokevirtual 193, 3) := by decide +kernel
theorem dX12_isDone_25 : decode cX12_isDone 25 = .ok (.ireturn, 1) := by decide +kernel
theorem dX12_fall_0 : decode cX12_fall 0 = .ok (.aload_n 0, 1) := by decide +kernel
theorem dX12_fall_1 : decode cX12_fall 1 = .ok (.iload_n 1, 1) := by decide +kernel
theorem dX12_fall_2 : decode cX12_fall 2 = .ok (.invokevirtual 281, 3) := by decide +kernel
theorem dX12_fall_5 : decode cX12_fall 5 = .ok (.ifCond .ne 9, 3) := by decide +kernel
theorem dX12_fall_8 : decode cX12_fall 8 = .ok (.aload_n 0, 1) := by decide +kernel
theorem dX12_fall_9 : decode cX12_fall 9 = .ok (.iconst 1, 1) := by decide +kernel
theorem dX12_fall_10 : decode cX12_fall 10 = .ok (.invokevirtual 103, 3) := by decide +kernel
theorem dX12_fall_13 : decode cX12_fall 13 = .ok (.ireturn, 1) := by decide +kernel
theorem dX12_fall_14 : decode cX12_fall 14 = .ok (.aload_n 0, 1) := by decide +kernel
theorem dX12_fall_15 : decode cX12_fall 15 = .ok (.getfield 7, 3) := by decide +kernel
theorem dX12_fall_18 : decode cX12_fall 18 = .ok (.iconst 5, 1) := by decide +kernel
theorem dX12_fall_19 : decode cX12_fall 19 = .ok (.aload_n 0, 1) := by decide +kernel
theorem dX12_fall_20 : decode cX12_fall 20 = .ok (.getfield 7, 3) := by decide +kernel
theorem dX12_fall_23 : decode cX12_fall 23 = .ok (.iconst 5, 1) := by decide +kernel
theorem dX12_fall_24 : decode cX12_fall 24 = .ok (.iaload, 1) := by decide +kernel
theorem dX12_fall_25 : decode cX12_fall 25 = .ok (.iconst 1, 1) := by decide +kernel
theorem dX12_fall_26 : decode cX12_fall 26 = .ok (.iload_n 1, 1) := by decide +kernel
theorem dX12_fall_27 : decode cX12_fall 27 = .ok (.ishl, 1) := by decide +kernel
theorem dX12_fall_28 : decode cX12_fall 28 = .ok (.iconst (-1), 1) := by decide +kernel
theorem dX12_fall_29 : decode cX12_fall 29 = .ok (.ixor, 1) := by decide +kernel
theorem dX12_fall_30 : decode cX12_fall 30 = .ok (.iand, 1) := by decide +kernel
theorem dX12_fall_31 : decode cX12_fall 31 = .ok (.iload_n 2, 1) := by decide +kernel
theorem dX12_fall_32 : decode cX12_fall 32 = .ok (.ifCond .eq 7, 3) := by decide +kernel
theorem dX12_fall_35 : decode cX12_fall 35 = .ok (.iconst 0, 1) := by decide +kernel
theorem dX12_fall_36 : decode cX12_fall 36 = .ok (.goto 6, 3) := by decide +kernel
theorem dX12_fall_39 : decode cX12_fall 39 = .ok (.iconst 1, 1) := by decide +kernel
theorem dX12_fall_40 : decode cX12_fall 40 = .ok (.iload_n 1, 1) := by decide +kernel
theorem dX12_fall_41 : decode cX12_fall 41 = .ok (.ishl, 1) := by decide +kernel
theorem dX12_fall_42 : decode cX12_fall 42 = .ok (.ior, 1) := by decide +kernel
theorem dX12_fall_43 : decode cX12_fall 43 = .ok (.iastore, 1) := by decide +kernel
theorem dX12_fall_44 : decode cX12_fall 44 = .ok (.aload_n 0, 1) := by decide +kernel
theorem dX12_fall_45 : decode cX12_fall 45 = .ok (.iconst 0, 1) := by decide +kernel
theorem dX12_fall_46 : decode cX12_fall 46 = .ok (.invokevirtual 103, 3) := by decide +kernel
theorem dX12_fall_49 : decode cX12_fall 49 = .ok (.ireturn, 1) := by decide +kernel
theorem dX12_wipes_0 : decode cX12_wipes 0 = .ok (.iconst 0, 1) := by decide +kernel
theorem dX12_wipes_1 : decode cX12_wipes 1 = .ok (.istore_n 2, 1) := by decide +kernel
theorem dX12_wipes_2 : decode cX12_wipes 2 = .ok (.iload_n 2, 1) := by decide +kernel
theorem dX12_wipes_3 : decode cX12_wipes 3 = .ok (.bipush 72, 2) := by decide +kernel
theorem dX12_wipes_5 : decode cX12_wipes 5 = .ok (.if_icmp .ge 23, 3) := by decide +kernel
theorem dX12_wipes_8 : decode cX12_wipes 8 = .ok (.aload_n 0, 1) := by decide +kernel
theorem dX12_wipes_9 : decode cX12_wipes 9 = .ok (.getfield 7, 3) := by decide +kernel
theorem dX12_wipes_12 : decode cX12_wipes 12 = .ok (.aload_n 0, 1) := by decide +kernel
theorem dX12_wipes_13 : decode cX12_wipes 13 = .ok (.iload_n 1, 1) := by decide +kernel
theorem dX12_wipes_14 : decode cX12_wipes 14 = .ok (.iconst 0, 1) := by decide +kernel
theorem dX12_wipes_15 : decode cX12_wipes 15 = .ok (.invokevirtual 303, 3) := by decide +kernel
theorem dX12_wipes_18 : decode cX12_wipes 18 = .ok (.iload_n 2, 1) := by decide +kernel
theorem dX12_wipes_19 : decode cX12_wipes 19 = .ok (.iadd, 1) := by decide +kernel
theorem dX12_wipes_20 : decode cX12_wipes 20 = .ok (.iconst 0, 1) := by decide +kernel
theorem dX12_wipes_21 : decode cX12_wipes 21 = .ok (.iastore, 1) := by decide +kernel
theorem dX12_wipes_22 : decode cX12_wipes 22 = .ok (.iinc 2 1, 3) := by decide +kernel
theorem dX12_wipes_25 : decode cX12_wipes 25 = .ok (.goto (-23), 3) := by decide +kernel
theorem dX12_wipes_28 : decode cX12_wipes 28 = .ok (.iconst 0, 1) := by decide +kernel
theorem dX12_wipes_29 : decode cX12_wipes 29 = .ok (.istore_n 2, 1) := by decide +kernel
theorem dX12_wipes_30 : decode cX12_wipes 30 = .ok (.iload_n 2, 1) := by decide +kernel
theorem dX12_wipes_31 : decode cX12_wipes 31 = .ok (.sipush 468, 3) := by decide +kernel
theorem dX12_wipes_34 : decode cX12_wipes 34 = .ok (.if_icmp .ge 24, 3) := by decide +kernel
theorem dX12_wipes_37 : decode cX12_wipes 37 = .ok (.aload_n 0, 1) := by decide +kernel
theorem dX12_wipes_38 : decode cX12_wipes 38 = .ok (.getfield 7, 3) := by decide +kernel
theorem dX12_wipes_41 : decode cX12_wipes 41 = .ok (.aload_n 0, 1) := by decide +kernel
theorem dX12_wipes_42 : decode cX12_wipes 42 = .ok (.iload_n 1, 1) := by decide +kernel
theorem dX12_wipes_43 : decode cX12_wipes 43 = .ok (.iconst 0, 1) := by decide +kernel
theorem dX12_wipes_44 : decode cX12_wipes 44 = .ok (.iconst 0, 1) := by decide +kernel
theorem dX12_wipes_45 : decode cX12_wipes 45 = .ok (.invokevirtual 310, 3) := by decide +kernel
theorem dX12_wipes_48 : decode cX12_wipes 48 = .ok (.iload_n 2, 1) := by decide +kernel
theorem dX12_wipes_49 : decode cX12_wipes 49 = .ok (.iadd, 1) := by decide +kernel
theorem dX12_wipes_50 : decode cX12_wipes 50 = .ok (.iconst 0, 1) := by decide +kernel
theorem dX12_wipes_51 : decode cX12_wipes 51 = .ok (.iastore, 1) := by decide +kernel
theorem dX12_wipes_52 : decode cX12_wipes 52 = .ok (.iinc 2 1, 3) := by decide +kernel
theorem dX12_wipes_55 : decode cX12_wipes 55 = .ok (.goto (-25), 3) := by decide +kernel
theorem dX12_wipes_58 : decode cX12_wipes 58 = .ok (.return_, 1) := by decide +kernel
theorem dX12_wipe_0 : decode cX12_wipe 0 = .ok (.aload_n 0, 1) := by decide +kernel
theorem dX12_wipe_1 : decode cX12_wipe 1 = .ok (.iload_n 1, 1) := by decide +kernel
theorem dX12_wipe_2 : decode cX12_wipe 2 = .ok (.invokevirtual 281, 3) := by decide +kernel
theorem dX12_wipe_5 : decode cX12_wipe 5 = .ok (.ifCond .ne 9, 3) := by decide +kernel
theorem dX12_wipe_8 : decode cX12_wipe 8 = .ok (.aload_n 0, 1) := by decide +kernel
theorem dX12_wipe_9 : decode cX12_wipe 9 = .ok (.iconst 1, 1) := by decide +kernel
theorem dX12_wipe_10 : decode cX12_wipe 10 = .ok (.invokevirtual 103, 3) := by decide +kernel
theorem dX12_wipe_13 : decode cX12_wipe 13 = .ok (.ireturn, 1) := by decide +kernel
theorem dX12_wipe_14 : decode cX12_wipe 14 = .ok (.aload_n 0, 1) := by decide +kernel
theorem dX12_wipe_15 : decode cX12_wipe 15 = .ok (.iload_n 1, 1) := by decide +kernel
theorem dX12_wipe_16 : decode cX12_wipe 16 = .ok (.invokevirtual 371, 3) := by decide +kernel
theorem dX12_wipe_19 : decode cX12_wipe 19 = .ok (.aload_n 0, 1) := by decide +kernel
theorem dX12_wipe_20 : decode cX12_wipe 20 = .ok (.iconst 0, 1) := by decide +kernel
theorem dX12_wipe_21 : decode cX12_wipe 21 = .ok (.invokevirtual 103, 3) := by decide +kernel
theorem dX12_wipe_24 : decode cX12_wipe 24 = .ok (.ireturn, 1) := by decide +kernel
theorem dX12_part_0 : decode cX12_part 0 = .ok (.iload_n 1, 1) := by decide +kernel
theorem dX12_part_1 : decode cX12_part 1 = .ok (.ifCond .lt 15, 3) := by decide +kernel
theorem dX12_part_4 : decode cX12_part 4 = .ok (.iload_n 1, 1) := by decide +kernel
theorem dX12_part_5 : decode cX12_part 5 = .ok (.iconst 1, 1) := by decide +kernel
theorem dX12_part_6 : decode cX12_part 6 = .ok (.aload_n 0, 1) := by decide +kernel
theorem dX12_part_7 : decode cX12_part 7 = .ok (.getfield 7, 3) := by decide +kernel
theorem dX12_part_10 : decode cX12_part 10 = .ok (.iconst 3, 1) := by decide +kernel
theorem dX12_part_11 : decode cX12_part 11 = .ok (.iaload, 1) := by decide +kernel
theorem dX12_part_12 : decode cX12_part 12 = .ok (.ishl, 1) := by decide +kernel
theorem dX12_part_13 : decode cX12_part 13 = .ok (.if_icmp .lt 9, 3) := by decide +kernel
theorem dX12_part_16 : decode cX12_part 16 = .ok (.aload_n 0, 1) := by decide +kernel
theorem dX12_part_17 : decode cX12_part 17 = .ok (.iconst 1, 1) := by decide +kernel
theorem dX12_part_18 : decode cX12_part 18 = .ok (.invokevirtual 103, 3) := by decide +kernel
theorem dX12_part_21 : decode cX12_part 21 = .ok (.ireturn, 1) := by decide +kernel
theorem dX12_part_22 : decode cX12_part 22 = .ok (.aload_n 0, 1) := by decide +kernel
theorem dX12_part_23 : decode cX12_part 23 = .ok (.getfield 7, 3) := by decide +kernel
theorem dX12_part_26 : decode cX12_part 26 = .ok (.bipush 6, 2) := by decide +kernel
theorem dX12_part_28 : decode cX12_part 28 = .ok (.iload_n 1, 1) := by decide +kernel
theorem dX12_part_29 : decode cX12_part 29 = .ok (.iastore, 1) := by decide +kernel
theorem dX12_part_30 : decode cX12_part 30 = .ok (.aload_n 0, 1) := by decide +kernel
theorem dX12_part_31 : decode cX12_part 31 = .ok (.iconst 0, 1) := by decide +kernel
theorem dX12_part_32 : decode cX12_part 32 = .ok (.invokevirtual 103, 3) := by decide +kernel
theorem dX12_part_35 : decode cX12_part 35 = .ok (.ireturn, 1) := by decide +kernel
theorem dX12_hands_0 : decode cX12_hands 0 = .ok (.iconst 0, 1) := by decide +kernel
theorem dX12_hands_1 : decode cX12_hands 1 = .ok (.istore_n 1, 1) := by decide +kernel
theorem dX12_hands_2 : decode cX12_hands 2 = .ok (.iconst 0, 1) := by decide +kernel
theorem dX12_hands_3 : decode cX12_hands 3 = .ok (.istore_n 2, 1) := by decide +kernel
theorem dX12_hands_4 : decode cX12_hands 4 = .ok (.iload_n 2, 1) := by decide +kernel
theorem dX12_hands_5 : decode cX12_hands 5 = .ok (.aload_n 0, 1) := by decide +kernel
theorem dX12_hands_6 : decode cX12_hands 6 = .ok (.getfield 7, 3) := by decide +kernel
theorem dX12_hands_9 : decode cX12_hands 9 = .ok (.iconst 3, 1) := by decide +kernel
theorem dX12_hands_10 : decode cX12_hands 10 = .ok (.iaload, 1) := by decide +kernel
theorem dX12_hands_11 : decode cX12_hands 11 = .ok (.if_icmp .ge 126, 3) := by decide +kernel
theorem dX12_hands_14 : decode cX12_hands 14 = .ok (.iconst 0, 1) := by decide +kernel
theorem dX12_hands_15 : decode cX12_hands 15 = .ok (.istore_n 3, 1) := by decide +kernel
theorem dX12_hands_16 : decode cX12_hands 16 = .ok (.iload_n 3, 1) := by decide +kernel
theorem dX12_hands_17 : decode cX12_hands 17 = .ok (.aload_n 0, 1) := by decide +kernel
theorem dX12_hands_18 : decode cX12_hands 18 = .ok (.getfield 7, 3) := by decide +kernel
theorem dX12_hands_21 : decode cX12_hands 21 = .ok (.iconst 3, 1) := by decide +kernel
theorem dX12_hands_22 : decode cX12_hands 22 = .ok (.iaload, 1) := by decide +kernel
theorem dX12_hands_23 : decode cX12_hands 23 = .ok (.if_icmp .ge 108, 3) := by decide +kernel
theorem dX12_hands_26 : decode cX12_hands 26 = .ok (.iconst 0, 1) := by decide +kernel
theorem dX12_hands_27 : decode cX12_hands 27 = .ok (.istore 4, 2) := by decide +kernel
theorem dX12_hands_29 : decode cX12_hands 29 = .ok (.iload 4, 2) := by decide +kernel
theorem dX12_hands_31 : decode cX12_hands 31 = .ok (.aload_n 0, 1) := by decide +kernel
theorem dX12_hands_32 : decode cX12_hands 32 = .ok (.getfield 7, 3) := by decide +kernel
theorem dX12_hands_35 : decode cX12_hands 35 = .ok (.iconst 4, 1) := by decide +kernel
theorem dX12_hands_36 : decode cX12_hands 36 = .ok (.iaload, 1) := by decide +kernel
theorem dX12_hands_37 : decode cX12_hands 37 = .ok (.if_icmp .ge 88, 3) := by decide +kernel
theorem dX12_hands_40 : decode cX12_hands 40 = .ok (.aload_n 0, 1) := by decide +kernel
theorem dX12_hands_41 : decode cX12_hands 41 = .ok (.iload_n 2, 1) := by decide +kernel
theorem dX12_hands_42 : decode cX12_hands 42 = .ok (.iload_n 3, 1) := by decide +kernel
theorem dX12_hands_43 : decode cX12_hands 43 = .ok (.iload 4, 2) := by decide +kernel
theorem dX12_hands_45 : decode cX12_hands 45 = .ok (.invokevirtual 310, 3) := by decide +kernel
theorem dX12_hands_48 : decode cX12_hands 48 = .ok (.istore 5, 2) := by decide +kernel
theorem dX12_hands_50 : decode cX12_hands 50 = .ok (.aload_n 0, 1) := by decide +kernel
theorem dX12_hands_51 : decode cX12_hands 51 = .ok (.getfield 7, 3) := by decide +kernel
theorem dX12_hands_54 : decode cX12_hands 54 = .ok (.iload 5, 2) := by decide +kernel
theorem dX12_hands_56 : decode cX12_hands 56 = .ok (.iaload, 1) := by decide +kernel
theorem dX12_hands_57 : decode cX12_hands 57 = .ok (.ifCond .eq 62, 3) := by decide +kernel
theorem dX12_hands_60 : decode cX12_hands 60 = .ok (.aload_n 0, 1) := by decide +kernel
theorem dX12_hands_61 : decode cX12_hands 61 = .ok (.iload_n 2, 1) := by decide +kernel
theorem dX12_hands_62 : decode cX12_hands 62 = .ok (.iload_n 3, 1) := by decide +kernel
theorem dX12_hands_63 : decode cX12_hands 63 = .ok (.invokevirtual 284, 3) := by decide +kernel
theorem dX12_hands_66 : decode cX12_hands 66 = .ok (.ifCond .ne 6, 3) := by decide +kernel
theorem dX12_hands_69 : decode cX12_hands 69 = .ok (.goto 50, 3) := by decide +kernel
theorem dX12_hands_72 : decode cX12_hands 72 = .ok (.aload_n 0, 1) := by decide +kernel
theorem dX12_hands_73 : decode cX12_hands 73 = .ok (.aload_n 0, 1) := by decide +kernel
theorem dX12_hands_74 : decode cX12_hands 74 = .ok (.iload_n 3, 1) := by decide +kernel
theorem dX12_hands_75 : decode cX12_hands 75 = .ok (.iload 4, 2) := by decide +kernel
theorem dX12_hands_77 : decode cX12_hands 77 = .ok (.invokevirtual 303, 3) := by decide +kernel
theorem dX12_hands_80 : decode cX12_hands 80 = .ok (.iload 5, 2) := by decide +kernel
theorem dX12_hands_82 : decode cX12_hands 82 = .ok (.iconst 1, 1) := by decide +kernel
theorem dX12_hands_83 : decode cX12_hands 83 = .ok (.iadd, 1) := by decide +kernel
theorem dX12_hands_84 : decode cX12_hands 84 = .ok (.iload 4, 2) := by decide +kernel
theorem dX12_hands_86 : decode cX12_hands 86 = .ok (.invokevirtual 306, 3) := by decide +kernel
theorem dX12_hands_89 : decode cX12_hands 89 = .ok (.iconst 0, 1) := by decide +kernel
theorem dX12_hands_90 : decode cX12_hands 90 = .ok (.istore 6, 2) := by decide +kernel
theorem dX12_hands_92 : decode cX12_hands 92 = .ok (.iload 6, 2) := by decide +kernel
theorem dX12_hands_94 : decode cX12_hands 94 = .ok (.bipush 13, 2) := by decide +kernel
theorem dX12_hands_96 : decode cX12_hands 96 = .ok (.if_icmp .ge 20, 3) := by decide +kernel
theorem dX12_hands_99 : decode cX12_hands 99 = .ok (.aload_n 0, 1) := by decide +kernel
theorem dX12_hands_100 : decode cX12_hands 100 = .ok (.getfield 7, 3) := by decide +kernel
theorem dX12_hands_103 : decode cX12_hands 103 = .ok (.iload 5, 2) := by decide +kernel
theorem dX12_hands_105 : decode cX12_hands 105 = .ok (.iload 6, 2) := by decide +kernel
theorem dX12_hands_107 : decode cX12_hands 107 = .ok (.iadd, 1) := by decide +kernel
theorem dX12_hands_108 : decode cX12_hands 108 = .ok (.iconst 0, 1) := by decide +kernel
theorem dX12_hands_109 : decode cX12_hands 109 = .ok (.iastore, 1) := by decide +kernel
theorem dX12_hands_110 : decode cX12_hands 110 = .ok (.iinc 6 1, 3) := by decide +kernel
theorem dX12_hands_113 : decode cX12_hands 113 = .ok (.goto (-21), 3) := by decide +kernel
theorem dX12_hands_116 : decode cX12_hands 116 = .ok (.iinc 1 1, 3) := by decide +kernel
theorem dX12_hands_119 : decode cX12_hands 119 = .ok (.iinc 4 1, 3) := by decide +kernel
theorem dX12_hands_122 : decode cX12_hands 122 = .ok (.goto (-93), 3) := by decide +kernel
theorem dX12_hands_125 : decode cX12_hands 125 = .ok (.iinc 3 1, 3) := by decide +kernel
theorem dX12_hands_128 : decode cX12_hands 128 = .ok (.goto (-112), 3) := by decide +kernel
theorem dX12_hands_131 : decode cX12_hands 131 = .ok (.iinc 2 1, 3) := by decide +kernel
theorem dX12_hands_134 : decode cX12_hands 134 = .ok (.goto (-130), 3) := by decide +kernel
theorem dX12_hands_137 : decode cX12_hands 137 = .ok (.iload_n 1, 1) := by decide +kernel
theorem dX12_hands_138 : decode cX12_hands 138 = .ok (.ireturn, 1) := by decide +kernel
theorem dX12_hand_0 : decode cX12_hand 0 = .ok (.aload_n 0, 1) := by decide +kernel
theorem dX12_hand_1 : decode cX12_hand 1 = .ok (.aload_n 0, 1) := by decide +kernel
theorem dX12_hand_2 : decode cX12_hand 2 = .ok (.invokevirtual 374, 3) := by decide +kernel
theorem dX12_hand_5 : decode cX12_hand 5 = .ok (.invokevirtual 193, 3) := by decide +kernel
theorem dX12_hand_8 : decode cX12_hand 8 = .ok (.ireturn, 1) := by decide +kernel
theorem dX12_differsAt_0 : decode cX12_differsAt 0 = .ok (.iconst 0, 1) := by decide +kernel
theorem dX12_differsAt_1 : decode cX12_differsAt 1 = .ok (.istore_n 3, 1) := by decide +kernel
theorem dX12_differsAt_2 : decode cX12_differsAt 2 = .ok (.iconst 0, 1) := by decide +kernel
theorem dX12_differsAt_3 : decode cX12_differsAt 3 = .ok (.istore 4, 2) := by decide +kernel
theorem dX12_differsAt_5 : decode cX12_differsAt 5 = .ok (.iload 4, 2) := by decide +kernel
theorem dX12_differsAt_7 : decode cX12_differsAt 7 = .ok (.aload_n 0, 1) := by decide +kernel
theorem dX12_differsAt_8 : decode cX12_differsAt 8 = .ok (.getfield 7, 3) := by decide +kernel
theorem dX12_differsAt_11 : decode cX12_differsAt 11 = .ok (.iconst 4, 1) := by decide +kernel
theorem dX12_differsAt_12 : decode cX12_differsAt 12 = .ok (.iaload, 1) := by decide +kernel
theorem dX12_differsAt_13 : decode cX12_differsAt 13 = .ok (.if_icmp .ge 64, 3) := by decide +kernel
theorem dX12_differsAt_16 : decode cX12_differsAt 16 = .ok (.aload_n 0, 1) := by decide +kernel
theorem dX12_differsAt_17 : decode cX12_differsAt 17 = .ok (.iload 4, 2) := by decide +kernel
theorem dX12_differsAt_19 : decode cX12_differsAt 19 = .ok (.invokevirtual 275, 3) := by decide +kernel
theorem dX12_differsAt_22 : decode cX12_differsAt 22 = .ok (.istore 5, 2) := by decide +kernel
theorem dX12_differsAt_24 : decode cX12_differsAt 24 = .ok (.iload_n 3, 1) := by decide +kernel
theorem dX12_differsAt_25 : decode cX12_differsAt 25 = .ok (.iload 5, 2) := by decide +kernel
theorem dX12_differsAt_27 : decode cX12_differsAt 27 = .ok (.iload_n 1, 1) := by decide +kernel
theorem dX12_differsAt_28 : decode cX12_differsAt 28 = .ok (.ishr, 1) := by decide +kernel
theorem dX12_differsAt_29 : decode cX12_differsAt 29 = .ok (.iload 5, 2) := by decide +kernel
theorem dX12_differsAt_31 : decode cX12_differsAt 31 = .ok (.iload_n 2, 1) := by decide +kernel
theorem dX12_differsAt_32 : decode cX12_differsAt 32 = .ok (.ishr, 1) := by decide +kernel
theorem dX12_differsAt_33 : decode cX12_differsAt 33 = .ok (.iand, 1) := by decide +kernel
theorem dX12_differsAt_34 : decode cX12_differsAt 34 = .ok (.iconst 1, 1) := by decide +kernel
theorem dX12_differsAt_35 : decode cX12_differsAt 35 = .ok (.iand, 1) := by decide +kernel
theorem dX12_differsAt_36 : decode cX12_differsAt 36 = .ok (.iconst 1, 1) := by decide +kernel
theorem dX12_differsAt_37 : decode cX12_differsAt 37 = .ok (.if_icmp .ne 31, 3) := by decide +kernel
theorem dX12_differsAt_40 : decode cX12_differsAt 40 = .ok (.aload_n 0, 1) := by decide +kernel
theorem dX12_differsAt_41 : decode cX12_differsAt 41 = .ok (.aload_n 0, 1) := by decide +kernel
theorem dX12_differsAt_42 : decode cX12_differsAt 42 = .ok (.iload_n 1, 1) := by decide +kernel
theorem dX12_differsAt_43 : decode cX12_differsAt 43 = .ok (.iload 4, 2) := by decide +kernel
theorem dX12_differsAt_45 : decode cX12_differsAt 45 = .ok (.invokevirtual 303, 3) := by decide +kernel
theorem dX12_differsAt_48 : decode cX12_differsAt 48 = .ok (.aload_n 0, 1) := by decide +kernel
theorem dX12_differsAt_49 : decode cX12_differsAt 49 = .ok (.iload_n 2, 1) := by decide +kernel
theorem dX12_differsAt_50 : decode cX12_differsAt 50 = .ok (.iload 4, 2) := by decide +kernel
theorem dX12_differsAt_52 : decode cX12_differsAt 52 = .ok (.invokevirtual 303, 3) := by decide +kernel
theorem dX12_differsAt_55 : decode cX12_differsAt 55 = .ok (.invokevirtual 377, 3) := by decide +kernel
theorem dX12_differsAt_58 : decode cX12_differsAt 58 = .ok (.ifCond .ne 10, 3) := by decide +kernel
theorem dX12_differsAt_61 : decode cX12_differsAt 61 = .ok (.iconst 1, 1) := by decide +kernel
theorem dX12_differsAt_62 : decode cX12_differsAt 62 = .ok (.iload 4, 2) := by decide +kernel
theorem dX12_differsAt_64 : decode cX12_differsAt 64 = .ok (.ishl, 1) := by decide +kernel
theorem dX12_differsAt_65 : decode cX12_differsAt 65 = .ok (.goto 4, 3) := by decide +kernel
theorem dX12_differsAt_68 : decode cX12_differsAt 68 = .ok (.iconst 0, 1) := by decide +kernel
theorem dX12_differsAt_69 : decode cX12_differsAt 69 = .ok (.ior, 1) := by decide +kernel
theorem dX12_differsAt_70 : decode cX12_differsAt 70 = .ok (.istore_n 3, 1) := by decide +kernel
theorem dX12_differsAt_71 : decode cX12_differsAt 71 = .ok (.iinc 4 1, 3) := by decide +kernel
theorem dX12_differsAt_74 : decode cX12_differsAt 74 = .ok (.goto (-69), 3) := by decide +kernel
theorem dX12_differsAt_77 : decode cX12_differsAt 77 = .ok (.iload_n 3, 1) := by decide +kernel
theorem dX12_differsAt_78 : decode cX12_differsAt 78 = .ok (.ireturn, 1) := by decide +kernel
theorem dX12_comparesTwo_0 : decode cX12_comparesTwo 0 = .ok (.aload_n 0, 1) := by decide +kernel
theorem dX12_comparesTwo_1 : decode cX12_comparesTwo 1 = .ok (.iload_n 1, 1) := by decide +kernel
theorem dX12_comparesTwo_2 : decode cX12_comparesTwo 2 = .ok (.iload_n 2, 1) := by decide +kernel
theorem dX12_comparesTwo_3 : decode cX12_comparesTwo 3 = .ok (.invokevirtual 380, 3) := by decide +kernel
theorem dX12_comparesTwo_6 : decode cX12_comparesTwo 6 = .ok (.istore_n 3, 1) := by decide +kernel
theorem dX12_comparesTwo_7 : decode cX12_comparesTwo 7 = .ok (.iconst 0, 1) := by decide +kernel
theorem dX12_comparesTwo_8 : decode cX12_comparesTwo 8 = .ok (.istore 4, 2) := by decide +kernel
theorem dX12_comparesTwo_10 : decode cX12_comparesTwo 10 = .ok (.iload 4, 2) := by decide +kernel
theorem dX12_comparesTwo_12 : decode cX12_comparesTwo 12 = .ok (.aload_n 0, 1) := by decide +kernel
theorem dX12_comparesTwo_13 : decode cX12_comparesTwo 13 = .ok (.getfield 7, 3) := by decide +kernel
theorem dX12_comparesTwo_16 : decode cX12_comparesTwo 16 = .ok (.iconst 4, 1) := by decide +kernel
theorem dX12_comparesTwo_17 : decode cX12_comparesTwo 17 = .ok (.iaload, 1) := by decide +kernel
theorem dX12_comparesTwo_18 : decode cX12_comparesTwo 18 = .ok (.if_icmp .ge 59, 3) := by decide +kernel
theorem dX12_comparesTwo_21 : decode cX12_comparesTwo 21 = .ok (.iload_n 3, 1) := by decide +kernel
theorem dX12_comparesTwo_22 : decode cX12_comparesTwo 22 = .ok (.iload 4, 2) := by decide +kernel
theorem dX12_comparesTwo_24 : decode cX12_comparesTwo 24 = .ok (.ishr, 1) := by decide +kernel
theorem dX12_comparesTwo_25 : decode cX12_comparesTwo 25 = .ok (.iconst 1, 1) := by decide +kernel
theorem dX12_comparesTwo_26 : decode cX12_comparesTwo 26 = .ok (.iand, 1) := by decide +kernel
theorem dX12_comparesTwo_27 : decode cX12_comparesTwo 27 = .ok (.ifCond .ne 6, 3) := by decide +kernel
theorem dX12_comparesTwo_30 : decode cX12_comparesTwo 30 = .ok (.goto 41, 3) := by decide +kernel
theorem dX12_comparesTwo_33 : decode cX12_comparesTwo 33 = .ok (.aload_n 0, 1) := by decide +kernel
theorem dX12_comparesTwo_34 : decode cX12_comparesTwo 34 = .ok (.aload_n 0, 1) := by decide +kernel
theorem dX12_comparesTwo_35 : decode cX12_comparesTwo 35 = .ok (.iload_n 1, 1) := by decide +kernel
theorem dX12_comparesTwo_36 : decode cX12_comparesTwo 36 = .ok (.iload 4, 2) := by decide +kernel
theorem dX12_comparesTwo_38 : decode cX12_comparesTwo 38 = .ok (.invokevirtual 303, 3) := by decide +kernel
theorem dX12_comparesTwo_41 : decode cX12_comparesTwo 41 = .ok (.aload_n 0, 1) := by decide +kernel
theorem dX12_comparesTwo_42 : decode cX12_comparesTwo 42 = .ok (.iload_n 2, 1) := by decide +kernel
theorem dX12_comparesTwo_43 : decode cX12_comparesTwo 43 = .ok (.iload 4, 2) := by decide +kernel
theorem dX12_comparesTwo_45 : decode cX12_comparesTwo 45 = .ok (.invokevirtual 303, 3) := by decide +kernel
theorem dX12_comparesTwo_48 : decode cX12_comparesTwo 48 = .ok (.iload 4, 2) := by decide +kernel
theorem dX12_comparesTwo_50 : decode cX12_comparesTwo 50 = .ok (.invokevirtual 306, 3) := by decide +kernel
theorem dX12_comparesTwo_53 : decode cX12_comparesTwo 53 = .ok (.aload_n 0, 1) := by decide +kernel
theorem dX12_comparesTwo_54 : decode cX12_comparesTwo 54 = .ok (.aload_n 0, 1) := by decide +kernel
theorem dX12_comparesTwo_55 : decode cX12_comparesTwo 55 = .ok (.iload_n 2, 1) := by decide +kernel
theorem dX12_comparesTwo_56 : decode cX12_comparesTwo 56 = .ok (.iload 4, 2) := by decide +kernel
theorem dX12_comparesTwo_58 : decode cX12_comparesTwo 58 = .ok (.invokevirtual 303, 3) := by decide +kernel
theorem dX12_comparesTwo_61 : decode cX12_comparesTwo 61 = .ok (.aload_n 0, 1) := by decide +kernel
theorem dX12_comparesTwo_62 : decode cX12_comparesTwo 62 = .ok (.iload_n 1, 1) := by decide +kernel
theorem dX12_comparesTwo_63 : decode cX12_comparesTwo 63 = .ok (.iload 4, 2) := by decide +kernel
theorem dX12_comparesTwo_65 : decode cX12_comparesTwo 65 = .ok (.invokevirtual 303, 3) := by decide +kernel
theorem dX12_comparesTwo_68 : decode cX12_comparesTwo 68 = .ok (.invokevirtual 313, 3) := by decide +kernel
theorem dX12_comparesTwo_71 : decode cX12_comparesTwo 71 = .ok (.iinc 4 1, 3) := by decide +kernel
theorem dX12_comparesTwo_74 : decode cX12_comparesTwo 74 = .ok (.goto (-64), 3) := by decide +kernel
theorem dX12_comparesTwo_77 : decode cX12_comparesTwo 77 = .ok (.iload_n 3, 1) := by decide +kernel
theorem dX12_comparesTwo_78 : decode cX12_comparesTwo 78 = .ok (.invokestatic 293, 3) := by decide +kernel
theorem dX12_comparesTwo_81 : decode cX12_comparesTwo 81 = .ok (.ireturn, 1) := by decide +kernel
theorem dX12_night_0 : decode cX12_night 0 = .ok (.aload_n 0, 1) := by decide +kernel
theorem dX12_night_1 : decode cX12_night 1 = .ok (.iload_n 1, 1) := by decide +kernel
theorem dX12_night_2 : decode cX12_night 2 = .ok (.invokevirtual 281, 3) := by decide +kernel
theorem dX12_night_5 : decode cX12_night 5 = .ok (.ifCond .eq 16, 3) := by decide +kernel
theorem dX12_night_8 : decode cX12_night 8 = .ok (.aload_n 0, 1) := by decide +kernel
theorem dX12_night_9 : decode cX12_night 9 = .ok (.iload_n 2, 1) := by decide +kernel
theorem dX12_night_10 : decode cX12_night 10 = .ok (.invokevirtual 281, 3) := by decide +kernel
theorem dX12_night_13 : decode cX12_night 13 = .ok (.ifCond .eq 8, 3) := by decide +kernel
theorem dX12_night_16 : decode cX12_night 16 = .ok (.iload_n 1, 1) := by decide +kernel
theorem dX12_night_17 : decode cX12_night 17 = .ok (.iload_n 2, 1) := by decide +kernel
theorem dX12_night_18 : decode cX12_night 18 = .ok (.if_icmp .ne 9, 3) := by decide +kernel
theorem dX12_night_21 : decode cX12_night 21 = .ok (.aload_n 0, 1) := by decide +kernel
theorem dX12_night_22 : decode cX12_night 22 = .ok (.iconst 1, 1) := by decide +kernel
theorem dX12_night_23 : decode cX12_night 23 = .ok (.invokevirtual 190, 3) := by decide +kernel
theorem dX12_night_26 : decode cX12_night 26 = .ok (.ireturn, 1) := by decide +kernel
theorem dX12_night_27 : decode cX12_night 27 = .ok (.aload_n 0, 1) := by decide +kernel
theorem dX12_night_28 : decode cX12_night 28 = .ok (.iload_n 1, 1) := by decide +kernel
theorem dX12_night_29 : decode cX12_night 29 = .ok (.iload_n 2, 1) := by decide +kernel
theorem dX12_night_30 : decode cX12_night 30 = .ok (.invokevirtual 284, 3) := by decide +kernel
theorem dX12_night_33 : decode cX12_night 33 = .ok (.ifCond .eq 16, 3) := by decide +kernel
theorem dX12_night_36 : decode cX12_night 36 = .ok (.aload_n 0, 1) := by decide +kernel
theorem dX12_night_37 : decode cX12_night 37 = .ok (.aload_n 0, 1) := by decide +kernel
theorem dX12_night_38 : decode cX12_night 38 = .ok (.iload_n 1, 1) := by decide +kernel
theorem dX12_night_39 : decode cX12_night 39 = .ok (.iload_n 2, 1) := by decide +kernel
theorem dX12_night_40 : decode cX12_night 40 = .ok (.invokevirtual 383, 3) := by decide +kernel
theorem dX12_night_43 : decode cX12_night 43 = .ok (.invokevirtual 193, 3) := by decide +kernel
theorem dX12_night_46 : decode cX12_night 46 = .ok (.goto 9, 3) := by decide +kernel
theorem dX12_night_49 : decode cX12_night 49 = .ok (.aload_n 0, 1) := by decide +kernel
theorem dX12_night_50 : decode cX12_night 50 = .ok (.bipush 7, 2) := by decide +kernel
theorem dX12_night_52 : decode cX12_night 52 = .ok (.invokevirtual 190, 3) := by decide +kernel
theorem dX12_night_55 : decode cX12_night 55 = .ok (.ireturn, 1) := by decide +kernel
theorem dX12_isAlike_0 : decode cX12_isAlike 0 = .ok (.aload_n 0, 1) := by decide +kernel
theorem dX12_isAlike_1 : decode cX12_isAlike 1 = .ok (.iload_n 1, 1) := by decide +kernel
theorem dX12_isAlike_2 : decode cX12_isAlike 2 = .ok (.invokevirtual 269, 3) := by decide +kernel
theorem dX12_isAlike_5 : decode cX12_isAlike 5 = .ok (.iconst 1, 1) := by decide +kernel
theorem dX12_isAlike_6 : decode cX12_isAlike 6 = .ok (.istore_n 2, 1) := by decide +kernel
theorem dX12_isAlike_7 : decode cX12_isAlike 7 = .ok (.iconst 1, 1) := by decide +kernel
theorem dX12_isAlike_8 : decode cX12_isAlike 8 = .ok (.istore_n 3, 1) := by decide +kernel
theorem dX12_isAlike_9 : decode cX12_isAlike 9 = .ok (.iload_n 3, 1) := by decide +kernel
theorem dX12_isAlike_10 : decode cX12_isAlike 10 = .ok (.aload_n 0, 1) := by decide +kernel
theorem dX12_isAlike_11 : decode cX12_isAlike 11 = .ok (.invokevirtual 272, 3) := by decide +kernel
theorem dX12_isAlike_14 : decode cX12_isAlike 14 = .ok (.if_icmp .ge 48, 3) := by decide +kernel
theorem dX12_isAlike_17 : decode cX12_isAlike 17 = .ok (.iload_n 2, 1) := by decide +kernel
theorem dX12_isAlike_18 : decode cX12_isAlike 18 = .ok (.ifCond .eq 36, 3) := by decide +kernel
theorem dX12_isAlike_21 : decode cX12_isAlike 21 = .ok (.aload_n 0, 1) := by decide +kernel
theorem dX12_isAlike_22 : decode cX12_isAlike 22 = .ok (.aload_n 0, 1) := by decide +kernel
theorem dX12_isAlike_23 : decode cX12_isAlike 23 = .ok (.aload_n 0, 1) := by decide +kernel
theorem dX12_isAlike_24 : decode cX12_isAlike 24 = .ok (.getfield 47, 3) := by decide +kernel
theorem dX12_isAlike_27 : decode cX12_isAlike 27 = .ok (.iconst 0, 1) := by decide +kernel
theorem dX12_isAlike_28 : decode cX12_isAlike 28 = .ok (.iaload, 1) := by decide +kernel
theorem dX12_isAlike_29 : decode cX12_isAlike 29 = .ok (.iload_n 1, 1) := by decide +kernel
theorem dX12_isAlike_30 : decode cX12_isAlike 30 = .ok (.invokevirtual 303, 3) := by decide +kernel
theorem dX12_isAlike_33 : decode cX12_isAlike 33 = .ok (.aload_n 0, 1) := by decide +kernel
theorem dX12_isAlike_34 : decode cX12_isAlike 34 = .ok (.aload_n 0, 1) := by decide +kernel
theorem dX12_isAlike_35 : decode cX12_isAlike 35 = .ok (.getfield 47, 3) := by decide +kernel
theorem dX12_isAlike_38 : decode cX12_isAlike 38 = .ok (.iload_n 3, 1) := by decide +kernel
theorem dX12_isAlike_39 : decode cX12_isAlike 39 = .ok (.iaload, 1) := by decide +kernel
theorem dX12_isAlike_40 : decode cX12_isAlike 40 = .ok (.iload_n 1, 1) := by decide +kernel
theorem dX12_isAlike_41 : decode cX12_isAlike 41 = .ok (.invokevirtual 303, 3) := by decide +kernel
theorem dX12_isAlike_44 : decode cX12_isAlike 44 = .ok (.invokevirtual 377, 3) := by decide +kernel
theorem dX12_isAlike_47 : decode cX12_isAlike 47 = .ok (.ifCond .eq 7, 3) := by decide +kernel
theorem dX12_isAlike_50 : decode cX12_isAlike 50 = .ok (.iconst 1, 1) := by decide +kernel
theorem dX12_isAlike_51 : decode cX12_isAlike 51 = .ok (.goto 4, 3) := by decide +kernel
theorem dX12_isAlike_54 : decode cX12_isAlike 54 = .ok (.iconst 0, 1) := by decide +kernel
theorem dX12_isAlike_55 : decode cX12_isAlike 55 = .ok (.istore_n 2, 1) := by decide +kernel
theorem dX12_isAlike_56 : decode cX12_isAlike 56 = .ok (.iinc 3 1, 3) := by decide +kernel
theorem dX12_isAlike_59 : decode cX12_isAlike 59 = .ok (.goto (-50), 3) := by decide +kernel
theorem dX12_isAlike_62 : decode cX12_isAlike 62 = .ok (.iload_n 2, 1) := by decide +kernel
theorem dX12_isAlike_63 : decode cX12_isAlike 63 = .ok (.ireturn, 1) := by decide +kernel
theorem dX12_bury_0 : decode cX12_bury 0 = .ok (.aload_n 0, 1) := by decide +kernel
theorem dX12_bury_1 : decode cX12_bury 1 = .ok (.iload_n 1, 1) := by decide +kernel
theorem dX12_bury_2 : decode cX12_bury 2 = .ok (.invokevirtual 278, 3) := by decide +kernel
theorem dX12_bury_5 : decode cX12_bury 5 = .ok (.ifCond .ne 9, 3) := by decide +kernel
theorem dX12_bury_8 : decode cX12_bury 8 = .ok (.aload_n 0, 1) := by decide +kernel
theorem dX12_bury_9 : decode cX12_bury 9 = .ok (.iconst 1, 1) := by decide +kernel
theorem dX12_bury_10 : decode cX12_bury 10 = .ok (.invokevirtual 190, 3) := by decide +kernel
theorem dX12_bury_13 : decode cX12_bury 13 = .ok (.ireturn, 1) := by decide +kernel
theorem dX12_bury_14 : decode cX12_bury 14 = .ok (.aload_n 0, 1) := by decide +kernel
theorem dX12_bury_15 : decode cX12_bury 15 = .ok (.iload_n 1, 1) := by decide +kernel
theorem dX12_bury_16 : decode cX12_bury 16 = .ok (.invokevirtual 287, 3) := by decide +kernel
theorem dX12_bury_19 : decode cX12_bury 19 = .ok (.ifCond .ne 28, 3) := by decide +kernel
theorem dX12_bury_22 : decode cX12_bury 22 = .ok (.aload_n 0, 1) := by decide +kernel
theorem dX12_bury_23 : decode cX12_bury 23 = .ok (.iload_n 1, 1) := by decide +kernel
theorem dX12_bury_24 : decode cX12_bury 24 = .ok (.invokevirtual 386, 3) := by decide +kernel
theorem dX12_bury_27 : decode cX12_bury 27 = .ok (.ifCond .eq 20, 3) := by decide +kernel
theorem dX12_bury_30 : decode cX12_bury 30 = .ok (.aload_n 0, 1) := by decide +kernel
theorem dX12_bury_31 : decode cX12_bury 31 = .ok (.iload_n 1, 1) := by decide +kernel
theorem dX12_bury_32 : decode cX12_bury 32 = .ok (.invokevirtual 275, 3) := by decide +kernel
theorem dX12_bury_35 : decode cX12_bury 35 = .ok (.aload_n 0, 1) := by decide +kernel
theorem dX12_bury_36 : decode cX12_bury 36 = .ok (.getfield 7, 3) := by decide +kernel
theorem dX12_bury_39 : decode cX12_bury 39 = .ok (.iconst 5, 1) := by decide +kernel
theorem dX12_bury_40 : decode cX12_bury 40 = .ok (.iaload, 1) := by decide +kernel
theorem dX12_bury_41 : decode cX12_bury 41 = .ok (.iconst (-1), 1) := by decide +kernel
theorem dX12_bury_42 : decode cX12_bury 42 = .ok (.ixor, 1) := by decide +kernel
theorem dX12_bury_43 : decode cX12_bury 43 = .ok (.iand, 1) := by decide +kernel
theorem dX12_bury_44 : decode cX12_bury 44 = .ok (.ifCond .eq 10, 3) := by decide +kernel
theorem dX12_bury_47 : decode cX12_bury 47 = .ok (.aload_n 0, 1) := by decide +kernel
theorem dX12_bury_48 : decode cX12_bury 48 = .ok (.bipush 7, 2) := by decide +kernel
theorem dX12_bury_50 : decode cX12_bury 50 = .ok (.invokevirtual 190, 3) := by decide +kernel
theorem dX12_bury_53 : decode cX12_bury 53 = .ok (.ireturn, 1) := by decide +kernel
theorem dX12_bury_54 : decode cX12_bury 54 = .ok (.iconst 0, 1) := by decide +kernel
theorem dX12_bury_55 : decode cX12_bury 55 = .ok (.istore_n 2, 1) := by decide +kernel
theorem dX12_bury_56 : decode cX12_bury 56 = .ok (.iconst 0, 1) := by decide +kernel
theorem dX12_bury_57 : decode cX12_bury 57 = .ok (.istore_n 3, 1) := by decide +kernel
theorem dX12_bury_58 : decode cX12_bury 58 = .ok (.iload_n 3, 1) := by decide +kernel
theorem dX12_bury_59 : decode cX12_bury 59 = .ok (.aload_n 0, 1) := by decide +kernel
theorem dX12_bury_60 : decode cX12_bury 60 = .ok (.invokevirtual 272, 3) := by decide +kernel
theorem dX12_bury_63 : decode cX12_bury 63 = .ok (.if_icmp .ge 99, 3) := by decide +kernel
theorem dX12_bury_66 : decode cX12_bury 66 = .ok (.aload_n 0, 1) := by decide +kernel
theorem dX12_bury_67 : decode cX12_bury 67 = .ok (.aload_n 0, 1) := by decide +kernel
theorem dX12_bury_68 : decode cX12_bury 68 = .ok (.getfield 47, 3) := by decide +kernel
theorem dX12_bury_71 : decode cX12_bury 71 = .ok (.iload_n 3, 1) := by decide +kernel
theorem dX12_bury_72 : decode cX12_bury 72 = .ok (.iaload, 1) := by decide +kernel
theorem dX12_bury_73 : decode cX12_bury 73 = .ok (.iload_n 1, 1) := by decide +kernel
theorem dX12_bury_74 : decode cX12_bury 74 = .ok (.invokevirtual 303, 3) := by decide +kernel
theorem dX12_bury_77 : decode cX12_bury 77 = .ok (.istore 4, 2) := by decide +kernel
theorem dX12_bury_79 : decode cX12_bury 79 = .ok (.aload_n 0, 1) := by decide +kernel
theorem dX12_bury_80 : decode cX12_bury 80 = .ok (.iload 4, 2) := by decide +kernel
theorem dX12_bury_82 : decode cX12_bury 82 = .ok (.iload_n 1, 1) := by decide +kernel
theorem dX12_bury_83 : decode cX12_bury 83 = .ok (.invokevirtual 362, 3) := by decide +kernel
theorem dX12_bury_86 : decode cX12_bury 86 = .ok (.iconst 0, 1) := by decide +kernel
theorem dX12_bury_87 : decode cX12_bury 87 = .ok (.istore_n 2, 1) := by decide +kernel
theorem dX12_bury_88 : decode cX12_bury 88 = .ok (.iconst 0, 1) := by decide +kernel
theorem dX12_bury_89 : decode cX12_bury 89 = .ok (.istore 5, 2) := by decide +kernel
theorem dX12_bury_91 : decode cX12_bury 91 = .ok (.iload 5, 2) := by decide +kernel
theorem dX12_bury_93 : decode cX12_bury 93 = .ok (.aload_n 0, 1) := by decide +kernel
theorem dX12_bury_94 : decode cX12_bury 94 = .ok (.getfield 296, 3) := by decide +kernel
theorem dX12_bury_97 : decode cX12_bury 97 = .ok (.if_icmp .ge 59, 3) := by decide +kernel
theorem dX12_bury_100 : decode cX12_bury 100 = .ok (.aload_n 0, 1) := by decide +kernel
theorem dX12_bury_101 : decode cX12_bury 101 = .ok (.getfield 50, 3) := by decide +kernel
theorem dX12_bury_104 : decode cX12_bury 104 = .ok (.iload 5, 2) := by decide +kernel
theorem dX12_bury_106 : decode cX12_bury 106 = .ok (.iaload, 1) := by decide +kernel
theorem dX12_bury_107 : decode cX12_bury 107 = .ok (.sipush 1000, 3) := by decide +kernel
theorem dX12_bury_110 : decode cX12_bury 110 = .ok (.if_icmp .eq 6, 3) := by decide +kernel
theorem dX12_bury_113 : decode cX12_bury 113 = .ok (.goto 37, 3) := by decide +kernel
theorem dX12_bury_116 : decode cX12_bury 116 = .ok (.aload_n 0, 1) := by decide +kernel
theorem dX12_bury_117 : decode cX12_bury 117 = .ok (.getfield 7, 3) := by decide +kernel
theorem dX12_bury_120 : decode cX12_bury 120 = .ok (.iload 4, 2) := by decide +kernel
theorem dX12_bury_122 : decode cX12_bury 122 = .ok (.aload_n 0, 1) := by decide +kernel
theorem dX12_bury_123 : decode cX12_bury 123 = .ok (.getfield 53, 3) := by decide +kernel
theorem dX12_bury_126 : decode cX12_bury 126 = .ok (.iload 5, 2) := by decide +kernel
theorem dX12_bury_128 : decode cX12_bury 128 = .ok (.iaload, 1) := by decide +kernel
theorem dX12_bury_129 : decode cX12_bury 129 = .ok (.iadd, 1) := by decide +kernel
theorem dX12_bury_130 : decode cX12_bury 130 = .ok (.dup2, 1) := by decide +kernel
theorem dX12_bury_131 : decode cX12_bury 131 = .ok (.iaload, 1) := by decide +kernel
theorem dX12_bury_132 : decode cX12_bury 132 = .ok (.iconst 1, 1) := by decide +kernel
theorem dX12_bury_133 : decode cX12_bury 133 = .ok (.aload_n 0, 1) := by decide +kernel
theorem dX12_bury_134 : decode cX12_bury 134 = .ok (.getfield 56, 3) := by decide +kernel
theorem dX12_bury_137 : decode cX12_bury 137 = .ok (.iload 5, 2) := by decide +kernel
theorem dX12_bury_139 : decode cX12_bury 139 = .ok (.iaload, 1) := by decide +kernel
theorem dX12_bury_140 : decode cX12_bury 140 = .ok (.iconst 1, 1) := by decide +kernel
theorem dX12_bury_141 : decode cX12_bury 141 = .ok (.isub, 1) := by decide +kernel
theorem dX12_bury_142 : decode cX12_bury 142 = .ok (.ishl, 1) := by decide +kernel
theorem dX12_bury_143 : decode cX12_bury 143 = .ok (.iconst (-1), 1) := by decide +kernel
theorem dX12_bury_144 : decode cX12_bury 144 = .ok (.ixor, 1) := by decide +kernel
theorem dX12_bury_145 : decode cX12_bury 145 = .ok (.iand, 1) := by decide +kernel
theorem dX12_bury_146 : decode cX12_bury 146 = .ok (.iastore, 1) := by decide +kernel
theorem dX12_bury_147 : decode cX12_bury 147 = .ok (.iinc 2 1, 3) := by decide +kernel
theorem dX12_bury_150 : decode cX12_bury 150 = .ok (.iinc 5 1, 3) := by decide +kernel
theorem dX12_bury_153 : decode cX12_bury 153 = .ok (.goto (-62), 3) := by decide +kernel
theorem dX12_bury_156 : decode cX12_bury 156 = .ok (.iinc 3 1, 3) := by decide +kernel
theorem dX12_bury_159 : decode cX12_bury 159 = .ok (.goto (-101), 3) := by decide +kernel
theorem dX12_bury_162 : decode cX12_bury 162 = .ok (.aload_n 0, 1) := by decide +kernel
theorem dX12_bury_163 : decode cX12_bury 163 = .ok (.iload_n 2, 1) := by decide +kernel
theorem dX12_bury_164 : decode cX12_bury 164 = .ok (.invokevirtual 193, 3) := by decide +kernel
theorem dX12_bury_167 : decode cX12_bury 167 = .ok (.ireturn, 1) := by decide +kernel
theorem dX12_twins_0 : decode cX12_twins 0 = .ok (.aload_n 0, 1) := by decide +kernel
theorem dX12_twins_1 : decode cX12_twins 1 = .ok (.iload_n 1, 1) := by decide +kernel
theorem dX12_twins_2 : decode cX12_twins 2 = .ok (.invokevirtual 281, 3) := by decide +kernel
theorem dX12_twins_5 : decode cX12_twins 5 = .ok (.ifCond .eq 29, 3) := by decide +kernel
theorem dX12_twins_8 : decode cX12_twins 8 = .ok (.aload_n 0, 1) := by decide +kernel
theorem dX12_twins_9 : decode cX12_twins 9 = .ok (.iload_n 2, 1) := by decide +kernel
theorem dX12_twins_10 : decode cX12_twins 10 = .ok (.invokevirtual 278, 3) := by decide +kernel
theorem dX12_twins_13 : decode cX12_twins 13 = .ok (.ifCond .eq 21, 3) := by decide +kernel
theorem dX12_twins_16 : decode cX12_twins 16 = .ok (.aload_n 0, 1) := by decide +kernel
theorem dX12_twins_17 : decode cX12_twins 17 = .ok (.aload_n 0, 1) := by decide +kernel
theorem dX12_twins_18 : decode cX12_twins 18 = .ok (.aload_n 0, 1) := by decide +kernel
theorem dX12_twins_19 : decode cX12_twins 19 = .ok (.iload_n 1, 1) := by decide +kernel
theorem dX12_twins_20 : decode cX12_twins 20 = .ok (.iload_n 2, 1) := by decide +kernel
theorem dX12_twins_21 : decode cX12_twins 21 = .ok (.invokevirtual 303, 3) := by decide +kernel
theorem dX12_twins_24 : decode cX12_twins 24 = .ok (.iload_n 2, 1) := by decide +kernel
theorem dX12_twins_25 : decode cX12_twins 25 = .ok (.invokevirtual 389, 3) := by decide +kernel
theorem dX12_twins_28 : decode cX12_twins 28 = .ok (.invokevirtual 193, 3) := by decide +kernel
theorem dX12_twins_31 : decode cX12_twins 31 = .ok (.goto 8, 3) := by decide +kernel
theorem dX12_twins_34 : decode cX12_twins 34 = .ok (.aload_n 0, 1) := by decide +kernel
theorem dX12_twins_35 : decode cX12_twins 35 = .ok (.iconst 1, 1) := by decide +kernel
theorem dX12_twins_36 : decode cX12_twins 36 = .ok (.invokevirtual 190, 3) := by decide +kernel
theorem dX12_twins_39 : decode cX12_twins 39 = .ok (.ireturn, 1) := by decide +kernel
theorem dX12_twin_0 : decode cX12_twin 0 = .ok (.aload_n 0, 1) := by decide +kernel
theorem dX12_twin_1 : decode cX12_twin 1 = .ok (.iload_n 1, 1) := by decide +kernel
theorem dX12_twin_2 : decode cX12_twin 2 = .ok (.invokevirtual 281, 3) := by decide +kernel
theorem dX12_twin_5 : decode cX12_twin 5 = .ok (.ifCond .eq 22, 3) := by decide +kernel
theorem dX12_twin_8 : decode cX12_twin 8 = .ok (.aload_n 0, 1) := by decide +kernel
theorem dX12_twin_9 : decode cX12_twin 9 = .ok (.iload_n 2, 1) := by decide +kernel
theorem dX12_twin_10 : decode cX12_twin 10 = .ok (.invokevirtual 278, 3) := by decide +kernel
theorem dX12_twin_13 : decode cX12_twin 13 = .ok (.ifCond .eq 14, 3) := by decide +kernel
theorem dX12_twin_16 : decode cX12_twin 16 = .ok (.iload 4, 2) := by decide +kernel
theorem dX12_twin_18 : decode cX12_twin 18 = .ok (.ifCond .lt 9, 3) := by decide +kernel
theorem dX12_twin_21 : decode cX12_twin 21 = .ok (.iload 4, 2) := by decide +kernel
theorem dX12_twin_23 : decode cX12_twin 23 = .ok (.iconst 2, 1) := by decide +kernel
theorem dX12_twin_24 : decode cX12_twin 24 = .ok (.if_icmp .le 9, 3) := by decide +kernel
theorem dX12_twin_27 : decode cX12_twin 27 = .ok (.aload_n 0, 1) := by decide +kernel
theorem dX12_twin_28 : decode cX12_twin 28 = .ok (.iconst 1, 1) := by decide +kernel
theorem dX12_twin_29 : decode cX12_twin 29 = .ok (.invokevirtual 190, 3) := by decide +kernel
theorem dX12_twin_32 : decode cX12_twin 32 = .ok (.ireturn, 1) := by decide +kernel
theorem dX12_twin_33 : decode cX12_twin 33 = .ok (.aload_n 0, 1) := by decide +kernel
theorem dX12_twin_34 : decode cX12_twin 34 = .ok (.aload_n 0, 1) := by decide +kernel
theorem dX12_twin_35 : decode cX12_twin 35 = .ok (.iload_n 1, 1) := by decide +kernel
theorem dX12_twin_36 : decode cX12_twin 36 = .ok (.iload_n 2, 1) := by decide +kernel
theorem dX12_twin_37 : decode cX12_twin 37 = .ok (.invokevirtual 303, 3) := by decide +kernel
theorem dX12_twin_40 : decode cX12_twin 40 = .ok (.iload_n 2, 1) := by decide +kernel
theorem dX12_twin_41 : decode cX12_twin 41 = .ok (.invokevirtual 362, 3) := by decide +kernel
theorem dX12_twin_44 : decode cX12_twin 44 = .ok (.iload_n 3, 1) := by decide +kernel
theorem dX12_twin_45 : decode cX12_twin 45 = .ok (.ifCond .lt 11, 3) := by decide +kernel
theorem dX12_twin_48 : decode cX12_twin 48 = .ok (.iload_n 3, 1) := by decide +kernel
theorem dX12_twin_49 : decode cX12_twin 49 = .ok (.aload_n 0, 1) := by decide +kernel
theorem dX12_twin_50 : decode cX12_twin 50 = .ok (.getfield 296, 3) := by decide +kernel
theorem dX12_twin_53 : decode cX12_twin 53 = .ok (.if_icmp .lt 12, 3) := by decide +kernel
theorem dX12_twin_56 : decode cX12_twin 56 = .ok (.aload_n 0, 1) := by decide +kernel
theorem dX12_twin_57 : decode cX12_twin 57 = .ok (.bipush 6, 2) := by decide +kernel
theorem dX12_twin_59 : decode cX12_twin 59 = .ok (.invokevirtual 190, 3) := by decide +kernel
theorem dX12_twin_62 : decode cX12_twin 62 = .ok (.goto 42, 3) := by decide +kernel
theorem dX12_twin_65 : decode cX12_twin 65 = .ok (.aload_n 0, 1) := by decide +kernel
theorem dX12_twin_66 : decode cX12_twin 66 = .ok (.iload 4, 2) := by decide +kernel
theorem dX12_twin_68 : decode cX12_twin 68 = .ok (.ifCond .ne 12, 3) := by decide +kernel
theorem dX12_twin_71 : decode cX12_twin 71 = .ok (.aload_n 0, 1) := by decide +kernel
theorem dX12_twin_72 : decode cX12_twin 72 = .ok (.getfield 50, 3) := by decide +kernel
theorem dX12_twin_75 : decode cX12_twin 75 = .ok (.iload_n 3, 1) := by decide +kernel
theorem dX12_twin_76 : decode cX12_twin 76 = .ok (.iaload, 1) := by decide +kernel
theorem dX12_twin_77 : decode cX12_twin 77 = .ok (.goto 24, 3) := by decide +kernel
theorem dX12_twin_80 : decode cX12_twin 80 = .ok (.iload 4, 2) := by decide +kernel
theorem dX12_twin_82 : decode cX12_twin 82 = .ok (.iconst 1, 1) := by decide +kernel
theorem dX12_twin_83 : decode cX12_twin 83 = .ok (.if_icmp .ne 12, 3) := by decide +kernel
theorem dX12_twin_86 : decode cX12_twin 86 = .ok (.aload_n 0, 1) := by decide +kernel
theorem dX12_twin_87 : decode cX12_twin 87 = .ok (.getfield 53, 3) := by decide +kernel
theorem dX12_twin_90 : decode cX12_twin 90 = .ok (.iload_n 3, 1) := by decide +kernel
theorem dX12_twin_91 : decode cX12_twin 91 = .ok (.iaload, 1) := by decide +kernel
theorem dX12_twin_92 : decode cX12_twin 92 = .ok (.goto 9, 3) := by decide +kernel
theorem dX12_twin_95 : decode cX12_twin 95 = .ok (.aload_n 0, 1) := by decide +kernel
theorem dX12_twin_96 : decode cX12_twin 96 = .ok (.getfield 56, 3) := by decide +kernel
theorem dX12_twin_99 : decode cX12_twin 99 = .ok (.iload_n 3, 1) := by decide +kernel
theorem dX12_twin_100 : decode cX12_twin 100 = .ok (.iaload, 1) := by decide +kernel
theorem dX12_twin_101 : decode cX12_twin 101 = .ok (.invokevirtual 193, 3) := by decide +kernel
theorem dX12_twin_104 : decode cX12_twin 104 = .ok (.ireturn, 1) := by decide +kernel
theorem dX12_seen_0 : decode cX12_seen 0 = .ok (.aload_n 0, 1) := by decide +kernel
theorem dX12_seen_1 : decode cX12_seen 1 = .ok (.iload_n 1, 1) := by decide +kernel
theorem dX12_seen_2 : decode cX12_seen 2 = .ok (.invokevirtual 281, 3) := by decide +kernel
theorem dX12_seen_5 : decode cX12_seen 5 = .ok (.ifCond .eq 54, 3) := by decide +kernel
theorem dX12_seen_8 : decode cX12_seen 8 = .ok (.aload_n 0, 1) := by decide +kernel
theorem dX12_seen_9 : decode cX12_seen 9 = .ok (.iload_n 2, 1) := by decide +kernel
theorem dX12_seen_10 : decode cX12_seen 10 = .ok (.invokevirtual 278, 3) := by decide +kernel
theorem dX12_seen_13 : decode cX12_seen 13 = .ok (.ifCond .eq 46, 3) := by decide +kernel
theorem dX12_seen_16 : decode cX12_seen 16 = .ok (.aload_n 0, 1) := by decide +kernel
theorem dX12_seen_17 : decode cX12_seen 17 = .ok (.iload_n 3, 1) := by decide +kernel
theorem dX12_seen_18 : decode cX12_seen 18 = .ok (.invokevirtual 281, 3) := by decide +kernel
theorem dX12_seen_21 : decode cX12_seen 21 = .ok (.ifCond .eq 38, 3) := by decide +kernel
theorem dX12_seen_24 : decode cX12_seen 24 = .ok (.aload_n 0, 1) := by decide +kernel
theorem dX12_seen_25 : decode cX12_seen 25 = .ok (.aload_n 0, 1) := by decide +kernel
theorem dX12_seen_26 : decode cX12_seen 26 = .ok (.iload_n 2, 1) := by decide +kernel
theorem dX12_seen_27 : decode cX12_seen 27 = .ok (.invokevirtual 287, 3) := by decide +kernel
theorem dX12_seen_30 : decode cX12_seen 30 = .ok (.ifCond .eq 7, 3) := by decide +kernel
theorem dX12_seen_33 : decode cX12_seen 33 = .ok (.iconst 0, 1) := by decide +kernel
theorem dX12_seen_34 : decode cX12_seen 34 = .ok (.goto 19, 3) := by decide +kernel
theorem dX12_seen_37 : decode cX12_seen 37 = .ok (.aload_n 0, 1) := by decide +kernel
theorem dX12_seen_38 : decode cX12_seen 38 = .ok (.getfield 7, 3) := by decide +kernel
theorem dX12_seen_41 : decode cX12_seen 41 = .ok (.aload_n 0, 1) := by decide +kernel
theorem dX12_seen_42 : decode cX12_seen 42 = .ok (.iload_n 1, 1) := by decide +kernel
theorem dX12_seen_43 : decode cX12_seen 43 = .ok (.iload_n 2, 1) := by decide +kernel
theorem dX12_seen_44 : decode cX12_seen 44 = .ok (.invokevirtual 303, 3) := by decide +kernel
theorem dX12_seen_47 : decode cX12_seen 47 = .ok (.bipush 6, 2) := by decide +kernel
theorem dX12_seen_49 : decode cX12_seen 49 = .ok (.iadd, 1) := by decide +kernel
theorem dX12_seen_50 : decode cX12_seen 50 = .ok (.iload_n 3, 1) := by decide +kernel
theorem dX12_seen_51 : decode cX12_seen 51 = .ok (.iadd, 1) := by decide +kernel
theorem dX12_seen_52 : decode cX12_seen 52 = .ok (.iaload, 1) := by decide +kernel
theorem dX12_seen_53 : decode cX12_seen 53 = .ok (.invokevirtual 193, 3) := by decide +kernel
theorem dX12_seen_56 : decode cX12_seen 56 = .ok (.goto 8, 3) := by decide +kernel
theorem dX12_seen_59 : decode cX12_seen 59 = .ok (.aload_n 0, 1) := by decide +kernel
theorem dX12_seen_60 : decode cX12_seen 60 = .ok (.iconst 1, 1) := by decide +kernel
theorem dX12_seen_61 : decode cX12_seen 61 = .ok (.invokevirtual 190, 3) := by decide +kernel
theorem dX12_seen_64 : decode cX12_seen 64 = .ok (.ireturn, 1) := by decide +kernel
theorem dX12_partOf_0 : decode cX12_partOf 0 = .ok (.aload_n 0, 1) := by decide +kernel
theorem dX12_partOf_1 : decode cX12_partOf 1 = .ok (.iload_n 1, 1) := by decide +kernel
theorem dX12_partOf_2 : decode cX12_partOf 2 = .ok (.invokevirtual 281, 3) := by decide +kernel
theorem dX12_partOf_5 : decode cX12_partOf 5 = .ok (.ifCond .eq 19, 3) := by decide +kernel
theorem dX12_partOf_8 : decode cX12_partOf 8 = .ok (.aload_n 0, 1) := by decide +kernel
theorem dX12_partOf_9 : decode cX12_partOf 9 = .ok (.iload_n 2, 1) := by decide +kernel
theorem dX12_partOf_10 : decode cX12_partOf 10 = .ok (.invokevirtual 278, 3) := by decide +kernel
theorem dX12_partOf_13 : decode cX12_partOf 13 = .ok (.ifCond .eq 11, 3) := by decide +kernel
theorem dX12_partOf_16 : decode cX12_partOf 16 = .ok (.aload_n 0, 1) := by decide +kernel
theorem dX12_partOf_17 : decode cX12_partOf 17 = .ok (.iload_n 3, 1) := by decide +kernel
theorem dX12_partOf_18 : decode cX12_partOf 18 = .ok (.invokevirtual 281, 3) := by decide +kernel
theorem dX12_partOf_21 : decode cX12_partOf 21 = .ok (.ifCond .ne 9, 3) := by decide +kernel
theorem dX12_partOf_24 : decode cX12_partOf 24 = .ok (.aload_n 0, 1) := by decide +kernel
theorem dX12_partOf_25 : decode cX12_partOf 25 = .ok (.iconst 1, 1) := by decide +kernel
theorem dX12_partOf_26 : decode cX12_partOf 26 = .ok (.invokevirtual 190, 3) := by decide +kernel
theorem dX12_partOf_29 : decode cX12_partOf 29 = .ok (.ireturn, 1) := by decide +kernel
theorem dX12_partOf_30 : decode cX12_partOf 30 = .ok (.aload_n 0, 1) := by decide +kernel
theorem dX12_partOf_31 : decode cX12_partOf 31 = .ok (.iload_n 2, 1) := by decide +kernel
theorem dX12_partOf_32 : decode cX12_partOf 32 = .ok (.invokevirtual 287, 3) := by decide +kernel
theorem dX12_partOf_35 : decode cX12_partOf 35 = .ok (.ifCond .eq 23, 3) := by decide +kernel
theorem dX12_partOf_38 : decode cX12_partOf 38 = .ok (.aload_n 0, 1) := by decide +kernel
theorem dX12_partOf_39 : decode cX12_partOf 39 = .ok (.aload_n 0, 1) := by decide +kernel
theorem dX12_partOf_40 : decode cX12_partOf 40 = .ok (.getfield 7, 3) := by decide +kernel
theorem dX12_partOf_43 : decode cX12_partOf 43 = .ok (.aload_n 0, 1) := by decide +kernel
theorem dX12_partOf_44 : decode cX12_partOf 44 = .ok (.iload_n 1, 1) := by decide +kernel
theorem dX12_partOf_45 : decode cX12_partOf 45 = .ok (.iload_n 2, 1) := by decide +kernel
theorem dX12_partOf_46 : decode cX12_partOf 46 = .ok (.invokevirtual 303, 3) := by decide +kernel
theorem dX12_partOf_49 : decode cX12_partOf 49 = .ok (.iload_n 3, 1) := by decide +kernel
theorem dX12_partOf_50 : decode cX12_partOf 50 = .ok (.iadd, 1) := by decide +kernel
theorem dX12_partOf_51 : decode cX12_partOf 51 = .ok (.iaload, 1) := by decide +kernel
theorem dX12_partOf_52 : decode cX12_partOf 52 = .ok (.invokevirtual 193, 3) := by decide +kernel
theorem dX12_partOf_55 : decode cX12_partOf 55 = .ok (.goto 9, 3) := by decide +kernel
theorem dX12_partOf_58 : decode cX12_partOf 58 = .ok (.aload_n 0, 1) := by decide +kernel
theorem dX12_partOf_59 : decode cX12_partOf 59 = .ok (.bipush 7, 2) := by decide +kernel
theorem dX12_partOf_61 : decode cX12_partOf 61 = .ok (.invokevirtual 190, 3) := by decide +kernel
theorem dX12_partOf_64 : decode cX12_partOf 64 = .ok (.ireturn, 1) := by decide +kernel
theorem dX12_hints_0 : decode cX12_hints 0 = .ok (.aload_n 0, 1) := by decide +kernel
theorem dX12_hints_1 : decode cX12_hints 1 = .ok (.iload_n 1, 1) := by decide +kernel
theorem dX12_hints_2 : decode cX12_hints 2 = .ok (.invokevirtual 281, 3) := by decide +kernel
theorem dX12_hints_5 : decode cX12_hints 5 = .ok (.ifCond .ne 9, 3) := by decide +kernel
theorem dX12_hints_8 : decode cX12_hints 8 = .ok (.aload_n 0, 1) := by decide +kernel
theorem dX12_hints_9 : decode cX12_hints 9 = .ok (.iconst 1, 1) := by decide +kernel
theorem dX12_hints_10 : decode cX12_hints 10 = .ok (.invokevirtual 190, 3) := by decide +kernel
theorem dX12_hints_13 : decode cX12_hints 13 = .ok (.ireturn, 1) := by decide +kernel
theorem dX12_hints_14 : decode cX12_hints 14 = .ok (.iconst 0, 1) := by decide +kernel
theorem dX12_hints_15 : decode cX12_hints 15 = .ok (.istore_n 2, 1) := by decide +kernel
theorem dX12_hints_16 : decode cX12_hints 16 = .ok (.iconst 0, 1) := by decide +kernel
theorem dX12_hints_17 : decode cX12_hints 17 = .ok (.istore_n 3, 1) := by decide +kernel
theorem dX12_hints_18 : decode cX12_hints 18 = .ok (.iload_n 3, 1) := by decide +kernel
theorem dX12_hints_19 : decode cX12_hints 19 = .ok (.bipush 36, 2) := by decide +kernel
theorem dX12_hints_21 : decode cX12_hints 21 = .ok (.if_icmp .ge 29, 3) := by decide +kernel
theorem dX12_hints_24 : decode cX12_hints 24 = .ok (.iload_n 2, 1) := by decide +kernel
theorem dX12_hints_25 : decode cX12_hints 25 = .ok (.aload_n 0, 1) := by decide +kernel
theorem dX12_hints_26 : decode cX12_hints 26 = .ok (.getfield 7, 3) := by decide +kernel
theorem dX12_hints_29 : decode cX12_hints 29 = .ok (.aload_n 0, 1) := by decide +kernel
theorem dX12_hints_30 : decode cX12_hints 30 = .ok (.iload_n 1, 1) := by decide +kernel
theorem dX12_hints_31 : decode cX12_hints 31 = .ok (.iconst 0, 1) := by decide +kernel
theorem dX12_hints_32 : decode cX12_hints 32 = .ok (.iconst 0, 1) := by decide +kernel
theorem dX12_hints_33 : decode cX12_hints 33 = .ok (.invokevirtual 310, 3) := by decide +kernel
theorem dX12_hints_36 : decode cX12_hints 36 = .ok (.bipush 13, 2) := by decide +kernel
theorem dX12_hints_38 : decode cX12_hints 38 = .ok (.iload_n 3, 1) := by decide +kernel
theorem dX12_hints_39 : decode cX12_hints 39 = .ok (.imul, 1) := by decide +kernel
theorem dX12_hints_40 : decode cX12_hints 40 = .ok (.iadd, 1) := by decide +kernel
theorem dX12_hints_41 : decode cX12_hints 41 = .ok (.iaload, 1) := by decide +kernel
theorem dX12_hints_42 : decode cX12_hints 42 = .ok (.iadd, 1) := by decide +kernel
theorem dX12_hints_43 : decode cX12_hints 43 = .ok (.istore_n 2, 1) := by decide +kernel
theorem dX12_hints_44 : decode cX12_hints 44 = .ok (.iinc 3 1, 3) := by decide +kernel
theorem dX12_hints_47 : decode cX12_hints 47 = .ok (.goto (-29), 3) := by decide +kernel
theorem dX12_hints_50 : decode cX12_hints 50 = .ok (.aload_n 0, 1) := by decide +kernel
theorem dX12_hints_51 : decode cX12_hints 51 = .ok (.iload_n 2, 1) := by decide +kernel
theorem dX12_hints_52 : decode cX12_hints 52 = .ok (.invokevirtual 193, 3) := by decide +kernel
theorem dX12_hints_55 : decode cX12_hints 55 = .ok (.ireturn, 1) := by decide +kernel
theorem dX12_ticket_0 : decode cX12_ticket 0 = .ok (.iload_n 1, 1) := by decide +kernel
theorem dX12_ticket_1 : decode cX12_ticket 1 = .ok (.invokestatic 332, 3) := by decide +kernel
theorem dX12_ticket_4 : decode cX12_ticket 4 = .ok (.ifCond .eq 16, 3) := by decide +kernel
theorem dX12_ticket_7 : decode cX12_ticket 7 = .ok (.iload_n 2, 1) := by decide +kernel
theorem dX12_ticket_8 : decode cX12_ticket 8 = .ok (.iconst (-1), 1) := by decide +kernel
theorem dX12_ticket_9 : decode cX12_ticket 9 = .ok (.if_icmp .eq 17, 3) := by decide +kernel
theorem dX12_ticket_12 : decode cX12_ticket 12 = .ok (.aload_n 0, 1) := by decide +kernel
theorem dX12_ticket_13 : decode cX12_ticket 13 = .ok (.iload_n 2, 1) := by decide +kernel
theorem dX12_ticket_14 : decode cX12_ticket 14 = .ok (.invokevirtual 281, 3) := by decide +kernel
theorem dX12_ticket_17 : decode cX12_ticket 17 = .ok (.ifCond .ne 9, 3) := by decide +kernel
theorem dX12_ticket_20 : decode cX12_ticket 20 = .ok (.aload_n 0, 1) := by decide +kernel
theorem dX12_ticket_21 : decode cX12_ticket 21 = .ok (.iconst 1, 1) := by decide +kernel
theorem dX12_ticket_22 : decode cX12_ticket 22 = .ok (.invokevirtual 190, 3) := by decide +kernel
theorem dX12_ticket_25 : decode cX12_ticket 25 = .ok (.ireturn, 1) := by decide +kernel
theorem dX12_ticket_26 : decode cX12_ticket 26 = .ok (.aload_n 0, 1) := by decide +kernel
theorem dX12_ticket_27 : decode cX12_ticket 27 = .ok (.getfield 7, 3) := by decide +kernel
theorem dX12_ticket_30 : decode cX12_ticket 30 = .ok (.sipush 4440, 3) := by decide +kernel
theorem dX12_ticket_33 : decode cX12_ticket 33 = .ok (.bipush 8, 2) := by decide +kernel
theorem dX12_ticket_35 : decode cX12_ticket 35 = .ok (.iload_n 1, 1) := by decide +kernel
theorem dX12_ticket_36 : decode cX12_ticket 36 = .ok (.imul, 1) := by decide +kernel
theorem dX12_ticket_37 : decode cX12_ticket 37 = .ok (.iadd, 1) := by decide +kernel
theorem dX12_ticket_38 : decode cX12_ticket 38 = .ok (.iaload, 1) := by decide +kernel
theorem dX12_ticket_39 : decode cX12_ticket 39 = .ok (.iconst (-1), 1) := by decide +kernel
theorem dX12_ticket_40 : decode cX12_ticket 40 = .ok (.if_icmp .ne 12, 3) := by decide +kernel
theorem dX12_ticket_43 : decode cX12_ticket 43 = .ok (.aload_n 0, 1) := by decide +kernel
theorem dX12_ticket_44 : decode cX12_ticket 44 = .ok (.bipush 6, 2) := by decide +kernel
theorem dX12_ticket_46 : decode cX12_ticket 46 = .ok (.invokevirtual 190, 3) := by decide +kernel
theorem dX12_ticket_49 : decode cX12_ticket 49 = .ok (.goto 24, 3) := by decide +kernel
theorem dX12_ticket_52 : decode cX12_ticket 52 = .ok (.aload_n 0, 1) := by decide +kernel
theorem dX12_ticket_53 : decode cX12_ticket 53 = .ok (.aload_n 0, 1) := by decide +kernel
theorem dX12_ticket_54 : decode cX12_ticket 54 = .ok (.getfield 7, 3) := by decide +kernel
theorem dX12_ticket_57 : decode cX12_ticket 57 = .ok (.sipush 4440, 3) := by decide +kernel
theorem dX12_ticket_60 : decode cX12_ticket 60 = .ok (.bipush 8, 2) := by decide +kernel
theorem dX12_ticket_62 : decode cX12_ticket 62 = .ok (.iload_n 1, 1) := by decide +kernel
theorem dX12_ticket_63 : decode cX12_ticket 63 = .ok (.imul, 1) := by decide +kernel
theorem dX12_ticket_64 : decode cX12_ticket 64 = .ok (.iadd, 1) := by decide +kernel
theorem dX12_ticket_65 : decode cX12_ticket 65 = .ok (.iconst 1, 1) := by decide +kernel
theorem dX12_ticket_66 : decode cX12_ticket 66 = .ok (.iadd, 1) := by decide +kernel
theorem dX12_ticket_67 : decode cX12_ticket 67 = .ok (.iload_n 2, 1) := by decide +kernel
theorem dX12_ticket_68 : decode cX12_ticket 68 = .ok (.iadd, 1) := by decide +kernel
theorem dX12_ticket_69 : decode cX12_ticket 69 = .ok (.iaload, 1) := by decide +kernel
theorem dX12_ticket_70 : decode cX12_ticket 70 = .ok (.invokevirtual 193, 3) := by decide +kernel
theorem dX12_ticket_73 : decode cX12_ticket 73 = .ok (.ireturn, 1) := by decide +kernel
theorem dX12_like_0 : decode cX12_like 0 = .ok (.aload_n 0, 1) := by decide +kernel
theorem dX12_like_1 : decode cX12_like 1 = .ok (.iload_n 1, 1) := by decide +kernel
theorem dX12_like_2 : decode cX12_like 2 = .ok (.invokevirtual 281, 3) := by decide +kernel
theorem dX12_like_5 : decode cX12_like 5 = .ok (.ifCond .eq 50, 3) := by decide +kernel
theorem dX12_like_8 : decode cX12_like 8 = .ok (.aload_n 0, 1) := by decide +kernel
theorem dX12_like_9 : decode cX12_like 9 = .ok (.iload_n 2, 1) := by decide +kernel
theorem dX12_like_10 : decode cX12_like 10 = .ok (.invokevirtual 281, 3) := by decide +kernel
theorem dX12_like_13 : decode cX12_like 13 = .ok (.ifCond .eq 42, 3) := by decide +kernel
theorem dX12_like_16 : decode cX12_like 16 = .ok (.aload_n 0, 1) := by decide +kernel
theorem dX12_like_17 : decode cX12_like 17 = .ok (.iload_n 3, 1) := by decide +kernel
theorem dX12_like_18 : decode cX12_like 18 = .ok (.invokevirtual 278, 3) := by decide +kernel
theorem dX12_like_21 : decode cX12_like 21 = .ok (.ifCond .eq 34, 3) := by decide +kernel
theorem dX12_like_24 : decode cX12_like 24 = .ok (.aload_n 0, 1) := by decide +kernel
theorem dX12_like_25 : decode cX12_like 25 = .ok (.aload_n 0, 1) := by decide +kernel
theorem dX12_like_26 : decode cX12_like 26 = .ok (.aload_n 0, 1) := by decide +kernel
theorem dX12_like_27 : decode cX12_like 27 = .ok (.iload_n 1, 1) := by decide +kernel
theorem dX12_like_28 : decode cX12_like 28 = .ok (.iload_n 3, 1) := by decide +kernel
theorem dX12_like_29 : decode cX12_like 29 = .ok (.invokevirtual 303, 3) := by decide +kernel
theorem dX12_like_32 : decode cX12_like 32 = .ok (.aload_n 0, 1) := by decide +kernel
theorem dX12_like_33 : decode cX12_like 33 = .ok (.iload_n 2, 1) := by decide +kernel
theorem dX12_like_34 : decode cX12_like 34 = .ok (.iload_n 3, 1) := by decide +kernel
theorem dX12_like_35 : decode cX12_like 35 = .ok (.invokevirtual 303, 3) := by decide +kernel
theorem dX12_like_38 : decode cX12_like 38 = .ok (.invokevirtual 377, 3) := by decide +kernel
theorem dX12_like_41 : decode cX12_like 41 = .ok (.ifCond .eq 7, 3) := by decide +kernel
theorem dX12_like_44 : decode cX12_like 44 = .ok (.iconst 1, 1) := by decide +kernel
theorem dX12_like_45 : decode cX12_like 45 = .ok (.goto 4, 3) := by decide +kernel
theorem dX12_like_48 : decode cX12_like 48 = .ok (.iconst 0, 1) := by decide +kernel
theorem dX12_like_49 : decode cX12_like 49 = .ok (.invokevirtual 193, 3) := by decide +kernel
theorem dX12_like_52 : decode cX12_like 52 = .ok (.goto 8, 3) := by decide +kernel
theorem dX12_like_55 : decode cX12_like 55 = .ok (.aload_n 0, 1) := by decide +kernel
theorem dX12_like_56 : decode cX12_like 56 = .ok (.iconst 1, 1) := by decide +kernel
theorem dX12_like_57 : decode cX12_like 57 = .ok (.invokevirtual 190, 3) := by decide +kernel
theorem dX12_like_60 : decode cX12_like 60 = .ok (.ireturn, 1) := by decide +kernel
theorem dX12_alikes_0 : decode cX12_alikes 0 = .ok (.iconst 0, 1) := by decide +kernel
theorem dX12_alikes_1 : decode cX12_alikes 1 = .ok (.istore_n 1, 1) := by decide +kernel
theorem dX12_alikes_2 : decode cX12_alikes 2 = .ok (.iconst 0, 1) := by decide +kernel
theorem dX12_alikes_3 : decode cX12_alikes 3 = .ok (.istore_n 2, 1) := by decide +kernel
theorem dX12_alikes_4 : decode cX12_alikes 4 = .ok (.iload_n 2, 1) := by decide +kernel
theorem dX12_alikes_5 : decode cX12_alikes 5 = .ok (.aload_n 0, 1) := by decide +kernel
theorem dX12_alikes_6 : decode cX12_alikes 6 = .ok (.getfield 7, 3) := by decide +kernel
theorem dX12_alikes_9 : decode cX12_alikes 9 = .ok (.iconst 4, 1) := by decide +kernel
theorem dX12_alikes_10 : decode cX12_alikes 10 = .ok (.iaload, 1) := by decide +kernel
theorem dX12_alikes_11 : decode cX12_alikes 11 = .ok (.if_icmp .ge 27, 3) := by decide +kernel
theorem dX12_alikes_14 : decode cX12_alikes 14 = .ok (.iload_n 1, 1) := by decide +kernel
theorem dX12_alikes_15 : decode cX12_alikes 15 = .ok (.aload_n 0, 1) := by decide +kernel
theorem dX12_alikes_16 : decode cX12_alikes 16 = .ok (.iload_n 2, 1) := by decide +kernel
theorem dX12_alikes_17 : decode cX12_alikes 17 = .ok (.invokevirtual 386, 3) := by decide +kernel
theorem dX12_alikes_20 : decode cX12_alikes 20 = .ok (.ifCond .eq 9, 3) := by decide +kernel
theorem dX12_alikes_23 : decode cX12_alikes 23 = .ok (.iconst 1, 1) := by decide +kernel
theorem dX12_alikes_24 : decode cX12_alikes 24 = .ok (.iload_n 2, 1) := by decide +kernel
theorem dX12_alikes_25 : decode cX12_alikes 25 = .ok (.ishl, 1) := by decide +kernel
theorem dX12_alikes_26 : decode cX12_alikes 26 = .ok (.goto 4, 3) := by decide +kernel
theorem dX12_alikes_29 : decode cX12_alikes 29 = .ok (.iconst 0, 1) := by decide +kernel
theorem dX12_alikes_30 : decode cX12_alikes 30 = .ok (.ior, 1) := by decide +kernel
theorem dX12_alikes_31 : decode cX12_alikes 31 = .ok (.istore_n 1, 1) := by decide +kernel
theorem dX12_alikes_32 : decode cX12_alikes 32 = .ok (.iinc 2 1, 3) := by decide +kernel
theorem dX12_alikes_35 : decode cX12_alikes 35 = .ok (.goto (-31), 3) := by decide +kernel
theorem dX12_alikes_38 : decode cX12_alikes 38 = .ok (.iload_n 1, 1) := by decide +kernel
theorem dX12_alikes_39 : decode cX12_alikes 39 = .ok (.ireturn, 1) := by decide +kernel
theorem dX12_alike_0 : decode cX12_alike 0 = .ok (.aload_n 0, 1) := by decide +kernel
theorem dX12_alike_1 : decode cX12_alike 1 = .ok (.aload_n 0, 1) := by decide +kernel
theorem dX12_alike_2 : decode cX12_alike 2 = .ok (.invokevirtual 392, 3) := by decide +kernel
theorem dX12_alike_5 : decode cX12_alike 5 = .ok (.invokevirtual 193, 3) := by decide +kernel
theorem dX12_alike_8 : decode cX12_alike 8 = .ok (.ireturn, 1) := by decide +kernel
theorem dX12_differ_0 : decode cX12_differ 0 = .ok (.aload_n 0, 1) := by decide +kernel
theorem dX12_differ_1 : decode cX12_differ 1 = .ok (.iload_n 1, 1) := by decide +kernel
theorem dX12_differ_2 : decode cX12_differ 2 = .ok (.invokevirtual 281, 3) := by decide +kernel
theorem dX12_differ_5 : decode cX12_differ 5 = .ok (.ifCond .eq 24, 3) := by decide +kernel
theorem dX12_differ_8 : decode cX12_differ 8 = .ok (.aload_n 0, 1) := by decide +kernel
theorem dX12_differ_9 : decode cX12_differ 9 = .ok (.iload_n 2, 1) := by decide +kernel
theorem dX12_differ_10 : decode cX12_differ 10 = .ok (.invokevirtual 281, 3) := by decide +kernel
theorem dX12_differ_13 : decode cX12_differ 13 = .ok (.ifCond .eq 16, 3) := by decide +kernel
theorem dX12_differ_16 : decode cX12_differ 16 = .ok (.aload_n 0, 1) := by decide +kernel
theorem dX12_differ_17 : decode cX12_differ 17 = .ok (.aload_n 0, 1) := by decide +kernel
theorem dX12_differ_18 : decode cX12_differ 18 = .ok (.iload_n 1, 1) := by decide +kernel
theorem dX12_differ_19 : decode cX12_differ 19 = .ok (.iload_n 2, 1) := by decide +kernel
theorem dX12_differ_20 : decode cX12_differ 20 = .ok (.invokevirtual 380, 3) := by decide +kernel
theorem dX12_differ_23 : decode cX12_differ 23 = .ok (.invokevirtual 193, 3) := by decide +kernel
theorem dX12_differ_26 : decode cX12_differ 26 = .ok (.goto 8, 3) := by decide +kernel
theorem dX12_differ_29 : decode cX12_differ 29 = .ok (.aload_n 0, 1) := by decide +kernel
theorem dX12_differ_30 : decode cX12_differ 30 = .ok (.iconst 1, 1) := by decide +kernel
theorem dX12_differ_31 : decode cX12_differ 31 = .ok (.invokevirtual 190, 3) := by decide +kernel
theorem dX12_differ_34 : decode cX12_differ 34 = .ok (.ireturn, 1) := by decide +kernel
theorem dX12_root_0 : decode cX12_root 0 = .ok (.aload_n 0, 1) := by decide +kernel
theorem dX12_root_1 : decode cX12_root 1 = .ok (.iload_n 1, 1) := by decide +kernel
theorem dX12_root_2 : decode cX12_root 2 = .ok (.invokevirtual 281, 3) := by decide +kernel
theorem dX12_root_5 : decode cX12_root 5 = .ok (.ifCond .ne 9, 3) := by decide +kernel
theorem dX12_root_8 : decode cX12_root 8 = .ok (.aload_n 0, 1) := by decide +kernel
theorem dX12_root_9 : decode cX12_root 9 = .ok (.iconst 1, 1) := by decide +kernel
theorem dX12_root_10 : decode cX12_root 10 = .ok (.invokevirtual 190, 3) := by decide +kernel
theorem dX12_root_13 : decode cX12_root 13 = .ok (.ireturn, 1) := by decide +kernel
theorem dX12_root_14 : decode cX12_root 14 = .ok (.lconst 0, 1) := by decide +kernel
theorem dX12_root_15 : decode cX12_root 15 = .ok (.lstore_n 2, 1) := by decide +kernel
theorem dX12_root_16 : decode cX12_root 16 = .ok (.iconst 0, 1) := by decide +kernel
theorem dX12_root_17 : decode cX12_root 17 = .ok (.istore 4, 2) := by decide +kernel
theorem dX12_root_19 : decode cX12_root 19 = .ok (.iload 4, 2) := by decide +kernel
theorem dX12_root_21 : decode cX12_root 21 = .ok (.aload_n 0, 1) := by decide +kernel
theorem dX12_root_22 : decode cX12_root 22 = .ok (.getfield 7, 3) := by decide +kernel
theorem dX12_root_25 : decode cX12_root 25 = .ok (.iconst 4, 1) := by decide +kernel
theorem dX12_root_26 : decode cX12_root 26 = .ok (.iaload, 1) := by decide +kernel
theorem dX12_root_27 : decode cX12_root 27 = .ok (.if_icmp .ge 141, 3) := by decide +kernel
theorem dX12_root_30 : decode cX12_root 30 = .ok (.aload_n 0, 1) := by decide +kernel
theorem dX12_root_31 : decode cX12_root 31 = .ok (.iload_n 1, 1) := by decide +kernel
theorem dX12_root_32 : decode cX12_root 32 = .ok (.iload 4, 2) := by decide +kernel
theorem dX12_root_34 : decode cX12_root 34 = .ok (.invokevirtual 317, 3) := by decide +kernel
theorem dX12_root_37 : decode cX12_root 37 = .ok (.ifCond .ne 6, 3) := by decide +kernel
theorem dX12_root_40 : decode cX12_root 40 = .ok (.goto 122, 3) := by decide +kernel
theorem dX12_root_43 : decode cX12_root 43 = .ok (.aload_n 0, 1) := by decide +kernel
theorem dX12_root_44 : decode cX12_root 44 = .ok (.iload_n 1, 1) := by decide +kernel
theorem dX12_root_45 : decode cX12_root 45 = .ok (.iload 4, 2) := by decide +kernel
theorem dX12_root_47 : decode cX12_root 47 = .ok (.invokevirtual 303, 3) := by decide +kernel
theorem dX12_root_50 : decode cX12_root 50 = .ok (.istore 5, 2) := by decide +kernel
theorem dX12_root_52 : decode cX12_root 52 = .ok (.ldc2_w 395, 3) := by decide +kernel
theorem dX12_root_55 : decode cX12_root 55 = .ok (.lload_n 2, 1) := by decide +kernel
theorem dX12_root_56 : decode cX12_root 56 = .ok (.lmul, 1) := by decide +kernel
theorem dX12_root_57 : decode cX12_root 57 = .ok (.lstore_n 2, 1) := by decide +kernel
theorem dX12_root_58 : decode cX12_root 58 = .ok (.aload_n 0, 1) := by decide +kernel
theorem dX12_root_59 : decode cX12_root 59 = .ok (.iload 5, 2) := by decide +kernel
theorem dX12_root_61 : decode cX12_root 61 = .ok (.iload 4, 2) := by decide +kernel
theorem dX12_root_63 : decode cX12_root 63 = .ok (.invokevirtual 362, 3) := by decide +kernel
theorem dX12_root_66 : decode cX12_root 66 = .ok (.iconst 0, 1) := by decide +kernel
theorem dX12_root_67 : decode cX12_root 67 = .ok (.istore 6, 2) := by decide +kernel
theorem dX12_root_69 : decode cX12_root 69 = .ok (.iload 6, 2) := by decide +kernel
theorem dX12_root_71 : decode cX12_root 71 = .ok (.aload_n 0, 1) := by decide +kernel
theorem dX12_root_72 : decode cX12_root 72 = .ok (.getfield 296, 3) := by decide +kernel
theorem dX12_root_75 : decode cX12_root 75 = .ok (.if_icmp .ge 23, 3) := by decide +kernel
theorem dX12_root_78 : decode cX12_root 78 = .ok (.lload_n 2, 1) := by decide +kernel
theorem dX12_root_79 : decode cX12_root 79 = .ok (.bipush 7, 2) := by decide +kernel
theorem dX12_root_81 : decode cX12_root 81 = .ok (.aload_n 0, 1) := by decide +kernel
theorem dX12_root_82 : decode cX12_root 82 = .ok (.getfield 50, 3) := by decide +kernel
theorem dX12_root_85 : decode cX12_root 85 = .ok (.iload 6, 2) := by decide +kernel
theorem dX12_root_87 : decode cX12_root 87 = .ok (.iaload, 1) := by decide +kernel
theorem dX12_root_88 : decode cX12_root 88 = .ok (.iadd, 1) := by decide +kernel
theorem dX12_root_89 : decode cX12_root 89 = .ok (.i2l, 1) := by decide +kernel
theorem dX12_root_90 : decode cX12_root 90 = .ok (.ladd, 1) := by decide +kernel
theorem dX12_root_91 : decode cX12_root 91 = .ok (.lstore_n 2, 1) := by decide +kernel
theorem dX12_root_92 : decode cX12_root 92 = .ok (.iinc 6 1, 3) := by decide +kernel
theorem dX12_root_95 : decode cX12_root 95 = .ok (.goto (-26), 3) := by decide +kernel
theorem dX12_root_98 : decode cX12_root 98 = .ok (.iconst 0, 1) := by decide +kernel
theorem dX12_root_99 : decode cX12_root 99 = .ok (.istore 6, 2) := by decide +kernel
theorem dX12_root_101 : decode cX12_root 101 = .ok (.iload 6, 2) := by decide +kernel
theorem dX12_root_103 : decode cX12_root 103 = .ok (.bipush 6, 2) := by decide +kernel
theorem dX12_root_105 : decode cX12_root 105 = .ok (.if_icmp .ge 51, 3) := by decide +kernel
theorem dX12_root_108 : decode cX12_root 108 = .ok (.lload_n 2, 1) := by decide +kernel
theorem dX12_root_109 : decode cX12_root 109 = .ok (.aload_n 0, 1) := by decide +kernel
theorem dX12_root_110 : decode cX12_root 110 = .ok (.iload 4, 2) := by decide +kernel
theorem dX12_root_112 : decode cX12_root 112 = .ok (.invokevirtual 287, 3) := by decide +kernel
theorem dX12_root_115 : decode cX12_root 115 = .ok (.ifCond .eq 17, 3) := by decide +kernel
theorem dX12_root_118 : decode cX12_root 118 = .ok (.aload_n 0, 1) := by decide +kernel
theorem dX12_root_119 : decode cX12_root 119 = .ok (.getfield 7, 3) := by decide +kernel
theorem dX12_root_122 : decode cX12_root 122 = .ok (.iload 5, 2) := by decide +kernel
theorem dX12_root_124 : decode cX12_root 124 = .ok (.iload 6, 2) := by decide +kernel
theorem dX12_root_126 : decode cX12_root 126 = .ok (.iadd, 1) := by decide +kernel
theorem dX12_root_127 : decode cX12_root 127 = .ok (.iaload, 1) := by decide +kernel
theorem dX12_root_128 : decode cX12_root 128 = .ok (.i2l, 1) := by decide +kernel
theorem dX12_root_129 : decode cX12_root 129 = .ok (.goto 19, 3) := by decide +kernel
theorem dX12_root_132 : decode cX12_root 132 = .ok (.iconst 3, 1) := by decide +kernel
theorem dX12_root_133 : decode cX12_root 133 = .ok (.aload_n 0, 1) := by decide +kernel
theorem dX12_root_134 : decode cX12_root 134 = .ok (.getfield 7, 3) := by decide +kernel
theorem dX12_root_137 : decode cX12_root 137 = .ok (.iload 5, 2) := by decide +kernel
theorem dX12_root_139 : decode cX12_root 139 = .ok (.bipush 6, 2) := by decide +kernel
theorem dX12_root_141 : decode cX12_root 141 = .ok (.iadd, 1) := by decide +kernel
theorem dX12_root_142 : decode cX12_root 142 = .ok (.iload 6, 2) := by decide +kernel
theorem dX12_root_144 : decode cX12_root 144 = .ok (.iadd, 1) := by decide +kernel
theorem dX12_root_145 : decode cX12_root 145 = .ok (.iaload, 1) := by decide +kernel
theorem dX12_root_146 : decode cX12_root 146 = .ok (.imul, 1) := by decide +kernel
theorem dX12_root_147 : decode cX12_root 147 = .ok (.i2l, 1) := by decide +kernel
theorem dX12_root_148 : decode cX12_root 148 = .ok (.ladd, 1) := by decide +kernel
theorem dX12_root_149 : decode cX12_root 149 = .ok (.lstore_n 2, 1) := by decide +kernel
theorem dX12_root_150 : decode cX12_root 150 = .ok (.iinc 6 1, 3) := by decide +kernel
theorem dX12_root_153 : decode cX12_root 153 = .ok (.goto (-52), 3) := by decide +kernel
theorem dX12_root_156 : decode cX12_root 156 = .ok (.lload_n 2, 1) := by decide +kernel
theorem dX12_root_157 : decode cX12_root 157 = .ok (.ldc2_w 397, 3) := by decide +kernel
theorem dX12_root_160 : decode cX12_root 160 = .ok (.lrem, 1) := by decide +kernel
theorem dX12_root_161 : decode cX12_root 161 = .ok (.lstore_n 2, 1) := by decide +kernel
theorem dX12_root_162 : decode cX12_root 162 = .ok (.iinc 4 1, 3) := by decide +kernel
theorem dX12_root_165 : decode cX12_root 165 = .ok (.goto (-146), 3) := by decide +kernel
theorem dX12_root_168 : decode cX12_root 168 = .ok (.aload_n 0, 1) := by decide +kernel
theorem dX12_root_169 : decode cX12_root 169 = .ok (.lload_n 2, 1) := by decide +kernel
theorem dX12_root_170 : decode cX12_root 170 = .ok (.l2i, 1) := by decide +kernel
theorem dX12_root_171 : decode cX12_root 171 = .ok (.invokevirtual 193, 3) := by decide +kernel
theorem dX12_root_174 : decode cX12_root 174 = .ok (.ireturn, 1) := by decide +kernel
theorem dX12_joinsAll_0 : decode cX12_joinsAll 0 = .ok (.iconst 0, 1) := by decide +kernel
theorem dX12_joinsAll_1 : decode cX12_joinsAll 1 = .ok (.istore_n 2, 1) := by decide +kernel
theorem dX12_joinsAll_2 : decode cX12_joinsAll 2 = .ok (.iload_n 2, 1) := by decide +kernel
theorem dX12_joinsAll_3 : decode cX12_joinsAll 3 = .ok (.bipush 12, 2) := by decide +kernel
theorem dX12_joinsAll_5 : decode cX12_joinsAll 5 = .ok (.if_icmp .ge 20, 3) := by decide +kernel
theorem dX12_joinsAll_8 : decode cX12_joinsAll 8 = .ok (.aload_n 0, 1) := by decide +kernel
theorem dX12_joinsAll_9 : decode cX12_joinsAll 9 = .ok (.getfield 7, 3) := by decide +kernel
theorem dX12_joinsAll_12 : decode cX12_joinsAll 12 = .ok (.sipush 29120, 3) := by decide +kernel
theorem dX12_joinsAll_15 : decode cX12_joinsAll 15 = .ok (.iload_n 2, 1) := by decide +kernel
theorem dX12_joinsAll_16 : decode cX12_joinsAll 16 = .ok (.iadd, 1) := by decide +kernel
theorem dX12_joinsAll_17 : decode cX12_joinsAll 17 = .ok (.iconst 0, 1) := by decide +kernel
theorem dX12_joinsAll_18 : decode cX12_joinsAll 18 = .ok (.iastore, 1) := by decide +kernel
theorem dX12_joinsAll_19 : decode cX12_joinsAll 19 = .ok (.iinc 2 1, 3) := by decide +kernel
theorem dX12_joinsAll_22 : decode cX12_joinsAll 22 = .ok (.goto (-20), 3) := by decide +kernel
theorem dX12_joinsAll_25 : decode cX12_joinsAll 25 = .ok (.iconst 0, 1) := by decide +kernel
theorem dX12_joinsAll_26 : decode cX12_joinsAll 26 = .ok (.istore_n 2, 1) := by decide +kernel
theorem dX12_joinsAll_27 : decode cX12_joinsAll 27 = .ok (.iload_n 2, 1) := by decide +kernel
theorem dX12_joinsAll_28 : decode cX12_joinsAll 28 = .ok (.aload_n 0, 1) := by decide +kernel
theorem dX12_joinsAll_29 : decode cX12_joinsAll 29 = .ok (.getfield 7, 3) := by decide +kernel
theorem dX12_joinsAll_32 : decode cX12_joinsAll 32 = .ok (.iconst 3, 1) := by decide +kernel
theorem dX12_joinsAll_33 : decode cX12_joinsAll 33 = .ok (.iaload, 1) := by decide +kernel
theorem dX12_joinsAll_34 : decode cX12_joinsAll 34 = .ok (.if_icmp .ge 43, 3) := by decide +kernel
theorem dX12_joinsAll_37 : decode cX12_joinsAll 37 = .ok (.iload_n 2, 1) := by decide +kernel
theorem dX12_joinsAll_38 : decode cX12_joinsAll 38 = .ok (.ifCond .ne 19, 3) := by decide +kernel
theorem dX12_joinsAll_41 : decode cX12_joinsAll 41 = .ok (.aload_n 0, 1) := by decide +kernel
theorem dX12_joinsAll_42 : decode cX12_joinsAll 42 = .ok (.sipush 29120, 3) := by decide +kernel
theorem dX12_joinsAll_45 : decode cX12_joinsAll 45 = .ok (.aload_n 0, 1) := by decide +kernel
theorem dX12_joinsAll_46 : decode cX12_joinsAll 46 = .ok (.iload_n 2, 1) := by decide +kernel
theorem dX12_joinsAll_47 : decode cX12_joinsAll 47 = .ok (.iload_n 1, 1) := by decide +kernel
theorem dX12_joinsAll_48 : decode cX12_joinsAll 48 = .ok (.invokevirtual 303, 3) := by decide +kernel
theorem dX12_joinsAll_51 : decode cX12_joinsAll 51 = .ok (.invokevirtual 313, 3) := by decide +kernel
theorem dX12_joinsAll_54 : decode cX12_joinsAll 54 = .ok (.goto 17, 3) := by decide +kernel
theorem dX12_joinsAll_57 : decode cX12_joinsAll 57 = .ok (.aload_n 0, 1) := by decide +kernel
theorem dX12_joinsAll_58 : decode cX12_joinsAll 58 = .ok (.sipush 29120, 3) := by decide +kernel
theorem dX12_joinsAll_61 : decode cX12_joinsAll 61 = .ok (.aload_n 0, 1) := by decide +kernel
theorem dX12_joinsAll_62 : decode cX12_joinsAll 62 = .ok (.iload_n 2, 1) := by decide +kernel
theorem dX12_joinsAll_63 : decode cX12_joinsAll 63 = .ok (.iload_n 1, 1) := by decide +kernel
theorem dX12_joinsAll_64 : decode cX12_joinsAll 64 = .ok (.invokevirtual 303, 3) := by decide +kernel
theorem dX12_joinsAll_67 : decode cX12_joinsAll 67 = .ok (.iload_n 1, 1) := by decide +kernel
theorem dX12_joinsAll_68 : decode cX12_joinsAll 68 = .ok (.invokevirtual 306, 3) := by decide +kernel
theorem dX12_joinsAll_71 : decode cX12_joinsAll 71 = .ok (.iinc 2 1, 3) := by decide +kernel
theorem dX12_joinsAll_74 : decode cX12_joinsAll 74 = .ok (.goto (-47), 3) := by decide +kernel
theorem dX12_joinsAll_77 : decode cX12_joinsAll 77 = .ok (.return_, 1) := by decide +kernel
theorem dX12_fresh_0 : decode cX12_fresh 0 = .ok (.aload_n 0, 1) := by decide +kernel
theorem dX12_fresh_1 : decode cX12_fresh 1 = .ok (.iload_n 1, 1) := by decide +kernel
theorem dX12_fresh_2 : decode cX12_fresh 2 = .ok (.invokevirtual 278, 3) := by decide +kernel
theorem dX12_fresh_5 : decode cX12_fresh 5 = .ok (.ifCond .ne 9, 3) := by decide +kernel
theorem dX12_fresh_8 : decode cX12_fresh 8 = .ok (.aload_n 0, 1) := by decide +kernel
theorem dX12_fresh_9 : decode cX12_fresh 9 = .ok (.iconst 1, 1) := by decide +kernel
theorem dX12_fresh_10 : decode cX12_fresh 10 = .ok (.invokevirtual 190, 3) := by decide +kernel
theorem dX12_fresh_13 : decode cX12_fresh 13 = .ok (.ireturn, 1) := by decide +kernel
theorem dX12_fresh_14 : decode cX12_fresh 14 = .ok (.aload_n 0, 1) := by decide +kernel
theorem dX12_fresh_15 : decode cX12_fresh 15 = .ok (.iload_n 1, 1) := by decide +kernel
theorem dX12_fresh_16 : decode cX12_fresh 16 = .ok (.invokevirtual 399, 3) := by decide +kernel
theorem dX12_fresh_19 : decode cX12_fresh 19 = .ok (.aload_n 0, 1) := by decide +kernel
theorem dX12_fresh_20 : decode cX12_fresh 20 = .ok (.iload_n 1, 1) := by decide +kernel
theorem dX12_fresh_21 : decode cX12_fresh 21 = .ok (.invokevirtual 275, 3) := by decide +kernel
theorem dX12_fresh_24 : decode cX12_fresh 24 = .ok (.istore_n 2, 1) := by decide +kernel
theorem dX12_fresh_25 : decode cX12_fresh 25 = .ok (.iconst 0, 1) := by decide +kernel
theorem dX12_fresh_26 : decode cX12_fresh 26 = .ok (.istore_n 3, 1) := by decide +kernel
theorem dX12_fresh_27 : decode cX12_fresh 27 = .ok (.iconst 0, 1) := by decide +kernel
theorem dX12_fresh_28 : decode cX12_fresh 28 = .ok (.istore 4, 2) := by decide +kernel
theorem dX12_fresh_30 : decode cX12_fresh 30 = .ok (.iload 4, 2) := by decide +kernel
theorem dX12_fresh_32 : decode cX12_fresh 32 = .ok (.aload_n 0, 1) := by decide +kernel
theorem dX12_fresh_33 : decode cX12_fresh 33 = .ok (.getfield 7, 3) := by decide +kernel
theorem dX12_fresh_36 : decode cX12_fresh 36 = .ok (.iconst 3, 1) := by decide +kernel
theorem dX12_fresh_37 : decode cX12_fresh 37 = .ok (.iaload, 1) := by decide +kernel
theorem dX12_fresh_38 : decode cX12_fresh 38 = .ok (.if_icmp .ge 47, 3) := by decide +kernel
theorem dX12_fresh_41 : decode cX12_fresh 41 = .ok (.iload_n 3, 1) := by decide +kernel
theorem dX12_fresh_42 : decode cX12_fresh 42 = .ok (.iload_n 2, 1) := by decide +kernel
theorem dX12_fresh_43 : decode cX12_fresh 43 = .ok (.iload 4, 2) := by decide +kernel
theorem dX12_fresh_45 : decode cX12_fresh 45 = .ok (.ishr, 1) := by decide +kernel
theorem dX12_fresh_46 : decode cX12_fresh 46 = .ok (.iconst 1, 1) := by decide +kernel
theorem dX12_fresh_47 : decode cX12_fresh 47 = .ok (.iand, 1) := by decide +kernel
theorem dX12_fresh_48 : decode cX12_fresh 48 = .ok (.iconst 1, 1) := by decide +kernel
theorem dX12_fresh_49 : decode cX12_fresh 49 = .ok (.if_icmp .ne 27, 3) := by decide +kernel
theorem dX12_fresh_52 : decode cX12_fresh 52 = .ok (.aload_n 0, 1) := by decide +kernel
theorem dX12_fresh_53 : decode cX12_fresh 53 = .ok (.aload_n 0, 1) := by decide +kernel
theorem dX12_fresh_54 : decode cX12_fresh 54 = .ok (.iload 4, 2) := by decide +kernel
theorem dX12_fresh_56 : decode cX12_fresh 56 = .ok (.iload_n 1, 1) := by decide +kernel
theorem dX12_fresh_57 : decode cX12_fresh 57 = .ok (.invokevirtual 303, 3) := by decide +kernel
theorem dX12_fresh_60 : decode cX12_fresh 60 = .ok (.sipush 29120, 3) := by decide +kernel
theorem dX12_fresh_63 : decode cX12_fresh 63 = .ok (.invokevirtual 377, 3) := by decide +kernel
theorem dX12_fresh_66 : decode cX12_fresh 66 = .ok (.ifCond .eq 10, 3) := by decide +kernel
theorem dX12_fresh_69 : decode cX12_fresh 69 = .ok (.iconst 1, 1) := by decide +kernel
theorem dX12_fresh_70 : decode cX12_fresh 70 = .ok (.iload 4, 2) := by decide +kernel
theorem dX12_fresh_72 : decode cX12_fresh 72 = .ok (.ishl, 1) := by decide +kernel
theorem dX12_fresh_73 : decode cX12_fresh 73 = .ok (.goto 4, 3) := by decide +kernel
theorem dX12_fresh_76 : decode cX12_fresh 76 = .ok (.iconst 0, 1) := by decide +kernel
theorem dX12_fresh_77 : decode cX12_fresh 77 = .ok (.ior, 1) := by decide +kernel
theorem dX12_fresh_78 : decode cX12_fresh 78 = .ok (.istore_n 3, 1) := by decide +kernel
theorem dX12_fresh_79 : decode cX12_fresh 79 = .ok (.iinc 4 1, 3) := by decide +kernel
theorem dX12_fresh_82 : decode cX12_fresh 82 = .ok (.goto (-52), 3) := by decide +kernel
theorem dX12_fresh_85 : decode cX12_fresh 85 = .ok (.aload_n 0, 1) := by decide +kernel
theorem dX12_fresh_86 : decode cX12_fresh 86 = .ok (.iload_n 3, 1) := by decide +kernel
theorem dX12_fresh_87 : decode cX12_fresh 87 = .ok (.invokevirtual 193, 3) := by decide +kernel
theorem dX12_fresh_90 : decode cX12_fresh 90 = .ok (.ireturn, 1) := by decide +kernel
theorem dX12_late_0 : decode cX12_late 0 = .ok (.aload_n 0, 1) := by decide +kernel
theorem dX12_late_1 : decode cX12_late 1 = .ok (.iload_n 1, 1) := by decide +kernel
theorem dX12_late_2 : decode cX12_late 2 = .ok (.invokevirtual 281, 3) := by decide +kernel
theorem dX12_late_5 : decode cX12_late 5 = .ok (.ifCond .eq 11, 3) := by decide +kernel
theorem dX12_late_8 : decode cX12_late 8 = .ok (.aload_n 0, 1) := by decide +kernel
theorem dX12_late_9 : decode cX12_late 9 = .ok (.iload_n 2, 1) := by decide +kernel
theorem dX12_late_10 : decode cX12_late 10 = .ok (.invokevirtual 278, 3) := by decide +kernel
theorem dX12_late_13 : decode cX12_late 13 = .ok (.ifCond .ne 9, 3) := by decide +kernel
theorem dX12_late_16 : decode cX12_late 16 = .ok (.aload_n 0, 1) := by decide +kernel
theorem dX12_late_17 : decode cX12_late 17 = .ok (.iconst 1, 1) := by decide +kernel
theorem dX12_late_18 : decode cX12_late 18 = .ok (.invokevirtual 190, 3) := by decide +kernel
theorem dX12_late_21 : decode cX12_late 21 = .ok (.ireturn, 1) := by decide +kernel
theorem dX12_late_22 : decode cX12_late 22 = .ok (.aload_n 0, 1) := by decide +kernel
theorem dX12_late_23 : decode cX12_late 23 = .ok (.iload_n 2, 1) := by decide +kernel
theorem dX12_late_24 : decode cX12_late 24 = .ok (.invokevirtual 399, 3) := by decide +kernel
theorem dX12_late_27 : decode cX12_late 27 = .ok (.aload_n 0, 1) := by decide +kernel
theorem dX12_late_28 : decode cX12_late 28 = .ok (.iload_n 2, 1) := by decide +kernel
theorem dX12_late_29 : decode cX12_late 29 = .ok (.invokevirtual 287, 3) := by decide +kernel
theorem dX12_late_32 : decode cX12_late 32 = .ok (.ifCond .eq 7, 3) := by decide +kernel
theorem dX12_late_35 : decode cX12_late 35 = .ok (.iconst 0, 1) := by decide +kernel
theorem dX12_late_36 : decode cX12_late 36 = .ok (.goto 5, 3) := by decide +kernel
theorem dX12_late_39 : decode cX12_late 39 = .ok (.bipush 6, 2) := by decide +kernel
theorem dX12_late_41 : decode cX12_late 41 = .ok (.istore_n 3, 1) := by decide +kernel
theorem dX12_late_42 : decode cX12_late 42 = .ok (.iconst 0, 1) := by decide +kernel
theorem dX12_late_43 : decode cX12_late 43 = .ok (.istore 4, 2) := by decide +kernel
theorem dX12_late_45 : decode cX12_late 45 = .ok (.iconst 0, 1) := by decide +kernel
theorem dX12_late_46 : decode cX12_late 46 = .ok (.istore 5, 2) := by decide +kernel
theorem dX12_late_48 : decode cX12_late 48 = .ok (.iload 5, 2) := by decide +kernel
theorem dX12_late_50 : decode cX12_late 50 = .ok (.bipush 6, 2) := by decide +kernel
theorem dX12_late_52 : decode cX12_late 52 = .ok (.if_icmp .ge 44, 3) := by decide +kernel
theorem dX12_late_55 : decode cX12_late 55 = .ok (.iload 4, 2) := by decide +kernel
theorem dX12_late_57 : decode cX12_late 57 = .ok (.aload_n 0, 1) := by decide +kernel
theorem dX12_late_58 : decode cX12_late 58 = .ok (.getfield 7, 3) := by decide +kernel
theorem dX12_late_61 : decode cX12_late 61 = .ok (.sipush 29120, 3) := by decide +kernel
theorem dX12_late_64 : decode cX12_late 64 = .ok (.iload_n 3, 1) := by decide +kernel
theorem dX12_late_65 : decode cX12_late 65 = .ok (.iadd, 1) := by decide +kernel
theorem dX12_late_66 : decode cX12_late 66 = .ok (.iload 5, 2) := by decide +kernel
theorem dX12_late_68 : decode cX12_late 68 = .ok (.iadd, 1) := by decide +kernel
theorem dX12_late_69 : decode cX12_late 69 = .ok (.iaload, 1) := by decide +kernel
theorem dX12_late_70 : decode cX12_late 70 = .ok (.aload_n 0, 1) := by decide +kernel
theorem dX12_late_71 : decode cX12_late 71 = .ok (.getfield 7, 3) := by decide +kernel
theorem dX12_late_74 : decode cX12_late 74 = .ok (.aload_n 0, 1) := by decide +kernel
theorem dX12_late_75 : decode cX12_late 75 = .ok (.iload_n 1, 1) := by decide +kernel
theorem dX12_late_76 : decode cX12_late 76 = .ok (.iload_n 2, 1) := by decide +kernel
theorem dX12_late_77 : decode cX12_late 77 = .ok (.invokevirtual 303, 3) := by decide +kernel
theorem dX12_late_80 : decode cX12_late 80 = .ok (.iload_n 3, 1) := by decide +kernel
theorem dX12_late_81 : decode cX12_late 81 = .ok (.iadd, 1) := by decide +kernel
theorem dX12_late_82 : decode cX12_late 82 = .ok (.iload 5, 2) := by decide +kernel
theorem dX12_late_84 : decode cX12_late 84 = .ok (.iadd, 1) := by decide +kernel
theorem dX12_late_85 : decode cX12_late 85 = .ok (.iaload, 1) := by decide +kernel
theorem dX12_late_86 : decode cX12_late 86 = .ok (.isub, 1) := by decide +kernel
theorem dX12_late_87 : decode cX12_late 87 = .ok (.iadd, 1) := by decide +kernel
theorem dX12_late_88 : decode cX12_late 88 = .ok (.istore 4, 2) := by decide +kernel
theorem dX12_late_90 : decode cX12_late 90 = .ok (.iinc 5 1, 3) := by decide +kernel
theorem dX12_late_93 : decode cX12_late 93 = .ok (.goto (-45), 3) := by decide +kernel
theorem dX12_late_96 : decode cX12_late 96 = .ok (.aload_n 0, 1) := by decide +kernel
theorem dX12_late_97 : decode cX12_late 97 = .ok (.iload 4, 2) := by decide +kernel
theorem dX12_late_99 : decode cX12_late 99 = .ok (.invokevirtual 193, 3) := by decide +kernel
theorem dX12_late_102 : decode cX12_late 102 = .ok (.ireturn, 1) := by decide +kernel
theorem dX12_load_0 : decode cX12_load 0 = .ok (.aload_n 0, 1) := by decide +kernel
theorem dX12_load_1 : decode cX12_load 1 = .ok (.iload_n 1, 1) := by decide +kernel
theorem dX12_load_2 : decode cX12_load 2 = .ok (.invokevirtual 281, 3) := by decide +kernel
theorem dX12_load_5 : decode cX12_load 5 = .ok (.ifCond .ne 9, 3) := by decide +kernel
theorem dX12_load_8 : decode cX12_load 8 = .ok (.aload_n 0, 1) := by decide +kernel
theorem dX12_load_9 : decode cX12_load 9 = .ok (.iconst 1, 1) := by decide +kernel
theorem dX12_load_10 : decode cX12_load 10 = .ok (.invokevirtual 190, 3) := by decide +kernel
theorem dX12_load_13 : decode cX12_load 13 = .ok (.ireturn, 1) := by decide +kernel
theorem dX12_load_14 : decode cX12_load 14 = .ok (.iconst 0, 1) := by decide +kernel
theorem dX12_load_15 : decode cX12_load 15 = .ok (.istore_n 2, 1) := by decide +kernel
theorem dX12_load_16 : decode cX12_load 16 = .ok (.iconst 0, 1) := by decide +kernel
theorem dX12_load_17 : decode cX12_load 17 = .ok (.istore_n 3, 1) := by decide +kernel
theorem dX12_load_18 : decode cX12_load 18 = .ok (.iload_n 3, 1) := by decide +kernel
theorem dX12_load_19 : decode cX12_load 19 = .ok (.aload_n 0, 1) := by decide +kernel
theorem dX12_load_20 : decode cX12_load 20 = .ok (.getfield 7, 3) := by decide +kernel
theorem dX12_load_23 : decode cX12_load 23 = .ok (.iconst 4, 1) := by decide +kernel
theorem dX12_load_24 : decode cX12_load 24 = .ok (.iaload, 1) := by decide +kernel
theorem dX12_load_25 : decode cX12_load 25 = .ok (.if_icmp .ge 26, 3) := by decide +kernel
theorem dX12_load_28 : decode cX12_load 28 = .ok (.iload_n 2, 1) := by decide +kernel
theorem dX12_load_29 : decode cX12_load 29 = .ok (.aload_n 0, 1) := by decide +kernel
theorem dX12_load_30 : decode cX12_load 30 = .ok (.iload_n 1, 1) := by decide +kernel
theorem dX12_load_31 : decode cX12_load 31 = .ok (.iload_n 3, 1) := by decide +kernel
theorem dX12_load_32 : decode cX12_load 32 = .ok (.invokevirtual 317, 3) := by decide +kernel
theorem dX12_load_35 : decode cX12_load 35 = .ok (.ifCond .eq 7, 3) := by decide +kernel
theorem dX12_load_38 : decode cX12_load 38 = .ok (.iconst 1, 1) := by decide +kernel
theorem dX12_load_39 : decode cX12_load 39 = .ok (.goto 4, 3) := by decide +kernel
theorem dX12_load_42 : decode cX12_load 42 = .ok (.iconst 0, 1) := by decide +kernel
theorem dX12_load_43 : decode cX12_load 43 = .ok (.iadd, 1) := by decide +kernel
theorem dX12_load_44 : decode cX12_load 44 = .ok (.istore_n 2, 1) := by decide +kernel
theorem dX12_load_45 : decode cX12_load 45 = .ok (.iinc 3 1, 3) := by decide +kernel
theorem dX12_load_48 : decode cX12_load 48 = .ok (.goto (-30), 3) := by decide +kernel
theorem dX12_load_51 : decode cX12_load 51 = .ok (.aload_n 0, 1) := by decide +kernel
theorem dX12_load_52 : decode cX12_load 52 = .ok (.iload_n 2, 1) := by decide +kernel
theorem dX12_load_53 : decode cX12_load 53 = .ok (.invokevirtual 193, 3) := by decide +kernel
theorem dX12_load_56 : decode cX12_load 56 = .ok (.ireturn, 1) := by decide +kernel
theorem dX12_moved_0 : decode cX12_moved 0 = .ok (.aload_n 0, 1) := by decide +kernel
theorem dX12_moved_1 : decode cX12_moved 1 = .ok (.iload_n 1, 1) := by decide +kernel
theorem dX12_moved_2 : decode cX12_moved 2 = .ok (.invokevirtual 402, 3) := by decide +kernel
theorem dX12_moved_5 : decode cX12_moved 5 = .ok (.ireturn, 1) := by decide +kernel
theorem dX12_movedBy_0 : decode cX12_movedBy 0 = .ok (.iload_n 1, 1) := by decide +kernel
theorem dX12_movedBy_1 : decode cX12_movedBy 1 = .ok (.i2l, 1) := by decide +kernel
theorem dX12_movedBy_2 : decode cX12_movedBy 2 = .ok (.lconst 0, 1) := by decide +kernel
theorem dX12_movedBy_3 : decode cX12_movedBy 3 = .ok (.ldc2_w 345, 3) := by decide +kernel
theorem dX12_movedBy_6 : decode cX12_movedBy 6 = .ok (.invokestatic 328, 3) := by decide +kernel
theorem dX12_movedBy_9 : decode cX12_movedBy 9 = .ok (.ifCond .ne 9, 3) := by decide +kernel
theorem dX12_movedBy_12 : decode cX12_movedBy 12 = .ok (.aload_n 0, 1) := by decide +kernel
theorem dX12_movedBy_13 : decode cX12_movedBy 13 = .ok (.iconst 1, 1) := by decide +kernel
theorem dX12_movedBy_14 : decode cX12_movedBy 14 = .ok (.invokevirtual 190, 3) := by decide +kernel
theorem dX12_movedBy_17 : decode cX12_movedBy 17 = .ok (.ireturn, 1) := by decide +kernel
theorem dX12_movedBy_18 : decode cX12_movedBy 18 = .ok (.aload_n 0, 1) := by decide +kernel
theorem dX12_movedBy_19 : decode cX12_movedBy 19 = .ok (.getfield 7, 3) := by decide +kernel
theorem dX12_movedBy_22 : decode cX12_movedBy 22 = .ok (.iconst 3, 1) := by decide +kernel
theorem dX12_movedBy_23 : decode cX12_movedBy 23 = .ok (.iaload, 1) := by decide +kernel
theorem dX12_movedBy_24 : decode cX12_movedBy 24 = .ok (.bipush 6, 2) := by decide +kernel
theorem dX12_movedBy_26 : decode cX12_movedBy 26 = .ok (.if_icmp .ne 9, 3) := by decide +kernel
theorem dX12_movedBy_29 : decode cX12_movedBy 29 = .ok (.aload_n 0, 1) := by decide +kernel
theorem dX12_movedBy_30 : decode cX12_movedBy 30 = .ok (.iconst 4, 1) := by decide +kernel
theorem dX12_movedBy_31 : decode cX12_movedBy 31 = .ok (.invokevirtual 190, 3) := by decide +kernel
theorem dX12_movedBy_34 : decode cX12_movedBy 34 = .ok (.ireturn, 1) := by decide +kernel
theorem dX12_movedBy_35 : decode cX12_movedBy 35 = .ok (.iconst 0, 1) := by decide +kernel
theorem dX12_movedBy_36 : decode cX12_movedBy 36 = .ok (.istore_n 2, 1) := by decide +kernel
theorem dX12_movedBy_37 : decode cX12_movedBy 37 = .ok (.iload_n 2, 1) := by decide +kernel
theorem dX12_movedBy_38 : decode cX12_movedBy 38 = .ok (.aload_n 0, 1) := by decide +kernel
theorem dX12_movedBy_39 : decode cX12_movedBy 39 = .ok (.getfield 7, 3) := by decide +kernel
theorem dX12_movedBy_42 : decode cX12_movedBy 42 = .ok (.iconst 3, 1) := by decide +kernel
theorem dX12_movedBy_43 : decode cX12_movedBy 43 = .ok (.iaload, 1) := by decide +kernel
theorem dX12_movedBy_44 : decode cX12_movedBy 44 = .ok (.if_icmp .ge 29, 3) := by decide +kernel
theorem dX12_movedBy_47 : decode cX12_movedBy 47 = .ok (.aload_n 0, 1) := by decide +kernel
theorem dX12_movedBy_48 : decode cX12_movedBy 48 = .ok (.getfield 7, 3) := by decide +kernel
theorem dX12_movedBy_51 : decode cX12_movedBy 51 = .ok (.bipush 10, 2) := by decide +kernel
theorem dX12_movedBy_53 : decode cX12_movedBy 53 = .ok (.iload_n 2, 1) := by decide +kernel
theorem dX12_movedBy_54 : decode cX12_movedBy 54 = .ok (.iadd, 1) := by decide +kernel
theorem dX12_movedBy_55 : decode cX12_movedBy 55 = .ok (.iaload, 1) := by decide +kernel
theorem dX12_movedBy_56 : decode cX12_movedBy 56 = .ok (.iload_n 1, 1) := by decide +kernel
theorem dX12_movedBy_57 : decode cX12_movedBy 57 = .ok (.if_icmp .ne 10, 3) := by decide +kernel
theorem dX12_movedBy_60 : decode cX12_movedBy 60 = .ok (.aload_n 0, 1) := by decide +kernel
theorem dX12_movedBy_61 : decode cX12_movedBy 61 = .ok (.bipush 7, 2) := by decide +kernel
theorem dX12_movedBy_63 : decode cX12_movedBy 63 = .ok (.invokevirtual 190, 3) := by decide +kernel
theorem dX12_movedBy_66 : decode cX12_movedBy 66 = .ok (.ireturn, 1) := by decide +kernel
theorem dX12_movedBy_67 : decode cX12_movedBy 67 = .ok (.iinc 2 1, 3) := by decide +kernel
theorem dX12_movedBy_70 : decode cX12_movedBy 70 = .ok (.goto (-33), 3) := by decide +kernel
theorem dX12_movedBy_73 : decode cX12_movedBy 73 = .ok (.iconst 0, 1) := by decide +kernel
theorem dX12_movedBy_74 : decode cX12_movedBy 74 = .ok (.istore_n 2, 1) := by decide +kernel
theorem dX12_movedBy_75 : decode cX12_movedBy 75 = .ok (.iconst 0, 1) := by decide +kernel
theorem dX12_movedBy_76 : decode cX12_movedBy 76 = .ok (.istore_n 3, 1) := by decide +kernel
theorem dX12_movedBy_77 : decode cX12_movedBy 77 = .ok (.iload_n 3, 1) := by decide +kernel
theorem dX12_movedBy_78 : decode cX12_movedBy 78 = .ok (.aload_n 0, 1) := by decide +kernel
theorem dX12_movedBy_79 : decode cX12_movedBy 79 = .ok (.getfield 7, 3) := by decide +kernel
theorem dX12_movedBy_82 : decode cX12_movedBy 82 = .ok (.iconst 4, 1) := by decide +kernel
theorem dX12_movedBy_83 : decode cX12_movedBy 83 = .ok (.iaload, 1) := by decide +kernel
theorem dX12_movedBy_84 : decode cX12_movedBy 84 = .ok (.if_icmp .ge 115, 3) := by decide +kernel
theorem dX12_movedBy_87 : decode cX12_movedBy 87 = .ok (.iload_n 1, 1) := by decide +kernel
theorem dX12_movedBy_88 : decode cX12_movedBy 88 = .ok (.aload_n 0, 1) := by decide +kernel
theorem dX12_movedBy_89 : decode cX12_movedBy 89 = .ok (.getfield 7, 3) := by decide +kernel
theorem dX12_movedBy_92 : decode cX12_movedBy 92 = .ok (.bipush 16, 2) := by decide +kernel
theorem dX12_movedBy_94 : decode cX12_movedBy 94 = .ok (.iload_n 3, 1) := by decide +kernel
theorem dX12_movedBy_95 : decode cX12_movedBy 95 = .ok (.iadd, 1) := by decide +kernel
theorem dX12_movedBy_96 : decode cX12_movedBy 96 = .ok (.iaload, 1) := by decide +kernel
theorem dX12_movedBy_97 : decode cX12_movedBy 97 = .ok (.isub, 1) := by decide +kernel
theorem dX12_movedBy_98 : decode cX12_movedBy 98 = .ok (.sipush 1000, 3) := by decide +kernel
theorem dX12_movedBy_101 : decode cX12_movedBy 101 = .ok (.iadd, 1) := by decide +kernel
theorem dX12_movedBy_102 : decode cX12_movedBy 102 = .ok (.sipush 1000, 3) := by decide +kernel
theorem dX12_movedBy_105 : decode cX12_movedBy 105 = .ok (.irem, 1) := by decide +kernel
theorem dX12_movedBy_106 : decode cX12_movedBy 106 = .ok (.istore 4, 2) := by decide +kernel
theorem dX12_movedBy_108 : decode cX12_movedBy 108 = .ok (.iconst 0, 1) := by decide +kernel
theorem dX12_movedBy_109 : decode cX12_movedBy 109 = .ok (.istore 5, 2) := by decide +kernel
theorem dX12_movedBy_111 : decode cX12_movedBy 111 = .ok (.iconst 0, 1) := by decide +kernel
theorem dX12_movedBy_112 : decode cX12_movedBy 112 = .ok (.istore 6, 2) := by decide +kernel
theorem dX12_movedBy_114 : decode cX12_movedBy 114 = .ok (.iload 6, 2) := by decide +kernel
theorem dX12_movedBy_116 : decode cX12_movedBy 116 = .ok (.aload_n 0, 1) := by decide +kernel
theorem dX12_movedBy_117 : decode cX12_movedBy 117 = .ok (.getfield 7, 3) := by decide +kernel
theorem dX12_movedBy_120 : decode cX12_movedBy 120 = .ok (.iconst 3, 1) := by decide +kernel
theorem dX12_movedBy_121 : decode cX12_movedBy 121 = .ok (.iaload, 1) := by decide +kernel
theorem dX12_movedBy_122 : decode cX12_movedBy 122 = .ok (.if_icmp .ge 52, 3) := by decide +kernel
theorem dX12_movedBy_125 : decode cX12_movedBy 125 = .ok (.iload 5, 2) := by decide +kernel
theorem dX12_movedBy_127 : decode cX12_movedBy 127 = .ok (.aload_n 0, 1) := by decide +kernel
theorem dX12_movedBy_128 : decode cX12_movedBy 128 = .ok (.getfield 7, 3) := by decide +kernel
theorem dX12_movedBy_131 : decode cX12_movedBy 131 = .ok (.bipush 10, 2) := by decide +kernel
theorem dX12_movedBy_133 : decode cX12_movedBy 133 = .ok (.iload 6, 2) := by decide +kernel
theorem dX12_movedBy_135 : decode cX12_movedBy 135 = .ok (.iadd, 1) := by decide +kernel
theorem dX12_movedBy_136 : decode cX12_movedBy 136 = .ok (.iaload, 1) := by decide +kernel
theorem dX12_movedBy_137 : decode cX12_movedBy 137 = .ok (.aload_n 0, 1) := by decide +kernel
theorem dX12_movedBy_138 : decode cX12_movedBy 138 = .ok (.getfield 7, 3) := by decide +kernel
theorem dX12_movedBy_141 : decode cX12_movedBy 141 = .ok (.bipush 16, 2) := by decide +kernel
theorem dX12_movedBy_143 : decode cX12_movedBy 143 = .ok (.iload_n 3, 1) := by decide +kernel
theorem dX12_movedBy_144 : decode cX12_movedBy 144 = .ok (.iadd, 1) := by decide +kernel
theorem dX12_movedBy_145 : decode cX12_movedBy 145 = .ok (.iaload, 1) := by decide +kernel
theorem dX12_movedBy_146 : decode cX12_movedBy 146 = .ok (.isub, 1) := by decide +kernel
theorem dX12_movedBy_147 : decode cX12_movedBy 147 = .ok (.sipush 1000, 3) := by decide +kernel
theorem dX12_movedBy_150 : decode cX12_movedBy 150 = .ok (.iadd, 1) := by decide +kernel
theorem dX12_movedBy_151 : decode cX12_movedBy 151 = .ok (.sipush 1000, 3) := by decide +kernel
theorem dX12_movedBy_154 : decode cX12_movedBy 154 = .ok (.irem, 1) := by decide +kernel
theorem dX12_movedBy_155 : decode cX12_movedBy 155 = .ok (.iload 4, 2) := by decide +kernel
theorem dX12_movedBy_157 : decode cX12_movedBy 157 = .ok (.if_icmp .ge 7, 3) := by decide +kernel
theorem dX12_movedBy_160 : decode cX12_movedBy 160 = .ok (.iconst 1, 1) := by decide +kernel
theorem dX12_movedBy_161 : decode cX12_movedBy 161 = .ok (.goto 4, 3) := by decide +kernel
theorem dX12_movedBy_164 : decode cX12_movedBy 164 = .ok (.iconst 0, 1) := by decide +kernel
theorem dX12_movedBy_165 : decode cX12_movedBy 165 = .ok (.iadd, 1) := by decide +kernel
theorem dX12_movedBy_166 : decode cX12_movedBy 166 = .ok (.istore 5, 2) := by decide +kernel
theorem dX12_movedBy_168 : decode cX12_movedBy 168 = .ok (.iinc 6 1, 3) := by decide +kernel
theorem dX12_movedBy_171 : decode cX12_movedBy 171 = .ok (.goto (-57), 3) := by decide +kernel
theorem dX12_movedBy_174 : decode cX12_movedBy 174 = .ok (.iload_n 2, 1) := by decide +kernel
theorem dX12_movedBy_175 : decode cX12_movedBy 175 = .ok (.iload 5, 2) := by decide +kernel
theorem dX12_movedBy_177 : decode cX12_movedBy 177 = .ok (.aload_n 0, 1) := by decide +kernel
theorem dX12_movedBy_178 : decode cX12_movedBy 178 = .ok (.getfield 7, 3) := by decide +kernel
theorem dX12_movedBy_181 : decode cX12_movedBy 181 = .ok (.iconst 0, 1) := by decide +kernel
theorem dX12_movedBy_182 : decode cX12_movedBy 182 = .ok (.iaload, 1) := by decide +kernel
theorem dX12_movedBy_183 : decode cX12_movedBy 183 = .ok (.if_icmp .ge 7, 3) := by decide +kernel
theorem dX12_movedBy_186 : decode cX12_movedBy 186 = .ok (.iconst 1, 1) := by decide +kernel
theorem dX12_movedBy_187 : decode cX12_movedBy 187 = .ok (.goto 4, 3) := by decide +kernel
theorem dX12_movedBy_190 : decode cX12_movedBy 190 = .ok (.iconst 0, 1) := by decide +kernel
theorem dX12_movedBy_191 : decode cX12_movedBy 191 = .ok (.iadd, 1) := by decide +kernel
theorem dX12_movedBy_192 : decode cX12_movedBy 192 = .ok (.istore_n 2, 1) := by decide +kernel
theorem dX12_movedBy_193 : decode cX12_movedBy 193 = .ok (.iinc 3 1, 3) := by decide +kernel
theorem dX12_movedBy_196 : decode cX12_movedBy 196 = .ok (.goto (-119), 3) := by decide +kernel
theorem dX12_movedBy_199 : decode cX12_movedBy 199 = .ok (.aload_n 0, 1) := by decide +kernel
theorem dX12_movedBy_200 : decode cX12_movedBy 200 = .ok (.iload_n 2, 1) := by decide +kernel
theorem dX12_movedBy_201 : decode cX12_movedBy 201 = .ok (.invokevirtual 193, 3) := by decide +kernel
theorem dX12_movedBy_204 : decode cX12_movedBy 204 = .ok (.ireturn, 1) := by decide +kernel
theorem dX12_isAlikeOn_0 : decode cX12_isAlikeOn 0 = .ok (.aload_n 0, 1) := by decide +kernel
theorem dX12_isAlikeOn_1 : decode cX12_isAlikeOn 1 = .ok (.iload_n 2, 1) := by decide +kernel
theorem dX12_isAlikeOn_2 : decode cX12_isAlikeOn 2 = .ok (.invokevirtual 275, 3) := by decide +kernel
theorem dX12_isAlikeOn_5 : decode cX12_isAlikeOn 5 = .ok (.istore_n 3, 1) := by decide +kernel
theorem dX12_isAlikeOn_6 : decode cX12_isAlikeOn 6 = .ok (.iconst (-1), 1) := by decide +kernel
theorem dX12_isAlikeOn_7 : decode cX12_isAlikeOn 7 = .ok (.istore 4, 2) := by decide +kernel
theorem dX12_isAlikeOn_9 : decode cX12_isAlikeOn 9 = .ok (.iconst 1, 1) := by decide +kernel
theorem dX12_isAlikeOn_10 : decode cX12_isAlikeOn 10 = .ok (.istore 5, 2) := by decide +kernel
theorem dX12_isAlikeOn_12 : decode cX12_isAlikeOn 12 = .ok (.iconst 0, 1) := by decide +kernel
theorem dX12_isAlikeOn_13 : decode cX12_isAlikeOn 13 = .ok (.istore 6, 2) := by decide +kernel
theorem dX12_isAlikeOn_15 : decode cX12_isAlikeOn 15 = .ok (.iload 6, 2) := by decide +kernel
theorem dX12_isAlikeOn_17 : decode cX12_isAlikeOn 17 = .ok (.aload_n 0, 1) := by decide +kernel
theorem dX12_isAlikeOn_18 : decode cX12_isAlikeOn 18 = .ok (.getfield 7, 3) := by decide +kernel
theorem dX12_isAlikeOn_21 : decode cX12_isAlikeOn 21 = .ok (.iconst 3, 1) := by decide +kernel
theorem dX12_isAlikeOn_22 : decode cX12_isAlikeOn 22 = .ok (.iaload, 1) := by decide +kernel
theorem dX12_isAlikeOn_23 : decode cX12_isAlikeOn 23 = .ok (.if_icmp .ge 78, 3) := by decide +kernel
theorem dX12_isAlikeOn_26 : decode cX12_isAlikeOn 26 = .ok (.iload_n 3, 1) := by decide +kernel
theorem dX12_isAlikeOn_27 : decode cX12_isAlikeOn 27 = .ok (.iload 6, 2) := by decide +kernel
theorem dX12_isAlikeOn_29 : decode cX12_isAlikeOn 29 = .ok (.ishr, 1) := by decide +kernel
theorem dX12_isAlikeOn_30 : decode cX12_isAlikeOn 30 = .ok (.iconst 1, 1) := by decide +kernel
theorem dX12_isAlikeOn_31 : decode cX12_isAlikeOn 31 = .ok (.iand, 1) := by decide +kernel
theorem dX12_isAlikeOn_32 : decode cX12_isAlikeOn 32 = .ok (.ifCond .ne 6, 3) := by decide +kernel
theorem dX12_isAlikeOn_35 : decode cX12_isAlikeOn 35 = .ok (.goto 60, 3) := by decide +kernel
theorem dX12_isAlikeOn_38 : decode cX12_isAlikeOn 38 = .ok (.iload 4, 2) := by decide +kernel
theorem dX12_isAlikeOn_40 : decode cX12_isAlikeOn 40 = .ok (.iconst (-1), 1) := by decide +kernel
theorem dX12_isAlikeOn_41 : decode cX12_isAlikeOn 41 = .ok (.if_icmp .ne 7, 3) := by decide +kernel
theorem dX12_isAlikeOn_44 : decode cX12_isAlikeOn 44 = .ok (.iload 6, 2) := by decide +kernel
theorem dX12_isAlikeOn_46 : decode cX12_isAlikeOn 46 = .ok (.istore 4, 2) := by decide +kernel
theorem dX12_isAlikeOn_48 : decode cX12_isAlikeOn 48 = .ok (.iload 5, 2) := by decide +kernel
theorem dX12_isAlikeOn_50 : decode cX12_isAlikeOn 50 = .ok (.ifCond .eq 42, 3) := by decide +kernel
theorem dX12_isAlikeOn_53 : decode cX12_isAlikeOn 53 = .ok (.aload_n 0, 1) := by decide +kernel
theorem dX12_isAlikeOn_54 : decode cX12_isAlikeOn 54 = .ok (.sipush 29200, 3) := by decide +kernel
theorem dX12_isAlikeOn_57 : decode cX12_isAlikeOn 57 = .ok (.bipush 72, 2) := by decide +kernel
theorem dX12_isAlikeOn_59 : decode cX12_isAlikeOn 59 = .ok (.iload_n 1, 1) := by decide +kernel
theorem dX12_isAlikeOn_60 : decode cX12_isAlikeOn 60 = .ok (.imul, 1) := by decide +kernel
theorem dX12_isAlikeOn_61 : decode cX12_isAlikeOn 61 = .ok (.iadd, 1) := by decide +kernel
theorem dX12_isAlikeOn_62 : decode cX12_isAlikeOn 62 = .ok (.bipush 12, 2) := by decide +kernel
theorem dX12_isAlikeOn_64 : decode cX12_isAlikeOn 64 = .ok (.iload 4, 2) := by decide +kernel
theorem dX12_isAlikeOn_66 : decode cX12_isAlikeOn 66 = .ok (.imul, 1) := by decide +kernel
theorem dX12_isAlikeOn_67 : decode cX12_isAlikeOn 67 = .ok (.iadd, 1) := by decide +kernel
theorem dX12_isAlikeOn_68 : decode cX12_isAlikeOn 68 = .ok (.sipush 29200, 3) := by decide +kernel
theorem dX12_isAlikeOn_71 : decode cX12_isAlikeOn 71 = .ok (.bipush 72, 2) := by decide +kernel
theorem dX12_isAlikeOn_73 : decode cX12_isAlikeOn 73 = .ok (.iload_n 1, 1) := by decide +kernel
theorem dX12_isAlikeOn_74 : decode cX12_isAlikeOn 74 = .ok (.imul, 1) := by decide +kernel
theorem dX12_isAlikeOn_75 : decode cX12_isAlikeOn 75 = .ok (.iadd, 1) := by decide +kernel
theorem dX12_isAlikeOn_76 : decode cX12_isAlikeOn 76 = .ok (.bipush 12, 2) := by decide +kernel
theorem dX12_isAlikeOn_78 : decode cX12_isAlikeOn 78 = .ok (.iload 6, 2) := by decide +kernel
theorem dX12_isAlikeOn_80 : decode cX12_isAlikeOn 80 = .ok (.imul, 1) := by decide +kernel
theorem dX12_isAlikeOn_81 : decode cX12_isAlikeOn 81 = .ok (.iadd, 1) := by decide +kernel
theorem dX12_isAlikeOn_82 : decode cX12_isAlikeOn 82 = .ok (.invokevirtual 377, 3) := by decide +kernel
theorem dX12_isAlikeOn_85 : decode cX12_isAlikeOn 85 = .ok (.ifCond .eq 7, 3) := by decide +kernel
theorem dX12_isAlikeOn_88 : decode cX12_isAlikeOn 88 = .ok (.iconst 1, 1) := by decide +kernel
theorem dX12_isAlikeOn_89 : decode cX12_isAlikeOn 89 = .ok (.goto 4, 3) := by decide +kernel
theorem dX12_isAlikeOn_92 : decode cX12_isAlikeOn 92 = .ok (.iconst 0, 1) := by decide +kernel
theorem dX12_isAlikeOn_93 : decode cX12_isAlikeOn 93 = .ok (.istore 5, 2) := by decide +kernel
theorem dX12_isAlikeOn_95 : decode cX12_isAlikeOn 95 = .ok (.iinc 6 1, 3) := by decide +kernel
theorem dX12_isAlikeOn_98 : decode cX12_isAlikeOn 98 = .ok (.goto (-83), 3) := by decide +kernel
theorem dX12_isAlikeOn_101 : decode cX12_isAlikeOn 101 = .ok (.iload 5, 2) := by decide +kernel
theorem dX12_isAlikeOn_103 : decode cX12_isAlikeOn 103 = .ok (.ireturn, 1) := by decide +kernel
theorem dX12_doNights_0 : decode cX12_doNights 0 = .ok (.iconst 0, 1) := by decide +kernel
theorem dX12_doNights_1 : decode cX12_doNights 1 = .ok (.istore_n 3, 1) := by decide +kernel
theorem dX12_doNights_2 : decode cX12_doNights 2 = .ok (.aload_n 0, 1) := by decide +kernel
theorem dX12_doNights_3 : decode cX12_doNights 3 = .ok (.getfield 74, 3) := by decide +kernel
theorem dX12_doNights_6 : decode cX12_doNights 6 = .ok (.iconst 0, 1) := by decide +kernel
theorem dX12_doNights_7 : decode cX12_doNights 7 = .ok (.iconst (-1), 1) := by decide +kernel
theorem dX12_doNights_8 : decode cX12_doNights 8 = .ok (.iastore, 1) := by decide +kernel
theorem dX12_doNights_9 : decode cX12_doNights 9 = .ok (.iload_n 2, 1) := by decide +kernel
theorem dX12_doNights_10 : decode cX12_doNights 10 = .ok (.ifCond .ne 10, 3) := by decide +kernel
theorem dX12_doNights_13 : decode cX12_doNights 13 = .ok (.aload_n 0, 1) := by decide +kernel
theorem dX12_doNights_14 : decode cX12_doNights 14 = .ok (.iconst 0, 1) := by decide +kernel
theorem dX12_doNights_15 : decode cX12_doNights 15 = .ok (.iload_n 1, 1) := by decide +kernel
theorem dX12_doNights_16 : decode cX12_doNights 16 = .ok (.invokevirtual 405, 3) := by decide +kernel
theorem dX12_doNights_19 : decode cX12_doNights 19 = .ok (.ireturn, 1) := by decide +kernel
theorem dX12_doNights_20 : decode cX12_doNights 20 = .ok (.iload_n 3, 1) := by decide +kernel
theorem dX12_doNights_21 : decode cX12_doNights 21 = .ok (.ifCond .lt 173, 3) := by decide +kernel
theorem dX12_doNights_24 : decode cX12_doNights 24 = .ok (.aload_n 0, 1) := by decide +kernel
theorem dX12_doNights_25 : decode cX12_doNights 25 = .ok (.getfield 74, 3) := by decide +kernel
theorem dX12_doNights_28 : decode cX12_doNights 28 = .ok (.iload_n 3, 1) := by decide +kernel
theorem dX12_doNights_29 : decode cX12_doNights 29 = .ok (.dup2, 1) := by decide +kernel
theorem dX12_doNights_30 : decode cX12_doNights 30 = .ok (.iaload, 1) := by decide +kernel
theorem dX12_doNights_31 : decode cX12_doNights 31 = .ok (.iconst 1, 1) := by decide +kernel
theorem dX12_doNights_32 : decode cX12_doNights 32 = .ok (.iadd, 1) := by decide +kernel
theorem dX12_doNights_33 : decode cX12_doNights 33 = .ok (.iastore, 1) := by decide +kernel
theorem dX12_doNights_34 : decode cX12_doNights 34 = .ok (.aload_n 0, 1) := by decide +kernel
theorem dX12_doNights_35 : decode cX12_doNights 35 = .ok (.getfield 74, 3) := by decide +kernel
theorem dX12_doNights_38 : decode cX12_doNights 38 = .ok (.iload_n 3, 1) := by decide +kernel
theorem dX12_doNights_39 : decode cX12_doNights 39 = .ok (.iaload, 1) := by decide +kernel
theorem dX12_doNights_40 : decode cX12_doNights 40 = .ok (.aload_n 0, 1) := by decide +kernel
theorem dX12_doNights_41 : decode cX12_doNights 41 = .ok (.getfield 408, 3) := by decide +kernel
theorem dX12_doNights_44 : decode cX12_doNights 44 = .ok (.if_icmp .ne 9, 3) := by decide +kernel
theorem dX12_doNights_47 : decode cX12_doNights 47 = .ok (.iinc 3 (-1), 3) := by decide +kernel
theorem dX12_doNights_50 : decode cX12_doNights 50 = .ok (.goto (-30), 3) := by decide +kernel
theorem dX12_doNights_53 : decode cX12_doNights 53 = .ok (.sipush 29200, 3) := by decide +kernel
theorem dX12_doNights_56 : decode cX12_doNights 56 = .ok (.bipush 72, 2) := by decide +kernel
theorem dX12_doNights_58 : decode cX12_doNights 58 = .ok (.iload_n 3, 1) := by decide +kernel
theorem dX12_doNights_59 : decode cX12_doNights 59 = .ok (.imul, 1) := by decide +kernel
theorem dX12_doNights_60 : decode cX12_doNights 60 = .ok (.iadd, 1) := by decide +kernel
theorem dX12_doNights_61 : decode cX12_doNights 61 = .ok (.istore 4, 2) := by decide +kernel
theorem dX12_doNights_63 : decode cX12_doNights 63 = .ok (.iconst 0, 1) := by decide +kernel
theorem dX12_doNights_64 : decode cX12_doNights 64 = .ok (.istore 5, 2) := by decide +kernel
theorem dX12_doNights_66 : decode cX12_doNights 66 = .ok (.iload 5, 2) := by decide +kernel
theorem dX12_doNights_68 : decode cX12_doNights 68 = .ok (.bipush 72, 2) := by decide +kernel
theorem dX12_doNights_70 : decode cX12_doNights 70 = .ok (.if_icmp .ge 32, 3) := by decide +kernel
theorem dX12_doNights_73 : decode cX12_doNights 73 = .ok (.aload_n 0, 1) := by decide +kernel
theorem dX12_doNights_74 : decode cX12_doNights 74 = .ok (.getfield 7, 3) := by decide +kernel
theorem dX12_doNights_77 : decode cX12_doNights 77 = .ok (.iload 4, 2) := by decide +kernel
theorem dX12_doNights_79 : decode cX12_doNights 79 = .ok (.bipush 72, 2) := by decide +kernel
theorem dX12_doNights_81 : decode cX12_doNights 81 = .ok (.iadd, 1) := by decide +kernel
theorem dX12_doNights_82 : decode cX12_doNights 82 = .ok (.iload 5, 2) := by decide +kernel
theorem dX12_doNights_84 : decode cX12_doNights 84 = .ok (.iadd, 1) := by decide +kernel
theorem dX12_doNights_85 : decode cX12_doNights 85 = .ok (.aload_n 0, 1) := by decide +kernel
theorem dX12_doNights_86 : decode cX12_doNights 86 = .ok (.getfield 7, 3) := by decide +kernel
theorem dX12_doNights_89 : decode cX12_doNights 89 = .ok (.iload 4, 2) := by decide +kernel
theorem dX12_doNights_91 : decode cX12_doNights 91 = .ok (.iload 5, 2) := by decide +kernel
theorem dX12_doNights_93 : decode cX12_doNights 93 = .ok (.iadd, 1) := by decide +kernel
theorem dX12_doNights_94 : decode cX12_doNights 94 = .ok (.iaload, 1) := by decide +kernel
theorem dX12_doNights_95 : decode cX12_doNights 95 = .ok (.iastore, 1) := by decide +kernel
theorem dX12_doNights_96 : decode cX12_doNights 96 = .ok (.iinc 5 1, 3) := by decide +kernel
theorem dX12_doNights_99 : decode cX12_doNights 99 = .ok (.goto (-33), 3) := by decide +kernel
theorem dX12_doNights_102 : decode cX12_doNights 102 = .ok (.iload 4, 2) := by decide +kernel
theorem dX12_doNights_104 : decode cX12_doNights 104 = .ok (.bipush 72, 2) := by decide +kernel
theorem dX12_doNights_106 : decode cX12_doNights 106 = .ok (.iadd, 1) := by decide +kernel
theorem dX12_doNights_107 : decode cX12_doNights 107 = .ok (.bipush 12, 2) := by decide +kernel
theorem dX12_doNights_109 : decode cX12_doNights 109 = .ok (.aload_n 0, 1) := by decide +kernel
theorem dX12_doNights_110 : decode cX12_doNights 110 = .ok (.getfield 68, 3) := by decide +kernel
theorem dX12_doNights_113 : decode cX12_doNights 113 = .ok (.aload_n 0, 1) := by decide +kernel
theorem dX12_doNights_114 : decode cX12_doNights 114 = .ok (.getfield 74, 3) := by decide +kernel
theorem dX12_doNights_117 : decode cX12_doNights 117 = .ok (.iload_n 3, 1) := by decide +kernel
theorem dX12_doNights_118 : decode cX12_doNights 118 = .ok (.iaload, 1) := by decide +kernel
theorem dX12_doNights_119 : decode cX12_doNights 119 = .ok (.iaload, 1) := by decide +kernel
theorem dX12_doNights_120 : decode cX12_doNights 120 = .ok (.imul, 1) := by decide +kernel
theorem dX12_doNights_121 : decode cX12_doNights 121 = .ok (.iadd, 1) := by decide +kernel
theorem dX12_doNights_122 : decode cX12_doNights 122 = .ok (.istore 5, 2) := by decide +kernel
theorem dX12_doNights_124 : decode cX12_doNights 124 = .ok (.iload 4, 2) := by decide +kernel
theorem dX12_doNights_126 : decode cX12_doNights 126 = .ok (.bipush 72, 2) := by decide +kernel
theorem dX12_doNights_128 : decode cX12_doNights 128 = .ok (.iadd, 1) := by decide +kernel
theorem dX12_doNights_129 : decode cX12_doNights 129 = .ok (.bipush 12, 2) := by decide +kernel
theorem dX12_doNights_131 : decode cX12_doNights 131 = .ok (.aload_n 0, 1) := by decide +kernel
theorem dX12_doNights_132 : decode cX12_doNights 132 = .ok (.getfield 71, 3) := by decide +kernel
theorem dX12_doNights_135 : decode cX12_doNights 135 = .ok (.aload_n 0, 1) := by decide +kernel
theorem dX12_doNights_136 : decode cX12_doNights 136 = .ok (.getfield 74, 3) := by decide +kernel
theorem dX12_doNights_139 : decode cX12_doNights 139 = .ok (.iload_n 3, 1) := by decide +kernel
theorem dX12_doNights_140 : decode cX12_doNights 140 = .ok (.iaload, 1) := by decide +kernel
theorem dX12_doNights_141 : decode cX12_doNights 141 = .ok (.iaload, 1) := by decide +kernel
theorem dX12_doNights_142 : decode cX12_doNights 142 = .ok (.imul, 1) := by decide +kernel
theorem dX12_doNights_143 : decode cX12_doNights 143 = .ok (.iadd, 1) := by decide +kernel
theorem dX12_doNights_144 : decode cX12_doNights 144 = .ok (.istore 6, 2) := by decide +kernel
theorem dX12_doNights_146 : decode cX12_doNights 146 = .ok (.aload_n 0, 1) := by decide +kernel
theorem dX12_doNights_147 : decode cX12_doNights 147 = .ok (.iload 5, 2) := by decide +kernel
theorem dX12_doNights_149 : decode cX12_doNights 149 = .ok (.iload 6, 2) := by decide +kernel
theorem dX12_doNights_151 : decode cX12_doNights 151 = .ok (.iload_n 1, 1) := by decide +kernel
theorem dX12_doNights_152 : decode cX12_doNights 152 = .ok (.invokevirtual 306, 3) := by decide +kernel
theorem dX12_doNights_155 : decode cX12_doNights 155 = .ok (.aload_n 0, 1) := by decide +kernel
theorem dX12_doNights_156 : decode cX12_doNights 156 = .ok (.iload 6, 2) := by decide +kernel
theorem dX12_doNights_158 : decode cX12_doNights 158 = .ok (.iload 5, 2) := by decide +kernel
theorem dX12_doNights_160 : decode cX12_doNights 160 = .ok (.invokevirtual 313, 3) := by decide +kernel
theorem dX12_doNights_163 : decode cX12_doNights 163 = .ok (.iload_n 3, 1) := by decide +kernel
theorem dX12_doNights_164 : decode cX12_doNights 164 = .ok (.iconst 1, 1) := by decide +kernel
theorem dX12_doNights_165 : decode cX12_doNights 165 = .ok (.iadd, 1) := by decide +kernel
theorem dX12_doNights_166 : decode cX12_doNights 166 = .ok (.iload_n 2, 1) := by decide +kernel
theorem dX12_doNights_167 : decode cX12_doNights 167 = .ok (.if_icmp .ne 14, 3) := by decide +kernel
theorem dX12_doNights_170 : decode cX12_doNights 170 = .ok (.aload_n 0, 1) := by decide +kernel
theorem dX12_doNights_171 : decode cX12_doNights 171 = .ok (.iload_n 2, 1) := by decide +kernel
theorem dX12_doNights_172 : decode cX12_doNights 172 = .ok (.iload_n 1, 1) := by decide +kernel
theorem dX12_doNights_173 : decode cX12_doNights 173 = .ok (.invokevirtual 405, 3) := by decide +kernel
theorem dX12_doNights_176 : decode cX12_doNights 176 = .ok (.ifCond .eq (-156), 3) := by decide +kernel
theorem dX12_doNights_179 : decode cX12_doNights 179 = .ok (.iconst 1, 1) := by decide +kernel
theorem dX12_doNights_180 : decode cX12_doNights 180 = .ok (.ireturn, 1) := by decide +kernel
theorem dX12_doNights_181 : decode cX12_doNights 181 = .ok (.iinc 3 1, 3) := by decide +kernel
theorem dX12_doNights_184 : decode cX12_doNights 184 = .ok (.aload_n 0, 1) := by decide +kernel
theorem dX12_doNights_185 : decode cX12_doNights 185 = .ok (.getfield 74, 3) := by decide +kernel
theorem dX12_doNights_188 : decode cX12_doNights 188 = .ok (.iload_n 3, 1) := by decide +kernel
theorem dX12_doNights_189 : decode cX12_doNights 189 = .ok (.iconst (-1), 1) := by decide +kernel
theorem dX12_doNights_190 : decode cX12_doNights 190 = .ok (.iastore, 1) := by decide +kernel
theorem dX12_doNights_191 : decode cX12_doNights 191 = .ok (.goto (-171), 3) := by decide +kernel
theorem dX12_doNights_194 : decode cX12_doNights 194 = .ok (.iconst 0, 1) := by decide +kernel
theorem dX12_doNights_195 : decode cX12_doNights 195 = .ok (.ireturn, 1) := by decide +kernel
theorem dX12_nights_0 : decode cX12_nights 0 = .ok (.aload_n 0, 1) := by decide +kernel
theorem dX12_nights_1 : decode cX12_nights 1 = .ok (.iload_n 1, 1) := by decide +kernel
theorem dX12_nights_2 : decode cX12_nights 2 = .ok (.invokevirtual 278, 3) := by decide +kernel
theorem dX12_nights_5 : decode cX12_nights 5 = .ok (.ifCond .ne 9, 3) := by decide +kernel
theorem dX12_nights_8 : decode cX12_nights 8 = .ok (.aload_n 0, 1) := by decide +kernel
theorem dX12_nights_9 : decode cX12_nights 9 = .ok (.iconst 1, 1) := by decide +kernel
theorem dX12_nights_10 : decode cX12_nights 10 = .ok (.invokevirtual 190, 3) := by decide +kernel
theorem dX12_nights_13 : decode cX12_nights 13 = .ok (.ireturn, 1) := by decide +kernel
theorem dX12_nights_14 : decode cX12_nights 14 = .ok (.aload_n 0, 1) := by decide +kernel
theorem dX12_nights_15 : decode cX12_nights 15 = .ok (.iload_n 1, 1) := by decide +kernel
theorem dX12_nights_16 : decode cX12_nights 16 = .ok (.invokevirtual 275, 3) := by decide +kernel
theorem dX12_nights_19 : decode cX12_nights 19 = .ok (.istore_n 2, 1) := by decide +kernel
theorem dX12_nights_20 : decode cX12_nights 20 = .ok (.aload_n 0, 1) := by decide +kernel
theorem dX12_nights_21 : decode cX12_nights 21 = .ok (.iconst 0, 1) := by decide +kernel
theorem dX12_nights_22 : decode cX12_nights 22 = .ok (.putfield 408, 3) := by decide +kernel
theorem dX12_nights_25 : decode cX12_nights 25 = .ok (.iconst 0, 1) := by decide +kernel
theorem dX12_nights_26 : decode cX12_nights 26 = .ok (.istore_n 3, 1) := by decide +kernel
theorem dX12_nights_27 : decode cX12_nights 27 = .ok (.iload_n 3, 1) := by decide +kernel
theorem dX12_nights_28 : decode cX12_nights 28 = .ok (.aload_n 0, 1) := by decide +kernel
theorem dX12_nights_29 : decode cX12_nights 29 = .ok (.getfield 7, 3) := by decide +kernel
theorem dX12_nights_32 : decode cX12_nights 32 = .ok (.iconst 3, 1) := by decide +kernel
theorem dX12_nights_33 : decode cX12_nights 33 = .ok (.iaload, 1) := by decide +kernel
theorem dX12_nights_34 : decode cX12_nights 34 = .ok (.if_icmp .ge 106, 3) := by decide +kernel
theorem dX12_nights_37 : decode cX12_nights 37 = .ok (.aload_n 0, 1) := by decide +kernel
theorem dX12_nights_38 : decode cX12_nights 38 = .ok (.sipush 29200, 3) := by decide +kernel
theorem dX12_nights_41 : decode cX12_nights 41 = .ok (.bipush 12, 2) := by decide +kernel
theorem dX12_nights_43 : decode cX12_nights 43 = .ok (.iload_n 3, 1) := by decide +kernel
theorem dX12_nights_44 : decode cX12_nights 44 = .ok (.imul, 1) := by decide +kernel
theorem dX12_nights_45 : decode cX12_nights 45 = .ok (.iadd, 1) := by decide +kernel
theorem dX12_nights_46 : decode cX12_nights 46 = .ok (.aload_n 0, 1) := by decide +kernel
theorem dX12_nights_47 : decode cX12_nights 47 = .ok (.iload_n 3, 1) := by decide +kernel
theorem dX12_nights_48 : decode cX12_nights 48 = .ok (.iload_n 1, 1) := by decide +kernel
theorem dX12_nights_49 : decode cX12_nights 49 = .ok (.invokevirtual 303, 3) := by decide +kernel
theorem dX12_nights_52 : decode cX12_nights 52 = .ok (.invokevirtual 313, 3) := by decide +kernel
theorem dX12_nights_55 : decode cX12_nights 55 = .ok (.iload_n 3, 1) := by decide +kernel
theorem dX12_nights_56 : decode cX12_nights 56 = .ok (.iconst 1, 1) := by decide +kernel
theorem dX12_nights_57 : decode cX12_nights 57 = .ok (.iadd, 1) := by decide +kernel
theorem dX12_nights_58 : decode cX12_nights 58 = .ok (.istore 4, 2) := by decide +kernel
theorem dX12_nights_60 : decode cX12_nights 60 = .ok (.iload 4, 2) := by decide +kernel
theorem dX12_nights_62 : decode cX12_nights 62 = .ok (.aload_n 0, 1) := by decide +kernel
theorem dX12_nights_63 : decode cX12_nights 63 = .ok (.getfield 7, 3) := by decide +kernel
theorem dX12_nights_66 : decode cX12_nights 66 = .ok (.iconst 3, 1) := by decide +kernel
theorem dX12_nights_67 : decode cX12_nights 67 = .ok (.iaload, 1) := by decide +kernel
theorem dX12_nights_68 : decode cX12_nights 68 = .ok (.if_icmp .ge 66, 3) := by decide +kernel
theorem dX12_nights_71 : decode cX12_nights 71 = .ok (.iload_n 2, 1) := by decide +kernel
theorem dX12_nights_72 : decode cX12_nights 72 = .ok (.iload_n 3, 1) := by decide +kernel
theorem dX12_nights_73 : decode cX12_nights 73 = .ok (.ishr, 1) := by decide +kernel
theorem dX12_nights_74 : decode cX12_nights 74 = .ok (.iload_n 2, 1) := by decide +kernel
theorem dX12_nights_75 : decode cX12_nights 75 = .ok (.iload 4, 2) := by decide +kernel
theorem dX12_nights_77 : decode cX12_nights 77 = .ok (.ishr, 1) := by decide +kernel
theorem dX12_nights_78 : decode cX12_nights 78 = .ok (.iand, 1) := by decide +kernel
theorem dX12_nights_79 : decode cX12_nights 79 = .ok (.iconst 1, 1) := by decide +kernel
theorem dX12_nights_80 : decode cX12_nights 80 = .ok (.iand, 1) := by decide +kernel
theorem dX12_nights_81 : decode cX12_nights 81 = .ok (.ifCond .eq 47, 3) := by decide +kernel
theorem dX12_nights_84 : decode cX12_nights 84 = .ok (.aload_n 0, 1) := by decide +kernel
theorem dX12_nights_85 : decode cX12_nights 85 = .ok (.iload_n 3, 1) := by decide +kernel
theorem dX12_nights_86 : decode cX12_nights 86 = .ok (.iload 4, 2) := by decide +kernel
theorem dX12_nights_88 : decode cX12_nights 88 = .ok (.invokevirtual 284, 3) := by decide +kernel
theorem dX12_nights_91 : decode cX12_nights 91 = .ok (.ifCond .ne 6, 3) := by decide +kernel
theorem dX12_nights_94 : decode cX12_nights 94 = .ok (.goto 34, 3) := by decide +kernel
theorem dX12_nights_97 : decode cX12_nights 97 = .ok (.aload_n 0, 1) := by decide +kernel
theorem dX12_nights_98 : decode cX12_nights 98 = .ok (.getfield 68, 3) := by decide +kernel
theorem dX12_nights_101 : decode cX12_nights 101 = .ok (.aload_n 0, 1) := by decide +kernel
theorem dX12_nights_102 : decode cX12_nights 102 = .ok (.getfield 408, 3) := by decide +kernel
theorem dX12_nights_105 : decode cX12_nights 105 = .ok (.iload_n 3, 1) := by decide +kernel
theorem dX12_nights_106 : decode cX12_nights 106 = .ok (.iastore, 1) := by decide +kernel
theorem dX12_nights_107 : decode cX12_nights 107 = .ok (.aload_n 0, 1) := by decide +kernel
theorem dX12_nights_108 : decode cX12_nights 108 = .ok (.getfield 71, 3) := by decide +kernel
theorem dX12_nights_111 : decode cX12_nights 111 = .ok (.aload_n 0, 1) := by decide +kernel
theorem dX12_nights_112 : decode cX12_nights 112 = .ok (.getfield 408, 3) := by decide +kernel
theorem dX12_nights_115 : decode cX12_nights 115 = .ok (.iload 4, 2) := by decide +kernel
theorem dX12_nights_117 : decode cX12_nights 117 = .ok (.iastore, 1) := by decide +kernel
theorem dX12_nights_118 : decode cX12_nights 118 = .ok (.aload_n 0, 1) := by decide +kernel
theorem dX12_nights_119 : decode cX12_nights 119 = .ok (.dup, 1) := by decide +kernel
theorem dX12_nights_120 : decode cX12_nights 120 = .ok (.getfield 408, 3) := by decide +kernel
theorem dX12_nights_123 : decode cX12_nights 123 = .ok (.iconst 1, 1) := by decide +kernel
theorem dX12_nights_124 : decode cX12_nights 124 = .ok (.iadd, 1) := by decide +kernel
theorem dX12_nights_125 : decode cX12_nights 125 = .ok (.putfield 408, 3) := by decide +kernel
theorem dX12_nights_128 : decode cX12_nights 128 = .ok (.iinc 4 1, 3) := by decide +kernel
theorem dX12_nights_131 : decode cX12_nights 131 = .ok (.goto (-71), 3) := by decide +kernel
theorem dX12_nights_134 : decode cX12_nights 134 = .ok (.iinc 3 1, 3) := by decide +kernel
theorem dX12_nights_137 : decode cX12_nights 137 = .ok (.goto (-110), 3) := by decide +kernel
theorem dX12_nights_140 : decode cX12_nights 140 = .ok (.iconst 0, 1) := by decide +kernel
theorem dX12_nights_141 : decode cX12_nights 141 = .ok (.istore_n 3, 1) := by decide +kernel
theorem dX12_nights_142 : decode cX12_nights 142 = .ok (.iload_n 3, 1) := by decide +kernel
theorem dX12_nights_143 : decode cX12_nights 143 = .ok (.iconst 5, 1) := by decide +kernel
theorem dX12_nights_144 : decode cX12_nights 144 = .ok (.if_icmp .ge 24, 3) := by decide +kernel
theorem dX12_nights_147 : decode cX12_nights 147 = .ok (.aload_n 0, 1) := by decide +kernel
theorem dX12_nights_148 : decode cX12_nights 148 = .ok (.iload_n 1, 1) := by decide +kernel
theorem dX12_nights_149 : decode cX12_nights 149 = .ok (.iload_n 3, 1) := by decide +kernel
theorem dX12_nights_150 : decode cX12_nights 150 = .ok (.invokevirtual 411, 3) := by decide +kernel
theorem dX12_nights_153 : decode cX12_nights 153 = .ok (.ifCond .eq 9, 3) := by decide +kernel
theorem dX12_nights_156 : decode cX12_nights 156 = .ok (.aload_n 0, 1) := by decide +kernel
theorem dX12_nights_157 : decode cX12_nights 157 = .ok (.iload_n 3, 1) := by decide +kernel
theorem dX12_nights_158 : decode cX12_nights 158 = .ok (.invokevirtual 193, 3) := by decide +kernel
theorem dX12_nights_161 : decode cX12_nights 161 = .ok (.ireturn, 1) := by decide +kernel
theorem dX12_nights_162 : decode cX12_nights 162 = .ok (.iinc 3 1, 3) := by decide +kernel
theorem dX12_nights_165 : decode cX12_nights 165 = .ok (.goto (-23), 3) := by decide +kernel
theorem dX12_nights_168 : decode cX12_nights 168 = .ok (.aload_n 0, 1) := by decide +kernel
theorem dX12_nights_169 : decode cX12_nights 169 = .ok (.bipush 6, 2) := by decide +kernel
theorem dX12_nights_171 : decode cX12_nights 171 = .ok (.invokevirtual 190, 3) := by decide +kernel
theorem dX12_nights_174 : decode cX12_nights 174 = .ok (.ireturn, 1) := by decide +kernel
theorem dX12_safe_0 : decode cX12_safe 0 = .ok (.aload_n 0, 1) := by decide +kernel
theorem dX12_safe_1 : decode cX12_safe 1 = .ok (.iload_n 1, 1) := by decide +kernel
theorem dX12_safe_2 : decode cX12_safe 2 = .ok (.invokevirtual 278, 3) := by decide +kernel
theorem dX12_safe_5 : decode cX12_safe 5 = .ok (.ifCond .eq 15, 3) := by decide +kernel
theorem dX12_safe_8 : decode cX12_safe 8 = .ok (.iload_n 2, 1) := by decide +kernel
theorem dX12_safe_9 : decode cX12_safe 9 = .ok (.i2l, 1) := by decide +kernel
theorem dX12_safe_10 : decode cX12_safe 10 = .ok (.lconst 0, 1) := by decide +kernel
theorem dX12_safe_11 : decode cX12_safe 11 = .ok (.ldc2_w 326, 3) := by decide +kernel
theorem dX12_safe_14 : decode cX12_safe 14 = .ok (.invokestatic 328, 3) := by decide +kernel
theorem dX12_safe_17 : decode cX12_safe 17 = .ok (.ifCond .ne 9, 3) := by decide +kernel
theorem dX12_safe_20 : decode cX12_safe 20 = .ok (.aload_n 0, 1) := by decide +kernel
theorem dX12_safe_21 : decode cX12_safe 21 = .ok (.iconst 1, 1) := by decide +kernel
theorem dX12_safe_22 : decode cX12_safe 22 = .ok (.invokevirtual 190, 3) := by decide +kernel
theorem dX12_safe_25 : decode cX12_safe 25 = .ok (.ireturn, 1) := by decide +kernel
theorem dX12_safe_26 : decode cX12_safe 26 = .ok (.aload_n 0, 1) := by decide +kernel
theorem dX12_safe_27 : decode cX12_safe 27 = .ok (.iload_n 1, 1) := by decide +kernel
theorem dX12_safe_28 : decode cX12_safe 28 = .ok (.invokevirtual 287, 3) := by decide +kernel
theorem dX12_safe_31 : decode cX12_safe 31 = .ok (.ifCond .eq 10, 3) := by decide +kernel
theorem dX12_safe_34 : decode cX12_safe 34 = .ok (.aload_n 0, 1) := by decide +kernel
theorem dX12_safe_35 : decode cX12_safe 35 = .ok (.bipush 7, 2) := by decide +kernel
theorem dX12_safe_37 : decode cX12_safe 37 = .ok (.invokevirtual 190, 3) := by decide +kernel
theorem dX12_safe_40 : decode cX12_safe 40 = .ok (.ireturn, 1) := by decide +kernel
theorem dX12_safe_41 : decode cX12_safe 41 = .ok (.aload_n 0, 1) := by decide +kernel
theorem dX12_safe_42 : decode cX12_safe 42 = .ok (.iload_n 1, 1) := by decide +kernel
theorem dX12_safe_43 : decode cX12_safe 43 = .ok (.iload_n 2, 1) := by decide +kernel
theorem dX12_safe_44 : decode cX12_safe 44 = .ok (.invokevirtual 414, 3) := by decide +kernel
theorem dX12_safe_47 : decode cX12_safe 47 = .ok (.invokestatic 293, 3) := by decide +kernel
theorem dX12_safe_50 : decode cX12_safe 50 = .ok (.istore_n 3, 1) := by decide +kernel
theorem dX12_safe_51 : decode cX12_safe 51 = .ok (.iload_n 3, 1) := by decide +kernel
theorem dX12_safe_52 : decode cX12_safe 52 = .ok (.ifCond .ne 12, 3) := by decide +kernel
theorem dX12_safe_55 : decode cX12_safe 55 = .ok (.aload_n 0, 1) := by decide +kernel
theorem dX12_safe_56 : decode cX12_safe 56 = .ok (.bipush 6, 2) := by decide +kernel
theorem dX12_safe_58 : decode cX12_safe 58 = .ok (.invokevirtual 190, 3) := by decide +kernel
theorem dX12_safe_61 : decode cX12_safe 61 = .ok (.goto 8, 3) := by decide +kernel
theorem dX12_safe_64 : decode cX12_safe 64 = .ok (.aload_n 0, 1) := by decide +kernel
theorem dX12_safe_65 : decode cX12_safe 65 = .ok (.iload_n 3, 1) := by decide +kernel
theorem dX12_safe_66 : decode cX12_safe 66 = .ok (.invokevirtual 193, 3) := by decide +kernel
theorem dX12_safe_69 : decode cX12_safe 69 = .ok (.ireturn, 1) := by decide +kernel
theorem dX12_hasIt_0 : decode cX12_hasIt 0 = .ok (.aload_n 0, 1) := by decide +kernel
theorem dX12_hasIt_1 : decode cX12_hasIt 1 = .ok (.iload_n 1, 1) := by decide +kernel
theorem dX12_hasIt_2 : decode cX12_hasIt 2 = .ok (.iload_n 2, 1) := by decide +kernel
theorem dX12_hasIt_3 : decode cX12_hasIt 3 = .ok (.invokevirtual 362, 3) := by decide +kernel
theorem dX12_hasIt_6 : decode cX12_hasIt 6 = .ok (.iconst 0, 1) := by decide +kernel
theorem dX12_hasIt_7 : decode cX12_hasIt 7 = .ok (.istore 4, 2) := by decide +kernel
theorem dX12_hasIt_9 : decode cX12_hasIt 9 = .ok (.iload 4, 2) := by decide +kernel
theorem dX12_hasIt_11 : decode cX12_hasIt 11 = .ok (.aload_n 0, 1) := by decide +kernel
theorem dX12_hasIt_12 : decode cX12_hasIt 12 = .ok (.getfield 296, 3) := by decide +kernel
theorem dX12_hasIt_15 : decode cX12_hasIt 15 = .ok (.if_icmp .ge 22, 3) := by decide +kernel
theorem dX12_hasIt_18 : decode cX12_hasIt 18 = .ok (.aload_n 0, 1) := by decide +kernel
theorem dX12_hasIt_19 : decode cX12_hasIt 19 = .ok (.getfield 50, 3) := by decide +kernel
theorem dX12_hasIt_22 : decode cX12_hasIt 22 = .ok (.iload 4, 2) := by decide +kernel
theorem dX12_hasIt_24 : decode cX12_hasIt 24 = .ok (.iaload, 1) := by decide +kernel
theorem dX12_hasIt_25 : decode cX12_hasIt 25 = .ok (.iload_n 3, 1) := by decide +kernel
theorem dX12_hasIt_26 : decode cX12_hasIt 26 = .ok (.if_icmp .ne 5, 3) := by decide +kernel
theorem dX12_hasIt_29 : decode cX12_hasIt 29 = .ok (.iconst 1, 1) := by decide +kernel
theorem dX12_hasIt_30 : decode cX12_hasIt 30 = .ok (.ireturn, 1) := by decide +kernel
theorem dX12_hasIt_31 : decode cX12_hasIt 31 = .ok (.iinc 4 1, 3) := by decide +kernel
theorem dX12_hasIt_34 : decode cX12_hasIt 34 = .ok (.goto (-25), 3) := by decide +kernel
theorem dX12_hasIt_37 : decode cX12_hasIt 37 = .ok (.iconst 0, 1) := by decide +kernel
theorem dX12_hasIt_38 : decode cX12_hasIt 38 = .ok (.ireturn, 1) := by decide +kernel
theorem dX12_holdersOf_0 : decode cX12_holdersOf 0 = .ok (.iconst 0, 1) := by decide +kernel
theorem dX12_holdersOf_1 : decode cX12_holdersOf 1 = .ok (.istore_n 3, 1) := by decide +kernel
theorem dX12_holdersOf_2 : decode cX12_holdersOf 2 = .ok (.iconst 0, 1) := by decide +kernel
theorem dX12_holdersOf_3 : decode cX12_holdersOf 3 = .ok (.istore 4, 2) := by decide +kernel
theorem dX12_holdersOf_5 : decode cX12_holdersOf 5 = .ok (.iload 4, 2) := by decide +kernel
theorem dX12_holdersOf_7 : decode cX12_holdersOf 7 = .ok (.aload_n 0, 1) := by decide +kernel
theorem dX12_holdersOf_8 : decode cX12_holdersOf 8 = .ok (.getfield 7, 3) := by decide +kernel
theorem dX12_holdersOf_11 : decode cX12_holdersOf 11 = .ok (.iconst 3, 1) := by decide +kernel
theorem dX12_holdersOf_12 : decode cX12_holdersOf 12 = .ok (.iaload, 1) := by decide +kernel
theorem dX12_holdersOf_13 : decode cX12_holdersOf 13 = .ok (.if_icmp .ge 110, 3) := by decide +kernel
theorem dX12_holdersOf_16 : decode cX12_holdersOf 16 = .ok (.aload_n 0, 1) := by decide +kernel
theorem dX12_holdersOf_17 : decode cX12_holdersOf 17 = .ok (.aload_n 0, 1) := by decide +kernel
theorem dX12_holdersOf_18 : decode cX12_holdersOf 18 = .ok (.iload 4, 2) := by decide +kernel
theorem dX12_holdersOf_20 : decode cX12_holdersOf 20 = .ok (.iload_n 1, 1) := by decide +kernel
theorem dX12_holdersOf_21 : decode cX12_holdersOf 21 = .ok (.invokevirtual 303, 3) := by decide +kernel
theorem dX12_holdersOf_24 : decode cX12_holdersOf 24 = .ok (.iload_n 1, 1) := by decide +kernel
theorem dX12_holdersOf_25 : decode cX12_holdersOf 25 = .ok (.iload_n 2, 1) := by decide +kernel
theorem dX12_holdersOf_26 : decode cX12_holdersOf 26 = .ok (.invokevirtual 417, 3) := by decide +kernel
theorem dX12_holdersOf_29 : decode cX12_holdersOf 29 = .ok (.istore 5, 2) := by decide +kernel
theorem dX12_holdersOf_31 : decode cX12_holdersOf 31 = .ok (.iconst 0, 1) := by decide +kernel
theorem dX12_holdersOf_32 : decode cX12_holdersOf 32 = .ok (.istore 6, 2) := by decide +kernel
theorem dX12_holdersOf_34 : decode cX12_holdersOf 34 = .ok (.iload 6, 2) := by decide +kernel
theorem dX12_holdersOf_36 : decode cX12_holdersOf 36 = .ok (.aload_n 0, 1) := by decide +kernel
theorem dX12_holdersOf_37 : decode cX12_holdersOf 37 = .ok (.getfield 7, 3) := by decide +kernel
theorem dX12_holdersOf_40 : decode cX12_holdersOf 40 = .ok (.iconst 3, 1) := by decide +kernel
theorem dX12_holdersOf_41 : decode cX12_holdersOf 41 = .ok (.iaload, 1) := by decide +kernel
theorem dX12_holdersOf_42 : decode cX12_holdersOf 42 = .ok (.if_icmp .ge 59, 3) := by decide +kernel
theorem dX12_holdersOf_45 : decode cX12_holdersOf 45 = .ok (.iload 5, 2) := by decide +kernel
theorem dX12_holdersOf_47 : decode cX12_holdersOf 47 = .ok (.ifCond .ne 54, 3) := by decide +kernel
theorem dX12_holdersOf_50 : decode cX12_holdersOf 50 = .ok (.aload_n 0, 1) := by decide +kernel
theorem dX12_holdersOf_51 : decode cX12_holdersOf 51 = .ok (.getfield 7, 3) := by decide +kernel
theorem dX12_holdersOf_54 : decode cX12_holdersOf 54 = .ok (.aload_n 0, 1) := by decide +kernel
theorem dX12_holdersOf_55 : decode cX12_holdersOf 55 = .ok (.iload 4, 2) := by decide +kernel
theorem dX12_holdersOf_57 : decode cX12_holdersOf 57 = .ok (.iload 6, 2) := by decide +kernel
theorem dX12_holdersOf_59 : decode cX12_holdersOf 59 = .ok (.iload_n 1, 1) := by decide +kernel
theorem dX12_holdersOf_60 : decode cX12_holdersOf 60 = .ok (.invokevirtual 310, 3) := by decide +kernel
theorem dX12_holdersOf_63 : decode cX12_holdersOf 63 = .ok (.iaload, 1) := by decide +kernel
theorem dX12_holdersOf_64 : decode cX12_holdersOf 64 = .ok (.iconst 1, 1) := by decide +kernel
theorem dX12_holdersOf_65 : decode cX12_holdersOf 65 = .ok (.if_icmp .ne 27, 3) := by decide +kernel
theorem dX12_holdersOf_68 : decode cX12_holdersOf 68 = .ok (.aload_n 0, 1) := by decide +kernel
theorem dX12_holdersOf_69 : decode cX12_holdersOf 69 = .ok (.aload_n 0, 1) := by decide +kernel
theorem dX12_holdersOf_70 : decode cX12_holdersOf 70 = .ok (.iload 4, 2) := by decide +kernel
theorem dX12_holdersOf_72 : decode cX12_holdersOf 72 = .ok (.iload 6, 2) := by decide +kernel
theorem dX12_holdersOf_74 : decode cX12_holdersOf 74 = .ok (.iload_n 1, 1) := by decide +kernel
theorem dX12_holdersOf_75 : decode cX12_holdersOf 75 = .ok (.invokevirtual 310, 3) := by decide +kernel
theorem dX12_holdersOf_78 : decode cX12_holdersOf 78 = .ok (.iconst 1, 1) := by decide +kernel
theorem dX12_holdersOf_79 : decode cX12_holdersOf 79 = .ok (.iadd, 1) := by decide +kernel
theorem dX12_holdersOf_80 : decode cX12_holdersOf 80 = .ok (.iload_n 1, 1) := by decide +kernel
theorem dX12_holdersOf_81 : decode cX12_holdersOf 81 = .ok (.iload_n 2, 1) := by decide +kernel
theorem dX12_holdersOf_82 : decode cX12_holdersOf 82 = .ok (.invokevirtual 417, 3) := by decide +kernel
theorem dX12_holdersOf_85 : decode cX12_holdersOf 85 = .ok (.ifCond .eq 7, 3) := by decide +kernel
theorem dX12_holdersOf_88 : decode cX12_holdersOf 88 = .ok (.iconst 1, 1) := by decide +kernel
theorem dX12_holdersOf_89 : decode cX12_holdersOf 89 = .ok (.goto 4, 3) := by decide +kernel
theorem dX12_holdersOf_92 : decode cX12_holdersOf 92 = .ok (.iconst 0, 1) := by decide +kernel
theorem dX12_holdersOf_93 : decode cX12_holdersOf 93 = .ok (.istore 5, 2) := by decide +kernel
theorem dX12_holdersOf_95 : decode cX12_holdersOf 95 = .ok (.iinc 6 1, 3) := by decide +kernel
theorem dX12_holdersOf_98 : decode cX12_holdersOf 98 = .ok (.goto (-64), 3) := by decide +kernel
theorem dX12_holdersOf_101 : decode cX12_holdersOf 101 = .ok (.iload_n 3, 1) := by decide +kernel
theorem dX12_holdersOf_102 : decode cX12_holdersOf 102 = .ok (.iload 5, 2) := by decide +kernel
theorem dX12_holdersOf_104 : decode cX12_holdersOf 104 = .ok (.ifCond .eq 10, 3) := by decide +kernel
theorem dX12_holdersOf_107 : decode cX12_holdersOf 107 = .ok (.iconst 1, 1) := by decide +kernel
theorem dX12_holdersOf_108 : decode cX12_holdersOf 108 = .ok (.iload 4, 2) := by decide +kernel
theorem dX12_holdersOf_110 : decode cX12_holdersOf 110 = .ok (.ishl, 1) := by decide +kernel
theorem dX12_holdersOf_111 : decode cX12_holdersOf 111 = .ok (.goto 4, 3) := by decide +kernel
theorem dX12_holdersOf_114 : decode cX12_holdersOf 114 = .ok (.iconst 0, 1) := by decide +kernel
theorem dX12_holdersOf_115 : decode cX12_holdersOf 115 = .ok (.ior, 1) := by decide +kernel
theorem dX12_holdersOf_116 : decode cX12_holdersOf 116 = .ok (.istore_n 3, 1) := by decide +kernel
theorem dX12_holdersOf_117 : decode cX12_holdersOf 117 = .ok (.iinc 4 1, 3) := by decide +kernel
theorem dX12_holdersOf_120 : decode cX12_holdersOf 120 = .ok (.goto (-115), 3) := by decide +kernel
theorem dX12_holdersOf_123 : decode cX12_holdersOf 123 = .ok (.iload_n 3, 1) := by decide +kernel
theorem dX12_holdersOf_124 : decode cX12_holdersOf 124 = .ok (.ireturn, 1) := by decide +kernel
theorem dX12_holders_0 : decode cX12_holders 0 = .ok (.aload_n 0, 1) := by decide +kernel
theorem dX12_holders_1 : decode cX12_holders 1 = .ok (.iload_n 1, 1) := by decide +kernel
theorem dX12_holders_2 : decode cX12_holders 2 = .ok (.invokevirtual 278, 3) := by decide +kernel
theorem dX12_holders_5 : decode cX12_holders 5 = .ok (.ifCond .eq 15, 3) := by decide +kernel
theorem dX12_holders_8 : decode cX12_holders 8 = .ok (.iload_n 2, 1) := by decide +kernel
theorem dX12_holders_9 : decode cX12_holders 9 = .ok (.i2l, 1) := by decide +kernel
theorem dX12_holders_10 : decode cX12_holders 10 = .ok (.lconst 0, 1) := by decide +kernel
theorem dX12_holders_11 : decode cX12_holders 11 = .ok (.ldc2_w 326, 3) := by decide +kernel
theorem dX12_holders_14 : decode cX12_holders 14 = .ok (.invokestatic 328, 3) := by decide +kernel
theorem dX12_holders_17 : decode cX12_holders 17 = .ok (.ifCond .ne 9, 3) := by decide +kernel
theorem dX12_holders_20 : decode cX12_holders 20 = .ok (.aload_n 0, 1) := by decide +kernel
theorem dX12_holders_21 : decode cX12_holders 21 = .ok (.iconst 1, 1) := by decide +kernel
theorem dX12_holders_22 : decode cX12_holders 22 = .ok (.invokevirtual 190, 3) := by decide +kernel
theorem dX12_holders_25 : decode cX12_holders 25 = .ok (.ireturn, 1) := by decide +kernel
theorem dX12_holders_26 : decode cX12_holders 26 = .ok (.aload_n 0, 1) := by decide +kernel
theorem dX12_holders_27 : decode cX12_holders 27 = .ok (.iload_n 1, 1) := by decide +kernel
theorem dX12_holders_28 : decode cX12_holders 28 = .ok (.invokevirtual 287, 3) := by decide +kernel
theorem dX12_holders_31 : decode cX12_holders 31 = .ok (.ifCond .eq 12, 3) := by decide +kernel
theorem dX12_holders_34 : decode cX12_holders 34 = .ok (.aload_n 0, 1) := by decide +kernel
theorem dX12_holders_35 : decode cX12_holders 35 = .ok (.bipush 7, 2) := by decide +kernel
theorem dX12_holders_37 : decode cX12_holders 37 = .ok (.invokevirtual 190, 3) := by decide +kernel
theorem dX12_holders_40 : decode cX12_holders 40 = .ok (.goto 13, 3) := by decide +kernel
theorem dX12_holders_43 : decode cX12_holders 43 = .ok (.aload_n 0, 1) := by decide +kernel
theorem dX12_holders_44 : decode cX12_holders 44 = .ok (.aload_n 0, 1) := by decide +kernel
theorem dX12_holders_45 : decode cX12_holders 45 = .ok (.iload_n 1, 1) := by decide +kernel
theorem dX12_holders_46 : decode cX12_holders 46 = .ok (.iload_n 2, 1) := by decide +kernel
theorem dX12_holders_47 : decode cX12_holders 47 = .ok (.invokevirtual 414, 3) := by decide +kernel
theorem dX12_holders_50 : decode cX12_holders 50 = .ok (.invokevirtual 193, 3) := by decide +kernel
theorem dX12_holders_53 : decode cX12_holders 53 = .ok (.ireturn, 1) := by decide +kernel
theorem dX12_lost_0 : decode cX12_lost 0 = .ok (.iload_n 1, 1) := by decide +kernel
theorem dX12_lost_1 : decode cX12_lost 1 = .ok (.ifCond .lt 15, 3) := by decide +kernel
theorem dX12_lost_4 : decode cX12_lost 4 = .ok (.iload_n 1, 1) := by decide +kernel
theorem dX12_lost_5 : decode cX12_lost 5 = .ok (.iconst 1, 1) := by decide +kernel
theorem dX12_lost_6 : decode cX12_lost 6 = .ok (.aload_n 0, 1) := by decide +kernel
theorem dX12_lost_7 : decode cX12_lost 7 = .ok (.getfield 7, 3) := by decide +kernel
theorem dX12_lost_10 : decode cX12_lost 10 = .ok (.iconst 3, 1) := by decide +kernel
theorem dX12_lost_11 : decode cX12_lost 11 = .ok (.iaload, 1) := by decide +kernel
theorem dX12_lost_12 : decode cX12_lost 12 = .ok (.ishl, 1) := by decide +kernel
theorem dX12_lost_13 : decode cX12_lost 13 = .ok (.if_icmp .lt 9, 3) := by decide +kernel
theorem dX12_lost_16 : decode cX12_lost 16 = .ok (.aload_n 0, 1) := by decide +kernel
theorem dX12_lost_17 : decode cX12_lost 17 = .ok (.iconst 1, 1) := by decide +kernel
theorem dX12_lost_18 : decode cX12_lost 18 = .ok (.invokevirtual 190, 3) := by decide +kernel
theorem dX12_lost_21 : decode cX12_lost 21 = .ok (.ireturn, 1) := by decide +kernel
theorem dX12_lost_22 : decode cX12_lost 22 = .ok (.iconst 0, 1) := by decide +kernel
theorem dX12_lost_23 : decode cX12_lost 23 = .ok (.istore_n 2, 1) := by decide +kernel
theorem dX12_lost_24 : decode cX12_lost 24 = .ok (.iconst 0, 1) := by decide +kernel
theorem dX12_lost_25 : decode cX12_lost 25 = .ok (.istore_n 3, 1) := by decide +kernel
theorem dX12_lost_26 : decode cX12_lost 26 = .ok (.iload_n 3, 1) := by decide +kernel
theorem dX12_lost_27 : decode cX12_lost 27 = .ok (.aload_n 0, 1) := by decide +kernel
theorem dX12_lost_28 : decode cX12_lost 28 = .ok (.getfield 7, 3) := by decide +kernel
theorem dX12_lost_31 : decode cX12_lost 31 = .ok (.iconst 4, 1) := by decide +kernel
theorem dX12_lost_32 : decode cX12_lost 32 = .ok (.iaload, 1) := by decide +kernel
theorem dX12_lost_33 : decode cX12_lost 33 = .ok (.if_icmp .ge 163, 3) := by decide +kernel
theorem dX12_lost_36 : decode cX12_lost 36 = .ok (.iconst 0, 1) := by decide +kernel
theorem dX12_lost_37 : decode cX12_lost 37 = .ok (.istore 4, 2) := by decide +kernel
theorem dX12_lost_39 : decode cX12_lost 39 = .ok (.iload 4, 2) := by decide +kernel
theorem dX12_lost_41 : decode cX12_lost 41 = .ok (.sipush 1000, 3) := by decide +kernel
theorem dX12_lost_44 : decode cX12_lost 44 = .ok (.if_icmp .gt 37, 3) := by decide +kernel
theorem dX12_lost_47 : decode cX12_lost 47 = .ok (.aload_n 0, 1) := by decide +kernel
theorem dX12_lost_48 : decode cX12_lost 48 = .ok (.getfield 77, 3) := by decide +kernel
theorem dX12_lost_51 : decode cX12_lost 51 = .ok (.iload 4, 2) := by decide +kernel
theorem dX12_lost_53 : decode cX12_lost 53 = .ok (.iload 4, 2) := by decide +kernel
theorem dX12_lost_55 : decode cX12_lost 55 = .ok (.sipush 1000, 3) := by decide +kernel
theorem dX12_lost_58 : decode cX12_lost 58 = .ok (.if_icmp .eq 11, 3) := by decide +kernel
theorem dX12_lost_61 : decode cX12_lost 61 = .ok (.aload_n 0, 1) := by decide +kernel
theorem dX12_lost_62 : decode cX12_lost 62 = .ok (.iload_n 3, 1) := by decide +kernel
theorem dX12_lost_63 : decode cX12_lost 63 = .ok (.invokevirtual 287, 3) := by decide +kernel
theorem dX12_lost_66 : decode cX12_lost 66 = .ok (.ifCond .eq 7, 3) := by decide +kernel
theorem dX12_lost_69 : decode cX12_lost 69 = .ok (.iconst 1, 1) := by decide +kernel
theorem dX12_lost_70 : decode cX12_lost 70 = .ok (.goto 4, 3) := by decide +kernel
theorem dX12_lost_73 : decode cX12_lost 73 = .ok (.iconst 0, 1) := by decide +kernel
theorem dX12_lost_74 : decode cX12_lost 74 = .ok (.bastore, 1) := by decide +kernel
theorem dX12_lost_75 : decode cX12_lost 75 = .ok (.iinc 4 1, 3) := by decide +kernel
theorem dX12_lost_78 : decode cX12_lost 78 = .ok (.goto (-39), 3) := by decide +kernel
theorem dX12_lost_81 : decode cX12_lost 81 = .ok (.iconst 0, 1) := by decide +kernel
theorem dX12_lost_82 : decode cX12_lost 82 = .ok (.istore 4, 2) := by decide +kernel
theorem dX12_lost_84 : decode cX12_lost 84 = .ok (.iload 4, 2) := by decide +kernel
theorem dX12_lost_86 : decode cX12_lost 86 = .ok (.bipush 6, 2) := by decide +kernel
theorem dX12_lost_88 : decode cX12_lost 88 = .ok (.if_icmp .ge 102, 3) := by decide +kernel
theorem dX12_lost_91 : decode cX12_lost 91 = .ok (.iconst 1, 1) := by decide +kernel
theorem dX12_lost_92 : decode cX12_lost 92 = .ok (.istore 5, 2) := by decide +kernel
theorem dX12_lost_94 : decode cX12_lost 94 = .ok (.iload 5, 2) := by decide +kernel
theorem dX12_lost_96 : decode cX12_lost 96 = .ok (.aload_n 0, 1) := by decide +kernel
theorem dX12_lost_97 : decode cX12_lost 97 = .ok (.getfield 7, 3) := by decide +kernel
theorem dX12_lost_100 : decode cX12_lost 100 = .ok (.sipush 4400, 3) := by decide +kernel
theorem dX12_lost_103 : decode cX12_lost 103 = .ok (.bipush 6, 2) := by decide +kernel
theorem dX12_lost_105 : decode cX12_lost 105 = .ok (.iload 4, 2) := by decide +kernel
theorem dX12_lost_107 : decode cX12_lost 107 = .ok (.imul, 1) := by decide +kernel
theorem dX12_lost_108 : decode cX12_lost 108 = .ok (.iadd, 1) := by decide +kernel
theorem dX12_lost_109 : decode cX12_lost 109 = .ok (.iload_n 3, 1) := by decide +kernel
theorem dX12_lost_110 : decode cX12_lost 110 = .ok (.iadd, 1) := by decide +kernel
theorem dX12_lost_111 : decode cX12_lost 111 = .ok (.iaload, 1) := by decide +kernel
theorem dX12_lost_112 : decode cX12_lost 112 = .ok (.if_icmp .gt 72, 3) := by decide +kernel
theorem dX12_lost_115 : decode cX12_lost 115 = .ok (.aload_n 0, 1) := by decide +kernel
theorem dX12_lost_116 : decode cX12_lost 116 = .ok (.iload_n 3, 1) := by decide +kernel
theorem dX12_lost_117 : decode cX12_lost 117 = .ok (.iload 4, 2) := by decide +kernel
theorem dX12_lost_119 : decode cX12_lost 119 = .ok (.iload 5, 2) := by decide +kernel
theorem dX12_lost_121 : decode cX12_lost 121 = .ok (.invokevirtual 299, 3) := by decide +kernel
theorem dX12_lost_124 : decode cX12_lost 124 = .ok (.istore 6, 2) := by decide +kernel
theorem dX12_lost_126 : decode cX12_lost 126 = .ok (.aload_n 0, 1) := by decide +kernel
theorem dX12_lost_127 : decode cX12_lost 127 = .ok (.getfield 77, 3) := by decide +kernel
theorem dX12_lost_130 : decode cX12_lost 130 = .ok (.iload 6, 2) := by decide +kernel
theorem dX12_lost_132 : decode cX12_lost 132 = .ok (.baload, 1) := by decide +kernel
theorem dX12_lost_133 : decode cX12_lost 133 = .ok (.ifCond .eq 6, 3) := by decide +kernel
theorem dX12_lost_136 : decode cX12_lost 136 = .ok (.goto 42, 3) := by decide +kernel
theorem dX12_lost_139 : decode cX12_lost 139 = .ok (.aload_n 0, 1) := by decide +kernel
theorem dX12_lost_140 : decode cX12_lost 140 = .ok (.getfield 77, 3) := by decide +kernel
theorem dX12_lost_143 : decode cX12_lost 143 = .ok (.iload 6, 2) := by decide +kernel
theorem dX12_lost_145 : decode cX12_lost 145 = .ok (.iconst 1, 1) := by decide +kernel
theorem dX12_lost_146 : decode cX12_lost 146 = .ok (.bastore, 1) := by decide +kernel
theorem dX12_lost_147 : decode cX12_lost 147 = .ok (.aload_n 0, 1) := by decide +kernel
theorem dX12_lost_148 : decode cX12_lost 148 = .ok (.iload_n 3, 1) := by decide +kernel
theorem dX12_lost_149 : decode cX12_lost 149 = .ok (.iload 6, 2) := by decide +kernel
theorem dX12_lost_151 : decode cX12_lost 151 = .ok (.invokevirtual 414, 3) := by decide +kernel
theorem dX12_lost_154 : decode cX12_lost 154 = .ok (.istore 7, 2) := by decide +kernel
theorem dX12_lost_156 : decode cX12_lost 156 = .ok (.iload_n 2, 1) := by decide +kernel
theorem dX12_lost_157 : decode cX12_lost 157 = .ok (.iload 7, 2) := by decide +kernel
theorem dX12_lost_159 : decode cX12_lost 159 = .ok (.ifCond .eq 16, 3) := by decide +kernel
theorem dX12_lost_162 : decode cX12_lost 162 = .ok (.iload 7, 2) := by decide +kernel
theorem dX12_lost_164 : decode cX12_lost 164 = .ok (.iload_n 1, 1) := by decide +kernel
theorem dX12_lost_165 : decode cX12_lost 165 = .ok (.iconst (-1), 1) := by decide +kernel
theorem dX12_lost_166 : decode cX12_lost 166 = .ok (.ixor, 1) := by decide +kernel
theorem dX12_lost_167 : decode cX12_lost 167 = .ok (.iand, 1) := by decide +kernel
theorem dX12_lost_168 : decode cX12_lost 168 = .ok (.ifCond .ne 7, 3) := by decide +kernel
theorem dX12_lost_171 : decode cX12_lost 171 = .ok (.iconst 1, 1) := by decide +kernel
theorem dX12_lost_172 : decode cX12_lost 172 = .ok (.goto 4, 3) := by decide +kernel
theorem dX12_lost_175 : decode cX12_lost 175 = .ok (.iconst 0, 1) := by decide +kernel
theorem dX12_lost_176 : decode cX12_lost 176 = .ok (.iadd, 1) := by decide +kernel
theorem dX12_lost_177 : decode cX12_lost 177 = .ok (.istore_n 2, 1) := by decide +kernel
theorem dX12_lost_178 : decode cX12_lost 178 = .ok (.iinc 5 1, 3) := by decide +kernel
theorem dX12_lost_181 : decode cX12_lost 181 = .ok (.goto (-87), 3) := by decide +kernel
theorem dX12_lost_184 : decode cX12_lost 184 = .ok (.iinc 4 1, 3) := by decide +kernel
theorem dX12_lost_187 : decode cX12_lost 187 = .ok (.goto (-103), 3) := by decide +kernel
theorem dX12_lost_190 : decode cX12_lost 190 = .ok (.iinc 3 1, 3) := by decide +kernel
theorem dX12_lost_193 : decode cX12_lost 193 = .ok (.goto (-167), 3) := by decide +kernel
theorem dX12_lost_196 : decode cX12_lost 196 = .ok (.aload_n 0, 1) := by decide +kernel
theorem dX12_lost_197 : decode cX12_lost 197 = .ok (.iload_n 2, 1) := by decide +kernel
theorem dX12_lost_198 : decode cX12_lost 198 = .ok (.invokevirtual 193, 3) := by decide +kernel
theorem dX12_lost_201 : decode cX12_lost 201 = .ok (.ireturn, 1) := by decide +kernel
theorem dX12_choices_0 : decode cX12_choices 0 = .ok (.iconst 0, 1) := by decide +kernel
theorem dX12_choices_1 : decode cX12_choices 1 = .ok (.istore 4, 2) := by decide +kernel
theorem dX12_choices_3 : decode cX12_choices 3 = .ok (.iconst 0, 1) := by decide +kernel
theorem dX12_choices_4 : decode cX12_choices 4 = .ok (.istore 5, 2) := by decide +kernel
theorem dX12_choices_6 : decode cX12_choices 6 = .ok (.iconst 0, 1) := by decide +kernel
theorem dX12_choices_7 : decode cX12_choices 7 = .ok (.istore 6, 2) := by decide +kernel
theorem dX12_choices_9 : decode cX12_choices 9 = .ok (.iconst 0, 1) := by decide +kernel
theorem dX12_choices_10 : decode cX12_choices 10 = .ok (.istore 7, 2) := by decide +kernel
theorem dX12_choices_12 : decode cX12_choices 12 = .ok (.iload 7, 2) := by decide +kernel
theorem dX12_choices_14 : decode cX12_choices 14 = .ok (.iconst 1, 1) := by decide +kernel
theorem dX12_choices_15 : decode cX12_choices 15 = .ok (.aload_n 0, 1) := by decide +kernel
theorem dX12_choices_16 : decode cX12_choices 16 = .ok (.getfield 350, 3) := by decide +kernel
theorem dX12_choices_19 : decode cX12_choices 19 = .ok (.ishl, 1) := by decide +kernel
theorem dX12_choices_20 : decode cX12_choices 20 = .ok (.if_icmp .ge 204, 3) := by decide +kernel
theorem dX12_choices_23 : decode cX12_choices 23 = .ok (.iload 7, 2) := by decide +kernel
theorem dX12_choices_25 : decode cX12_choices 25 = .ok (.invokestatic 293, 3) := by decide +kernel
theorem dX12_choices_28 : decode cX12_choices 28 = .ok (.aload_n 0, 1) := by decide +kernel
theorem dX12_choices_29 : decode cX12_choices 29 = .ok (.getfield 7, 3) := by decide +kernel
theorem dX12_choices_32 : decode cX12_choices 32 = .ok (.iconst 1, 1) := by decide +kernel
theorem dX12_choices_33 : decode cX12_choices 33 = .ok (.iaload, 1) := by decide +kernel
theorem dX12_choices_34 : decode cX12_choices 34 = .ok (.if_icmp .eq 6, 3) := by decide +kernel
theorem dX12_choices_37 : decode cX12_choices 37 = .ok (.goto 181, 3) := by decide +kernel
theorem dX12_choices_40 : decode cX12_choices 40 = .ok (.iinc 4 1, 3) := by decide +kernel
theorem dX12_choices_43 : decode cX12_choices 43 = .ok (.iconst 1, 1) := by decide +kernel
theorem dX12_choices_44 : decode cX12_choices 44 = .ok (.istore 8, 2) := by decide +kernel
theorem dX12_choices_46 : decode cX12_choices 46 = .ok (.iconst 0, 1) := by decide +kernel
theorem dX12_choices_47 : decode cX12_choices 47 = .ok (.istore 9, 2) := by decide +kernel
theorem dX12_choices_49 : decode cX12_choices 49 = .ok (.iload 9, 2) := by decide +kernel
theorem dX12_choices_51 : decode cX12_choices 51 = .ok (.aload_n 0, 1) := by decide +kernel
theorem dX12_choices_52 : decode cX12_choices 52 = .ok (.getfield 350, 3) := by decide +kernel
theorem dX12_choices_55 : decode cX12_choices 55 = .ok (.if_icmp .ge 72, 3) := by decide +kernel
theorem dX12_choices_58 : decode cX12_choices 58 = .ok (.iload 7, 2) := by decide +kernel
theorem dX12_choices_60 : decode cX12_choices 60 = .ok (.iload 9, 2) := by decide +kernel
theorem dX12_choices_62 : decode cX12_choices 62 = .ok (.ishr, 1) := by decide +kernel
theorem dX12_choices_63 : decode cX12_choices 63 = .ok (.iconst 1, 1) := by decide +kernel
theorem dX12_choices_64 : decode cX12_choices 64 = .ok (.iand, 1) := by decide +kernel
theorem dX12_choices_65 : decode cX12_choices 65 = .ok (.ifCond .ne 6, 3) := by decide +kernel
theorem dX12_choices_68 : decode cX12_choices 68 = .ok (.goto 53, 3) := by decide +kernel
theorem dX12_choices_71 : decode cX12_choices 71 = .ok (.iload 8, 2) := by decide +kernel
theorem dX12_choices_73 : decode cX12_choices 73 = .ok (.ifCond .eq 25, 3) := by decide +kernel
theorem dX12_choices_76 : decode cX12_choices 76 = .ok (.aload_n 0, 1) := by decide +kernel
theorem dX12_choices_77 : decode cX12_choices 77 = .ok (.sipush 29100, 3) := by decide +kernel
theorem dX12_choices_80 : decode cX12_choices 80 = .ok (.aload_n 0, 1) := by decide +kernel
theorem dX12_choices_81 : decode cX12_choices 81 = .ok (.aload_n 0, 1) := by decide +kernel
theorem dX12_choices_82 : decode cX12_choices 82 = .ok (.getfield 62, 3) := by decide +kernel
theorem dX12_choices_85 : decode cX12_choices 85 = .ok (.iload 9, 2) := by decide +kernel
theorem dX12_choices_87 : decode cX12_choices 87 = .ok (.iaload, 1) := by decide +kernel
theorem dX12_choices_88 : decode cX12_choices 88 = .ok (.iload_n 1, 1) := by decide +kernel
theorem dX12_choices_89 : decode cX12_choices 89 = .ok (.invokevirtual 303, 3) := by decide +kernel
theorem dX12_choices_92 : decode cX12_choices 92 = .ok (.invokevirtual 313, 3) := by decide +kernel
theorem dX12_choices_95 : decode cX12_choices 95 = .ok (.goto 23, 3) := by decide +kernel
theorem dX12_choices_98 : decode cX12_choices 98 = .ok (.aload_n 0, 1) := by decide +kernel
theorem dX12_choices_99 : decode cX12_choices 99 = .ok (.sipush 29100, 3) := by decide +kernel
theorem dX12_choices_102 : decode cX12_choices 102 = .ok (.aload_n 0, 1) := by decide +kernel
theorem dX12_choices_103 : decode cX12_choices 103 = .ok (.aload_n 0, 1) := by decide +kernel
theorem dX12_choices_104 : decode cX12_choices 104 = .ok (.getfield 62, 3) := by decide +kernel
theorem dX12_choices_107 : decode cX12_choices 107 = .ok (.iload 9, 2) := by decide +kernel
theorem dX12_choices_109 : decode cX12_choices 109 = .ok (.iaload, 1) := by decide +kernel
theorem dX12_choices_110 : decode cX12_choices 110 = .ok (.iload_n 1, 1) := by decide +kernel
theorem dX12_choices_111 : decode cX12_choices 111 = .ok (.invokevirtual 303, 3) := by decide +kernel
theorem dX12_choices_114 : decode cX12_choices 114 = .ok (.iload_n 1, 1) := by decide +kernel
theorem dX12_choices_115 : decode cX12_choices 115 = .ok (.invokevirtual 306, 3) := by decide +kernel
theorem dX12_choices_118 : decode cX12_choices 118 = .ok (.iconst 0, 1) := by decide +kernel
theorem dX12_choices_119 : decode cX12_choices 119 = .ok (.istore 8, 2) := by decide +kernel
theorem dX12_choices_121 : decode cX12_choices 121 = .ok (.iinc 9 1, 3) := by decide +kernel
theorem dX12_choices_124 : decode cX12_choices 124 = .ok (.goto (-75), 3) := by decide +kernel
theorem dX12_choices_127 : decode cX12_choices 127 = .ok (.aload_n 0, 1) := by decide +kernel
theorem dX12_choices_128 : decode cX12_choices 128 = .ok (.sipush 29100, 3) := by decide +kernel
theorem dX12_choices_131 : decode cX12_choices 131 = .ok (.iload_n 1, 1) := by decide +kernel
theorem dX12_choices_132 : decode cX12_choices 132 = .ok (.invokevirtual 362, 3) := by decide +kernel
theorem dX12_choices_135 : decode cX12_choices 135 = .ok (.iconst 0, 1) := by decide +kernel
theorem dX12_choices_136 : decode cX12_choices 136 = .ok (.istore 9, 2) := by decide +kernel
theorem dX12_choices_138 : decode cX12_choices 138 = .ok (.iconst 0, 1) := by decide +kernel
theorem dX12_choices_139 : decode cX12_choices 139 = .ok (.istore 10, 2) := by decide +kernel
theorem dX12_choices_141 : decode cX12_choices 141 = .ok (.iload 10, 2) := by decide +kernel
theorem dX12_choices_143 : decode cX12_choices 143 = .ok (.aload_n 0, 1) := by decide +kernel
theorem dX12_choices_144 : decode cX12_choices 144 = .ok (.getfield 296, 3) := by decide +kernel
theorem dX12_choices_147 : decode cX12_choices 147 = .ok (.if_icmp .ge 32, 3) := by decide +kernel
theorem dX12_choices_150 : decode cX12_choices 150 = .ok (.iload 9, 2) := by decide +kernel
theorem dX12_choices_152 : decode cX12_choices 152 = .ok (.ifCond .ne 14, 3) := by decide +kernel
theorem dX12_choices_155 : decode cX12_choices 155 = .ok (.aload_n 0, 1) := by decide +kernel
theorem dX12_choices_156 : decode cX12_choices 156 = .ok (.getfield 50, 3) := by decide +kernel
theorem dX12_choices_159 : decode cX12_choices 159 = .ok (.iload 10, 2) := by decide +kernel
theorem dX12_choices_161 : decode cX12_choices 161 = .ok (.iaload, 1) := by decide +kernel
theorem dX12_choices_162 : decode cX12_choices 162 = .ok (.iload_n 3, 1) := by decide +kernel
theorem dX12_choices_163 : decode cX12_choices 163 = .ok (.if_icmp .ne 7, 3) := by decide +kernel
theorem dX12_choices_166 : decode cX12_choices 166 = .ok (.iconst 1, 1) := by decide +kernel
theorem dX12_choices_167 : decode cX12_choices 167 = .ok (.goto 4, 3) := by decide +kernel
theorem dX12_choices_170 : decode cX12_choices 170 = .ok (.iconst 0, 1) := by decide +kernel
theorem dX12_choices_171 : decode cX12_choices 171 = .ok (.istore 9, 2) := by decide +kernel
theorem dX12_choices_173 : decode cX12_choices 173 = .ok (.iinc 10 1, 3) := by decide +kernel
theorem dX12_choices_176 : decode cX12_choices 176 = .ok (.goto (-35), 3) := by decide +kernel
theorem dX12_choices_179 : decode cX12_choices 179 = .ok (.iload 6, 2) := by decide +kernel
theorem dX12_choices_181 : decode cX12_choices 181 = .ok (.iload 9, 2) := by decide +kernel
theorem dX12_choices_183 : decode cX12_choices 183 = .ok (.ifCond .eq 7, 3) := by decide +kernel
theorem dX12_choices_186 : decode cX12_choices 186 = .ok (.iconst 1, 1) := by decide +kernel
theorem dX12_choices_187 : decode cX12_choices 187 = .ok (.goto 4, 3) := by decide +kernel
theorem dX12_choices_190 : decode cX12_choices 190 = .ok (.iconst 0, 1) := by decide +kernel
theorem dX12_choices_191 : decode cX12_choices 191 = .ok (.iadd, 1) := by decide +kernel
theorem dX12_choices_192 : decode cX12_choices 192 = .ok (.istore 6, 2) := by decide +kernel
theorem dX12_choices_194 : decode cX12_choices 194 = .ok (.iload 5, 2) := by decide +kernel
theorem dX12_choices_196 : decode cX12_choices 196 = .ok (.aload_n 0, 1) := by decide +kernel
theorem dX12_choices_197 : decode cX12_choices 197 = .ok (.iload 5, 2) := by decide +kernel
theorem dX12_choices_199 : decode cX12_choices 199 = .ok (.aload_n 0, 1) := by decide +kernel
theorem dX12_choices_200 : decode cX12_choices 200 = .ok (.iload_n 1, 1) := by decide +kernel
theorem dX12_choices_201 : decode cX12_choices 201 = .ok (.invokevirtual 287, 3) := by decide +kernel
theorem dX12_choices_204 : decode cX12_choices 204 = .ok (.invokevirtual 420, 3) := by decide +kernel
theorem dX12_choices_207 : decode cX12_choices 207 = .ok (.ifCond .eq 7, 3) := by decide +kernel
theorem dX12_choices_210 : decode cX12_choices 210 = .ok (.iconst 0, 1) := by decide +kernel
theorem dX12_choices_211 : decode cX12_choices 211 = .ok (.goto 4, 3) := by decide +kernel
theorem dX12_choices_214 : decode cX12_choices 214 = .ok (.iconst 1, 1) := by decide +kernel
theorem dX12_choices_215 : decode cX12_choices 215 = .ok (.iadd, 1) := by decide +kernel
theorem dX12_choices_216 : decode cX12_choices 216 = .ok (.istore 5, 2) := by decide +kernel
theorem dX12_choices_218 : decode cX12_choices 218 = .ok (.iinc 7 1, 3) := by decide +kernel
theorem dX12_choices_221 : decode cX12_choices 221 = .ok (.goto (-209), 3) := by decide +kernel
theorem dX12_choices_224 : decode cX12_choices 224 = .ok (.iload_n 2, 1) := by decide +kernel
theorem dX12_choices_225 : decode cX12_choices 225 = .ok (.ifCond .ne 8, 3) := by decide +kernel
theorem dX12_choices_228 : decode cX12_choices 228 = .ok (.iload 4, 2) := by decide +kernel
theorem dX12_choices_230 : decode cX12_choices 230 = .ok (.goto 15, 3) := by decide +kernel
theorem dX12_choices_233 : decode cX12_choices 233 = .ok (.iload_n 2, 1) := by decide +kernel
theorem dX12_choices_234 : decode cX12_choices 234 = .ok (.iconst 1, 1) := by decide +kernel
theorem dX12_choices_235 : decode cX12_choices 235 = .ok (.if_icmp .ne 8, 3) := by decide +kernel
theorem dX12_choices_238 : decode cX12_choices 238 = .ok (.iload 5, 2) := by decide +kernel
theorem dX12_choices_240 : decode cX12_choices 240 = .ok (.goto 5, 3) := by decide +kernel
theorem dX12_choices_243 : decode cX12_choices 243 = .ok (.iload 6, 2) := by decide +kernel
theorem dX12_choices_245 : decode cX12_choices 245 = .ok (.ireturn, 1) := by decide +kernel
theorem dX12_isOld_0 : decode cX12_isOld 0 = .ok (.iconst 0, 1) := by decide +kernel
theorem dX12_isOld_1 : decode cX12_isOld 1 = .ok (.istore_n 3, 1) := by decide +kernel
theorem dX12_isOld_2 : decode cX12_isOld 2 = .ok (.iload_n 3, 1) := by decide +kernel
theorem dX12_isOld_3 : decode cX12_isOld 3 = .ok (.iload_n 1, 1) := by decide +kernel
theorem dX12_isOld_4 : decode cX12_isOld 4 = .ok (.if_icmp .ge 127, 3) := by decide +kernel
theorem dX12_isOld_7 : decode cX12_isOld 7 = .ok (.sipush 182, 3) := by decide +kernel
theorem dX12_isOld_10 : decode cX12_isOld 10 = .ok (.iload_n 3, 1) := by decide +kernel
theorem dX12_isOld_11 : decode cX12_isOld 11 = .ok (.imul, 1) := by decide +kernel
theorem dX12_isOld_12 : decode cX12_isOld 12 = .ok (.istore 4, 2) := by decide +kernel
theorem dX12_isOld_14 : decode cX12_isOld 14 = .ok (.aload_n 0, 1) := by decide +kernel
theorem dX12_isOld_15 : decode cX12_isOld 15 = .ok (.getfield 81, 3) := by decide +kernel
theorem dX12_isOld_18 : decode cX12_isOld 18 = .ok (.iload 4, 2) := by decide +kernel
theorem dX12_isOld_20 : decode cX12_isOld 20 = .ok (.iaload, 1) := by decide +kernel
theorem dX12_isOld_21 : decode cX12_isOld 21 = .ok (.iload_n 2, 1) := by decide +kernel
theorem dX12_isOld_22 : decode cX12_isOld 22 = .ok (.ifCond .eq 7, 3) := by decide +kernel
theorem dX12_isOld_25 : decode cX12_isOld 25 = .ok (.iconst 1, 1) := by decide +kernel
theorem dX12_isOld_26 : decode cX12_isOld 26 = .ok (.goto 7, 3) := by decide +kernel
theorem dX12_isOld_29 : decode cX12_isOld 29 = .ok (.aload_n 0, 1) := by decide +kernel
theorem dX12_isOld_30 : decode cX12_isOld 30 = .ok (.getfield 296, 3) := by decide +kernel
theorem dX12_isOld_33 : decode cX12_isOld 33 = .ok (.if_icmp .ne 30, 3) := by decide +kernel
theorem dX12_isOld_36 : decode cX12_isOld 36 = .ok (.iload_n 2, 1) := by decide +kernel
theorem dX12_isOld_37 : decode cX12_isOld 37 = .ok (.ifCond .eq 22, 3) := by decide +kernel
theorem dX12_isOld_40 : decode cX12_isOld 40 = .ok (.aload_n 0, 1) := by decide +kernel
theorem dX12_isOld_41 : decode cX12_isOld 41 = .ok (.getfield 81, 3) := by decide +kernel
theorem dX12_isOld_44 : decode cX12_isOld 44 = .ok (.iload 4, 2) := by decide +kernel
theorem dX12_isOld_46 : decode cX12_isOld 46 = .ok (.iconst 1, 1) := by decide +kernel
theorem dX12_isOld_47 : decode cX12_isOld 47 = .ok (.iadd, 1) := by decide +kernel
theorem dX12_isOld_48 : decode cX12_isOld 48 = .ok (.iaload, 1) := by decide +kernel
theorem dX12_isOld_49 : decode cX12_isOld 49 = .ok (.aload_n 0, 1) := by decide +kernel
theorem dX12_isOld_50 : decode cX12_isOld 50 = .ok (.sipush 29100, 3) := by decide +kernel
theorem dX12_isOld_53 : decode cX12_isOld 53 = .ok (.invokevirtual 368, 3) := by decide +kernel
theorem dX12_isOld_56 : decode cX12_isOld 56 = .ok (.if_icmp .ne 7, 3) := by decide +kernel
theorem dX12_isOld_59 : decode cX12_isOld 59 = .ok (.iconst 1, 1) := by decide +kernel
theorem dX12_isOld_60 : decode cX12_isOld 60 = .ok (.goto 4, 3) := by decide +kernel
theorem dX12_isOld_63 : decode cX12_isOld 63 = .ok (.iconst 0, 1) := by decide +kernel
theorem dX12_isOld_64 : decode cX12_isOld 64 = .ok (.istore 5, 2) := by decide +kernel
theorem dX12_isOld_66 : decode cX12_isOld 66 = .ok (.iconst 0, 1) := by decide +kernel
theorem dX12_isOld_67 : decode cX12_isOld 67 = .ok (.istore 6, 2) := by decide +kernel
theorem dX12_isOld_69 : decode cX12_isOld 69 = .ok (.iload 6, 2) := by decide +kernel
theorem dX12_isOld_71 : decode cX12_isOld 71 = .ok (.aload_n 0, 1) := by decide +kernel
theorem dX12_isOld_72 : decode cX12_isOld 72 = .ok (.getfield 296, 3) := by decide +kernel
theorem dX12_isOld_75 : decode cX12_isOld 75 = .ok (.if_icmp .ge 43, 3) := by decide +kernel
theorem dX12_isOld_78 : decode cX12_isOld 78 = .ok (.iload 5, 2) := by decide +kernel
theorem dX12_isOld_80 : decode cX12_isOld 80 = .ok (.ifCond .eq 38, 3) := by decide +kernel
theorem dX12_isOld_83 : decode cX12_isOld 83 = .ok (.aload_n 0, 1) := by decide +kernel
theorem dX12_isOld_84 : decode cX12_isOld 84 = .ok (.getfield 81, 3) := by decide +kernel
theorem dX12_isOld_87 : decode cX12_isOld 87 = .ok (.iload 4, 2) := by decide +kernel
theorem dX12_isOld_89 : decode cX12_isOld 89 = .ok (.iconst 1, 1) := by decide +kernel
theorem dX12_isOld_90 : decode cX12_isOld 90 = .ok (.iadd, 1) := by decide +kernel
theorem dX12_isOld_91 : decode cX12_isOld 91 = .ok (.iload 6, 2) := by decide +kernel
theorem dX12_isOld_93 : decode cX12_isOld 93 = .ok (.iadd, 1) := by decide +kernel
theorem dX12_isOld_94 : decode cX12_isOld 94 = .ok (.iaload, 1) := by decide +kernel
theorem dX12_isOld_95 : decode cX12_isOld 95 = .ok (.aload_n 0, 1) := by decide +kernel
theorem dX12_isOld_96 : decode cX12_isOld 96 = .ok (.getfield 50, 3) := by decide +kernel
theorem dX12_isOld_99 : decode cX12_isOld 99 = .ok (.iload 6, 2) := by decide +kernel
theorem dX12_isOld_101 : decode cX12_isOld 101 = .ok (.iaload, 1) := by decide +kernel
theorem dX12_isOld_102 : decode cX12_isOld 102 = .ok (.if_icmp .ne 7, 3) := by decide +kernel
theorem dX12_isOld_105 : decode cX12_isOld 105 = .ok (.iconst 1, 1) := by decide +kernel
theorem dX12_isOld_106 : decode cX12_isOld 106 = .ok (.goto 4, 3) := by decide +kernel
theorem dX12_isOld_109 : decode cX12_isOld 109 = .ok (.iconst 0, 1) := by decide +kernel
theorem dX12_isOld_110 : decode cX12_isOld 110 = .ok (.istore 5, 2) := by decide +kernel
theorem dX12_isOld_112 : decode cX12_isOld 112 = .ok (.iinc 6 1, 3) := by decide +kernel
theorem dX12_isOld_115 : decode cX12_isOld 115 = .ok (.goto (-46), 3) := by decide +kernel
theorem dX12_isOld_118 : decode cX12_isOld 118 = .ok (.iload 5, 2) := by decide +kernel
theorem dX12_isOld_120 : decode cX12_isOld 120 = .ok (.ifCond .eq 5, 3) := by decide +kernel
theorem dX12_isOld_123 : decode cX12_isOld 123 = .ok (.iconst 1, 1) := by decide +kernel
theorem dX12_isOld_124 : decode cX12_isOld 124 = .ok (.ireturn, 1) := by decide +kernel
theorem dX12_isOld_125 : decode cX12_isOld 125 = .ok (.iinc 3 1, 3) := by decide +kernel
theorem dX12_isOld_128 : decode cX12_isOld 128 = .ok (.goto (-126), 3) := by decide +kernel
theorem dX12_isOld_131 : decode cX12_isOld 131 = .ok (.sipush 182, 3) := by decide +kernel
theorem dX12_isOld_134 : decode cX12_isOld 134 = .ok (.iload_n 1, 1) := by decide +kernel
theorem dX12_isOld_135 : decode cX12_isOld 135 = .ok (.imul, 1) := by decide +kernel
theorem dX12_isOld_136 : decode cX12_isOld 136 = .ok (.istore_n 3, 1) := by decide +kernel
theorem dX12_isOld_137 : decode cX12_isOld 137 = .ok (.aload_n 0, 1) := by decide +kernel
theorem dX12_isOld_138 : decode cX12_isOld 138 = .ok (.getfield 81, 3) := by decide +kernel
theorem dX12_isOld_141 : decode cX12_isOld 141 = .ok (.iload_n 3, 1) := by decide +kernel
theorem dX12_isOld_142 : decode cX12_isOld 142 = .ok (.iload_n 2, 1) := by decide +kernel
theorem dX12_isOld_143 : decode cX12_isOld 143 = .ok (.ifCond .eq 7, 3) := by decide +kernel
theorem dX12_isOld_146 : decode cX12_isOld 146 = .ok (.iconst 1, 1) := by decide +kernel
theorem dX12_isOld_147 : decode cX12_isOld 147 = .ok (.goto 7, 3) := by decide +kernel
theorem dX12_isOld_150 : decode cX12_isOld 150 = .ok (.aload_n 0, 1) := by decide +kernel
theorem dX12_isOld_151 : decode cX12_isOld 151 = .ok (.getfield 296, 3) := by decide +kernel
theorem dX12_isOld_154 : decode cX12_isOld 154 = .ok (.iastore, 1) := by decide +kernel
theorem dX12_isOld_155 : decode cX12_isOld 155 = .ok (.iload_n 2, 1) := by decide +kernel
theorem dX12_isOld_156 : decode cX12_isOld 156 = .ok (.ifCond .eq 18, 3) := by decide +kernel
theorem dX12_isOld_159 : decode cX12_isOld 159 = .ok (.aload_n 0, 1) := by decide +kernel
theorem dX12_isOld_160 : decode cX12_isOld 160 = .ok (.getfield 81, 3) := by decide +kernel
theorem dX12_isOld_163 : decode cX12_isOld 163 = .ok (.iload_n 3, 1) := by decide +kernel
theorem dX12_isOld_164 : decode cX12_isOld 164 = .ok (.iconst 1, 1) := by decide +kernel
theorem dX12_isOld_165 : decode cX12_isOld 165 = .ok (.iadd, 1) := by decide +kernel
theorem dX12_isOld_166 : decode cX12_isOld 166 = .ok (.aload_n 0, 1) := by decide +kernel
theorem dX12_isOld_167 : decode cX12_isOld 167 = .ok (.sipush 29100, 3) := by decide +kernel
theorem dX12_isOld_170 : decode cX12_isOld 170 = .ok (.invokevirtual 368, 3) := by decide +kernel
theorem dX12_isOld_173 : decode cX12_isOld 173 = .ok (.iastore, 1) := by decide +kernel
theorem dX12_isOld_174 : decode cX12_isOld 174 = .ok (.iconst 0, 1) := by decide +kernel
theorem dX12_isOld_175 : decode cX12_isOld 175 = .ok (.istore 4, 2) := by decide +kernel
theorem dX12_isOld_177 : decode cX12_isOld 177 = .ok (.iload 4, 2) := by decide +kernel
theorem dX12_isOld_179 : decode cX12_isOld 179 = .ok (.aload_n 0, 1) := by decide +kernel
theorem dX12_isOld_180 : decode cX12_isOld 180 = .ok (.getfield 296, 3) := by decide +kernel
theorem dX12_isOld_183 : decode cX12_isOld 183 = .ok (.if_icmp .ge 27, 3) := by decide +kernel
theorem dX12_isOld_186 : decode cX12_isOld 186 = .ok (.aload_n 0, 1) := by decide +kernel
theorem dX12_isOld_187 : decode cX12_isOld 187 = .ok (.getfield 81, 3) := by decide +kernel
theorem dX12_isOld_190 : decode cX12_isOld 190 = .ok (.iload_n 3, 1) := by decide +kernel
theorem dX12_isOld_191 : decode cX12_isOld 191 = .ok (.iconst 1, 1) := by decide +kernel
theorem dX12_isOld_192 : decode cX12_isOld 192 = .ok (.iadd, 1) := by decide +kernel
theorem dX12_isOld_193 : decode cX12_isOld 193 = .ok (.iload 4, 2) := by decide +kernel
theorem dX12_isOld_195 : decode cX12_isOld 195 = .ok (.iadd, 1) := by decide +kernel
theorem dX12_isOld_196 : decode cX12_isOld 196 = .ok (.aload_n 0, 1) := by decide +kernel
theorem dX12_isOld_197 : decode cX12_isOld 197 = .ok (.getfield 50, 3) := by decide +kernel
theorem dX12_isOld_200 : decode cX12_isOld 200 = .ok (.iload 4, 2) := by decide +kernel
theorem dX12_isOld_202 : decode cX12_isOld 202 = .ok (.iaload, 1) := by decide +kernel
theorem dX12_isOld_203 : decode cX12_isOld 203 = .ok (.iastore, 1) := by decide +kernel
theorem dX12_isOld_204 : decode cX12_isOld 204 = .ok (.iinc 4 1, 3) := by decide +kernel
theorem dX12_isOld_207 : decode cX12_isOld 207 = .ok (.goto (-30), 3) := by decide +kernel
theorem dX12_isOld_210 : decode cX12_isOld 210 = .ok (.iconst 0, 1) := by decide +kernel
theorem dX12_isOld_211 : decode cX12_isOld 211 = .ok (.ireturn, 1) := by decide +kernel
theorem dX12_answers_0 : decode cX12_answers 0 = .ok (.aload_n 0, 1) := by decide +kernel
theorem dX12_answers_1 : decode cX12_answers 1 = .ok (.iload_n 1, 1) := by decide +kernel
theorem dX12_answers_2 : decode cX12_answers 2 = .ok (.invokevirtual 278, 3) := by decide +kernel
theorem dX12_answers_5 : decode cX12_answers 5 = .ok (.ifCond .eq 11, 3) := by decide +kernel
theorem dX12_answers_8 : decode cX12_answers 8 = .ok (.aload_n 0, 1) := by decide +kernel
theorem dX12_answers_9 : decode cX12_answers 9 = .ok (.iload_n 2, 1) := by decide +kernel
theorem dX12_answers_10 : decode cX12_answers 10 = .ok (.invokevirtual 281, 3) := by decide +kernel
theorem dX12_answers_13 : decode cX12_answers 13 = .ok (.ifCond .ne 9, 3) := by decide +kernel
theorem dX12_answers_16 : decode cX12_answers 16 = .ok (.aload_n 0, 1) := by decide +kernel
theorem dX12_answers_17 : decode cX12_answers 17 = .ok (.iconst 1, 1) := by decide +kernel
theorem dX12_answers_18 : decode cX12_answers 18 = .ok (.invokevirtual 190, 3) := by decide +kernel
theorem dX12_answers_21 : decode cX12_answers 21 = .ok (.ireturn, 1) := by decide +kernel
theorem dX12_answers_22 : decode cX12_answers 22 = .ok (.aload_n 0, 1) := by decide +kernel
theorem dX12_answers_23 : decode cX12_answers 23 = .ok (.iload_n 1, 1) := by decide +kernel
theorem dX12_answers_24 : decode cX12_answers 24 = .ok (.iload_n 2, 1) := by decide +kernel
theorem dX12_answers_25 : decode cX12_answers 25 = .ok (.invokevirtual 356, 3) := by decide +kernel
theorem dX12_answers_28 : decode cX12_answers 28 = .ok (.ifCond .eq 17, 3) := by decide +kernel
theorem dX12_answers_31 : decode cX12_answers 31 = .ok (.aload_n 0, 1) := by decide +kernel
theorem dX12_answers_32 : decode cX12_answers 32 = .ok (.aload_n 0, 1) := by decide +kernel
theorem dX12_answers_33 : decode cX12_answers 33 = .ok (.iload_n 1, 1) := by decide +kernel
theorem dX12_answers_34 : decode cX12_answers 34 = .ok (.iconst 1, 1) := by decide +kernel
theorem dX12_answers_35 : decode cX12_answers 35 = .ok (.iconst (-1), 1) := by decide +kernel
theorem dX12_answers_36 : decode cX12_answers 36 = .ok (.invokevirtual 424, 3) := by decide +kernel
theorem dX12_answers_39 : decode cX12_answers 39 = .ok (.invokevirtual 193, 3) := by decide +kernel
theorem dX12_answers_42 : decode cX12_answers 42 = .ok (.goto 9, 3) := by decide +kernel
theorem dX12_answers_45 : decode cX12_answers 45 = .ok (.aload_n 0, 1) := by decide +kernel
theorem dX12_answers_46 : decode cX12_answers 46 = .ok (.bipush 7, 2) := by decide +kernel
theorem dX12_answers_48 : decode cX12_answers 48 = .ok (.invokevirtual 190, 3) := by decide +kernel
theorem dX12_answers_51 : decode cX12_answers 51 = .ok (.ireturn, 1) := by decide +kernel
theorem dX12_odds_0 : decode cX12_odds 0 = .ok (.aload_n 0, 1) := by decide +kernel
theorem dX12_odds_1 : decode cX12_odds 1 = .ok (.iload_n 1, 1) := by decide +kernel
theorem dX12_odds_2 : decode cX12_odds 2 = .ok (.invokevirtual 278, 3) := by decide +kernel
theorem dX12_odds_5 : decode cX12_odds 5 = .ok (.ifCond .eq 23, 3) := by decide +kernel
theorem dX12_odds_8 : decode cX12_odds 8 = .ok (.aload_n 0, 1) := by decide +kernel
theorem dX12_odds_9 : decode cX12_odds 9 = .ok (.iload_n 2, 1) := by decide +kernel
theorem dX12_odds_10 : decode cX12_odds 10 = .ok (.invokevirtual 281, 3) := by decide +kernel
theorem dX12_odds_13 : decode cX12_odds 13 = .ok (.ifCond .eq 15, 3) := by decide +kernel
theorem dX12_odds_16 : decode cX12_odds 16 = .ok (.iload_n 3, 1) := by decide +kernel
theorem dX12_odds_17 : decode cX12_odds 17 = .ok (.i2l, 1) := by decide +kernel
theorem dX12_odds_18 : decode cX12_odds 18 = .ok (.lconst 0, 1) := by decide +kernel
theorem dX12_odds_19 : decode cX12_odds 19 = .ok (.ldc2_w 326, 3) := by decide +kernel
theorem dX12_odds_22 : decode cX12_odds 22 = .ok (.invokestatic 328, 3) := by decide +kernel
theorem dX12_odds_25 : decode cX12_odds 25 = .ok (.ifCond .ne 9, 3) := by decide +kernel
theorem dX12_odds_28 : decode cX12_odds 28 = .ok (.aload_n 0, 1) := by decide +kernel
theorem dX12_odds_29 : decode cX12_odds 29 = .ok (.iconst 1, 1) := by decide +kernel
theorem dX12_odds_30 : decode cX12_odds 30 = .ok (.invokevirtual 103, 3) := by decide +kernel
theorem dX12_odds_33 : decode cX12_odds 33 = .ok (.ireturn, 1) := by decide +kernel
theorem dX12_odds_34 : decode cX12_odds 34 = .ok (.aload_n 0, 1) := by decide +kernel
theorem dX12_odds_35 : decode cX12_odds 35 = .ok (.iload_n 1, 1) := by decide +kernel
theorem dX12_odds_36 : decode cX12_odds 36 = .ok (.invokevirtual 287, 3) := by decide +kernel
theorem dX12_odds_39 : decode cX12_odds 39 = .ok (.ifCond .ne 12, 3) := by decide +kernel
theorem dX12_odds_42 : decode cX12_odds 42 = .ok (.aload_n 0, 1) := by decide +kernel
theorem dX12_odds_43 : decode cX12_odds 43 = .ok (.iload_n 1, 1) := by decide +kernel
theorem dX12_odds_44 : decode cX12_odds 44 = .ok (.iload_n 2, 1) := by decide +kernel
theorem dX12_odds_45 : decode cX12_odds 45 = .ok (.invokevirtual 356, 3) := by decide +kernel
theorem dX12_odds_48 : decode cX12_odds 48 = .ok (.ifCond .ne 10, 3) := by decide +kernel
theorem dX12_odds_51 : decode cX12_odds 51 = .ok (.aload_n 0, 1) := by decide +kernel
theorem dX12_odds_52 : decode cX12_odds 52 = .ok (.bipush 7, 2) := by decide +kernel
theorem dX12_odds_54 : decode cX12_odds 54 = .ok (.invokevirtual 103, 3) := by decide +kernel
theorem dX12_odds_57 : decode cX12_odds 57 = .ok (.ireturn, 1) := by decide +kernel
theorem dX12_odds_58 : decode cX12_odds 58 = .ok (.aload_n 0, 1) := by decide +kernel
theorem dX12_odds_59 : decode cX12_odds 59 = .ok (.aload_n 0, 1) := by decide +kernel
theorem dX12_odds_60 : decode cX12_odds 60 = .ok (.iload_n 1, 1) := by decide +kernel
theorem dX12_odds_61 : decode cX12_odds 61 = .ok (.iconst 2, 1) := by decide +kernel
theorem dX12_odds_62 : decode cX12_odds 62 = .ok (.iload_n 3, 1) := by decide +kernel
theorem dX12_odds_63 : decode cX12_odds 63 = .ok (.invokevirtual 424, 3) := by decide +kernel
theorem dX12_odds_66 : decode cX12_odds 66 = .ok (.i2l, 1) := by decide +kernel
theorem dX12_odds_67 : decode cX12_odds 67 = .ok (.aload_n 0, 1) := by decide +kernel
theorem dX12_odds_68 : decode cX12_odds 68 = .ok (.iload_n 1, 1) := by decide +kernel
theorem dX12_odds_69 : decode cX12_odds 69 = .ok (.iconst 0, 1) := by decide +kernel
theorem dX12_odds_70 : decode cX12_odds 70 = .ok (.iload_n 3, 1) := by decide +kernel
theorem dX12_odds_71 : decode cX12_odds 71 = .ok (.invokevirtual 424, 3) := by decide +kernel
theorem dX12_odds_74 : decode cX12_odds 74 = .ok (.i2l, 1) := by decide +kernel
theorem dX12_odds_75 : decode cX12_odds 75 = .ok (.invokevirtual 427, 3) := by decide +kernel
theorem dX12_odds_78 : decode cX12_odds 78 = .ok (.ireturn, 1) := by decide +kernel
theorem dX12_fewestFalls_0 : decode cX12_fewestFalls 0 = .ok (.aload_n 0, 1) := by decide +kernel
theorem dX12_fewestFalls_1 : decode cX12_fewestFalls 1 = .ok (.iload_n 1, 1) := by decide +kernel
theorem dX12_fewestFalls_2 : decode cX12_fewestFalls 2 = .ok (.invokevirtual 278, 3) := by decide +kernel
theorem dX12_fewestFalls_5 : decode cX12_fewestFalls 5 = .ok (.ifCond .eq 11, 3) := by decide +kernel
theorem dX12_fewestFalls_8 : decode cX12_fewestFalls 8 = .ok (.aload_n 0, 1) := by decide +kernel
theorem dX12_fewestFalls_9 : decode cX12_fewestFalls 9 = .ok (.iload_n 2, 1) := by decide +kernel
theorem dX12_fewestFalls_10 : decode cX12_fewestFalls 10 = .ok (.invokevirtual 281, 3) := by decide +kernel
theorem dX12_fewestFalls_13 : decode cX12_fewestFalls 13 = .ok (.ifCond .ne 9, 3) := by decide +kernel
theorem dX12_fewestFalls_16 : decode cX12_fewestFalls 16 = .ok (.aload_n 0, 1) := by decide +kernel
theorem dX12_fewestFalls_17 : decode cX12_fewestFalls 17 = .ok (.iconst 1, 1) := by decide +kernel
theorem dX12_fewestFalls_18 : decode cX12_fewestFalls 18 = .ok (.invokevirtual 190, 3) := by decide +kernel
theorem dX12_fewestFalls_21 : decode cX12_fewestFalls 21 = .ok (.ireturn, 1) := by decide +kernel
theorem dX12_fewestFalls_22 : decode cX12_fewestFalls 22 = .ok (.aload_n 0, 1) := by decide +kernel
theorem dX12_fewestFalls_23 : decode cX12_fewestFalls 23 = .ok (.iload_n 1, 1) := by decide +kernel
theorem dX12_fewestFalls_24 : decode cX12_fewestFalls 24 = .ok (.iload_n 2, 1) := by decide +kernel
theorem dX12_fewestFalls_25 : decode cX12_fewestFalls 25 = .ok (.invokevirtual 356, 3) := by decide +kernel
theorem dX12_fewestFalls_28 : decode cX12_fewestFalls 28 = .ok (.ifCond .ne 10, 3) := by decide +kernel
theorem dX12_fewestFalls_31 : decode cX12_fewestFalls 31 = .ok (.aload_n 0, 1) := by decide +kernel
theorem dX12_fewestFalls_32 : decode cX12_fewestFalls 32 = .ok (.bipush 7, 2) := by decide +kernel
theorem dX12_fewestFalls_34 : decode cX12_fewestFalls 34 = .ok (.invokevirtual 190, 3) := by decide +kernel
theorem dX12_fewestFalls_37 : decode cX12_fewestFalls 37 = .ok (.ireturn, 1) := by decide +kernel
theorem dX12_fewestFalls_38 : decode cX12_fewestFalls 38 = .ok (.aload_n 0, 1) := by decide +kernel
theorem dX12_fewestFalls_39 : decode cX12_fewestFalls 39 = .ok (.iload_n 2, 1) := by decide +kernel
theorem dX12_fewestFalls_40 : decode cX12_fewestFalls 40 = .ok (.iload_n 1, 1) := by decide +kernel
theorem dX12_fewestFalls_41 : decode cX12_fewestFalls 41 = .ok (.invokevirtual 317, 3) := by decide +kernel
theorem dX12_fewestFalls_44 : decode cX12_fewestFalls 44 = .ok (.ifCond .eq 12, 3) := by decide +kernel
theorem dX12_fewestFalls_47 : decode cX12_fewestFalls 47 = .ok (.aload_n 0, 1) := by decide +kernel
theorem dX12_fewestFalls_48 : decode cX12_fewestFalls 48 = .ok (.getfield 350, 3) := by decide +kernel
theorem dX12_fewestFalls_51 : decode cX12_fewestFalls 51 = .ok (.iconst 1, 1) := by decide +kernel
theorem dX12_fewestFalls_52 : decode cX12_fewestFalls 52 = .ok (.isub, 1) := by decide +kernel
theorem dX12_fewestFalls_53 : decode cX12_fewestFalls 53 = .ok (.goto 7, 3) := by decide +kernel
theorem dX12_fewestFalls_56 : decode cX12_fewestFalls 56 = .ok (.aload_n 0, 1) := by decide +kernel
theorem dX12_fewestFalls_57 : decode cX12_fewestFalls 57 = .ok (.getfield 350, 3) := by decide +kernel
theorem dX12_fewestFalls_60 : decode cX12_fewestFalls 60 = .ok (.istore_n 3, 1) := by decide +kernel
theorem dX12_fewestFalls_61 : decode cX12_fewestFalls 61 = .ok (.aload_n 0, 1) := by decide +kernel
theorem dX12_fewestFalls_62 : decode cX12_fewestFalls 62 = .ok (.getfield 350, 3) := by decide +kernel
theorem dX12_fewestFalls_65 : decode cX12_fewestFalls 65 = .ok (.aload_n 0, 1) := by decide +kernel
theorem dX12_fewestFalls_66 : decode cX12_fewestFalls 66 = .ok (.getfield 7, 3) := by decide +kernel
theorem dX12_fewestFalls_69 : decode cX12_fewestFalls 69 = .ok (.iconst 1, 1) := by decide +kernel
theorem dX12_fewestFalls_70 : decode cX12_fewestFalls 70 = .ok (.iaload, 1) := by decide +kernel
theorem dX12_fewestFalls_71 : decode cX12_fewestFalls 71 = .ok (.isub, 1) := by decide +kernel
theorem dX12_fewestFalls_72 : decode cX12_fewestFalls 72 = .ok (.iconst 1, 1) := by decide +kernel
theorem dX12_fewestFalls_73 : decode cX12_fewestFalls 73 = .ok (.iadd, 1) := by decide +kernel
theorem dX12_fewestFalls_74 : decode cX12_fewestFalls 74 = .ok (.istore 4, 2) := by decide +kernel
theorem dX12_fewestFalls_76 : decode cX12_fewestFalls 76 = .ok (.iload 4, 2) := by decide +kernel
theorem dX12_fewestFalls_78 : decode cX12_fewestFalls 78 = .ok (.iload_n 3, 1) := by decide +kernel
theorem dX12_fewestFalls_79 : decode cX12_fewestFalls 79 = .ok (.if_icmp .le 12, 3) := by decide +kernel
theorem dX12_fewestFalls_82 : decode cX12_fewestFalls 82 = .ok (.aload_n 0, 1) := by decide +kernel
theorem dX12_fewestFalls_83 : decode cX12_fewestFalls 83 = .ok (.bipush 6, 2) := by decide +kernel
theorem dX12_fewestFalls_85 : decode cX12_fewestFalls 85 = .ok (.invokevirtual 190, 3) := by decide +kernel
theorem dX12_fewestFalls_88 : decode cX12_fewestFalls 88 = .ok (.goto 9, 3) := by decide +kernel
theorem dX12_fewestFalls_91 : decode cX12_fewestFalls 91 = .ok (.aload_n 0, 1) := by decide +kernel
theorem dX12_fewestFalls_92 : decode cX12_fewestFalls 92 = .ok (.iload 4, 2) := by decide +kernel
theorem dX12_fewestFalls_94 : decode cX12_fewestFalls 94 = .ok (.invokevirtual 193, 3) := by decide +kernel
theorem dX12_fewestFalls_97 : decode cX12_fewestFalls 97 = .ok (.ireturn, 1) := by decide +kernel
theorem dX12_draw_0 : decode cX12_draw 0 = .ok (.aload_n 0, 1) := by decide +kernel
theorem dX12_draw_1 : decode cX12_draw 1 = .ok (.aload_n 0, 1) := by decide +kernel
theorem dX12_draw_2 : decode cX12_draw 2 = .ok (.getfield 431, 3) := by decide +kernel
theorem dX12_draw_5 : decode cX12_draw 5 = .ok (.sipush 2801, 3) := by decide +kernel
theorem dX12_draw_8 : decode cX12_draw 8 = .ok (.imul, 1) := by decide +kernel
theorem dX12_draw_9 : decode cX12_draw 9 = .ok (.sipush 12413, 3) := by decide +kernel
theorem dX12_draw_12 : decode cX12_draw 12 = .ok (.iadd, 1) := by decide +kernel
theorem dX12_draw_13 : decode cX12_draw 13 = .ok (.ldc_w 434, 3) := by decide +kernel
theorem dX12_draw_16 : decode cX12_draw 16 = .ok (.irem, 1) := by decide +kernel
theorem dX12_draw_17 : decode cX12_draw 17 = .ok (.putfield 431, 3) := by decide +kernel
theorem dX12_draw_20 : decode cX12_draw 20 = .ok (.aload_n 0, 1) := by decide +kernel
theorem dX12_draw_21 : decode cX12_draw 21 = .ok (.getfield 431, 3) := by decide +kernel
theorem dX12_draw_24 : decode cX12_draw 24 = .ok (.bipush 8, 2) := by decide +kernel
theorem dX12_draw_26 : decode cX12_draw 26 = .ok (.idiv, 1) := by decide +kernel
theorem dX12_draw_27 : decode cX12_draw 27 = .ok (.bipush 16, 2) := by decide +kernel
theorem dX12_draw_29 : decode cX12_draw 29 = .ok (.irem, 1) := by decide +kernel
theorem dX12_draw_30 : decode cX12_draw 30 = .ok (.ireturn, 1) := by decide +kernel
theorem dX12_counts_0 : decode cX12_counts 0 = .ok (.aload_n 0, 1) := by decide +kernel
theorem dX12_counts_1 : decode cX12_counts 1 = .ok (.getfield 87, 3) := by decide +kernel
theorem dX12_counts_4 : decode cX12_counts 4 = .ok (.iload_n 1, 1) := by decide +kernel
theorem dX12_counts_5 : decode cX12_counts 5 = .ok (.ifCond .le 15, 3) := by decide +kernel
theorem dX12_counts_8 : decode cX12_counts 8 = .ok (.aload_n 0, 1) := by decide +kernel
theorem dX12_counts_9 : decode cX12_counts 9 = .ok (.getfield 59, 3) := by decide +kernel
theorem dX12_counts_12 : decode cX12_counts 12 = .ok (.iconst 1, 1) := by decide +kernel
theorem dX12_counts_13 : decode cX12_counts 13 = .ok (.if_icmp .ne 7, 3) := by decide +kernel
theorem dX12_counts_16 : decode cX12_counts 16 = .ok (.iconst 1, 1) := by decide +kernel
theorem dX12_counts_17 : decode cX12_counts 17 = .ok (.goto 4, 3) := by decide +kernel
theorem dX12_counts_20 : decode cX12_counts 20 = .ok (.iconst 2, 1) := by decide +kernel
theorem dX12_counts_21 : decode cX12_counts 21 = .ok (.dup2, 1) := by decide +kernel
theorem dX12_counts_22 : decode cX12_counts 22 = .ok (.iaload, 1) := by decide +kernel
theorem dX12_counts_23 : decode cX12_counts 23 = .ok (.iconst 1, 1) := by decide +kernel
theorem dX12_counts_24 : decode cX12_counts 24 = .ok (.iadd, 1) := by decide +kernel
theorem dX12_counts_25 : decode cX12_counts 25 = .ok (.iastore, 1) := by decide +kernel
theorem dX12_counts_26 : decode cX12_counts 26 = .ok (.return_, 1) := by decide +kernel
theorem dX12_does_0 : decode cX12_does 0 = .ok (.aload_n 0, 1) := by decide +kernel
theorem dX12_does_1 : decode cX12_does 1 = .ok (.getfield 7, 3) := by decide +kernel
theorem dX12_does_4 : decode cX12_does 4 = .ok (.iload_n 1, 1) := by decide +kernel
theorem dX12_does_5 : decode cX12_does 5 = .ok (.iconst 1, 1) := by decide +kernel
theorem dX12_does_6 : decode cX12_does 6 = .ok (.iadd, 1) := by decide +kernel
theorem dX12_does_7 : decode cX12_does 7 = .ok (.iaload, 1) := by decide +kernel
theorem dX12_does_8 : decode cX12_does 8 = .ok (.istore_n 2, 1) := by decide +kernel
theorem dX12_does_9 : decode cX12_does 9 = .ok (.aload_n 0, 1) := by decide +kernel
theorem dX12_does_10 : decode cX12_does 10 = .ok (.getfield 7, 3) := by decide +kernel
theorem dX12_does_13 : decode cX12_does 13 = .ok (.iload_n 1, 1) := by decide +kernel
theorem dX12_does_14 : decode cX12_does 14 = .ok (.iconst 2, 1) := by decide +kernel
theorem dX12_does_15 : decode cX12_does 15 = .ok (.iadd, 1) := by decide +kernel
theorem dX12_does_16 : decode cX12_does 16 = .ok (.iaload, 1) := by decide +kernel
theorem dX12_does_17 : decode cX12_does 17 = .ok (.istore_n 3, 1) := by decide +kernel
theorem dX12_does_18 : decode cX12_does 18 = .ok (.aload_n 0, 1) := by decide +kernel
theorem dX12_does_19 : decode cX12_does 19 = .ok (.getfield 7, 3) := by decide +kernel
theorem dX12_does_22 : decode cX12_does 22 = .ok (.iload_n 1, 1) := by decide +kernel
theorem dX12_does_23 : decode cX12_does 23 = .ok (.iaload, 1) := by decide +kernel
theorem dX12_does_24 : decode cX12_does 24 = .ok (.tableswitch 413 7 18 #[64, 64, 147, 190, 231, 248, 263, 271, 282, 293, 309, 349], 64) := by decide +kernel
theorem dX12_does_88 : decode cX12_does 88 = .ok (.aload_n 0, 1) := by decide +kernel
theorem dX12_does_89 : decode cX12_does 89 = .ok (.getfield 7, 3) := by decide +kernel
theorem dX12_does_92 : decode cX12_does 92 = .ok (.sipush 4440, 3) := by decide +kernel
theorem dX12_does_95 : decode cX12_does 95 = .ok (.iaload, 1) := by decide +kernel
theorem dX12_does_96 : decode cX12_does 96 = .ok (.iload_n 2, 1) := by decide +kernel
theorem dX12_does_97 : decode cX12_does 97 = .ok (.if_icmp .ne 7, 3) := by decide +kernel
theorem dX12_does_100 : decode cX12_does 100 = .ok (.iconst 0, 1) := by decide +kernel
theorem dX12_does_101 : decode cX12_does 101 = .ok (.goto 4, 3) := by decide +kernel
theorem dX12_does_104 : decode cX12_does 104 = .ok (.iconst (-1), 1) := by decide +kernel
theorem dX12_does_105 : decode cX12_does 105 = .ok (.istore 4, 2) := by decide +kernel
theorem dX12_does_107 : decode cX12_does 107 = .ok (.aload_n 0, 1) := by decide +kernel
theorem dX12_does_108 : decode cX12_does 108 = .ok (.iload_n 2, 1) := by decide +kernel
theorem dX12_does_109 : decode cX12_does 109 = .ok (.iload_n 3, 1) := by decide +kernel
theorem dX12_does_110 : decode cX12_does 110 = .ok (.iload 4, 2) := by decide +kernel
theorem dX12_does_112 : decode cX12_does 112 = .ok (.invokevirtual 335, 3) := by decide +kernel
theorem dX12_does_115 : decode cX12_does 115 = .ok (.ifCond .le 16, 3) := by decide +kernel
theorem dX12_does_118 : decode cX12_does 118 = .ok (.aload_n 0, 1) := by decide +kernel
theorem dX12_does_119 : decode cX12_does 119 = .ok (.getfield 87, 3) := by decide +kernel
theorem dX12_does_122 : decode cX12_does 122 = .ok (.iconst 0, 1) := by decide +kernel
theorem dX12_does_123 : decode cX12_does 123 = .ok (.dup2, 1) := by decide +kernel
theorem dX12_does_124 : decode cX12_does 124 = .ok (.iaload, 1) := by decide +kernel
theorem dX12_does_125 : decode cX12_does 125 = .ok (.iconst 1, 1) := by decide +kernel
theorem dX12_does_126 : decode cX12_does 126 = .ok (.iadd, 1) := by decide +kernel
theorem dX12_does_127 : decode cX12_does 127 = .ok (.iastore, 1) := by decide +kernel
theorem dX12_does_128 : decode cX12_does 128 = .ok (.goto 309, 3) := by decide +kernel
theorem dX12_does_131 : decode cX12_does 131 = .ok (.aload_n 0, 1) := by decide +kernel
theorem dX12_does_132 : decode cX12_does 132 = .ok (.aload_n 0, 1) := by decide +kernel
theorem dX12_does_133 : decode cX12_does 133 = .ok (.iload_n 2, 1) := by decide +kernel
theorem dX12_does_134 : decode cX12_does 134 = .ok (.iload_n 3, 1) := by decide +kernel
theorem dX12_does_135 : decode cX12_does 135 = .ok (.aload_n 0, 1) := by decide +kernel
theorem dX12_does_136 : decode cX12_does 136 = .ok (.getfield 7, 3) := by decide +kernel
theorem dX12_does_139 : decode cX12_does 139 = .ok (.iload_n 1, 1) := by decide +kernel
theorem dX12_does_140 : decode cX12_does 140 = .ok (.iaload, 1) := by decide +kernel
theorem dX12_does_141 : decode cX12_does 141 = .ok (.bipush 8, 2) := by decide +kernel
theorem dX12_does_143 : decode cX12_does 143 = .ok (.if_icmp .ne 9, 3) := by decide +kernel
theorem dX12_does_146 : decode cX12_does 146 = .ok (.sipush 1000, 3) := by decide +kernel
theorem dX12_does_149 : decode cX12_does 149 = .ok (.goto 11, 3) := by decide +kernel
theorem dX12_does_152 : decode cX12_does 152 = .ok (.aload_n 0, 1) := by decide +kernel
theorem dX12_does_153 : decode cX12_does 153 = .ok (.getfield 7, 3) := by decide +kernel
theorem dX12_does_156 : decode cX12_does 156 = .ok (.iload_n 1, 1) := by decide +kernel
theorem dX12_does_157 : decode cX12_does 157 = .ok (.iconst 3, 1) := by decide +kernel
theorem dX12_does_158 : decode cX12_does 158 = .ok (.iadd, 1) := by decide +kernel
theorem dX12_does_159 : decode cX12_does 159 = .ok (.iaload, 1) := by decide +kernel
theorem dX12_does_160 : decode cX12_does 160 = .ok (.iload 4, 2) := by decide +kernel
theorem dX12_does_162 : decode cX12_does 162 = .ok (.invokevirtual 338, 3) := by decide +kernel
theorem dX12_does_165 : decode cX12_does 165 = .ok (.invokevirtual 435, 3) := by decide +kernel
theorem dX12_does_168 : decode cX12_does 168 = .ok (.goto 269, 3) := by decide +kernel
theorem dX12_does_171 : decode cX12_does 171 = .ok (.aload_n 0, 1) := by decide +kernel
theorem dX12_does_172 : decode cX12_does 172 = .ok (.iload_n 2, 1) := by decide +kernel
theorem dX12_does_173 : decode cX12_does 173 = .ok (.iload_n 3, 1) := by decide +kernel
theorem dX12_does_174 : decode cX12_does 174 = .ok (.invokevirtual 320, 3) := by decide +kernel
theorem dX12_does_177 : decode cX12_does 177 = .ok (.ifCond .eq 24, 3) := by decide +kernel
theorem dX12_does_180 : decode cX12_does 180 = .ok (.aload_n 0, 1) := by decide +kernel
theorem dX12_does_181 : decode cX12_does 181 = .ok (.aload_n 0, 1) := by decide +kernel
theorem dX12_does_182 : decode cX12_does 182 = .ok (.iload_n 2, 1) := by decide +kernel
theorem dX12_does_183 : decode cX12_does 183 = .ok (.iload_n 3, 1) := by decide +kernel
theorem dX12_does_184 : decode cX12_does 184 = .ok (.aload_n 0, 1) := by decide +kernel
theorem dX12_does_185 : decode cX12_does 185 = .ok (.getfield 7, 3) := by decide +kernel
theorem dX12_does_188 : decode cX12_does 188 = .ok (.iload_n 1, 1) := by decide +kernel
theorem dX12_does_189 : decode cX12_does 189 = .ok (.iconst 3, 1) := by decide +kernel
theorem dX12_does_190 : decode cX12_does 190 = .ok (.iadd, 1) := by decide +kernel
theorem dX12_does_191 : decode cX12_does 191 = .ok (.iaload, 1) := by decide +kernel
theorem dX12_does_192 : decode cX12_does 192 = .ok (.invokevirtual 347, 3) := by decide +kernel
theorem dX12_does_195 : decode cX12_does 195 = .ok (.invokevirtual 435, 3) := by decide +kernel
theorem dX12_does_198 : decode cX12_does 198 = .ok (.goto 239, 3) := by decide +kernel
theorem dX12_does_201 : decode cX12_does 201 = .ok (.aload_n 0, 1) := by decide +kernel
theorem dX12_does_202 : decode cX12_does 202 = .ok (.getfield 87, 3) := by decide +kernel
theorem dX12_does_205 : decode cX12_does 205 = .ok (.iconst 0, 1) := by decide +kernel
theorem dX12_does_206 : decode cX12_does 206 = .ok (.dup2, 1) := by decide +kernel
theorem dX12_does_207 : decode cX12_does 207 = .ok (.iaload, 1) := by decide +kernel
theorem dX12_does_208 : decode cX12_does 208 = .ok (.iconst 1, 1) := by decide +kernel
theorem dX12_does_209 : decode cX12_does 209 = .ok (.iadd, 1) := by decide +kernel
theorem dX12_does_210 : decode cX12_does 210 = .ok (.iastore, 1) := by decide +kernel
theorem dX12_does_211 : decode cX12_does 211 = .ok (.goto 226, 3) := by decide +kernel
theorem dX12_does_214 : decode cX12_does 214 = .ok (.aload_n 0, 1) := by decide +kernel
theorem dX12_does_215 : decode cX12_does 215 = .ok (.iload_n 2, 1) := by decide +kernel
theorem dX12_does_216 : decode cX12_does 216 = .ok (.iload_n 3, 1) := by decide +kernel
theorem dX12_does_217 : decode cX12_does 217 = .ok (.invokevirtual 356, 3) := by decide +kernel
theorem dX12_does_220 : decode cX12_does 220 = .ok (.ifCond .eq 22, 3) := by decide +kernel
theorem dX12_does_223 : decode cX12_does 223 = .ok (.aload_n 0, 1) := by decide +kernel
theorem dX12_does_224 : decode cX12_does 224 = .ok (.iload_n 2, 1) := by decide +kernel
theorem dX12_does_225 : decode cX12_does 225 = .ok (.iconst 0, 1) := by decide +kernel
theorem dX12_does_226 : decode cX12_does 226 = .ok (.invokevirtual 359, 3) := by decide +kernel
theorem dX12_does_229 : decode cX12_does 229 = .ok (.aload_n 0, 1) := by decide +kernel
theorem dX12_does_230 : decode cX12_does 230 = .ok (.getfield 87, 3) := by decide +kernel
theorem dX12_does_233 : decode cX12_does 233 = .ok (.iconst 3, 1) := by decide +kernel
theorem dX12_does_234 : decode cX12_does 234 = .ok (.dup2, 1) := by decide +kernel
theorem dX12_does_235 : decode cX12_does 235 = .ok (.iaload, 1) := by decide +kernel
theorem dX12_does_236 : decode cX12_does 236 = .ok (.iconst 1, 1) := by decide +kernel
theorem dX12_does_237 : decode cX12_does 237 = .ok (.iadd, 1) := by decide +kernel
theorem dX12_does_238 : decode cX12_does 238 = .ok (.iastore, 1) := by decide +kernel
theorem dX12_does_239 : decode cX12_does 239 = .ok (.goto 198, 3) := by decide +kernel
theorem dX12_does_242 : decode cX12_does 242 = .ok (.aload_n 0, 1) := by decide +kernel
theorem dX12_does_243 : decode cX12_does 243 = .ok (.getfield 87, 3) := by decide +kernel
theorem dX12_does_246 : decode cX12_does 246 = .ok (.iconst 0, 1) := by decide +kernel
theorem dX12_does_247 : decode cX12_does 247 = .ok (.dup2, 1) := by decide +kernel
theorem dX12_does_248 : decode cX12_does 248 = .ok (.iaload, 1) := by decide +kernel
theorem dX12_does_249 : decode cX12_does 249 = .ok (.iconst 1, 1) := by decide +kernel
theorem dX12_does_250 : decode cX12_does 250 = .ok (.iadd, 1) := by decide +kernel
theorem dX12_does_251 : decode cX12_does 251 = .ok (.iastore, 1) := by decide +kernel
theorem dX12_does_252 : decode cX12_does 252 = .ok (.goto 185, 3) := by decide +kernel
theorem dX12_does_255 : decode cX12_does 255 = .ok (.aload_n 0, 1) := by decide +kernel
theorem dX12_does_256 : decode cX12_does 256 = .ok (.getfield 7, 3) := by decide +kernel
theorem dX12_does_259 : decode cX12_does 259 = .ok (.iconst 5, 1) := by decide +kernel
theorem dX12_does_260 : decode cX12_does 260 = .ok (.dup2, 1) := by decide +kernel
theorem dX12_does_261 : decode cX12_does 261 = .ok (.iaload, 1) := by decide +kernel
theorem dX12_does_262 : decode cX12_does 262 = .ok (.iconst 1, 1) := by decide +kernel
theorem dX12_does_263 : decode cX12_does 263 = .ok (.iload_n 2, 1) := by decide +kernel
theorem dX12_does_264 : decode cX12_does 264 = .ok (.ishl, 1) := by decide +kernel
theorem dX12_does_265 : decode cX12_does 265 = .ok (.iconst (-1), 1) := by decide +kernel
theorem dX12_does_266 : decode cX12_does 266 = .ok (.ixor, 1) := by decide +kernel
theorem dX12_does_267 : decode cX12_does 267 = .ok (.iand, 1) := by decide +kernel
theorem dX12_does_268 : decode cX12_does 268 = .ok (.iastore, 1) := by decide +kernel
theorem dX12_does_269 : decode cX12_does 269 = .ok (.goto 168, 3) := by decide +kernel
theorem dX12_does_272 : decode cX12_does 272 = .ok (.aload_n 0, 1) := by decide +kernel
theorem dX12_does_273 : decode cX12_does 273 = .ok (.getfield 7, 3) := by decide +kernel
theorem dX12_does_276 : decode cX12_does 276 = .ok (.iconst 5, 1) := by decide +kernel
theorem dX12_does_277 : decode cX12_does 277 = .ok (.dup2, 1) := by decide +kernel
theorem dX12_does_278 : decode cX12_does 278 = .ok (.iaload, 1) := by decide +kernel
theorem dX12_does_279 : decode cX12_does 279 = .ok (.iconst 1, 1) := by decide +kernel
theorem dX12_does_280 : decode cX12_does 280 = .ok (.iload_n 2, 1) := by decide +kernel
theorem dX12_does_281 : decode cX12_does 281 = .ok (.ishl, 1) := by decide +kernel
theorem dX12_does_282 : decode cX12_does 282 = .ok (.ior, 1) := by decide +kernel
theorem dX12_does_283 : decode cX12_does 283 = .ok (.iastore, 1) := by decide +kernel
theorem dX12_does_284 : decode cX12_does 284 = .ok (.goto 153, 3) := by decide +kernel
theorem dX12_does_287 : decode cX12_does 287 = .ok (.aload_n 0, 1) := by decide +kernel
theorem dX12_does_288 : decode cX12_does 288 = .ok (.iload_n 2, 1) := by decide +kernel
theorem dX12_does_289 : decode cX12_does 289 = .ok (.invokevirtual 371, 3) := by decide +kernel
theorem dX12_does_292 : decode cX12_does 292 = .ok (.goto 145, 3) := by decide +kernel
theorem dX12_does_295 : decode cX12_does 295 = .ok (.aload_n 0, 1) := by decide +kernel
theorem dX12_does_296 : decode cX12_does 296 = .ok (.getfield 7, 3) := by decide +kernel
theorem dX12_does_299 : decode cX12_does 299 = .ok (.bipush 6, 2) := by decide +kernel
theorem dX12_does_301 : decode cX12_does 301 = .ok (.iload_n 2, 1) := by decide +kernel
theorem dX12_does_302 : decode cX12_does 302 = .ok (.iastore, 1) := by decide +kernel
theorem dX12_does_303 : decode cX12_does 303 = .ok (.goto 134, 3) := by decide +kernel
theorem dX12_does_306 : decode cX12_does 306 = .ok (.aload_n 0, 1) := by decide +kernel
theorem dX12_does_307 : decode cX12_does 307 = .ok (.getfield 7, 3) := by decide +kernel
theorem dX12_does_310 : decode cX12_does 310 = .ok (.bipush 6, 2) := by decide +kernel
theorem dX12_does_312 : decode cX12_does 312 = .ok (.iconst 0, 1) := by decide +kernel
theorem dX12_does_313 : decode cX12_does 313 = .ok (.iastore, 1) := by decide +kernel
theorem dX12_does_314 : decode cX12_does 314 = .ok (.goto 123, 3) := by decide +kernel
theorem dX12_does_317 : decode cX12_does 317 = .ok (.aload_n 0, 1) := by decide +kernel
theorem dX12_does_318 : decode cX12_does 318 = .ok (.getfield 87, 3) := by decide +kernel
theorem dX12_does_321 : decode cX12_does 321 = .ok (.iconst 4, 1) := by decide +kernel
theorem dX12_does_322 : decode cX12_does 322 = .ok (.dup2, 1) := by decide +kernel
theorem dX12_does_323 : decode cX12_does 323 = .ok (.iaload, 1) := by decide +kernel
theorem dX12_does_324 : decode cX12_does 324 = .ok (.aload_n 0, 1) := by decide +kernel
theorem dX12_does_325 : decode cX12_does 325 = .ok (.invokevirtual 374, 3) := by decide +kernel
theorem dX12_does_328 : decode cX12_does 328 = .ok (.iadd, 1) := by decide +kernel
theorem dX12_does_329 : decode cX12_does 329 = .ok (.iastore, 1) := by decide +kernel
theorem dX12_does_330 : decode cX12_does 330 = .ok (.goto 107, 3) := by decide +kernel
theorem dX12_does_333 : decode cX12_does 333 = .ok (.iload_n 2, 1) := by decide +kernel
theorem dX12_does_334 : decode cX12_does 334 = .ok (.iload_n 3, 1) := by decide +kernel
theorem dX12_does_335 : decode cX12_does 335 = .ok (.if_icmp .eq 25, 3) := by decide +kernel
theorem dX12_does_338 : decode cX12_does 338 = .ok (.aload_n 0, 1) := by decide +kernel
theorem dX12_does_339 : decode cX12_does 339 = .ok (.iload_n 2, 1) := by decide +kernel
theorem dX12_does_340 : decode cX12_does 340 = .ok (.iload_n 3, 1) := by decide +kernel
theorem dX12_does_341 : decode cX12_does 341 = .ok (.invokevirtual 284, 3) := by decide +kernel
theorem dX12_does_344 : decode cX12_does 344 = .ok (.ifCond .eq 16, 3) := by decide +kernel
theorem dX12_does_347 : decode cX12_does 347 = .ok (.aload_n 0, 1) := by decide +kernel
theorem dX12_does_348 : decode cX12_does 348 = .ok (.aload_n 0, 1) := by decide +kernel
theorem dX12_does_349 : decode cX12_does 349 = .ok (.iload_n 2, 1) := by decide +kernel
theorem dX12_does_350 : decode cX12_does 350 = .ok (.iload_n 3, 1) := by decide +kernel
theorem dX12_does_351 : decode cX12_does 351 = .ok (.invokevirtual 383, 3) := by decide +kernel
theorem dX12_does_354 : decode cX12_does 354 = .ok (.putfield 438, 3) := by decide +kernel
theorem dX12_does_357 : decode cX12_does 357 = .ok (.goto 80, 3) := by decide +kernel
theorem dX12_does_360 : decode cX12_does 360 = .ok (.aload_n 0, 1) := by decide +kernel
theorem dX12_does_361 : decode cX12_does 361 = .ok (.getfield 87, 3) := by decide +kernel
theorem dX12_does_364 : decode cX12_does 364 = .ok (.iconst 0, 1) := by decide +kernel
theorem dX12_does_365 : decode cX12_does 365 = .ok (.dup2, 1) := by decide +kernel
theorem dX12_does_366 : decode cX12_does 366 = .ok (.iaload, 1) := by decide +kernel
theorem dX12_does_367 : decode cX12_does 367 = .ok (.iconst 1, 1) := by decide +kernel
theorem dX12_does_368 : decode cX12_does 368 = .ok (.iadd, 1) := by decide +kernel
theorem dX12_does_369 : decode cX12_does 369 = .ok (.iastore, 1) := by decide +kernel
theorem dX12_does_370 : decode cX12_does 370 = .ok (.goto 67, 3) := by decide +kernel
theorem dX12_does_373 : decode cX12_does 373 = .ok (.iconst 0, 1) := by decide +kernel
theorem dX12_does_374 : decode cX12_does 374 = .ok (.istore 5, 2) := by decide +kernel
theorem dX12_does_376 : decode cX12_does 376 = .ok (.iload 5, 2) := by decide +kernel
theorem dX12_does_378 : decode cX12_does 378 = .ok (.aload_n 0, 1) := by decide +kernel
theorem dX12_does_379 : decode cX12_does 379 = .ok (.getfield 7, 3) := by decide +kernel
theorem dX12_does_382 : decode cX12_does 382 = .ok (.iconst 3, 1) := by decide +kernel
theorem dX12_does_383 : decode cX12_does 383 = .ok (.iaload, 1) := by decide +kernel
theorem dX12_does_384 : decode cX12_does 384 = .ok (.if_icmp .ge 50, 3) := by decide +kernel
theorem dX12_does_387 : decode cX12_does 387 = .ok (.aload_n 0, 1) := by decide +kernel
theorem dX12_does_388 : decode cX12_does 388 = .ok (.getfield 7, 3) := by decide +kernel
theorem dX12_does_391 : decode cX12_does 391 = .ok (.iconst 5, 1) := by decide +kernel
theorem dX12_does_392 : decode cX12_does 392 = .ok (.aload_n 0, 1) := by decide +kernel
theorem dX12_does_393 : decode cX12_does 393 = .ok (.invokevirtual 441, 3) := by decide +kernel
theorem dX12_does_396 : decode cX12_does 396 = .ok (.iload_n 2, 1) := by decide +kernel
theorem dX12_does_397 : decode cX12_does 397 = .ok (.if_icmp .ge 19, 3) := by decide +kernel
theorem dX12_does_400 : decode cX12_does 400 = .ok (.aload_n 0, 1) := by decide +kernel
theorem dX12_does_401 : decode cX12_does 401 = .ok (.getfield 7, 3) := by decide +kernel
theorem dX12_does_404 : decode cX12_does 404 = .ok (.iconst 5, 1) := by decide +kernel
theorem dX12_does_405 : decode cX12_does 405 = .ok (.iaload, 1) := by decide +kernel
theorem dX12_does_406 : decode cX12_does 406 = .ok (.iconst 1, 1) := by decide +kernel
theorem dX12_does_407 : decode cX12_does 407 = .ok (.iload 5, 2) := by decide +kernel
theorem dX12_does_409 : decode cX12_does 409 = .ok (.ishl, 1) := by decide +kernel
theorem dX12_does_410 : decode cX12_does 410 = .ok (.iconst (-1), 1) := by decide +kernel
theorem dX12_does_411 : decode cX12_does 411 = .ok (.ixor, 1) := by decide +kernel
theorem dX12_does_412 : decode cX12_does 412 = .ok (.iand, 1) := by decide +kernel
theorem dX12_does_413 : decode cX12_does 413 = .ok (.goto 14, 3) := by decide +kernel
theorem dX12_does_416 : decode cX12_does 416 = .ok (.aload_n 0, 1) := by decide +kernel
theorem dX12_does_417 : decode cX12_does 417 = .ok (.getfield 7, 3) := by decide +kernel
theorem dX12_does_420 : decode cX12_does 420 = .ok (.iconst 5, 1) := by decide +kernel
theorem dX12_does_421 : decode cX12_does 421 = .ok (.iaload, 1) := by decide +kernel
theorem dX12_does_422 : decode cX12_does 422 = .ok (.iconst 1, 1) := by decide +kernel
theorem dX12_does_423 : decode cX12_does 423 = .ok (.iload 5, 2) := by decide +kernel
theorem dX12_does_425 : decode cX12_does 425 = .ok (.ishl, 1) := by decide +kernel
theorem dX12_does_426 : decode cX12_does 426 = .ok (.ior, 1) := by decide +kernel
theorem dX12_does_427 : decode cX12_does 427 = .ok (.iastore, 1) := by decide +kernel
theorem dX12_does_428 : decode cX12_does 428 = .ok (.iinc 5 1, 3) := by decide +kernel
theorem dX12_does_431 : decode cX12_does 431 = .ok (.goto (-55), 3) := by decide +kernel
theorem dX12_does_434 : decode cX12_does 434 = .ok (.goto 3, 3) := by decide +kernel
theorem dX12_does_437 : decode cX12_does 437 = .ok (.return_, 1) := by decide +kernel
theorem dX12_holds_0 : decode cX12_holds 0 = .ok (.aload_n 0, 1) := by decide +kernel
theorem dX12_holds_1 : decode cX12_holds 1 = .ok (.getfield 7, 3) := by decide +kernel
theorem dX12_holds_4 : decode cX12_holds 4 = .ok (.iload_n 1, 1) := by decide +kernel
theorem dX12_holds_5 : decode cX12_holds 5 = .ok (.iaload, 1) := by decide +kernel
theorem dX12_holds_6 : decode cX12_holds 6 = .ok (.sipush 1900, 3) := by decide +kernel
theorem dX12_holds_9 : decode cX12_holds 9 = .ok (.isub, 1) := by decide +kernel
theorem dX12_holds_10 : decode cX12_holds 10 = .ok (.istore_n 2, 1) := by decide +kernel
theorem dX12_holds_11 : decode cX12_holds 11 = .ok (.iload_n 2, 1) := by decide +kernel
theorem dX12_holds_12 : decode cX12_holds 12 = .ok (.bipush 23, 2) := by decide +kernel
theorem dX12_holds_14 : decode cX12_holds 14 = .ok (.if_icmp .ne 16, 3) := by decide +kernel
theorem dX12_holds_17 : decode cX12_holds 17 = .ok (.aload_n 0, 1) := by decide +kernel
theorem dX12_holds_18 : decode cX12_holds 18 = .ok (.aload_n 0, 1) := by decide +kernel
theorem dX12_holds_19 : decode cX12_holds 19 = .ok (.getfield 7, 3) := by decide +kernel
theorem dX12_holds_22 : decode cX12_holds 22 = .ok (.iload_n 1, 1) := by decide +kernel
theorem dX12_holds_23 : decode cX12_holds 23 = .ok (.iconst 1, 1) := by decide +kernel
theorem dX12_holds_24 : decode cX12_holds 24 = .ok (.iadd, 1) := by decide +kernel
theorem dX12_holds_25 : decode cX12_holds 25 = .ok (.iaload, 1) := by decide +kernel
theorem dX12_holds_26 : decode cX12_holds 26 = .ok (.invokevirtual 386, 3) := by decide +kernel
theorem dX12_holds_29 : decode cX12_holds 29 = .ok (.ireturn, 1) := by decide +kernel
theorem dX12_holds_30 : decode cX12_holds 30 = .ok (.iload_n 2, 1) := by decide +kernel
theorem dX12_holds_31 : decode cX12_holds 31 = .ok (.bipush 24, 2) := by decide +kernel
theorem dX12_holds_33 : decode cX12_holds 33 = .ok (.if_icmp .ne 16, 3) := by decide +kernel
theorem dX12_holds_36 : decode cX12_holds 36 = .ok (.aload_n 0, 1) := by decide +kernel
theorem dX12_holds_37 : decode cX12_holds 37 = .ok (.aload_n 0, 1) := by decide +kernel
theorem dX12_holds_38 : decode cX12_holds 38 = .ok (.getfield 7, 3) := by decide +kernel
theorem dX12_holds_41 : decode cX12_holds 41 = .ok (.iload_n 1, 1) := by decide +kernel
theorem dX12_holds_42 : decode cX12_holds 42 = .ok (.iconst 2, 1) := by decide +kernel
theorem dX12_holds_43 : decode cX12_holds 43 = .ok (.iadd, 1) := by decide +kernel
theorem dX12_holds_44 : decode cX12_holds 44 = .ok (.iaload, 1) := by decide +kernel
theorem dX12_holds_45 : decode cX12_holds 45 = .ok (.invokevirtual 266, 3) := by decide +kernel
theorem dX12_holds_48 : decode cX12_holds 48 = .ok (.ireturn, 1) := by decide +kernel
theorem dX12_holds_49 : decode cX12_holds 49 = .ok (.aload_n 0, 1) := by decide +kernel
theorem dX12_holds_50 : decode cX12_holds 50 = .ok (.aload_n 0, 1) := by decide +kernel
theorem dX12_holds_51 : decode cX12_holds 51 = .ok (.aload_n 0, 1) := by decide +kernel
theorem dX12_holds_52 : decode cX12_holds 52 = .ok (.getfield 7, 3) := by decide +kernel
theorem dX12_holds_55 : decode cX12_holds 55 = .ok (.iload_n 1, 1) := by decide +kernel
theorem dX12_holds_56 : decode cX12_holds 56 = .ok (.iconst 2, 1) := by decide +kernel
theorem dX12_holds_57 : decode cX12_holds 57 = .ok (.iadd, 1) := by decide +kernel
theorem dX12_holds_58 : decode cX12_holds 58 = .ok (.iaload, 1) := by decide +kernel
theorem dX12_holds_59 : decode cX12_holds 59 = .ok (.aload_n 0, 1) := by decide +kernel
theorem dX12_holds_60 : decode cX12_holds 60 = .ok (.getfield 7, 3) := by decide +kernel
theorem dX12_holds_63 : decode cX12_holds 63 = .ok (.iload_n 1, 1) := by decide +kernel
theorem dX12_holds_64 : decode cX12_holds 64 = .ok (.iconst 1, 1) := by decide +kernel
theorem dX12_holds_65 : decode cX12_holds 65 = .ok (.iadd, 1) := by decide +kernel
theorem dX12_holds_66 : decode cX12_holds 66 = .ok (.iaload, 1) := by decide +kernel
theorem dX12_holds_67 : decode cX12_holds 67 = .ok (.invokevirtual 303, 3) := by decide +kernel
theorem dX12_holds_70 : decode cX12_holds 70 = .ok (.aload_n 0, 1) := by decide +kernel
theorem dX12_holds_71 : decode cX12_holds 71 = .ok (.getfield 7, 3) := by decide +kernel
theorem dX12_holds_74 : decode cX12_holds 74 = .ok (.iload_n 1, 1) := by decide +kernel
theorem dX12_holds_75 : decode cX12_holds 75 = .ok (.iconst 1, 1) := by decide +kernel
theorem dX12_holds_76 : decode cX12_holds 76 = .ok (.iadd, 1) := by decide +kernel
theorem dX12_holds_77 : decode cX12_holds 77 = .ok (.iaload, 1) := by decide +kernel
theorem dX12_holds_78 : decode cX12_holds 78 = .ok (.invokevirtual 389, 3) := by decide +kernel
theorem dX12_holds_81 : decode cX12_holds 81 = .ok (.istore_n 3, 1) := by decide +kernel
theorem dX12_holds_82 : decode cX12_holds 82 = .ok (.aload_n 0, 1) := by decide +kernel
theorem dX12_holds_83 : decode cX12_holds 83 = .ok (.getfield 7, 3) := by decide +kernel
theorem dX12_holds_86 : decode cX12_holds 86 = .ok (.iload_n 1, 1) := by decide +kernel
theorem dX12_holds_87 : decode cX12_holds 87 = .ok (.iconst 5, 1) := by decide +kernel
theorem dX12_holds_88 : decode cX12_holds 88 = .ok (.iadd, 1) := by decide +kernel
theorem dX12_holds_89 : decode cX12_holds 89 = .ok (.iaload, 1) := by decide +kernel
theorem dX12_holds_90 : decode cX12_holds 90 = .ok (.bipush 60, 2) := by decide +kernel
theorem dX12_holds_92 : decode cX12_holds 92 = .ok (.if_icmp .ne 23, 3) := by decide +kernel
theorem dX12_holds_95 : decode cX12_holds 95 = .ok (.iload_n 3, 1) := by decide +kernel
theorem dX12_holds_96 : decode cX12_holds 96 = .ok (.aload_n 0, 1) := by decide +kernel
theorem dX12_holds_97 : decode cX12_holds 97 = .ok (.getfield 7, 3) := by decide +kernel
theorem dX12_holds_100 : decode cX12_holds 100 = .ok (.iload_n 1, 1) := by decide +kernel
theorem dX12_holds_101 : decode cX12_holds 101 = .ok (.iconst 3, 1) := by decide +kernel
theorem dX12_holds_102 : decode cX12_holds 102 = .ok (.iadd, 1) := by decide +kernel
theorem dX12_holds_103 : decode cX12_holds 103 = .ok (.iaload, 1) := by decide +kernel
theorem dX12_holds_104 : decode cX12_holds 104 = .ok (.if_icmp .ge 7, 3) := by decide +kernel
theorem dX12_holds_107 : decode cX12_holds 107 = .ok (.iconst 1, 1) := by decide +kernel
theorem dX12_holds_108 : decode cX12_holds 108 = .ok (.goto 57, 3) := by decide +kernel
theorem dX12_holds_111 : decode cX12_holds 111 = .ok (.iconst 0, 1) := by decide +kernel
theorem dX12_holds_112 : decode cX12_holds 112 = .ok (.goto 53, 3) := by decide +kernel
theorem dX12_holds_115 : decode cX12_holds 115 = .ok (.aload_n 0, 1) := by decide +kernel
theorem dX12_holds_116 : decode cX12_holds 116 = .ok (.getfield 7, 3) := by decide +kernel
theorem dX12_holds_119 : decode cX12_holds 119 = .ok (.iload_n 1, 1) := by decide +kernel
theorem dX12_holds_120 : decode cX12_holds 120 = .ok (.iconst 5, 1) := by decide +kernel
theorem dX12_holds_121 : decode cX12_holds 121 = .ok (.iadd, 1) := by decide +kernel
theorem dX12_holds_122 : decode cX12_holds 122 = .ok (.iaload, 1) := by decide +kernel
theorem dX12_holds_123 : decode cX12_holds 123 = .ok (.bipush 62, 2) := by decide +kernel
theorem dX12_holds_125 : decode cX12_holds 125 = .ok (.if_icmp .ne 23, 3) := by decide +kernel
theorem dX12_holds_128 : decode cX12_holds 128 = .ok (.iload_n 3, 1) := by decide +kernel
theorem dX12_holds_129 : decode cX12_holds 129 = .ok (.aload_n 0, 1) := by decide +kernel
theorem dX12_holds_130 : decode cX12_holds 130 = .ok (.getfield 7, 3) := by decide +kernel
theorem dX12_holds_133 : decode cX12_holds 133 = .ok (.iload_n 1, 1) := by decide +kernel
theorem dX12_holds_134 : decode cX12_holds 134 = .ok (.iconst 3, 1) := by decide +kernel
theorem dX12_holds_135 : decode cX12_holds 135 = .ok (.iadd, 1) := by decide +kernel
theorem dX12_holds_136 : decode cX12_holds 136 = .ok (.iaload, 1) := by decide +kernel
theorem dX12_holds_137 : decode cX12_holds 137 = .ok (.if_icmp .le 7, 3) := by decide +kernel
theorem dX12_holds_140 : decode cX12_holds 140 = .ok (.iconst 1, 1) := by decide +kernel
theorem dX12_holds_141 : decode cX12_holds 141 = .ok (.goto 24, 3) := by decide +kernel
theorem dX12_holds_144 : decode cX12_holds 144 = .ok (.iconst 0, 1) := by decide +kernel
theorem dX12_holds_145 : decode cX12_holds 145 = .ok (.goto 20, 3) := by decide +kernel
theorem dX12_holds_148 : decode cX12_holds 148 = .ok (.iload_n 3, 1) := by decide +kernel
theorem dX12_holds_149 : decode cX12_holds 149 = .ok (.aload_n 0, 1) := by decide +kernel
theorem dX12_holds_150 : decode cX12_holds 150 = .ok (.getfield 7, 3) := by decide +kernel
theorem dX12_holds_153 : decode cX12_holds 153 = .ok (.iload_n 1, 1) := by decide +kernel
theorem dX12_holds_154 : decode cX12_holds 154 = .ok (.iconst 3, 1) := by decide +kernel
theorem dX12_holds_155 : decode cX12_holds 155 = .ok (.iadd, 1) := by decide +kernel
theorem dX12_holds_156 : decode cX12_holds 156 = .ok (.iaload, 1) := by decide +kernel
theorem dX12_holds_157 : decode cX12_holds 157 = .ok (.if_icmp .ne 7, 3) := by decide +kernel
theorem dX12_holds_160 : decode cX12_holds 160 = .ok (.iconst 1, 1) := by decide +kernel
theorem dX12_holds_161 : decode cX12_holds 161 = .ok (.goto 4, 3) := by decide +kernel
theorem dX12_holds_164 : decode cX12_holds 164 = .ok (.iconst 0, 1) := by decide +kernel
theorem dX12_holds_165 : decode cX12_holds 165 = .ok (.ireturn, 1) := by decide +kernel
theorem dX12_behindEnds_0 : decode cX12_behindEnds 0 = .ok (.iload_n 1, 1) := by decide +kernel
theorem dX12_behindEnds_1 : decode cX12_behindEnds 1 = .ok (.istore_n 2, 1) := by decide +kernel
theorem dX12_behindEnds_2 : decode cX12_behindEnds 2 = .ok (.iload_n 2, 1) := by decide +kernel
theorem dX12_behindEnds_3 : decode cX12_behindEnds 3 = .ok (.aload_n 0, 1) := by decide +kernel
theorem dX12_behindEnds_4 : decode cX12_behindEnds 4 = .ok (.getfield 7, 3) := by decide +kernel
theorem dX12_behindEnds_7 : decode cX12_behindEnds 7 = .ok (.bipush 7, 2) := by decide +kernel
theorem dX12_behindEnds_9 : decode cX12_behindEnds 9 = .ok (.iaload, 1) := by decide +kernel
theorem dX12_behindEnds_10 : decode cX12_behindEnds 10 = .ok (.if_icmp .ge 108, 3) := by decide +kernel
theorem dX12_behindEnds_13 : decode cX12_behindEnds 13 = .ok (.aload_n 0, 1) := by decide +kernel
theorem dX12_behindEnds_14 : decode cX12_behindEnds 14 = .ok (.getfield 7, 3) := by decide +kernel
theorem dX12_behindEnds_17 : decode cX12_behindEnds 17 = .ok (.sipush 4480, 3) := by decide +kernel
theorem dX12_behindEnds_20 : decode cX12_behindEnds 20 = .ok (.bipush 6, 2) := by decide +kernel
theorem dX12_behindEnds_22 : decode cX12_behindEnds 22 = .ok (.iload_n 2, 1) := by decide +kernel
theorem dX12_behindEnds_23 : decode cX12_behindEnds 23 = .ok (.imul, 1) := by decide +kernel
theorem dX12_behindEnds_24 : decode cX12_behindEnds 24 = .ok (.iadd, 1) := by decide +kernel
theorem dX12_behindEnds_25 : decode cX12_behindEnds 25 = .ok (.iaload, 1) := by decide +kernel
theorem dX12_behindEnds_26 : decode cX12_behindEnds 26 = .ok (.bipush 21, 2) := by decide +kernel
theorem dX12_behindEnds_28 : decode cX12_behindEnds 28 = .ok (.if_icmp .ne 90, 3) := by decide +kernel
theorem dX12_behindEnds_31 : decode cX12_behindEnds 31 = .ok (.aload_n 0, 1) := by decide +kernel
theorem dX12_behindEnds_32 : decode cX12_behindEnds 32 = .ok (.getfield 7, 3) := by decide +kernel
theorem dX12_behindEnds_35 : decode cX12_behindEnds 35 = .ok (.sipush 4480, 3) := by decide +kernel
theorem dX12_behindEnds_38 : decode cX12_behindEnds 38 = .ok (.bipush 6, 2) := by decide +kernel
theorem dX12_behindEnds_40 : decode cX12_behindEnds 40 = .ok (.iload_n 2, 1) := by decide +kernel
theorem dX12_behindEnds_41 : decode cX12_behindEnds 41 = .ok (.imul, 1) := by decide +kernel
theorem dX12_behindEnds_42 : decode cX12_behindEnds 42 = .ok (.iadd, 1) := by decide +kernel
theorem dX12_behindEnds_43 : decode cX12_behindEnds 43 = .ok (.iconst 4, 1) := by decide +kernel
theorem dX12_behindEnds_44 : decode cX12_behindEnds 44 = .ok (.iadd, 1) := by decide +kernel
theorem dX12_behindEnds_45 : decode cX12_behindEnds 45 = .ok (.iaload, 1) := by decide +kernel
theorem dX12_behindEnds_46 : decode cX12_behindEnds 46 = .ok (.istore_n 3, 1) := by decide +kernel
theorem dX12_behindEnds_47 : decode cX12_behindEnds 47 = .ok (.aload_n 0, 1) := by decide +kernel
theorem dX12_behindEnds_48 : decode cX12_behindEnds 48 = .ok (.getfield 7, 3) := by decide +kernel
theorem dX12_behindEnds_51 : decode cX12_behindEnds 51 = .ok (.sipush 4480, 3) := by decide +kernel
theorem dX12_behindEnds_54 : decode cX12_behindEnds 54 = .ok (.bipush 6, 2) := by decide +kernel
theorem dX12_behindEnds_56 : decode cX12_behindEnds 56 = .ok (.iload_n 3, 1) := by decide +kernel
theorem dX12_behindEnds_57 : decode cX12_behindEnds 57 = .ok (.imul, 1) := by decide +kernel
theorem dX12_behindEnds_58 : decode cX12_behindEnds 58 = .ok (.iadd, 1) := by decide +kernel
theorem dX12_behindEnds_59 : decode cX12_behindEnds 59 = .ok (.iaload, 1) := by decide +kernel
theorem dX12_behindEnds_60 : decode cX12_behindEnds 60 = .ok (.bipush 20, 2) := by decide +kernel
theorem dX12_behindEnds_62 : decode cX12_behindEnds 62 = .ok (.if_icmp .ne 16, 3) := by decide +kernel
theorem dX12_behindEnds_65 : decode cX12_behindEnds 65 = .ok (.aload_n 0, 1) := by decide +kernel
theorem dX12_behindEnds_66 : decode cX12_behindEnds 66 = .ok (.getfield 84, 3) := by decide +kernel
theorem dX12_behindEnds_69 : decode cX12_behindEnds 69 = .ok (.iload_n 3, 1) := by decide +kernel
theorem dX12_behindEnds_70 : decode cX12_behindEnds 70 = .ok (.iaload, 1) := by decide +kernel
theorem dX12_behindEnds_71 : decode cX12_behindEnds 71 = .ok (.ifCond .le 7, 3) := by decide +kernel
theorem dX12_behindEnds_74 : decode cX12_behindEnds 74 = .ok (.iconst 1, 1) := by decide +kernel
theorem dX12_behindEnds_75 : decode cX12_behindEnds 75 = .ok (.goto 4, 3) := by decide +kernel
theorem dX12_behindEnds_78 : decode cX12_behindEnds 78 = .ok (.iconst 0, 1) := by decide +kernel
theorem dX12_behindEnds_79 : decode cX12_behindEnds 79 = .ok (.istore 4, 2) := by decide +kernel
theorem dX12_behindEnds_81 : decode cX12_behindEnds 81 = .ok (.aload_n 0, 1) := by decide +kernel
theorem dX12_behindEnds_82 : decode cX12_behindEnds 82 = .ok (.getfield 84, 3) := by decide +kernel
theorem dX12_behindEnds_85 : decode cX12_behindEnds 85 = .ok (.iload_n 3, 1) := by decide +kernel
theorem dX12_behindEnds_86 : decode cX12_behindEnds 86 = .ok (.dup2, 1) := by decide +kernel
theorem dX12_behindEnds_87 : decode cX12_behindEnds 87 = .ok (.iaload, 1) := by decide +kernel
theorem dX12_behindEnds_88 : decode cX12_behindEnds 88 = .ok (.iload 4, 2) := by decide +kernel
theorem dX12_behindEnds_90 : decode cX12_behindEnds 90 = .ok (.ifCond .eq 7, 3) := by decide +kernel
theorem dX12_behindEnds_93 : decode cX12_behindEnds 93 = .ok (.iconst 1, 1) := by decide +kernel
theorem dX12_behindEnds_94 : decode cX12_behindEnds 94 = .ok (.goto 4, 3) := by decide +kernel
theorem dX12_behindEnds_97 : decode cX12_behindEnds 97 = .ok (.iconst 0, 1) := by decide +kernel
theorem dX12_behindEnds_98 : decode cX12_behindEnds 98 = .ok (.isub, 1) := by decide +kernel
theorem dX12_behindEnds_99 : decode cX12_behindEnds 99 = .ok (.iastore, 1) := by decide +kernel
theorem dX12_behindEnds_100 : decode cX12_behindEnds 100 = .ok (.iload 4, 2) := by decide +kernel
theorem dX12_behindEnds_102 : decode cX12_behindEnds 102 = .ok (.ifCond .eq 9, 3) := by decide +kernel
theorem dX12_behindEnds_105 : decode cX12_behindEnds 105 = .ok (.iload_n 3, 1) := by decide +kernel
theorem dX12_behindEnds_106 : decode cX12_behindEnds 106 = .ok (.iconst 1, 1) := by decide +kernel
theorem dX12_behindEnds_107 : decode cX12_behindEnds 107 = .ok (.iadd, 1) := by decide +kernel
theorem dX12_behindEnds_108 : decode cX12_behindEnds 108 = .ok (.goto 6, 3) := by decide +kernel
theorem dX12_behindEnds_111 : decode cX12_behindEnds 111 = .ok (.iload_n 2, 1) := by decide +kernel
theorem dX12_behindEnds_112 : decode cX12_behindEnds 112 = .ok (.iconst 1, 1) := by decide +kernel
theorem dX12_behindEnds_113 : decode cX12_behindEnds 113 = .ok (.iadd, 1) := by decide +kernel
theorem dX12_behindEnds_114 : decode cX12_behindEnds 114 = .ok (.istore_n 2, 1) := by decide +kernel
theorem dX12_behindEnds_115 : decode cX12_behindEnds 115 = .ok (.goto (-113), 3) := by decide +kernel
theorem dX12_behindEnds_118 : decode cX12_behindEnds 118 = .ok (.iload_n 2, 1) := by decide +kernel
theorem dX12_behindEnds_119 : decode cX12_behindEnds 119 = .ok (.ireturn, 1) := by decide +kernel
theorem dX12_lives_0 : decode cX12_lives 0 = .ok (.aload_n 0, 1) := by decide +kernel
theorem dX12_lives_1 : decode cX12_lives 1 = .ok (.iload_n 1, 1) := by decide +kernel
theorem dX12_lives_2 : decode cX12_lives 2 = .ok (.putfield 431, 3) := by decide +kernel
theorem dX12_lives_5 : decode cX12_lives 5 = .ok (.aload_n 0, 1) := by decide +kernel
theorem dX12_lives_6 : decode cX12_lives 6 = .ok (.iconst 0, 1) := by decide +kernel
theorem dX12_lives_7 : decode cX12_lives 7 = .ok (.putfield 444, 3) := by decide +kernel
theorem dX12_lives_10 : decode cX12_lives 10 = .ok (.iconst 0, 1) := by decide +kernel
theorem dX12_lives_11 : decode cX12_lives 11 = .ok (.istore_n 2, 1) := by decide +kernel
theorem dX12_lives_12 : decode cX12_lives 12 = .ok (.iload_n 2, 1) := by decide +kernel
theorem dX12_lives_13 : decode cX12_lives 13 = .ok (.bipush 6, 2) := by decide +kernel
theorem dX12_lives_15 : decode cX12_lives 15 = .ok (.if_icmp .ge 16, 3) := by decide +kernel
theorem dX12_lives_18 : decode cX12_lives 18 = .ok (.aload_n 0, 1) := by decide +kernel
theorem dX12_lives_19 : decode cX12_lives 19 = .ok (.getfield 87, 3) := by decide +kernel
theorem dX12_lives_22 : decode cX12_lives 22 = .ok (.iload_n 2, 1) := by decide +kernel
theorem dX12_lives_23 : decode cX12_lives 23 = .ok (.iconst 0, 1) := by decide +kernel
theorem dX12_lives_24 : decode cX12_lives 24 = .ok (.iastore, 1) := by decide +kernel
theorem dX12_lives_25 : decode cX12_lives 25 = .ok (.iinc 2 1, 3) := by decide +kernel
theorem dX12_lives_28 : decode cX12_lives 28 = .ok (.goto (-16), 3) := by decide +kernel
theorem dX12_lives_31 : decode cX12_lives 31 = .ok (.iconst 0, 1) := by decide +kernel
theorem dX12_lives_32 : decode cX12_lives 32 = .ok (.istore_n 2, 1) := by decide +kernel
theorem dX12_lives_33 : decode cX12_lives 33 = .ok (.iload_n 2, 1) := by decide +kernel
theorem dX12_lives_34 : decode cX12_lives 34 = .ok (.aload_n 0, 1) := by decide +kernel
theorem dX12_lives_35 : decode cX12_lives 35 = .ok (.getfield 7, 3) := by decide +kernel
theorem dX12_lives_38 : decode cX12_lives 38 = .ok (.bipush 7, 2) := by decide +kernel
theorem dX12_lives_40 : decode cX12_lives 40 = .ok (.iaload, 1) := by decide +kernel
theorem dX12_lives_41 : decode cX12_lives 41 = .ok (.if_icmp .ge 128, 3) := by decide +kernel
theorem dX12_lives_44 : decode cX12_lives 44 = .ok (.aload_n 0, 1) := by decide +kernel
theorem dX12_lives_45 : decode cX12_lives 45 = .ok (.getfield 444, 3) := by decide +kernel
theorem dX12_lives_48 : decode cX12_lives 48 = .ok (.sipush 300, 3) := by decide +kernel
theorem dX12_lives_51 : decode cX12_lives 51 = .ok (.if_icmp .ne 11, 3) := by decide +kernel
theorem dX12_lives_54 : decode cX12_lives 54 = .ok (.aload_n 0, 1) := by decide +kernel
theorem dX12_lives_55 : decode cX12_lives 55 = .ok (.getfield 87, 3) := by decide +kernel
theorem dX12_lives_58 : decode cX12_lives 58 = .ok (.iconst 5, 1) := by decide +kernel
theorem dX12_lives_59 : decode cX12_lives 59 = .ok (.iconst 1, 1) := by decide +kernel
theorem dX12_lives_60 : decode cX12_lives 60 = .ok (.iastore, 1) := by decide +kernel
theorem dX12_lives_61 : decode cX12_lives 61 = .ok (.return_, 1) := by decide +kernel
theorem dX12_lives_62 : decode cX12_lives 62 = .ok (.sipush 4480, 3) := by decide +kernel
theorem dX12_lives_65 : decode cX12_lives 65 = .ok (.bipush 6, 2) := by decide +kernel
theorem dX12_lives_67 : decode cX12_lives 67 = .ok (.iload_n 2, 1) := by decide +kernel
theorem dX12_lives_68 : decode cX12_lives 68 = .ok (.imul, 1) := by decide +kernel
theorem dX12_lives_69 : decode cX12_lives 69 = .ok (.iadd, 1) := by decide +kernel
theorem dX12_lives_70 : decode cX12_lives 70 = .ok (.istore_n 3, 1) := by decide +kernel
theorem dX12_lives_71 : decode cX12_lives 71 = .ok (.aload_n 0, 1) := by decide +kernel
theorem dX12_lives_72 : decode cX12_lives 72 = .ok (.dup, 1) := by decide +kernel
theorem dX12_lives_73 : decode cX12_lives 73 = .ok (.getfield 444, 3) := by decide +kernel
theorem dX12_lives_76 : decode cX12_lives 76 = .ok (.iconst 1, 1) := by decide +kernel
theorem dX12_lives_77 : decode cX12_lives 77 = .ok (.iadd, 1) := by decide +kernel
theorem dX12_lives_78 : decode cX12_lives 78 = .ok (.putfield 444, 3) := by decide +kernel
theorem dX12_lives_81 : decode cX12_lives 81 = .ok (.aload_n 0, 1) := by decide +kernel
theorem dX12_lives_82 : decode cX12_lives 82 = .ok (.getfield 7, 3) := by decide +kernel
theorem dX12_lives_85 : decode cX12_lives 85 = .ok (.iload_n 3, 1) := by decide +kernel
theorem dX12_lives_86 : decode cX12_lives 86 = .ok (.iaload, 1) := by decide +kernel
theorem dX12_lives_87 : decode cX12_lives 87 = .ok (.bipush 22, 2) := by decide +kernel
theorem dX12_lives_89 : decode cX12_lives 89 = .ok (.if_icmp .ne 4, 3) := by decide +kernel
theorem dX12_lives_92 : decode cX12_lives 92 = .ok (.return_, 1) := by decide +kernel
theorem dX12_lives_93 : decode cX12_lives 93 = .ok (.aload_n 0, 1) := by decide +kernel
theorem dX12_lives_94 : decode cX12_lives 94 = .ok (.iload_n 3, 1) := by decide +kernel
theorem dX12_lives_95 : decode cX12_lives 95 = .ok (.invokevirtual 447, 3) := by decide +kernel
theorem dX12_lives_98 : decode cX12_lives 98 = .ok (.aload_n 0, 1) := by decide +kernel
theorem dX12_lives_99 : decode cX12_lives 99 = .ok (.getfield 7, 3) := by decide +kernel
theorem dX12_lives_102 : decode cX12_lives 102 = .ok (.iload_n 3, 1) := by decide +kernel
theorem dX12_lives_103 : decode cX12_lives 103 = .ok (.iaload, 1) := by decide +kernel
theorem dX12_lives_104 : decode cX12_lives 104 = .ok (.bipush 20, 2) := by decide +kernel
theorem dX12_lives_106 : decode cX12_lives 106 = .ok (.if_icmp .ne 19, 3) := by decide +kernel
theorem dX12_lives_109 : decode cX12_lives 109 = .ok (.aload_n 0, 1) := by decide +kernel
theorem dX12_lives_110 : decode cX12_lives 110 = .ok (.getfield 84, 3) := by decide +kernel
theorem dX12_lives_113 : decode cX12_lives 113 = .ok (.iload_n 2, 1) := by decide +kernel
theorem dX12_lives_114 : decode cX12_lives 114 = .ok (.aload_n 0, 1) := by decide +kernel
theorem dX12_lives_115 : decode cX12_lives 115 = .ok (.getfield 7, 3) := by decide +kernel
theorem dX12_lives_118 : decode cX12_lives 118 = .ok (.iload_n 3, 1) := by decide +kernel
theorem dX12_lives_119 : decode cX12_lives 119 = .ok (.iconst 1, 1) := by decide +kernel
theorem dX12_lives_120 : decode cX12_lives 120 = .ok (.iadd, 1) := by decide +kernel
theorem dX12_lives_121 : decode cX12_lives 121 = .ok (.iaload, 1) := by decide +kernel
theorem dX12_lives_122 : decode cX12_lives 122 = .ok (.iconst 1, 1) := by decide +kernel
theorem dX12_lives_123 : decode cX12_lives 123 = .ok (.isub, 1) := by decide +kernel
theorem dX12_lives_124 : decode cX12_lives 124 = .ok (.iastore, 1) := by decide +kernel
theorem dX12_lives_125 : decode cX12_lives 125 = .ok (.aload_n 0, 1) := by decide +kernel
theorem dX12_lives_126 : decode cX12_lives 126 = .ok (.aload_n 0, 1) := by decide +kernel
theorem dX12_lives_127 : decode cX12_lives 127 = .ok (.getfield 7, 3) := by decide +kernel
theorem dX12_lives_130 : decode cX12_lives 130 = .ok (.iload_n 3, 1) := by decide +kernel
theorem dX12_lives_131 : decode cX12_lives 131 = .ok (.iaload, 1) := by decide +kernel
theorem dX12_lives_132 : decode cX12_lives 132 = .ok (.sipush 1900, 3) := by decide +kernel
theorem dX12_lives_135 : decode cX12_lives 135 = .ok (.if_icmp .lt 24, 3) := by decide +kernel
theorem dX12_lives_138 : decode cX12_lives 138 = .ok (.aload_n 0, 1) := by decide +kernel
theorem dX12_lives_139 : decode cX12_lives 139 = .ok (.iload_n 3, 1) := by decide +kernel
theorem dX12_lives_140 : decode cX12_lives 140 = .ok (.invokevirtual 450, 3) := by decide +kernel
theorem dX12_lives_143 : decode cX12_lives 143 = .ok (.ifCond .ne 16, 3) := by decide +kernel
theorem dX12_lives_146 : decode cX12_lives 146 = .ok (.aload_n 0, 1) := by decide +kernel
theorem dX12_lives_147 : decode cX12_lives 147 = .ok (.getfield 7, 3) := by decide +kernel
theorem dX12_lives_150 : decode cX12_lives 150 = .ok (.iload_n 3, 1) := by decide +kernel
theorem dX12_lives_151 : decode cX12_lives 151 = .ok (.iconst 4, 1) := by decide +kernel
theorem dX12_lives_152 : decode cX12_lives 152 = .ok (.iadd, 1) := by decide +kernel
theorem dX12_lives_153 : decode cX12_lives 153 = .ok (.iaload, 1) := by decide +kernel
theorem dX12_lives_154 : decode cX12_lives 154 = .ok (.iconst 1, 1) := by decide +kernel
theorem dX12_lives_155 : decode cX12_lives 155 = .ok (.iadd, 1) := by decide +kernel
theorem dX12_lives_156 : decode cX12_lives 156 = .ok (.goto 6, 3) := by decide +kernel
theorem dX12_lives_159 : decode cX12_lives 159 = .ok (.iload_n 2, 1) := by decide +kernel
theorem dX12_lives_160 : decode cX12_lives 160 = .ok (.iconst 1, 1) := by decide +kernel
theorem dX12_lives_161 : decode cX12_lives 161 = .ok (.iadd, 1) := by decide +kernel
theorem dX12_lives_162 : decode cX12_lives 162 = .ok (.invokevirtual 453, 3) := by decide +kernel
theorem dX12_lives_165 : decode cX12_lives 165 = .ok (.istore_n 2, 1) := by decide +kernel
theorem dX12_lives_166 : decode cX12_lives 166 = .ok (.goto (-133), 3) := by decide +kernel
theorem dX12_lives_169 : decode cX12_lives 169 = .ok (.return_, 1) := by decide +kernel
theorem dX12_live_0 : decode cX12_live 0 = .ok (.iload_n 1, 1) := by decide +kernel
theorem dX12_live_1 : decode cX12_live 1 = .ok (.i2l, 1) := by decide +kernel
theorem dX12_live_2 : decode cX12_live 2 = .ok (.lconst 0, 1) := by decide +kernel
theorem dX12_live_3 : decode cX12_live 3 = .ok (.ldc2_w 456, 3) := by decide +kernel
theorem dX12_live_6 : decode cX12_live 6 = .ok (.invokestatic 328, 3) := by decide +kernel
theorem dX12_live_9 : decode cX12_live 9 = .ok (.ifCond .ne 9, 3) := by decide +kernel
theorem dX12_live_12 : decode cX12_live 12 = .ok (.aload_n 0, 1) := by decide +kernel
theorem dX12_live_13 : decode cX12_live 13 = .ok (.iconst 1, 1) := by decide +kernel
theorem dX12_live_14 : decode cX12_live 14 = .ok (.invokevirtual 190, 3) := by decide +kernel
theorem dX12_live_17 : decode cX12_live 17 = .ok (.ireturn, 1) := by decide +kernel
theorem dX12_live_18 : decode cX12_live 18 = .ok (.aload_n 0, 1) := by decide +kernel
theorem dX12_live_19 : decode cX12_live 19 = .ok (.getfield 7, 3) := by decide +kernel
theorem dX12_live_22 : decode cX12_live 22 = .ok (.bipush 7, 2) := by decide +kernel
theorem dX12_live_24 : decode cX12_live 24 = .ok (.iaload, 1) := by decide +kernel
theorem dX12_live_25 : decode cX12_live 25 = .ok (.iconst (-1), 1) := by decide +kernel
theorem dX12_live_26 : decode cX12_live 26 = .ok (.if_icmp .ne 10, 3) := by decide +kernel
theorem dX12_live_29 : decode cX12_live 29 = .ok (.aload_n 0, 1) := by decide +kernel
theorem dX12_live_30 : decode cX12_live 30 = .ok (.bipush 6, 2) := by decide +kernel
theorem dX12_live_32 : decode cX12_live 32 = .ok (.invokevirtual 190, 3) := by decide +kernel
theorem dX12_live_35 : decode cX12_live 35 = .ok (.ireturn, 1) := by decide +kernel
theorem dX12_live_36 : decode cX12_live 36 = .ok (.aload_n 0, 1) := by decide +kernel
theorem dX12_live_37 : decode cX12_live 37 = .ok (.getfield 59, 3) := by decide +kernel
theorem dX12_live_40 : decode cX12_live 40 = .ok (.istore_n 2, 1) := by decide +kernel
theorem dX12_live_41 : decode cX12_live 41 = .ok (.aload_n 0, 1) := by decide +kernel
theorem dX12_live_42 : decode cX12_live 42 = .ok (.iload_n 1, 1) := by decide +kernel
theorem dX12_live_43 : decode cX12_live 43 = .ok (.invokevirtual 458, 3) := by decide +kernel
theorem dX12_live_46 : decode cX12_live 46 = .ok (.aload_n 0, 1) := by decide +kernel
theorem dX12_live_47 : decode cX12_live 47 = .ok (.iload_n 2, 1) := by decide +kernel
theorem dX12_live_48 : decode cX12_live 48 = .ok (.putfield 59, 3) := by decide +kernel
theorem dX12_live_51 : decode cX12_live 51 = .ok (.iconst 0, 1) := by decide +kernel
theorem dX12_live_52 : decode cX12_live 52 = .ok (.istore_n 3, 1) := by decide +kernel
theorem dX12_live_53 : decode cX12_live 53 = .ok (.iload_n 3, 1) := by decide +kernel
theorem dX12_live_54 : decode cX12_live 54 = .ok (.bipush 6, 2) := by decide +kernel
theorem dX12_live_56 : decode cX12_live 56 = .ok (.if_icmp .ge 21, 3) := by decide +kernel
theorem dX12_live_59 : decode cX12_live 59 = .ok (.aload_n 0, 1) := by decide +kernel
theorem dX12_live_60 : decode cX12_live 60 = .ok (.getfield 90, 3) := by decide +kernel
theorem dX12_live_63 : decode cX12_live 63 = .ok (.iload_n 3, 1) := by decide +kernel
theorem dX12_live_64 : decode cX12_live 64 = .ok (.aload_n 0, 1) := by decide +kernel
theorem dX12_live_65 : decode cX12_live 65 = .ok (.getfield 87, 3) := by decide +kernel
theorem dX12_live_68 : decode cX12_live 68 = .ok (.iload_n 3, 1) := by decide +kernel
theorem dX12_live_69 : decode cX12_live 69 = .ok (.iaload, 1) := by decide +kernel
theorem dX12_live_70 : decode cX12_live 70 = .ok (.iastore, 1) := by decide +kernel
theorem dX12_live_71 : decode cX12_live 71 = .ok (.iinc 3 1, 3) := by decide +kernel
theorem dX12_live_74 : decode cX12_live 74 = .ok (.goto (-21), 3) := by decide +kernel
theorem dX12_live_77 : decode cX12_live 77 = .ok (.aload_n 0, 1) := by decide +kernel
theorem dX12_live_78 : decode cX12_live 78 = .ok (.iconst 1, 1) := by decide +kernel
theorem dX12_live_79 : decode cX12_live 79 = .ok (.putfield 461, 3) := by decide +kernel
theorem dX12_live_82 : decode cX12_live 82 = .ok (.aload_n 0, 1) := by decide +kernel
theorem dX12_live_83 : decode cX12_live 83 = .ok (.aload_n 0, 1) := by decide +kernel
theorem dX12_live_84 : decode cX12_live 84 = .ok (.getfield 444, 3) := by decide +kernel
theorem dX12_live_87 : decode cX12_live 87 = .ok (.invokevirtual 193, 3) := by decide +kernel
theorem dX12_live_90 : decode cX12_live 90 = .ok (.ireturn, 1) := by decide +kernel
theorem dX12_lived_0 : decode cX12_lived 0 = .ok (.iload_n 1, 1) := by decide +kernel
theorem dX12_lived_1 : decode cX12_lived 1 = .ok (.ifCond .lt 8, 3) := by decide +kernel
theorem dX12_lived_4 : decode cX12_lived 4 = .ok (.iload_n 1, 1) := by decide +kernel
theorem dX12_lived_5 : decode cX12_lived 5 = .ok (.iconst 5, 1) := by decide +kernel
theorem dX12_lived_6 : decode cX12_lived 6 = .ok (.if_icmp .le 11, 3) := by decide +kernel
theorem dX12_lived_9 : decode cX12_lived 9 = .ok (.aload_n 0, 1) := by decide +kernel
theorem dX12_lived_10 : decode cX12_lived 10 = .ok (.iconst 1, 1) := by decide +kernel
theorem dX12_lived_11 : decode cX12_lived 11 = .ok (.invokevirtual 190, 3) := by decide +kernel
theorem dX12_lived_14 : decode cX12_lived 14 = .ok (.goto 29, 3) := by decide +kernel
theorem dX12_lived_17 : decode cX12_lived 17 = .ok (.aload_n 0, 1) := by decide +kernel
theorem dX12_lived_18 : decode cX12_lived 18 = .ok (.getfield 461, 3) := by decide +kernel
theorem dX12_lived_21 : decode cX12_lived 21 = .ok (.ifCond .eq 16, 3) := by decide +kernel
theorem dX12_lived_24 : decode cX12_lived 24 = .ok (.aload_n 0, 1) := by decide +kernel
theorem dX12_lived_25 : decode cX12_lived 25 = .ok (.aload_n 0, 1) := by decide +kernel
theorem dX12_lived_26 : decode cX12_lived 26 = .ok (.getfield 90, 3) := by decide +kernel
theorem dX12_lived_29 : decode cX12_lived 29 = .ok (.iload_n 1, 1) := by decide +kernel
theorem dX12_lived_30 : decode cX12_lived 30 = .ok (.iaload, 1) := by decide +kernel
theorem dX12_lived_31 : decode cX12_lived 31 = .ok (.invokevirtual 193, 3) := by decide +kernel
theorem dX12_lived_34 : decode cX12_lived 34 = .ok (.goto 9, 3) := by decide +kernel
theorem dX12_lived_37 : decode cX12_lived 37 = .ok (.aload_n 0, 1) := by decide +kernel
theorem dX12_lived_38 : decode cX12_lived 38 = .ok (.bipush 6, 2) := by decide +kernel
theorem dX12_lived_40 : decode cX12_lived 40 = .ok (.invokevirtual 190, 3) := by decide +kernel
theorem dX12_lived_43 : decode cX12_lived 43 = .ok (.ireturn, 1) := by decide +kernel
theorem dX12_agreed_0 : decode cX12_agreed 0 = .ok (.iload_n 1, 1) := by decide +kernel
theorem dX12_agreed_1 : decode cX12_agreed 1 = .ok (.i2l, 1) := by decide +kernel
theorem dX12_agreed_2 : decode cX12_agreed 2 = .ok (.lconst 0, 1) := by decide +kernel
theorem dX12_agreed_3 : decode cX12_agreed 3 = .ok (.ldc2_w 456, 3) := by decide +kernel
theorem dX12_agreed_6 : decode cX12_agreed 6 = .ok (.invokestatic 328, 3) := by decide +kernel
theorem dX12_agreed_9 : decode cX12_agreed 9 = .ok (.ifCond .eq 26, 3) := by decide +kernel
theorem dX12_agreed_12 : decode cX12_agreed 12 = .ok (.iload_n 2, 1) := by decide +kernel
theorem dX12_agreed_13 : decode cX12_agreed 13 = .ok (.i2l, 1) := by decide +kernel
theorem dX12_agreed_14 : decode cX12_agreed 14 = .ok (.lconst 1, 1) := by decide +kernel
theorem dX12_agreed_15 : decode cX12_agreed 15 = .ok (.ldc2_w 465, 3) := by decide +kernel
theorem dX12_agreed_18 : decode cX12_agreed 18 = .ok (.invokestatic 328, 3) := by decide +kernel
theorem dX12_agreed_21 : decode cX12_agreed 21 = .ok (.ifCond .eq 14, 3) := by decide +kernel
theorem dX12_agreed_24 : decode cX12_agreed 24 = .ok (.iload_n 1, 1) := by decide +kernel
theorem dX12_agreed_25 : decode cX12_agreed 25 = .ok (.iload_n 2, 1) := by decide +kernel
theorem dX12_agreed_26 : decode cX12_agreed 26 = .ok (.iadd, 1) := by decide +kernel
theorem dX12_agreed_27 : decode cX12_agreed 27 = .ok (.iconst 1, 1) := by decide +kernel
theorem dX12_agreed_28 : decode cX12_agreed 28 = .ok (.isub, 1) := by decide +kernel
theorem dX12_agreed_29 : decode cX12_agreed 29 = .ok (.sipush 9999, 3) := by decide +kernel
theorem dX12_agreed_32 : decode cX12_agreed 32 = .ok (.if_icmp .le 9, 3) := by decide +kernel
theorem dX12_agreed_35 : decode cX12_agreed 35 = .ok (.aload_n 0, 1) := by decide +kernel
theorem dX12_agreed_36 : decode cX12_agreed 36 = .ok (.iconst 1, 1) := by decide +kernel
theorem dX12_agreed_37 : decode cX12_agreed 37 = .ok (.invokevirtual 103, 3) := by decide +kernel
theorem dX12_agreed_40 : decode cX12_agreed 40 = .ok (.ireturn, 1) := by decide +kernel
theorem dX12_agreed_41 : decode cX12_agreed 41 = .ok (.aload_n 0, 1) := by decide +kernel
theorem dX12_agreed_42 : decode cX12_agreed 42 = .ok (.getfield 7, 3) := by decide +kernel
theorem dX12_agreed_45 : decode cX12_agreed 45 = .ok (.bipush 7, 2) := by decide +kernel
theorem dX12_agreed_47 : decode cX12_agreed 47 = .ok (.iaload, 1) := by decide +kernel
theorem dX12_agreed_48 : decode cX12_agreed 48 = .ok (.iconst (-1), 1) := by decide +kernel
theorem dX12_agreed_49 : decode cX12_agreed 49 = .ok (.if_icmp .ne 10, 3) := by decide +kernel
theorem dX12_agreed_52 : decode cX12_agreed 52 = .ok (.aload_n 0, 1) := by decide +kernel
theorem dX12_agreed_53 : decode cX12_agreed 53 = .ok (.bipush 6, 2) := by decide +kernel
theorem dX12_agreed_55 : decode cX12_agreed 55 = .ok (.invokevirtual 103, 3) := by decide +kernel
theorem dX12_agreed_58 : decode cX12_agreed 58 = .ok (.ireturn, 1) := by decide +kernel
theorem dX12_agreed_59 : decode cX12_agreed 59 = .ok (.aload_n 0, 1) := by decide +kernel
theorem dX12_agreed_60 : decode cX12_agreed 60 = .ok (.getfield 59, 3) := by decide +kernel
theorem dX12_agreed_63 : decode cX12_agreed 63 = .ok (.istore_n 3, 1) := by decide +kernel
theorem dX12_agreed_64 : decode cX12_agreed 64 = .ok (.iconst 0, 1) := by decide +kernel
theorem dX12_agreed_65 : decode cX12_agreed 65 = .ok (.istore 4, 2) := by decide +kernel
theorem dX12_agreed_67 : decode cX12_agreed 67 = .ok (.iload 4, 2) := by decide +kernel
theorem dX12_agreed_69 : decode cX12_agreed 69 = .ok (.sipush 4480, 3) := by decide +kernel
theorem dX12_agreed_72 : decode cX12_agreed 72 = .ok (.if_icmp .ge 27, 3) := by decide +kernel
theorem dX12_agreed_75 : decode cX12_agreed 75 = .ok (.aload_n 0, 1) := by decide +kernel
theorem dX12_agreed_76 : decode cX12_agreed 76 = .ok (.getfield 7, 3) := by decide +kernel
theorem dX12_agreed_79 : decode cX12_agreed 79 = .ok (.sipush 24250, 3) := by decide +kernel
theorem dX12_agreed_82 : decode cX12_agreed 82 = .ok (.iload 4, 2) := by decide +kernel
theorem dX12_agreed_84 : decode cX12_agreed 84 = .ok (.iadd, 1) := by decide +kernel
theorem dX12_agreed_85 : decode cX12_agreed 85 = .ok (.aload_n 0, 1) := by decide +kernel
theorem dX12_agreed_86 : decode cX12_agreed 86 = .ok (.getfield 7, 3) := by decide +kernel
theorem dX12_agreed_89 : decode cX12_agreed 89 = .ok (.iload 4, 2) := by decide +kernel
theorem dX12_agreed_91 : decode cX12_agreed 91 = .ok (.iaload, 1) := by decide +kernel
theorem dX12_agreed_92 : decode cX12_agreed 92 = .ok (.iastore, 1) := by decide +kernel
theorem dX12_agreed_93 : decode cX12_agreed 93 = .ok (.iinc 4 1, 3) := by decide +kernel
theorem dX12_agreed_96 : decode cX12_agreed 96 = .ok (.goto (-29), 3) := by decide +kernel
theorem dX12_agreed_99 : decode cX12_agreed 99 = .ok (.iconst 0, 1) := by decide +kernel
theorem dX12_agreed_100 : decode cX12_agreed 100 = .ok (.istore 4, 2) := by decide +kernel
theorem dX12_agreed_102 : decode cX12_agreed 102 = .ok (.iconst 0, 1) := by decide +kernel
theorem dX12_agreed_103 : decode cX12_agreed 103 = .ok (.istore 5, 2) := by decide +kernel
theorem dX12_agreed_105 : decode cX12_agreed 105 = .ok (.iload 5, 2) := by decide +kernel
theorem dX12_agreed_107 : decode cX12_agreed 107 = .ok (.iload_n 2, 1) := by decide +kernel
theorem dX12_agreed_108 : decode cX12_agreed 108 = .ok (.if_icmp .ge 79, 3) := by decide +kernel
theorem dX12_agreed_111 : decode cX12_agreed 111 = .ok (.aload_n 0, 1) := by decide +kernel
theorem dX12_agreed_112 : decode cX12_agreed 112 = .ok (.iload_n 1, 1) := by decide +kernel
theorem dX12_agreed_113 : decode cX12_agreed 113 = .ok (.iload 5, 2) := by decide +kernel
theorem dX12_agreed_115 : decode cX12_agreed 115 = .ok (.iadd, 1) := by decide +kernel
theorem dX12_agreed_116 : decode cX12_agreed 116 = .ok (.invokevirtual 458, 3) := by decide +kernel
theorem dX12_agreed_119 : decode cX12_agreed 119 = .ok (.iload 4, 2) := by decide +kernel
theorem dX12_agreed_121 : decode cX12_agreed 121 = .ok (.aload_n 0, 1) := by decide +kernel
theorem dX12_agreed_122 : decode cX12_agreed 122 = .ok (.invokevirtual 392, 3) := by decide +kernel
theorem dX12_agreed_125 : decode cX12_agreed 125 = .ok (.iconst 1, 1) := by decide +kernel
theorem dX12_agreed_126 : decode cX12_agreed 126 = .ok (.aload_n 0, 1) := by decide +kernel
theorem dX12_agreed_127 : decode cX12_agreed 127 = .ok (.getfield 7, 3) := by decide +kernel
theorem dX12_agreed_130 : decode cX12_agreed 130 = .ok (.iconst 4, 1) := by decide +kernel
theorem dX12_agreed_131 : decode cX12_agreed 131 = .ok (.iaload, 1) := by decide +kernel
theorem dX12_agreed_132 : decode cX12_agreed 132 = .ok (.ishl, 1) := by decide +kernel
theorem dX12_agreed_133 : decode cX12_agreed 133 = .ok (.iconst 1, 1) := by decide +kernel
theorem dX12_agreed_134 : decode cX12_agreed 134 = .ok (.isub, 1) := by decide +kernel
theorem dX12_agreed_135 : decode cX12_agreed 135 = .ok (.if_icmp .ne 7, 3) := by decide +kernel
theorem dX12_agreed_138 : decode cX12_agreed 138 = .ok (.iconst 1, 1) := by decide +kernel
theorem dX12_agreed_139 : decode cX12_agreed 139 = .ok (.goto 4, 3) := by decide +kernel
theorem dX12_agreed_142 : decode cX12_agreed 142 = .ok (.iconst 0, 1) := by decide +kernel
theorem dX12_agreed_143 : decode cX12_agreed 143 = .ok (.iadd, 1) := by decide +kernel
theorem dX12_agreed_144 : decode cX12_agreed 144 = .ok (.istore 4, 2) := by decide +kernel
theorem dX12_agreed_146 : decode cX12_agreed 146 = .ok (.iconst 0, 1) := by decide +kernel
theorem dX12_agreed_147 : decode cX12_agreed 147 = .ok (.istore 6, 2) := by decide +kernel
theorem dX12_agreed_149 : decode cX12_agreed 149 = .ok (.iload 6, 2) := by decide +kernel
theorem dX12_agreed_151 : decode cX12_agreed 151 = .ok (.sipush 4480, 3) := by decide +kernel
theorem dX12_agreed_154 : decode cX12_agreed 154 = .ok (.if_icmp .ge 27, 3) := by decide +kernel
theorem dX12_agreed_157 : decode cX12_agreed 157 = .ok (.aload_n 0, 1) := by decide +kernel
theorem dX12_agreed_158 : decode cX12_agreed 158 = .ok (.getfield 7, 3) := by decide +kernel
theorem dX12_agreed_161 : decode cX12_agreed 161 = .ok (.iload 6, 2) := by decide +kernel
theorem dX12_agreed_163 : decode cX12_agreed 163 = .ok (.aload_n 0, 1) := by decide +kernel
theorem dX12_agreed_164 : decode cX12_agreed 164 = .ok (.getfield 7, 3) := by decide +kernel
theorem dX12_agreed_167 : decode cX12_agreed 167 = .ok (.sipush 24250, 3) := by decide +kernel
theorem dX12_agreed_170 : decode cX12_agreed 170 = .ok (.iload 6, 2) := by decide +kernel
theorem dX12_agreed_172 : decode cX12_agreed 172 = .ok (.iadd, 1) := by decide +kernel
theorem dX12_agreed_173 : decode cX12_agreed 173 = .ok (.iaload, 1) := by decide +kernel
theorem dX12_agreed_174 : decode cX12_agreed 174 = .ok (.iastore, 1) := by decide +kernel
theorem dX12_agreed_175 : decode cX12_agreed 175 = .ok (.iinc 6 1, 3) := by decide +kernel
theorem dX12_agreed_178 : decode cX12_agreed 178 = .ok (.goto (-29), 3) := by decide +kernel
theorem dX12_agreed_181 : decode cX12_agreed 181 = .ok (.iinc 5 1, 3) := by decide +kernel
theorem dX12_agreed_184 : decode cX12_agreed 184 = .ok (.goto (-79), 3) := by decide +kernel
theorem dX12_agreed_187 : decode cX12_agreed 187 = .ok (.aload_n 0, 1) := by decide +kernel
theorem dX12_agreed_188 : decode cX12_agreed 188 = .ok (.iload_n 3, 1) := by decide +kernel
theorem dX12_agreed_189 : decode cX12_agreed 189 = .ok (.putfield 59, 3) := by decide +kernel
theorem dX12_agreed_192 : decode cX12_agreed 192 = .ok (.aload_n 0, 1) := by decide +kernel
theorem dX12_agreed_193 : decode cX12_agreed 193 = .ok (.iload 4, 2) := by decide +kernel
theorem dX12_agreed_195 : decode cX12_agreed 195 = .ok (.i2l, 1) := by decide +kernel
theorem dX12_agreed_196 : decode cX12_agreed 196 = .ok (.iload_n 2, 1) := by decide +kernel
theorem dX12_agreed_197 : decode cX12_agreed 197 = .ok (.i2l, 1) := by decide +kernel
theorem dX12_agreed_198 : decode cX12_agreed 198 = .ok (.invokevirtual 427, 3) := by decide +kernel
theorem dX12_agreed_201 : decode cX12_agreed 201 = .ok (.ireturn, 1) := by decide +kernel
theorem dX12_copies_0 : decode cX12_copies 0 = .ok (.iconst 0, 1) := by decide +kernel
theorem dX12_copies_1 : decode cX12_copies 1 = .ok (.istore_n 3, 1) := by decide +kernel
theorem dX12_copies_2 : decode cX12_copies 2 = .ok (.iload_n 3, 1) := by decide +kernel
theorem dX12_copies_3 : decode cX12_copies 3 = .ok (.sipush 4850, 3) := by decide +kernel
theorem dX12_copies_6 : decode cX12_copies 6 = .ok (.if_icmp .ge 33, 3) := by decide +kernel
theorem dX12_copies_9 : decode cX12_copies 9 = .ok (.aload_n 0, 1) := by decide +kernel
theorem dX12_copies_10 : decode cX12_copies 10 = .ok (.getfield 7, 3) := by decide +kernel
theorem dX12_copies_13 : decode cX12_copies 13 = .ok (.sipush 4850, 3) := by decide +kernel
theorem dX12_copies_16 : decode cX12_copies 16 = .ok (.iload_n 2, 1) := by decide +kernel
theorem dX12_copies_17 : decode cX12_copies 17 = .ok (.imul, 1) := by decide +kernel
theorem dX12_copies_18 : decode cX12_copies 18 = .ok (.iload_n 3, 1) := by decide +kernel
theorem dX12_copies_19 : decode cX12_copies 19 = .ok (.iadd, 1) := by decide +kernel
theorem dX12_copies_20 : decode cX12_copies 20 = .ok (.aload_n 0, 1) := by decide +kernel
theorem dX12_copies_21 : decode cX12_copies 21 = .ok (.getfield 7, 3) := by decide +kernel
theorem dX12_copies_24 : decode cX12_copies 24 = .ok (.sipush 4850, 3) := by decide +kernel
theorem dX12_copies_27 : decode cX12_copies 27 = .ok (.iload_n 1, 1) := by decide +kernel
theorem dX12_copies_28 : decode cX12_copies 28 = .ok (.imul, 1) := by decide +kernel
theorem dX12_copies_29 : decode cX12_copies 29 = .ok (.iload_n 3, 1) := by decide +kernel
theorem dX12_copies_30 : decode cX12_copies 30 = .ok (.iadd, 1) := by decide +kernel
theorem dX12_copies_31 : decode cX12_copies 31 = .ok (.iaload, 1) := by decide +kernel
theorem dX12_copies_32 : decode cX12_copies 32 = .ok (.iastore, 1) := by decide +kernel
theorem dX12_copies_33 : decode cX12_copies 33 = .ok (.iinc 3 1, 3) := by decide +kernel
theorem dX12_copies_36 : decode cX12_copies 36 = .ok (.goto (-34), 3) := by decide +kernel
theorem dX12_copies_39 : decode cX12_copies 39 = .ok (.iconst 0, 1) := by decide +kernel
theorem dX12_copies_40 : decode cX12_copies 40 = .ok (.istore_n 3, 1) := by decide +kernel
theorem dX12_copies_41 : decode cX12_copies 41 = .ok (.iload_n 3, 1) := by decide +kernel
theorem dX12_copies_42 : decode cX12_copies 42 = .ok (.bipush 12, 2) := by decide +kernel
theorem dX12_copies_44 : decode cX12_copies 44 = .ok (.if_icmp .ge 31, 3) := by decide +kernel
theorem dX12_copies_47 : decode cX12_copies 47 = .ok (.aload_n 0, 1) := by decide +kernel
theorem dX12_copies_48 : decode cX12_copies 48 = .ok (.getfield 13, 3) := by decide +kernel
theorem dX12_copies_51 : decode cX12_copies 51 = .ok (.bipush 12, 2) := by decide +kernel
theorem dX12_copies_53 : decode cX12_copies 53 = .ok (.iload_n 2, 1) := by decide +kernel
theorem dX12_copies_54 : decode cX12_copies 54 = .ok (.imul, 1) := by decide +kernel
theorem dX12_copies_55 : decode cX12_copies 55 = .ok (.iload_n 3, 1) := by decide +kernel
theorem dX12_copies_56 : decode cX12_copies 56 = .ok (.iadd, 1) := by decide +kernel
theorem dX12_copies_57 : decode cX12_copies 57 = .ok (.aload_n 0, 1) := by decide +kernel
theorem dX12_copies_58 : decode cX12_copies 58 = .ok (.getfield 13, 3) := by decide +kernel
theorem dX12_copies_61 : decode cX12_copies 61 = .ok (.bipush 12, 2) := by decide +kernel
theorem dX12_copies_63 : decode cX12_copies 63 = .ok (.iload_n 1, 1) := by decide +kernel
theorem dX12_copies_64 : decode cX12_copies 64 = .ok (.imul, 1) := by decide +kernel
theorem dX12_copies_65 : decode cX12_copies 65 = .ok (.iload_n 3, 1) := by decide +kernel
theorem dX12_copies_66 : decode cX12_copies 66 = .ok (.iadd, 1) := by decide +kernel
theorem dX12_copies_67 : decode cX12_copies 67 = .ok (.laload, 1) := by decide +kernel
theorem dX12_copies_68 : decode cX12_copies 68 = .ok (.lastore, 1) := by decide +kernel
theorem dX12_copies_69 : decode cX12_copies 69 = .ok (.iinc 3 1, 3) := by decide +kernel
theorem dX12_copies_72 : decode cX12_copies 72 = .ok (.goto (-31), 3) := by decide +kernel
theorem dX12_copies_75 : decode cX12_copies 75 = .ok (.return_, 1) := by decide +kernel
theorem dX12_mark_0 : decode cX12_mark 0 = .ok (.aload_n 0, 1) := by decide +kernel
theorem dX12_mark_1 : decode cX12_mark 1 = .ok (.getfield 467, 3) := by decide +kernel
theorem dX12_mark_4 : decode cX12_mark 4 = .ok (.iconst 3, 1) := by decide +kernel
theorem dX12_mark_5 : decode cX12_mark 5 = .ok (.if_icmp .ne 9, 3) := by decide +kernel
theorem dX12_mark_8 : decode cX12_mark 8 = .ok (.aload_n 0, 1) := by decide +kernel
theorem dX12_mark_9 : decode cX12_mark 9 = .ok (.iconst 4, 1) := by decide +kernel
theorem dX12_mark_10 : decode cX12_mark 10 = .ok (.invokevirtual 190, 3) := by decide +kernel
theorem dX12_mark_13 : decode cX12_mark 13 = .ok (.ireturn, 1) := by decide +kernel
theorem dX12_mark_14 : decode cX12_mark 14 = .ok (.aload_n 0, 1) := by decide +kernel
theorem dX12_mark_15 : decode cX12_mark 15 = .ok (.dup, 1) := by decide +kernel
theorem dX12_mark_16 : decode cX12_mark 16 = .ok (.getfield 467, 3) := by decide +kernel
theorem dX12_mark_19 : decode cX12_mark 19 = .ok (.iconst 1, 1) := by decide +kernel
theorem dX12_mark_20 : decode cX12_mark 20 = .ok (.iadd, 1) := by decide +kernel
theorem dX12_mark_21 : decode cX12_mark 21 = .ok (.putfield 467, 3) := by decide +kernel
theorem dX12_mark_24 : decode cX12_mark 24 = .ok (.aload_n 0, 1) := by decide +kernel
theorem dX12_mark_25 : decode cX12_mark 25 = .ok (.iconst 0, 1) := by decide +kernel
theorem dX12_mark_26 : decode cX12_mark 26 = .ok (.aload_n 0, 1) := by decide +kernel
theorem dX12_mark_27 : decode cX12_mark 27 = .ok (.getfield 467, 3) := by decide +kernel
theorem dX12_mark_30 : decode cX12_mark 30 = .ok (.invokevirtual 470, 3) := by decide +kernel
theorem dX12_mark_33 : decode cX12_mark 33 = .ok (.aload_n 0, 1) := by decide +kernel
theorem dX12_mark_34 : decode cX12_mark 34 = .ok (.aload_n 0, 1) := by decide +kernel
theorem dX12_mark_35 : decode cX12_mark 35 = .ok (.getfield 467, 3) := by decide +kernel
theorem dX12_mark_38 : decode cX12_mark 38 = .ok (.invokevirtual 193, 3) := by decide +kernel
theorem dX12_mark_41 : decode cX12_mark 41 = .ok (.ireturn, 1) := by decide +kernel
theorem dX12_back_0 : decode cX12_back 0 = .ok (.aload_n 0, 1) := by decide +kernel
theorem dX12_back_1 : decode cX12_back 1 = .ok (.getfield 467, 3) := by decide +kernel
theorem dX12_back_4 : decode cX12_back 4 = .ok (.ifCond .ne 10, 3) := by decide +kernel
theorem dX12_back_7 : decode cX12_back 7 = .ok (.aload_n 0, 1) := by decide +kernel
theorem dX12_back_8 : decode cX12_back 8 = .ok (.bipush 6, 2) := by decide +kernel
theorem dX12_back_10 : decode cX12_back 10 = .ok (.invokevirtual 190, 3) := by decide +kernel
theorem dX12_back_13 : decode cX12_back 13 = .ok (.ireturn, 1) := by decide +kernel
theorem dX12_back_14 : decode cX12_back 14 = .ok (.aload_n 0, 1) := by decide +kernel
theorem dX12_back_15 : decode cX12_back 15 = .ok (.aload_n 0, 1) := by decide +kernel
theorem dX12_back_16 : decode cX12_back 16 = .ok (.getfield 467, 3) := by decide +kernel
theorem dX12_back_19 : decode cX12_back 19 = .ok (.iconst 0, 1) := by decide +kernel
theorem dX12_back_20 : decode cX12_back 20 = .ok (.invokevirtual 470, 3) := by decide +kernel
theorem dX12_back_23 : decode cX12_back 23 = .ok (.aload_n 0, 1) := by decide +kernel
theorem dX12_back_24 : decode cX12_back 24 = .ok (.dup, 1) := by decide +kernel
theorem dX12_back_25 : decode cX12_back 25 = .ok (.getfield 467, 3) := by decide +kernel
theorem dX12_back_28 : decode cX12_back 28 = .ok (.iconst 1, 1) := by decide +kernel
theorem dX12_back_29 : decode cX12_back 29 = .ok (.isub, 1) := by decide +kernel
theorem dX12_back_30 : decode cX12_back 30 = .ok (.putfield 467, 3) := by decide +kernel
theorem dX12_back_33 : decode cX12_back 33 = .ok (.aload_n 0, 1) := by decide +kernel
theorem dX12_back_34 : decode cX12_back 34 = .ok (.aload_n 0, 1) := by decide +kernel
theorem dX12_back_35 : decode cX12_back 35 = .ok (.getfield 467, 3) := by decide +kernel
theorem dX12_back_38 : decode cX12_back 38 = .ok (.invokevirtual 193, 3) := by decide +kernel
theorem dX12_back_41 : decode cX12_back 41 = .ok (.ireturn, 1) := by decide +kernel
