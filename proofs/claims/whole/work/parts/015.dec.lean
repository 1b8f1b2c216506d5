theorem dX12_init_0 : decode cX12_init 0 = .ok (.aload_n 0, 1) := by decide +kernel
theorem dX12_init_1 : decode cX12_init 1 = .ok (.invokespecial 1, 3) := by decide +kernel
theorem dX12_init_4 : decode cX12_init 4 = .ok (.aload_n 0, 1) := by decide +kernel
theorem dX12_init_5 : decode cX12_init 5 = .ok (.sipush 29600, 3) := by decide +kernel
theorem dX12_init_8 : decode cX12_init 8 = .ok (.newarray .int, 2) := by decide +kernel
theorem dX12_init_10 : decode cX12_init 10 = .ok (.putfield 7, 3) := by decide +kernel
theorem dX12_init_13 : decode cX12_init 13 = .ok (.aload_n 0, 1) := by decide +kernel
theorem dX12_init_14 : decode cX12_init 14 = .ok (.bipush 70, 2) := by decide +kernel
theorem dX12_init_16 : decode cX12_init 16 = .ok (.newarray .long, 2) := by decide +kernel
theorem dX12_init_18 : decode cX12_init 18 = .ok (.putfield 13, 3) := by decide +kernel
theorem dX12_init_21 : decode cX12_init 21 = .ok (.aload_n 0, 1) := by decide +kernel
theorem dX12_init_22 : decode cX12_init 22 = .ok (.lconst 1, 1) := by decide +kernel
theorem dX12_init_23 : decode cX12_init 23 = .ok (.putfield 17, 3) := by decide +kernel
theorem dX12_init_26 : decode cX12_init 26 = .ok (.aload_n 0, 1) := by decide +kernel
theorem dX12_init_27 : decode cX12_init 27 = .ok (.iconst 4, 1) := by decide +kernel
theorem dX12_init_28 : decode cX12_init 28 = .ok (.newarray .int, 2) := by decide +kernel
theorem dX12_init_30 : decode cX12_init 30 = .ok (.putfield 21, 3) := by decide +kernel
theorem dX12_init_33 : decode cX12_init 33 = .ok (.aload_n 0, 1) := by decide +kernel
theorem dX12_init_34 : decode cX12_init 34 = .ok (.iconst 4, 1) := by decide +kernel
theorem dX12_init_35 : decode cX12_init 35 = .ok (.newarray .int, 2) := by decide +kernel
theorem dX12_init_37 : decode cX12_init 37 = .ok (.dup, 1) := by decide +kernel
theorem dX12_init_38 : decode cX12_init 38 = .ok (.iconst 0, 1) := by decide +kernel
theorem dX12_init_39 : decode cX12_init 39 = .ok (.iconst (-1), 1) := by decide +kernel
theorem dX12_init_40 : decode cX12_init 40 = .ok (.iastore, 1) := by decide +kernel
theorem dX12_init_41 : decode cX12_init 41 = .ok (.dup, 1) := by decide +kernel
theorem dX12_init_42 : decode cX12_init 42 = .ok (.iconst 1, 1) := by decide +kernel
theorem dX12_init_43 : decode cX12_init 43 = .ok (.iconst (-1), 1) := by decide +kernel
theorem dX12_init_44 : decode cX12_init 44 = .ok (.iastore, 1) := by decide +kernel
theorem dX12_init_45 : decode cX12_init 45 = .ok (.dup, 1) := by decide +kernel
theorem dX12_init_46 : decode cX12_init 46 = .ok (.iconst 2, 1) := by decide +kernel
theorem dX12_init_47 : decode cX12_init 47 = .ok (.iconst (-1), 1) := by decide +kernel
theorem dX12_init_48 : decode cX12_init 48 = .ok (.iastore, 1) := by decide +kernel
theorem dX12_init_49 : decode cX12_init 49 = .ok (.dup, 1) := by decide +kernel
theorem dX12_init_50 : decode cX12_init 50 = .ok (.iconst 3, 1) := by decide +kernel
theorem dX12_init_51 : decode cX12_init 51 = .ok (.iconst (-1), 1) := by decide +kernel
theorem dX12_init_52 : decode cX12_init 52 = .ok (.iastore, 1) := by decide +kernel
theorem dX12_init_53 : decode cX12_init 53 = .ok (.putfield 24, 3) := by decide +kernel
theorem dX12_init_56 : decode cX12_init 56 = .ok (.aload_n 0, 1) := by decide +kernel
theorem dX12_init_57 : decode cX12_init 57 = .ok (.sipush 240, 3) := by decide +kernel
theorem dX12_init_60 : decode cX12_init 60 = .ok (.newarray .long, 2) := by decide +kernel
theorem dX12_init_62 : decode cX12_init 62 = .ok (.putfield 27, 3) := by decide +kernel
theorem dX12_init_65 : decode cX12_init 65 = .ok (.aload_n 0, 1) := by decide +kernel
theorem dX12_init_66 : decode cX12_init 66 = .ok (.sipush 900, 3) := by decide +kernel
theorem dX12_init_69 : decode cX12_init 69 = .ok (.newarray .byte, 2) := by decide +kernel
theorem dX12_init_71 : decode cX12_init 71 = .ok (.putfield 30, 3) := by decide +kernel
theorem dX12_init_74 : decode cX12_init 74 = .ok (.aload_n 0, 1) := by decide +kernel
theorem dX12_init_75 : decode cX12_init 75 = .ok (.sipush 900, 3) := by decide +kernel
theorem dX12_init_78 : decode cX12_init 78 = .ok (.newarray .byte, 2) := by decide +kernel
theorem dX12_init_80 : decode cX12_init 80 = .ok (.putfield 34, 3) := by decide +kernel
theorem dX12_init_83 : decode cX12_init 83 = .ok (.aload_n 0, 1) := by decide +kernel
theorem dX12_init_84 : decode cX12_init 84 = .ok (.iconst (-1), 1) := by decide +kernel
theorem dX12_init_85 : decode cX12_init 85 = .ok (.putfield 37, 3) := by decide +kernel
theorem dX12_init_88 : decode cX12_init 88 = .ok (.aload_n 0, 1) := by decide +kernel
theorem dX12_init_89 : decode cX12_init 89 = .ok (.iconst (-1), 1) := by decide +kernel
theorem dX12_init_90 : decode cX12_init 90 = .ok (.putfield 41, 3) := by decide +kernel
theorem dX12_init_93 : decode cX12_init 93 = .ok (.aload_n 0, 1) := by decide +kernel
theorem dX12_init_94 : decode cX12_init 94 = .ok (.iconst 3, 1) := by decide +kernel
theorem dX12_init_95 : decode cX12_init 95 = .ok (.newarray .int, 2) := by decide +kernel
theorem dX12_init_97 : decode cX12_init 97 = .ok (.putfield 44, 3) := by decide +kernel
theorem dX12_init_100 : decode cX12_init 100 = .ok (.aload_n 0, 1) := by decide +kernel
theorem dX12_init_101 : decode cX12_init 101 = .ok (.bipush 6, 2) := by decide +kernel
theorem dX12_init_103 : decode cX12_init 103 = .ok (.newarray .int, 2) := by decide +kernel
theorem dX12_init_105 : decode cX12_init 105 = .ok (.putfield 47, 3) := by decide +kernel
theorem dX12_init_108 : decode cX12_init 108 = .ok (.aload_n 0, 1) := by decide +kernel
theorem dX12_init_109 : decode cX12_init 109 = .ok (.sipush 180, 3) := by decide +kernel
theorem dX12_init_112 : decode cX12_init 112 = .ok (.newarray .int, 2) := by decide +kernel
theorem dX12_init_114 : decode cX12_init 114 = .ok (.putfield 50, 3) := by decide +kernel
theorem dX12_init_117 : decode cX12_init 117 = .ok (.aload_n 0, 1) := by decide +kernel
theorem dX12_init_118 : decode cX12_init 118 = .ok (.sipush 180, 3) := by decide +kernel
theorem dX12_init_121 : decode cX12_init 121 = .ok (.newarray .int, 2) := by decide +kernel
theorem dX12_init_123 : decode cX12_init 123 = .ok (.putfield 53, 3) := by decide +kernel
theorem dX12_init_126 : decode cX12_init 126 = .ok (.aload_n 0, 1) := by decide +kernel
theorem dX12_init_127 : decode cX12_init 127 = .ok (.sipush 180, 3) := by decide +kernel
theorem dX12_init_130 : decode cX12_init 130 = .ok (.newarray .int, 2) := by decide +kernel
theorem dX12_init_132 : decode cX12_init 132 = .ok (.putfield 56, 3) := by decide +kernel
theorem dX12_init_135 : decode cX12_init 135 = .ok (.aload_n 0, 1) := by decide +kernel
theorem dX12_init_136 : decode cX12_init 136 = .ok (.iconst (-1), 1) := by decide +kernel
theorem dX12_init_137 : decode cX12_init 137 = .ok (.putfield 59, 3) := by decide +kernel
theorem dX12_init_140 : decode cX12_init 140 = .ok (.aload_n 0, 1) := by decide +kernel
theorem dX12_init_141 : decode cX12_init 141 = .ok (.bipush 6, 2) := by decide +kernel
theorem dX12_init_143 : decode cX12_init 143 = .ok (.newarray .int, 2) := by decide +kernel
theorem dX12_init_145 : decode cX12_init 145 = .ok (.putfield 62, 3) := by decide +kernel
theorem dX12_init_148 : decode cX12_init 148 = .ok (.aload_n 0, 1) := by decide +kernel
theorem dX12_init_149 : decode cX12_init 149 = .ok (.sipush 180, 3) := by decide +kernel
theorem dX12_init_152 : decode cX12_init 152 = .ok (.newarray .int, 2) := by decide +kernel
theorem dX12_init_154 : decode cX12_init 154 = .ok (.putfield 65, 3) := by decide +kernel
theorem dX12_init_157 : decode cX12_init 157 = .ok (.aload_n 0, 1) := by decide +kernel
theorem dX12_init_158 : decode cX12_init 158 = .ok (.bipush 15, 2) := by decide +kernel
theorem dX12_init_160 : decode cX12_init 160 = .ok (.newarray .int, 2) := by decide +kernel
theorem dX12_init_162 : decode cX12_init 162 = .ok (.putfield 68, 3) := by decide +kernel
theorem dX12_init_165 : decode cX12_init 165 = .ok (.aload_n 0, 1) := by decide +kernel
theorem dX12_init_166 : decode cX12_init 166 = .ok (.bipush 15, 2) := by decide +kernel
theorem dX12_init_168 : decode cX12_init 168 = .ok (.newarray .int, 2) := by decide +kernel
theorem dX12_init_170 : decode cX12_init 170 = .ok (.putfield 71, 3) := by decide +kernel
theorem dX12_init_173 : decode cX12_init 173 = .ok (.aload_n 0, 1) := by decide +kernel
theorem dX12_init_174 : decode cX12_init 174 = .ok (.iconst 5, 1) := by decide +kernel
theorem dX12_init_175 : decode cX12_init 175 = .ok (.newarray .int, 2) := by decide +kernel
theorem dX12_init_177 : decode cX12_init 177 = .ok (.putfield 74, 3) := by decide +kernel
theorem dX12_init_180 : decode cX12_init 180 = .ok (.aload_n 0, 1) := by decide +kernel
theorem dX12_init_181 : decode cX12_init 181 = .ok (.sipush 1001, 3) := by decide +kernel
theorem dX12_init_184 : decode cX12_init 184 = .ok (.newarray .boolean, 2) := by decide +kernel
theorem dX12_init_186 : decode cX12_init 186 = .ok (.putfield 77, 3) := by decide +kernel
theorem dX12_init_189 : decode cX12_init 189 = .ok (.aload_n 0, 1) := by decide +kernel
theorem dX12_init_190 : decode cX12_init 190 = .ok (.sipush 3700, 3) := by decide +kernel
theorem dX12_init_193 : decode cX12_init 193 = .ok (.newarray .int, 2) := by decide +kernel
theorem dX12_init_195 : decode cX12_init 195 = .ok (.putfield 81, 3) := by decide +kernel
theorem dX12_init_198 : decode cX12_init 198 = .ok (.aload_n 0, 1) := by decide +kernel
theorem dX12_init_199 : decode cX12_init 199 = .ok (.bipush 80, 2) := by decide +kernel
theorem dX12_init_201 : decode cX12_init 201 = .ok (.newarray .int, 2) := by decide +kernel
theorem dX12_init_203 : decode cX12_init 203 = .ok (.putfield 84, 3) := by decide +kernel
theorem dX12_init_206 : decode cX12_init 206 = .ok (.aload_n 0, 1) := by decide +kernel
theorem dX12_init_207 : decode cX12_init 207 = .ok (.bipush 6, 2) := by decide +kernel
theorem dX12_init_209 : decode cX12_init 209 = .ok (.newarray .int, 2) := by decide +kernel
theorem dX12_init_211 : decode cX12_init 211 = .ok (.putfield 87, 3) := by decide +kernel
theorem dX12_init_214 : decode cX12_init 214 = .ok (.aload_n 0, 1) := by decide +kernel
theorem dX12_init_215 : decode cX12_init 215 = .ok (.bipush 6, 2) := by decide +kernel
theorem dX12_init_217 : decode cX12_init 217 = .ok (.newarray .int, 2) := by decide +kernel
theorem dX12_init_219 : decode cX12_init 219 = .ok (.putfield 90, 3) := by decide +kernel
theorem dX12_init_222 : decode cX12_init 222 = .ok (.aload_n 0, 1) := by decide +kernel
theorem dX12_init_223 : decode cX12_init 223 = .ok (.iconst 0, 1) := by decide +kernel
theorem dX12_init_224 : decode cX12_init 224 = .ok (.invokevirtual 93, 3) := by decide +kernel
theorem dX12_init_227 : decode cX12_init 227 = .ok (.return_, 1) := by decide +kernel
theorem dX12_empties_0 : decode cX12_empties 0 = .ok (.iconst 0, 1) := by decide +kernel
theorem dX12_empties_1 : decode cX12_empties 1 = .ok (.istore_n 2, 1) := by decide +kernel
theorem dX12_empties_2 : decode cX12_empties 2 = .ok (.iload_n 2, 1) := by decide +kernel
theorem dX12_empties_3 : decode cX12_empties 3 = .ok (.sipush 4850, 3) := by decide +kernel
theorem dX12_empties_6 : decode cX12_empties 6 = .ok (.if_icmp .ge 18, 3) := by decide +kernel
theorem dX12_empties_9 : decode cX12_empties 9 = .ok (.aload_n 0, 1) := by decide +kernel
theorem dX12_empties_10 : decode cX12_empties 10 = .ok (.getfield 7, 3) := by decide +kernel
theorem dX12_empties_13 : decode cX12_empties 13 = .ok (.iload_n 1, 1) := by decide +kernel
theorem dX12_empties_14 : decode cX12_empties 14 = .ok (.iload_n 2, 1) := by decide +kernel
theorem dX12_empties_15 : decode cX12_empties 15 = .ok (.iadd, 1) := by decide +kernel
theorem dX12_empties_16 : decode cX12_empties 16 = .ok (.iconst 0, 1) := by decide +kernel
theorem dX12_empties_17 : decode cX12_empties 17 = .ok (.iastore, 1) := by decide +kernel
theorem dX12_empties_18 : decode cX12_empties 18 = .ok (.iinc 2 1, 3) := by decide +kernel
theorem dX12_empties_21 : decode cX12_empties 21 = .ok (.goto (-19), 3) := by decide +kernel
theorem dX12_empties_24 : decode cX12_empties 24 = .ok (.aload_n 0, 1) := by decide +kernel
theorem dX12_empties_25 : decode cX12_empties 25 = .ok (.getfield 7, 3) := by decide +kernel
theorem dX12_empties_28 : decode cX12_empties 28 = .ok (.iload_n 1, 1) := by decide +kernel
theorem dX12_empties_29 : decode cX12_empties 29 = .ok (.iconst 0, 1) := by decide +kernel
theorem dX12_empties_30 : decode cX12_empties 30 = .ok (.iadd, 1) := by decide +kernel
theorem dX12_empties_31 : decode cX12_empties 31 = .ok (.iconst 3, 1) := by decide +kernel
theorem dX12_empties_32 : decode cX12_empties 32 = .ok (.iastore, 1) := by decide +kernel
theorem dX12_empties_33 : decode cX12_empties 33 = .ok (.aload_n 0, 1) := by decide +kernel
theorem dX12_empties_34 : decode cX12_empties 34 = .ok (.getfield 7, 3) := by decide +kernel
theorem dX12_empties_37 : decode cX12_empties 37 = .ok (.iload_n 1, 1) := by decide +kernel
theorem dX12_empties_38 : decode cX12_empties 38 = .ok (.iconst 1, 1) := by decide +kernel
theorem dX12_empties_39 : decode cX12_empties 39 = .ok (.iadd, 1) := by decide +kernel
theorem dX12_empties_40 : decode cX12_empties 40 = .ok (.iconst 1, 1) := by decide +kernel
theorem dX12_empties_41 : decode cX12_empties 41 = .ok (.iastore, 1) := by decide +kernel
theorem dX12_empties_42 : decode cX12_empties 42 = .ok (.aload_n 0, 1) := by decide +kernel
theorem dX12_empties_43 : decode cX12_empties 43 = .ok (.getfield 7, 3) := by decide +kernel
theorem dX12_empties_46 : decode cX12_empties 46 = .ok (.iload_n 1, 1) := by decide +kernel
theorem dX12_empties_47 : decode cX12_empties 47 = .ok (.iconst 2, 1) := by decide +kernel
theorem dX12_empties_48 : decode cX12_empties 48 = .ok (.iadd, 1) := by decide +kernel
theorem dX12_empties_49 : decode cX12_empties 49 = .ok (.iconst 1, 1) := by decide +kernel
theorem dX12_empties_50 : decode cX12_empties 50 = .ok (.iastore, 1) := by decide +kernel
theorem dX12_empties_51 : decode cX12_empties 51 = .ok (.aload_n 0, 1) := by decide +kernel
theorem dX12_empties_52 : decode cX12_empties 52 = .ok (.getfield 7, 3) := by decide +kernel
theorem dX12_empties_55 : decode cX12_empties 55 = .ok (.iload_n 1, 1) := by decide +kernel
theorem dX12_empties_56 : decode cX12_empties 56 = .ok (.bipush 7, 2) := by decide +kernel
theorem dX12_empties_58 : decode cX12_empties 58 = .ok (.iadd, 1) := by decide +kernel
theorem dX12_empties_59 : decode cX12_empties 59 = .ok (.iconst (-1), 1) := by decide +kernel
theorem dX12_empties_60 : decode cX12_empties 60 = .ok (.iastore, 1) := by decide +kernel
theorem dX12_empties_61 : decode cX12_empties 61 = .ok (.iconst 0, 1) := by decide +kernel
theorem dX12_empties_62 : decode cX12_empties 62 = .ok (.istore_n 2, 1) := by decide +kernel
theorem dX12_empties_63 : decode cX12_empties 63 = .ok (.iload_n 2, 1) := by decide +kernel
theorem dX12_empties_64 : decode cX12_empties 64 = .ok (.iconst 4, 1) := by decide +kernel
theorem dX12_empties_65 : decode cX12_empties 65 = .ok (.if_icmp .ge 25, 3) := by decide +kernel
theorem dX12_empties_68 : decode cX12_empties 68 = .ok (.aload_n 0, 1) := by decide +kernel
theorem dX12_empties_69 : decode cX12_empties 69 = .ok (.getfield 7, 3) := by decide +kernel
theorem dX12_empties_72 : decode cX12_empties 72 = .ok (.iload_n 1, 1) := by decide +kernel
theorem dX12_empties_73 : decode cX12_empties 73 = .ok (.sipush 4440, 3) := by decide +kernel
theorem dX12_empties_76 : decode cX12_empties 76 = .ok (.iadd, 1) := by decide +kernel
theorem dX12_empties_77 : decode cX12_empties 77 = .ok (.bipush 8, 2) := by decide +kernel
theorem dX12_empties_79 : decode cX12_empties 79 = .ok (.iload_n 2, 1) := by decide +kernel
theorem dX12_empties_80 : decode cX12_empties 80 = .ok (.imul, 1) := by decide +kernel
theorem dX12_empties_81 : decode cX12_empties 81 = .ok (.iadd, 1) := by decide +kernel
theorem dX12_empties_82 : decode cX12_empties 82 = .ok (.iconst (-1), 1) := by decide +kernel
theorem dX12_empties_83 : decode cX12_empties 83 = .ok (.iastore, 1) := by decide +kernel
theorem dX12_empties_84 : decode cX12_empties 84 = .ok (.iinc 2 1, 3) := by decide +kernel
theorem dX12_empties_87 : decode cX12_empties 87 = .ok (.goto (-24), 3) := by decide +kernel
theorem dX12_empties_90 : decode cX12_empties 90 = .ok (.return_, 1) := by decide +kernel
theorem dX12_status_0 : decode cX12_status 0 = .ok (.aload_n 0, 1) := by decide +kernel
theorem dX12_status_1 : decode cX12_status 1 = .ok (.getfield 97, 3) := by decide +kernel
theorem dX12_status_4 : decode cX12_status 4 = .ok (.ireturn, 1) := by decide +kernel
theorem dX12_top_0 : decode cX12_top 0 = .ok (.aload_n 0, 1) := by decide +kernel
theorem dX12_top_1 : decode cX12_top 1 = .ok (.getfield 100, 3) := by decide +kernel
theorem dX12_top_4 : decode cX12_top 4 = .ok (.lreturn, 1) := by decide +kernel
theorem dX12_bottom_0 : decode cX12_bottom 0 = .ok (.aload_n 0, 1) := by decide +kernel
theorem dX12_bottom_1 : decode cX12_bottom 1 = .ok (.getfield 17, 3) := by decide +kernel
theorem dX12_bottom_4 : decode cX12_bottom 4 = .ok (.lreturn, 1) := by decide +kernel
theorem dX12_is_0 : decode cX12_is 0 = .ok (.aload_n 0, 1) := by decide +kernel
theorem dX12_is_1 : decode cX12_is 1 = .ok (.iload_n 1, 1) := by decide +kernel
theorem dX12_is_2 : decode cX12_is 2 = .ok (.putfield 97, 3) := by decide +kernel
theorem dX12_is_5 : decode cX12_is 5 = .ok (.iload_n 1, 1) := by decide +kernel
theorem dX12_is_6 : decode cX12_is 6 = .ok (.ifCond .ne 7, 3) := by decide +kernel
theorem dX12_is_9 : decode cX12_is 9 = .ok (.iconst 1, 1) := by decide +kernel
theorem dX12_is_10 : decode cX12_is 10 = .ok (.goto 4, 3) := by decide +kernel
theorem dX12_is_13 : decode cX12_is 13 = .ok (.iconst 0, 1) := by decide +kernel
theorem dX12_is_14 : decode cX12_is 14 = .ok (.ireturn, 1) := by decide +kernel
theorem dX12_refuse_0 : decode cX12_refuse 0 = .ok (.aload_n 0, 1) := by decide +kernel
theorem dX12_refuse_1 : decode cX12_refuse 1 = .ok (.iload_n 1, 1) := by decide +kernel
theorem dX12_refuse_2 : decode cX12_refuse 2 = .ok (.putfield 97, 3) := by decide +kernel
theorem dX12_refuse_5 : decode cX12_refuse 5 = .ok (.iconst (-1), 1) := by decide +kernel
theorem dX12_refuse_6 : decode cX12_refuse 6 = .ok (.ireturn, 1) := by decide +kernel
theorem dX12_gives_0 : decode cX12_gives 0 = .ok (.aload_n 0, 1) := by decide +kernel
theorem dX12_gives_1 : decode cX12_gives 1 = .ok (.iconst 0, 1) := by decide +kernel
theorem dX12_gives_2 : decode cX12_gives 2 = .ok (.putfield 97, 3) := by decide +kernel
theorem dX12_gives_5 : decode cX12_gives 5 = .ok (.iload_n 1, 1) := by decide +kernel
theorem dX12_gives_6 : decode cX12_gives 6 = .ok (.ireturn, 1) := by decide +kernel
theorem dX12_tellsBy_0 : decode cX12_tellsBy 0 = .ok (.lload_n 1, 1) := by decide +kernel
theorem dX12_tellsBy_1 : decode cX12_tellsBy 1 = .ok (.lstore 5, 2) := by decide +kernel
theorem dX12_tellsBy_3 : decode cX12_tellsBy 3 = .ok (.lload_n 3, 1) := by decide +kernel
theorem dX12_tellsBy_4 : decode cX12_tellsBy 4 = .ok (.lstore 7, 2) := by decide +kernel
theorem dX12_tellsBy_6 : decode cX12_tellsBy 6 = .ok (.lload 7, 2) := by decide +kernel
theorem dX12_tellsBy_8 : decode cX12_tellsBy 8 = .ok (.lconst 0, 1) := by decide +kernel
theorem dX12_tellsBy_9 : decode cX12_tellsBy 9 = .ok (.lcmp, 1) := by decide +kernel
theorem dX12_tellsBy_10 : decode cX12_tellsBy 10 = .ok (.ifCond .eq 21, 3) := by decide +kernel
theorem dX12_tellsBy_13 : decode cX12_tellsBy 13 = .ok (.lload 5, 2) := by decide +kernel
theorem dX12_tellsBy_15 : decode cX12_tellsBy 15 = .ok (.lload 7, 2) := by decide +kernel
theorem dX12_tellsBy_17 : decode cX12_tellsBy 17 = .ok (.lrem, 1) := by decide +kernel
theorem dX12_tellsBy_18 : decode cX12_tellsBy 18 = .ok (.lstore 9, 2) := by decide +kernel
theorem dX12_tellsBy_20 : decode cX12_tellsBy 20 = .ok (.lload 7, 2) := by decide +kernel
theorem dX12_tellsBy_22 : decode cX12_tellsBy 22 = .ok (.lstore 5, 2) := by decide +kernel
theorem dX12_tellsBy_24 : decode cX12_tellsBy 24 = .ok (.lload 9, 2) := by decide +kernel
theorem dX12_tellsBy_26 : decode cX12_tellsBy 26 = .ok (.lstore 7, 2) := by decide +kernel
theorem dX12_tellsBy_28 : decode cX12_tellsBy 28 = .ok (.goto (-22), 3) := by decide +kernel
theorem dX12_tellsBy_31 : decode cX12_tellsBy 31 = .ok (.aload_n 0, 1) := by decide +kernel
theorem dX12_tellsBy_32 : decode cX12_tellsBy 32 = .ok (.lload_n 1, 1) := by decide +kernel
theorem dX12_tellsBy_33 : decode cX12_tellsBy 33 = .ok (.lload 5, 2) := by decide +kernel
theorem dX12_tellsBy_35 : decode cX12_tellsBy 35 = .ok (.ldiv, 1) := by decide +kernel
theorem dX12_tellsBy_36 : decode cX12_tellsBy 36 = .ok (.putfield 100, 3) := by decide +kernel
theorem dX12_tellsBy_39 : decode cX12_tellsBy 39 = .ok (.aload_n 0, 1) := by decide +kernel
theorem dX12_tellsBy_40 : decode cX12_tellsBy 40 = .ok (.lload_n 3, 1) := by decide +kernel
theorem dX12_tellsBy_41 : decode cX12_tellsBy 41 = .ok (.lload 5, 2) := by decide +kernel
theorem dX12_tellsBy_43 : decode cX12_tellsBy 43 = .ok (.ldiv, 1) := by decide +kernel
theorem dX12_tellsBy_44 : decode cX12_tellsBy 44 = .ok (.putfield 17, 3) := by decide +kernel
theorem dX12_tellsBy_47 : decode cX12_tellsBy 47 = .ok (.aload_n 0, 1) := by decide +kernel
theorem dX12_tellsBy_48 : decode cX12_tellsBy 48 = .ok (.iconst 0, 1) := by decide +kernel
theorem dX12_tellsBy_49 : decode cX12_tellsBy 49 = .ok (.invokevirtual 103, 3) := by decide +kernel
theorem dX12_tellsBy_52 : decode cX12_tellsBy 52 = .ok (.ireturn, 1) := by decide +kernel
theorem dX12_isTray_0 : decode cX12_isTray 0 = .ok (.iload_n 0, 1) := by decide +kernel
theorem dX12_isTray_1 : decode cX12_isTray 1 = .ok (.ifCond .lt 12, 3) := by decide +kernel
theorem dX12_isTray_4 : decode cX12_isTray 4 = .ok (.iload_n 0, 1) := by decide +kernel
theorem dX12_isTray_5 : decode cX12_isTray 5 = .ok (.iconst 4, 1) := by decide +kernel
theorem dX12_isTray_6 : decode cX12_isTray 6 = .ok (.if_icmp .ge 7, 3) := by decide +kernel
theorem dX12_isTray_9 : decode cX12_isTray 9 = .ok (.iconst 1, 1) := by decide +kernel
theorem dX12_isTray_10 : decode cX12_isTray 10 = .ok (.goto 4, 3) := by decide +kernel
theorem dX12_isTray_13 : decode cX12_isTray 13 = .ok (.iconst 0, 1) := by decide +kernel
theorem dX12_isTray_14 : decode cX12_isTray 14 = .ok (.ireturn, 1) := by decide +kernel
theorem dX12_cut_0 : decode cX12_cut 0 = .ok (.iload_n 2, 1) := by decide +kernel
theorem dX12_cut_1 : decode cX12_cut 1 = .ok (.ifCond .ne 10, 3) := by decide +kernel
theorem dX12_cut_4 : decode cX12_cut 4 = .ok (.lload_n 0, 1) := by decide +kernel
theorem dX12_cut_5 : decode cX12_cut 5 = .ok (.l2i, 1) := by decide +kernel
theorem dX12_cut_6 : decode cX12_cut 6 = .ok (.i2b, 1) := by decide +kernel
theorem dX12_cut_7 : decode cX12_cut 7 = .ok (.i2l, 1) := by decide +kernel
theorem dX12_cut_8 : decode cX12_cut 8 = .ok (.goto 27, 3) := by decide +kernel
theorem dX12_cut_11 : decode cX12_cut 11 = .ok (.iload_n 2, 1) := by decide +kernel
theorem dX12_cut_12 : decode cX12_cut 12 = .ok (.iconst 1, 1) := by decide +kernel
theorem dX12_cut_13 : decode cX12_cut 13 = .ok (.if_icmp .ne 10, 3) := by decide +kernel
theorem dX12_cut_16 : decode cX12_cut 16 = .ok (.lload_n 0, 1) := by decide +kernel
theorem dX12_cut_17 : decode cX12_cut 17 = .ok (.l2i, 1) := by decide +kernel
theorem dX12_cut_18 : decode cX12_cut 18 = .ok (.i2s, 1) := by decide +kernel
theorem dX12_cut_19 : decode cX12_cut 19 = .ok (.i2l, 1) := by decide +kernel
theorem dX12_cut_20 : decode cX12_cut 20 = .ok (.goto 15, 3) := by decide +kernel
theorem dX12_cut_23 : decode cX12_cut 23 = .ok (.iload_n 2, 1) := by decide +kernel
theorem dX12_cut_24 : decode cX12_cut 24 = .ok (.iconst 2, 1) := by decide +kernel
theorem dX12_cut_25 : decode cX12_cut 25 = .ok (.if_icmp .ne 9, 3) := by decide +kernel
theorem dX12_cut_28 : decode cX12_cut 28 = .ok (.lload_n 0, 1) := by decide +kernel
theorem dX12_cut_29 : decode cX12_cut 29 = .ok (.l2i, 1) := by decide +kernel
theorem dX12_cut_30 : decode cX12_cut 30 = .ok (.i2l, 1) := by decide +kernel
theorem dX12_cut_31 : decode cX12_cut 31 = .ok (.goto 4, 3) := by decide +kernel
theorem dX12_cut_34 : decode cX12_cut 34 = .ok (.lload_n 0, 1) := by decide +kernel
theorem dX12_cut_35 : decode cX12_cut 35 = .ok (.lreturn, 1) := by decide +kernel
theorem dX12_tray_0 : decode cX12_tray 0 = .ok (.iload_n 1, 1) := by decide +kernel
theorem dX12_tray_1 : decode cX12_tray 1 = .ok (.invokestatic 107, 3) := by decide +kernel
theorem dX12_tray_4 : decode cX12_tray 4 = .ok (.ifCond .eq 22, 3) := by decide +kernel
theorem dX12_tray_7 : decode cX12_tray 7 = .ok (.iload_n 2, 1) := by decide +kernel
theorem dX12_tray_8 : decode cX12_tray 8 = .ok (.ifCond .lt 18, 3) := by decide +kernel
theorem dX12_tray_11 : decode cX12_tray 11 = .ok (.iload_n 2, 1) := by decide +kernel
theorem dX12_tray_12 : decode cX12_tray 12 = .ok (.iconst 3, 1) := by decide +kernel
theorem dX12_tray_13 : decode cX12_tray 13 = .ok (.if_icmp .gt 13, 3) := by decide +kernel
theorem dX12_tray_16 : decode cX12_tray 16 = .ok (.iload_n 3, 1) := by decide +kernel
theorem dX12_tray_17 : decode cX12_tray 17 = .ok (.ifCond .lt 9, 3) := by decide +kernel
theorem dX12_tray_20 : decode cX12_tray 20 = .ok (.iload_n 3, 1) := by decide +kernel
theorem dX12_tray_21 : decode cX12_tray 21 = .ok (.bipush 60, 2) := by decide +kernel
theorem dX12_tray_23 : decode cX12_tray 23 = .ok (.if_icmp .le 9, 3) := by decide +kernel
theorem dX12_tray_26 : decode cX12_tray 26 = .ok (.aload_n 0, 1) := by decide +kernel
theorem dX12_tray_27 : decode cX12_tray 27 = .ok (.iconst 1, 1) := by decide +kernel
theorem dX12_tray_28 : decode cX12_tray 28 = .ok (.invokevirtual 103, 3) := by decide +kernel
theorem dX12_tray_31 : decode cX12_tray 31 = .ok (.ireturn, 1) := by decide +kernel
theorem dX12_tray_32 : decode cX12_tray 32 = .ok (.aload_n 0, 1) := by decide +kernel
theorem dX12_tray_33 : decode cX12_tray 33 = .ok (.getfield 21, 3) := by decide +kernel
theorem dX12_tray_36 : decode cX12_tray 36 = .ok (.iload_n 1, 1) := by decide +kernel
theorem dX12_tray_37 : decode cX12_tray 37 = .ok (.iload_n 2, 1) := by decide +kernel
theorem dX12_tray_38 : decode cX12_tray 38 = .ok (.iastore, 1) := by decide +kernel
theorem dX12_tray_39 : decode cX12_tray 39 = .ok (.aload_n 0, 1) := by decide +kernel
theorem dX12_tray_40 : decode cX12_tray 40 = .ok (.getfield 24, 3) := by decide +kernel
theorem dX12_tray_43 : decode cX12_tray 43 = .ok (.iload_n 1, 1) := by decide +kernel
theorem dX12_tray_44 : decode cX12_tray 44 = .ok (.iload_n 3, 1) := by decide +kernel
theorem dX12_tray_45 : decode cX12_tray 45 = .ok (.iastore, 1) := by decide +kernel
theorem dX12_tray_46 : decode cX12_tray 46 = .ok (.iconst 0, 1) := by decide +kernel
theorem dX12_tray_47 : decode cX12_tray 47 = .ok (.istore 4, 2) := by decide +kernel
theorem dX12_tray_49 : decode cX12_tray 49 = .ok (.iload 4, 2) := by decide +kernel
theorem dX12_tray_51 : decode cX12_tray 51 = .ok (.iload_n 3, 1) := by decide +kernel
theorem dX12_tray_52 : decode cX12_tray 52 = .ok (.if_icmp .ge 22, 3) := by decide +kernel
theorem dX12_tray_55 : decode cX12_tray 55 = .ok (.aload_n 0, 1) := by decide +kernel
theorem dX12_tray_56 : decode cX12_tray 56 = .ok (.getfield 27, 3) := by decide +kernel
theorem dX12_tray_59 : decode cX12_tray 59 = .ok (.bipush 60, 2) := by decide +kernel
theorem dX12_tray_61 : decode cX12_tray 61 = .ok (.iload_n 1, 1) := by decide +kernel
theorem dX12_tray_62 : decode cX12_tray 62 = .ok (.imul, 1) := by decide +kernel
theorem dX12_tray_63 : decode cX12_tray 63 = .ok (.iload 4, 2) := by decide +kernel
theorem dX12_tray_65 : decode cX12_tray 65 = .ok (.iadd, 1) := by decide +kernel
theorem dX12_tray_66 : decode cX12_tray 66 = .ok (.lconst 0, 1) := by decide +kernel
theorem dX12_tray_67 : decode cX12_tray 67 = .ok (.lastore, 1) := by decide +kernel
theorem dX12_tray_68 : decode cX12_tray 68 = .ok (.iinc 4 1, 3) := by decide +kernel
theorem dX12_tray_71 : decode cX12_tray 71 = .ok (.goto (-22), 3) := by decide +kernel
theorem dX12_tray_74 : decode cX12_tray 74 = .ok (.aload_n 0, 1) := by decide +kernel
theorem dX12_tray_75 : decode cX12_tray 75 = .ok (.iconst 0, 1) := by decide +kernel
theorem dX12_tray_76 : decode cX12_tray 76 = .ok (.invokevirtual 103, 3) := by decide +kernel
theorem dX12_tray_79 : decode cX12_tray 79 = .ok (.ireturn, 1) := by decide +kernel
theorem dX12_wrongPlace_0 : decode cX12_wrongPlace 0 = .ok (.iload_n 1, 1) := by decide +kernel
theorem dX12_wrongPlace_1 : decode cX12_wrongPlace 1 = .ok (.invokestatic 107, 3) := by decide +kernel
theorem dX12_wrongPlace_4 : decode cX12_wrongPlace 4 = .ok (.ifCond .ne 7, 3) := by decide +kernel
theorem dX12_wrongPlace_7 : decode cX12_wrongPlace 7 = .ok (.iconst 1, 1) := by decide +kernel
theorem dX12_wrongPlace_8 : decode cX12_wrongPlace 8 = .ok (.goto 36, 3) := by decide +kernel
theorem dX12_wrongPlace_11 : decode cX12_wrongPlace 11 = .ok (.aload_n 0, 1) := by decide +kernel
theorem dX12_wrongPlace_12 : decode cX12_wrongPlace 12 = .ok (.getfield 24, 3) := by decide +kernel
theorem dX12_wrongPlace_15 : decode cX12_wrongPlace 15 = .ok (.iload_n 1, 1) := by decide +kernel
theorem dX12_wrongPlace_16 : decode cX12_wrongPlace 16 = .ok (.iaload, 1) := by decide +kernel
theorem dX12_wrongPlace_17 : decode cX12_wrongPlace 17 = .ok (.iconst (-1), 1) := by decide +kernel
theorem dX12_wrongPlace_18 : decode cX12_wrongPlace 18 = .ok (.if_icmp .ne 7, 3) := by decide +kernel
theorem dX12_wrongPlace_21 : decode cX12_wrongPlace 21 = .ok (.iconst 2, 1) := by decide +kernel
theorem dX12_wrongPlace_22 : decode cX12_wrongPlace 22 = .ok (.goto 22, 3) := by decide +kernel
theorem dX12_wrongPlace_25 : decode cX12_wrongPlace 25 = .ok (.iload_n 2, 1) := by decide +kernel
theorem dX12_wrongPlace_26 : decode cX12_wrongPlace 26 = .ok (.ifCond .lt 13, 3) := by decide +kernel
theorem dX12_wrongPlace_29 : decode cX12_wrongPlace 29 = .ok (.iload_n 2, 1) := by decide +kernel
theorem dX12_wrongPlace_30 : decode cX12_wrongPlace 30 = .ok (.aload_n 0, 1) := by decide +kernel
theorem dX12_wrongPlace_31 : decode cX12_wrongPlace 31 = .ok (.getfield 24, 3) := by decide +kernel
theorem dX12_wrongPlace_34 : decode cX12_wrongPlace 34 = .ok (.iload_n 1, 1) := by decide +kernel
theorem dX12_wrongPlace_35 : decode cX12_wrongPlace 35 = .ok (.iaload, 1) := by decide +kernel
theorem dX12_wrongPlace_36 : decode cX12_wrongPlace 36 = .ok (.if_icmp .lt 7, 3) := by decide +kernel
theorem dX12_wrongPlace_39 : decode cX12_wrongPlace 39 = .ok (.iconst 3, 1) := by decide +kernel
theorem dX12_wrongPlace_40 : decode cX12_wrongPlace 40 = .ok (.goto 4, 3) := by decide +kernel
theorem dX12_wrongPlace_43 : decode cX12_wrongPlace 43 = .ok (.iconst 0, 1) := by decide +kernel
theorem dX12_wrongPlace_44 : decode cX12_wrongPlace 44 = .ok (.ireturn, 1) := by decide +kernel
theorem dX12_write_0 : decode cX12_write 0 = .ok (.aload_n 0, 1) := by decide +kernel
theorem dX12_write_1 : decode cX12_write 1 = .ok (.iload_n 1, 1) := by decide +kernel
theorem dX12_write_2 : decode cX12_write 2 = .ok (.iload_n 2, 1) := by decide +kernel
theorem dX12_write_3 : decode cX12_write 3 = .ok (.invokevirtual 110, 3) := by decide +kernel
theorem dX12_write_6 : decode cX12_write 6 = .ok (.istore 5, 2) := by decide +kernel
theorem dX12_write_8 : decode cX12_write 8 = .ok (.iload 5, 2) := by decide +kernel
theorem dX12_write_10 : decode cX12_write 10 = .ok (.ifCond .ne 24, 3) := by decide +kernel
theorem dX12_write_13 : decode cX12_write 13 = .ok (.aload_n 0, 1) := by decide +kernel
theorem dX12_write_14 : decode cX12_write 14 = .ok (.getfield 27, 3) := by decide +kernel
theorem dX12_write_17 : decode cX12_write 17 = .ok (.bipush 60, 2) := by decide +kernel
theorem dX12_write_19 : decode cX12_write 19 = .ok (.iload_n 1, 1) := by decide +kernel
theorem dX12_write_20 : decode cX12_write 20 = .ok (.imul, 1) := by decide +kernel
theorem dX12_write_21 : decode cX12_write 21 = .ok (.iload_n 2, 1) := by decide +kernel
theorem dX12_write_22 : decode cX12_write 22 = .ok (.iadd, 1) := by decide +kernel
theorem dX12_write_23 : decode cX12_write 23 = .ok (.lload_n 3, 1) := by decide +kernel
theorem dX12_write_24 : decode cX12_write 24 = .ok (.aload_n 0, 1) := by decide +kernel
theorem dX12_write_25 : decode cX12_write 25 = .ok (.getfield 21, 3) := by decide +kernel
theorem dX12_write_28 : decode cX12_write 28 = .ok (.iload_n 1, 1) := by decide +kernel
theorem dX12_write_29 : decode cX12_write 29 = .ok (.iaload, 1) := by decide +kernel
theorem dX12_write_30 : decode cX12_write 30 = .ok (.invokestatic 114, 3) := by decide +kernel
theorem dX12_write_33 : decode cX12_write 33 = .ok (.lastore, 1) := by decide +kernel
theorem dX12_write_34 : decode cX12_write 34 = .ok (.aload_n 0, 1) := by decide +kernel
theorem dX12_write_35 : decode cX12_write 35 = .ok (.iload 5, 2) := by decide +kernel
theorem dX12_write_37 : decode cX12_write 37 = .ok (.invokevirtual 103, 3) := by decide +kernel
theorem dX12_write_40 : decode cX12_write 40 = .ok (.ireturn, 1) := by decide +kernel
theorem dX12_read_0 : decode cX12_read 0 = .ok (.aload_n 0, 1) := by decide +kernel
theorem dX12_read_1 : decode cX12_read 1 = .ok (.aload_n 0, 1) := by decide +kernel
theorem dX12_read_2 : decode cX12_read 2 = .ok (.iload_n 1, 1) := by decide +kernel
theorem dX12_read_3 : decode cX12_read 3 = .ok (.iload_n 2, 1) := by decide +kernel
theorem dX12_read_4 : decode cX12_read 4 = .ok (.invokevirtual 110, 3) := by decide +kernel
theorem dX12_read_7 : decode cX12_read 7 = .ok (.putfield 97, 3) := by decide +kernel
theorem dX12_read_10 : decode cX12_read 10 = .ok (.aload_n 0, 1) := by decide +kernel
theorem dX12_read_11 : decode cX12_read 11 = .ok (.getfield 97, 3) := by decide +kernel
theorem dX12_read_14 : decode cX12_read 14 = .ok (.ifCond .le 9, 3) := by decide +kernel
theorem dX12_read_17 : decode cX12_read 17 = .ok (.ldc2_w 118, 3) := by decide +kernel
theorem dX12_read_20 : decode cX12_read 20 = .ok (.goto 14, 3) := by decide +kernel
theorem dX12_read_23 : decode cX12_read 23 = .ok (.aload_n 0, 1) := by decide +kernel
theorem dX12_read_24 : decode cX12_read 24 = .ok (.getfield 27, 3) := by decide +kernel
theorem dX12_read_27 : decode cX12_read 27 = .ok (.bipush 60, 2) := by decide +kernel
theorem dX12_read_29 : decode cX12_read 29 = .ok (.iload_n 1, 1) := by decide +kernel
theorem dX12_read_30 : decode cX12_read 30 = .ok (.imul, 1) := by decide +kernel
theorem dX12_read_31 : decode cX12_read 31 = .ok (.iload_n 2, 1) := by decide +kernel
theorem dX12_read_32 : decode cX12_read 32 = .ok (.iadd, 1) := by decide +kernel
theorem dX12_read_33 : decode cX12_read 33 = .ok (.laload, 1) := by decide +kernel
theorem dX12_read_34 : decode cX12_read 34 = .ok (.lreturn, 1) := by decide +kernel
theorem dX12_pour_0 : decode cX12_pour 0 = .ok (.iload_n 1, 1) := by decide +kernel
theorem dX12_pour_1 : decode cX12_pour 1 = .ok (.invokestatic 107, 3) := by decide +kernel
theorem dX12_pour_4 : decode cX12_pour 4 = .ok (.ifCond .eq 24, 3) := by decide +kernel
theorem dX12_pour_7 : decode cX12_pour 7 = .ok (.iload_n 3, 1) := by decide +kernel
theorem dX12_pour_8 : decode cX12_pour 8 = .ok (.invokestatic 107, 3) := by decide +kernel
theorem dX12_pour_11 : decode cX12_pour 11 = .ok (.ifCond .eq 17, 3) := by decide +kernel
theorem dX12_pour_14 : decode cX12_pour 14 = .ok (.iload_n 2, 1) := by decide +kernel
theorem dX12_pour_15 : decode cX12_pour 15 = .ok (.ifCond .lt 13, 3) := by decide +kernel
theorem dX12_pour_18 : decode cX12_pour 18 = .ok (.iload 4, 2) := by decide +kernel
theorem dX12_pour_20 : decode cX12_pour 20 = .ok (.ifCond .lt 8, 3) := by decide +kernel
theorem dX12_pour_23 : decode cX12_pour 23 = .ok (.iload 5, 2) := by decide +kernel
theorem dX12_pour_25 : decode cX12_pour 25 = .ok (.ifCond .ge 9, 3) := by decide +kernel
theorem dX12_pour_28 : decode cX12_pour 28 = .ok (.aload_n 0, 1) := by decide +kernel
theorem dX12_pour_29 : decode cX12_pour 29 = .ok (.iconst 1, 1) := by decide +kernel
theorem dX12_pour_30 : decode cX12_pour 30 = .ok (.invokevirtual 103, 3) := by decide +kernel
theorem dX12_pour_33 : decode cX12_pour 33 = .ok (.ireturn, 1) := by decide +kernel
theorem dX12_pour_34 : decode cX12_pour 34 = .ok (.aload_n 0, 1) := by decide +kernel
theorem dX12_pour_35 : decode cX12_pour 35 = .ok (.getfield 24, 3) := by decide +kernel
theorem dX12_pour_38 : decode cX12_pour 38 = .ok (.iload_n 1, 1) := by decide +kernel
theorem dX12_pour_39 : decode cX12_pour 39 = .ok (.iaload, 1) := by decide +kernel
theorem dX12_pour_40 : decode cX12_pour 40 = .ok (.iconst (-1), 1) := by decide +kernel
theorem dX12_pour_41 : decode cX12_pour 41 = .ok (.if_icmp .eq 13, 3) := by decide +kernel
theorem dX12_pour_44 : decode cX12_pour 44 = .ok (.aload_n 0, 1) := by decide +kernel
theorem dX12_pour_45 : decode cX12_pour 45 = .ok (.getfield 24, 3) := by decide +kernel
theorem dX12_pour_48 : decode cX12_pour 48 = .ok (.iload_n 3, 1) := by decide +kernel
theorem dX12_pour_49 : decode cX12_pour 49 = .ok (.iaload, 1) := by decide +kernel
theorem dX12_pour_50 : decode cX12_pour 50 = .ok (.iconst (-1), 1) := by decide +kernel
theorem dX12_pour_51 : decode cX12_pour 51 = .ok (.if_icmp .ne 9, 3) := by decide +kernel
theorem dX12_pour_54 : decode cX12_pour 54 = .ok (.aload_n 0, 1) := by decide +kernel
theorem dX12_pour_55 : decode cX12_pour 55 = .ok (.iconst 2, 1) := by decide +kernel
theorem dX12_pour_56 : decode cX12_pour 56 = .ok (.invokevirtual 103, 3) := by decide +kernel
theorem dX12_pour_59 : decode cX12_pour 59 = .ok (.ireturn, 1) := by decide +kernel
theorem dX12_pour_60 : decode cX12_pour 60 = .ok (.aload_n 0, 1) := by decide +kernel
theorem dX12_pour_61 : decode cX12_pour 61 = .ok (.getfield 21, 3) := by decide +kernel
theorem dX12_pour_64 : decode cX12_pour 64 = .ok (.iload_n 1, 1) := by decide +kernel
theorem dX12_pour_65 : decode cX12_pour 65 = .ok (.iaload, 1) := by decide +kernel
theorem dX12_pour_66 : decode cX12_pour 66 = .ok (.aload_n 0, 1) := by decide +kernel
theorem dX12_pour_67 : decode cX12_pour 67 = .ok (.getfield 21, 3) := by decide +kernel
theorem dX12_pour_70 : decode cX12_pour 70 = .ok (.iload_n 3, 1) := by decide +kernel
theorem dX12_pour_71 : decode cX12_pour 71 = .ok (.iaload, 1) := by decide +kernel
theorem dX12_pour_72 : decode cX12_pour 72 = .ok (.if_icmp .eq 10, 3) := by decide +kernel
theorem dX12_pour_75 : decode cX12_pour 75 = .ok (.aload_n 0, 1) := by decide +kernel
theorem dX12_pour_76 : decode cX12_pour 76 = .ok (.bipush 8, 2) := by decide +kernel
theorem dX12_pour_78 : decode cX12_pour 78 = .ok (.invokevirtual 103, 3) := by decide +kernel
theorem dX12_pour_81 : decode cX12_pour 81 = .ok (.ireturn, 1) := by decide +kernel
theorem dX12_pour_82 : decode cX12_pour 82 = .ok (.iload 5, 2) := by decide +kernel
theorem dX12_pour_84 : decode cX12_pour 84 = .ok (.aload_n 0, 1) := by decide +kernel
theorem dX12_pour_85 : decode cX12_pour 85 = .ok (.getfield 24, 3) := by decide +kernel
theorem dX12_pour_88 : decode cX12_pour 88 = .ok (.iload_n 1, 1) := by decide +kernel
theorem dX12_pour_89 : decode cX12_pour 89 = .ok (.iaload, 1) := by decide +kernel
theorem dX12_pour_90 : decode cX12_pour 90 = .ok (.iload_n 2, 1) := by decide +kernel
theorem dX12_pour_91 : decode cX12_pour 91 = .ok (.isub, 1) := by decide +kernel
theorem dX12_pour_92 : decode cX12_pour 92 = .ok (.if_icmp .gt 17, 3) := by decide +kernel
theorem dX12_pour_95 : decode cX12_pour 95 = .ok (.iload 5, 2) := by decide +kernel
theorem dX12_pour_97 : decode cX12_pour 97 = .ok (.aload_n 0, 1) := by decide +kernel
theorem dX12_pour_98 : decode cX12_pour 98 = .ok (.getfield 24, 3) := by decide +kernel
theorem dX12_pour_101 : decode cX12_pour 101 = .ok (.iload_n 3, 1) := by decide +kernel
theorem dX12_pour_102 : decode cX12_pour 102 = .ok (.iaload, 1) := by decide +kernel
theorem dX12_pour_103 : decode cX12_pour 103 = .ok (.iload 4, 2) := by decide +kernel
theorem dX12_pour_105 : decode cX12_pour 105 = .ok (.isub, 1) := by decide +kernel
theorem dX12_pour_106 : decode cX12_pour 106 = .ok (.if_icmp .le 9, 3) := by decide +kernel
theorem dX12_pour_109 : decode cX12_pour 109 = .ok (.aload_n 0, 1) := by decide +kernel
theorem dX12_pour_110 : decode cX12_pour 110 = .ok (.iconst 3, 1) := by decide +kernel
theorem dX12_pour_111 : decode cX12_pour 111 = .ok (.invokevirtual 103, 3) := by decide +kernel
theorem dX12_pour_114 : decode cX12_pour 114 = .ok (.ireturn, 1) := by decide +kernel
theorem dX12_pour_115 : decode cX12_pour 115 = .ok (.iconst 0, 1) := by decide +kernel
theorem dX12_pour_116 : decode cX12_pour 116 = .ok (.istore 6, 2) := by decide +kernel
theorem dX12_pour_118 : decode cX12_pour 118 = .ok (.iload 6, 2) := by decide +kernel
theorem dX12_pour_120 : decode cX12_pour 120 = .ok (.iload 5, 2) := by decide +kernel
theorem dX12_pour_122 : decode cX12_pour 122 = .ok (.if_icmp .ge 58, 3) := by decide +kernel
theorem dX12_pour_125 : decode cX12_pour 125 = .ok (.iload_n 2, 1) := by decide +kernel
theorem dX12_pour_126 : decode cX12_pour 126 = .ok (.iload 4, 2) := by decide +kernel
theorem dX12_pour_128 : decode cX12_pour 128 = .ok (.if_icmp .ge 13, 3) := by decide +kernel
theorem dX12_pour_131 : decode cX12_pour 131 = .ok (.iload 5, 2) := by decide +kernel
theorem dX12_pour_133 : decode cX12_pour 133 = .ok (.iconst 1, 1) := by decide +kernel
theorem dX12_pour_134 : decode cX12_pour 134 = .ok (.isub, 1) := by decide +kernel
theorem dX12_pour_135 : decode cX12_pour 135 = .ok (.iload 6, 2) := by decide +kernel
theorem dX12_pour_137 : decode cX12_pour 137 = .ok (.isub, 1) := by decide +kernel
theorem dX12_pour_138 : decode cX12_pour 138 = .ok (.goto 5, 3) := by decide +kernel
theorem dX12_pour_141 : decode cX12_pour 141 = .ok (.iload 6, 2) := by decide +kernel
theorem dX12_pour_143 : decode cX12_pour 143 = .ok (.istore 7, 2) := by decide +kernel
theorem dX12_pour_145 : decode cX12_pour 145 = .ok (.aload_n 0, 1) := by decide +kernel
theorem dX12_pour_146 : decode cX12_pour 146 = .ok (.getfield 27, 3) := by decide +kernel
theorem dX12_pour_149 : decode cX12_pour 149 = .ok (.bipush 60, 2) := by decide +kernel
theorem dX12_pour_151 : decode cX12_pour 151 = .ok (.iload_n 3, 1) := by decide +kernel
theorem dX12_pour_152 : decode cX12_pour 152 = .ok (.imul, 1) := by decide +kernel
theorem dX12_pour_153 : decode cX12_pour 153 = .ok (.iload 4, 2) := by decide +kernel
theorem dX12_pour_155 : decode cX12_pour 155 = .ok (.iadd, 1) := by decide +kernel
theorem dX12_pour_156 : decode cX12_pour 156 = .ok (.iload 7, 2) := by decide +kernel
theorem dX12_pour_158 : decode cX12_pour 158 = .ok (.iadd, 1) := by decide +kernel
theorem dX12_pour_159 : decode cX12_pour 159 = .ok (.aload_n 0, 1) := by decide +kernel
theorem dX12_pour_160 : decode cX12_pour 160 = .ok (.getfield 27, 3) := by decide +kernel
theorem dX12_pour_163 : decode cX12_pour 163 = .ok (.bipush 60, 2) := by decide +kernel
theorem dX12_pour_165 : decode cX12_pour 165 = .ok (.iload_n 1, 1) := by decide +kernel
theorem dX12_pour_166 : decode cX12_pour 166 = .ok (.imul, 1) := by decide +kernel
theorem dX12_pour_167 : decode cX12_pour 167 = .ok (.iload_n 2, 1) := by decide +kernel
theorem dX12_pour_168 : decode cX12_pour 168 = .ok (.iadd, 1) := by decide +kernel
theorem dX12_pour_169 : decode cX12_pour 169 = .ok (.iload 7, 2) := by decide +kernel
theorem dX12_pour_171 : decode cX12_pour 171 = .ok (.iadd, 1) := by decide +kernel
theorem dX12_pour_172 : decode cX12_pour 172 = .ok (.laload, 1) := by decide +kernel
theorem dX12_pour_173 : decode cX12_pour 173 = .ok (.lastore, 1) := by decide +kernel
theorem dX12_pour_174 : decode cX12_pour 174 = .ok (.iinc 6 1, 3) := by decide +kernel
theorem dX12_pour_177 : decode cX12_pour 177 = .ok (.goto (-59), 3) := by decide +kernel
theorem dX12_pour_180 : decode cX12_pour 180 = .ok (.aload_n 0, 1) := by decide +kernel
theorem dX12_pour_181 : decode cX12_pour 181 = .ok (.iconst 0, 1) := by decide +kernel
theorem dX12_pour_182 : decode cX12_pour 182 = .ok (.invokevirtual 103, 3) := by decide +kernel
theorem dX12_pour_185 : decode cX12_pour 185 = .ok (.ireturn, 1) := by decide +kernel
theorem dX12_isFrom_0 : decode cX12_isFrom 0 = .ok (.lload_n 0, 1) := by decide +kernel
theorem dX12_isFrom_1 : decode cX12_isFrom 1 = .ok (.lload_n 2, 1) := by decide +kernel
theorem dX12_isFrom_2 : decode cX12_isFrom 2 = .ok (.lcmp, 1) := by decide +kernel
theorem dX12_isFrom_3 : decode cX12_isFrom 3 = .ok (.ifCond .lt 14, 3) := by decide +kernel
theorem dX12_isFrom_6 : decode cX12_isFrom 6 = .ok (.lload_n 0, 1) := by decide +kernel
theorem dX12_isFrom_7 : decode cX12_isFrom 7 = .ok (.lload 4, 2) := by decide +kernel
theorem dX12_isFrom_9 : decode cX12_isFrom 9 = .ok (.lcmp, 1) := by decide +kernel
theorem dX12_isFrom_10 : decode cX12_isFrom 10 = .ok (.ifCond .gt 7, 3) := by decide +kernel
theorem dX12_isFrom_13 : decode cX12_isFrom 13 = .ok (.iconst 1, 1) := by decide +kernel
theorem dX12_isFrom_14 : decode cX12_isFrom 14 = .ok (.goto 4, 3) := by decide +kernel
theorem dX12_isFrom_17 : decode cX12_isFrom 17 = .ok (.iconst 0, 1) := by decide +kernel
theorem dX12_isFrom_18 : decode cX12_isFrom 18 = .ok (.ireturn, 1) := by decide +kernel
theorem dX12_feed_0 : decode cX12_feed 0 = .ok (.aload_n 0, 1) := by decide +kernel
theorem dX12_feed_1 : decode cX12_feed 1 = .ok (.getfield 120, 3) := by decide +kernel
theorem dX12_feed_4 : decode cX12_feed 4 = .ok (.bipush 20, 2) := by decide +kernel
theorem dX12_feed_6 : decode cX12_feed 6 = .ok (.iadd, 1) := by decide +kernel
theorem dX12_feed_7 : decode cX12_feed 7 = .ok (.sipush 900, 3) := by decide +kernel
theorem dX12_feed_10 : decode cX12_feed 10 = .ok (.if_icmp .le 5, 3) := by decide +kernel
theorem dX12_feed_13 : decode cX12_feed 13 = .ok (.iconst (-1), 1) := by decide +kernel
theorem dX12_feed_14 : decode cX12_feed 14 = .ok (.ireturn, 1) := by decide +kernel
theorem dX12_feed_15 : decode cX12_feed 15 = .ok (.aload_n 0, 1) := by decide +kernel
theorem dX12_feed_16 : decode cX12_feed 16 = .ok (.iload_n 1, 1) := by decide +kernel
theorem dX12_feed_17 : decode cX12_feed 17 = .ok (.invokevirtual 123, 3) := by decide +kernel
theorem dX12_feed_20 : decode cX12_feed 20 = .ok (.aload_n 0, 1) := by decide +kernel
theorem dX12_feed_21 : decode cX12_feed 21 = .ok (.iload_n 2, 1) := by decide +kernel
theorem dX12_feed_22 : decode cX12_feed 22 = .ok (.invokevirtual 123, 3) := by decide +kernel
theorem dX12_feed_25 : decode cX12_feed 25 = .ok (.aload_n 0, 1) := by decide +kernel
theorem dX12_feed_26 : decode cX12_feed 26 = .ok (.iload_n 3, 1) := by decide +kernel
theorem dX12_feed_27 : decode cX12_feed 27 = .ok (.invokevirtual 123, 3) := by decide +kernel
theorem dX12_feed_30 : decode cX12_feed 30 = .ok (.aload_n 0, 1) := by decide +kernel
theorem dX12_feed_31 : decode cX12_feed 31 = .ok (.iload 4, 2) := by decide +kernel
theorem dX12_feed_33 : decode cX12_feed 33 = .ok (.invokevirtual 123, 3) := by decide +kernel
theorem dX12_feed_36 : decode cX12_feed 36 = .ok (.aload_n 0, 1) := by decide +kernel
theorem dX12_feed_37 : decode cX12_feed 37 = .ok (.iload 5, 2) := by decide +kernel
theorem dX12_feed_39 : decode cX12_feed 39 = .ok (.invokevirtual 123, 3) := by decide +kernel
theorem dX12_feed_42 : decode cX12_feed 42 = .ok (.aload_n 0, 1) := by decide +kernel
theorem dX12_feed_43 : decode cX12_feed 43 = .ok (.getfield 120, 3) := by decide +kernel
theorem dX12_feed_46 : decode cX12_feed 46 = .ok (.ireturn, 1) := by decide +kernel
theorem dX12_four_0 : decode cX12_four 0 = .ok (.bipush 24, 2) := by decide +kernel
theorem dX12_four_2 : decode cX12_four 2 = .ok (.istore_n 2, 1) := by decide +kernel
theorem dX12_four_3 : decode cX12_four 3 = .ok (.iload_n 2, 1) := by decide +kernel
theorem dX12_four_4 : decode cX12_four 4 = .ok (.ifCond .lt 32, 3) := by decide +kernel
theorem dX12_four_7 : decode cX12_four 7 = .ok (.aload_n 0, 1) := by decide +kernel
theorem dX12_four_8 : decode cX12_four 8 = .ok (.getfield 30, 3) := by decide +kernel
theorem dX12_four_11 : decode cX12_four 11 = .ok (.aload_n 0, 1) := by decide +kernel
theorem dX12_four_12 : decode cX12_four 12 = .ok (.getfield 120, 3) := by decide +kernel
theorem dX12_four_15 : decode cX12_four 15 = .ok (.iload_n 1, 1) := by decide +kernel
theorem dX12_four_16 : decode cX12_four 16 = .ok (.iload_n 2, 1) := by decide +kernel
theorem dX12_four_17 : decode cX12_four 17 = .ok (.ishr, 1) := by decide +kernel
theorem dX12_four_18 : decode cX12_four 18 = .ok (.i2b, 1) := by decide +kernel
theorem dX12_four_19 : decode cX12_four 19 = .ok (.bastore, 1) := by decide +kernel
theorem dX12_four_20 : decode cX12_four 20 = .ok (.aload_n 0, 1) := by decide +kernel
theorem dX12_four_21 : decode cX12_four 21 = .ok (.dup, 1) := by decide +kernel
theorem dX12_four_22 : decode cX12_four 22 = .ok (.getfield 120, 3) := by decide +kernel
theorem dX12_four_25 : decode cX12_four 25 = .ok (.iconst 1, 1) := by decide +kernel
theorem dX12_four_26 : decode cX12_four 26 = .ok (.iadd, 1) := by decide +kernel
theorem dX12_four_27 : decode cX12_four 27 = .ok (.putfield 120, 3) := by decide +kernel
theorem dX12_four_30 : decode cX12_four 30 = .ok (.iinc 2 (-8), 3) := by decide +kernel
theorem dX12_four_33 : decode cX12_four 33 = .ok (.goto (-30), 3) := by decide +kernel
theorem dX12_four_36 : decode cX12_four 36 = .ok (.return_, 1) := by decide +kernel
theorem dX12_byteAt_0 : decode cX12_byteAt 0 = .ok (.iload_n 1, 1) := by decide +kernel
theorem dX12_byteAt_1 : decode cX12_byteAt 1 = .ok (.aload_n 0, 1) := by decide +kernel
theorem dX12_byteAt_2 : decode cX12_byteAt 2 = .ok (.getfield 126, 3) := by decide +kernel
theorem dX12_byteAt_5 : decode cX12_byteAt 5 = .ok (.if_icmp .ge 16, 3) := by decide +kernel
theorem dX12_byteAt_8 : decode cX12_byteAt 8 = .ok (.aload_n 0, 1) := by decide +kernel
theorem dX12_byteAt_9 : decode cX12_byteAt 9 = .ok (.getfield 34, 3) := by decide +kernel
theorem dX12_byteAt_12 : decode cX12_byteAt 12 = .ok (.iload_n 1, 1) := by decide +kernel
theorem dX12_byteAt_13 : decode cX12_byteAt 13 = .ok (.baload, 1) := by decide +kernel
theorem dX12_byteAt_14 : decode cX12_byteAt 14 = .ok (.sipush 255, 3) := by decide +kernel
theorem dX12_byteAt_17 : decode cX12_byteAt 17 = .ok (.iand, 1) := by decide +kernel
theorem dX12_byteAt_18 : decode cX12_byteAt 18 = .ok (.goto 4, 3) := by decide +kernel
theorem dX12_byteAt_21 : decode cX12_byteAt 21 = .ok (.iconst (-1), 1) := by decide +kernel
theorem dX12_byteAt_22 : decode cX12_byteAt 22 = .ok (.ireturn, 1) := by decide +kernel
theorem dX12_isSmall_0 : decode cX12_isSmall 0 = .ok (.iload_n 0, 1) := by decide +kernel
theorem dX12_isSmall_1 : decode cX12_isSmall 1 = .ok (.bipush 97, 2) := by decide +kernel
theorem dX12_isSmall_3 : decode cX12_isSmall 3 = .ok (.if_icmp .lt 13, 3) := by decide +kernel
theorem dX12_isSmall_6 : decode cX12_isSmall 6 = .ok (.iload_n 0, 1) := by decide +kernel
theorem dX12_isSmall_7 : decode cX12_isSmall 7 = .ok (.bipush 122, 2) := by decide +kernel
theorem dX12_isSmall_9 : decode cX12_isSmall 9 = .ok (.if_icmp .gt 7, 3) := by decide +kernel
theorem dX12_isSmall_12 : decode cX12_isSmall 12 = .ok (.iconst 1, 1) := by decide +kernel
theorem dX12_isSmall_13 : decode cX12_isSmall 13 = .ok (.goto 4, 3) := by decide +kernel
theorem dX12_isSmall_16 : decode cX12_isSmall 16 = .ok (.iconst 0, 1) := by decide +kernel
theorem dX12_isSmall_17 : decode cX12_isSmall 17 = .ok (.ireturn, 1) := by decide +kernel
theorem dX12_isDigit_0 : decode cX12_isDigit 0 = .ok (.iload_n 0, 1) := by decide +kernel
theorem dX12_isDigit_1 : decode cX12_isDigit 1 = .ok (.bipush 48, 2) := by decide +kernel
theorem dX12_isDigit_3 : decode cX12_isDigit 3 = .ok (.if_icmp .lt 13, 3) := by decide +kernel
theorem dX12_isDigit_6 : decode cX12_isDigit 6 = .ok (.iload_n 0, 1) := by decide +kernel
theorem dX12_isDigit_7 : decode cX12_isDigit 7 = .ok (.bipush 57, 2) := by decide +kernel
theorem dX12_isDigit_9 : decode cX12_isDigit 9 = .ok (.if_icmp .gt 7, 3) := by decide +kernel
theorem dX12_isDigit_12 : decode cX12_isDigit 12 = .ok (.iconst 1, 1) := by decide +kernel
theorem dX12_isDigit_13 : decode cX12_isDigit 13 = .ok (.goto 4, 3) := by decide +kernel
theorem dX12_isDigit_16 : decode cX12_isDigit 16 = .ok (.iconst 0, 1) := by decide +kernel
theorem dX12_isDigit_17 : decode cX12_isDigit 17 = .ok (.ireturn, 1) := by decide +kernel
theorem dX12_ahead_0 : decode cX12_ahead 0 = .ok (.aload_n 0, 1) := by decide +kernel
theorem dX12_ahead_1 : decode cX12_ahead 1 = .ok (.aload_n 0, 1) := by decide +kernel
theorem dX12_ahead_2 : decode cX12_ahead 2 = .ok (.getfield 129, 3) := by decide +kernel
theorem dX12_ahead_5 : decode cX12_ahead 5 = .ok (.invokevirtual 132, 3) := by decide +kernel
theorem dX12_ahead_8 : decode cX12_ahead 8 = .ok (.bipush 32, 2) := by decide +kernel
theorem dX12_ahead_10 : decode cX12_ahead 10 = .ok (.if_icmp .eq 16, 3) := by decide +kernel
theorem dX12_ahead_13 : decode cX12_ahead 13 = .ok (.aload_n 0, 1) := by decide +kernel
theorem dX12_ahead_14 : decode cX12_ahead 14 = .ok (.aload_n 0, 1) := by decide +kernel
theorem dX12_ahead_15 : decode cX12_ahead 15 = .ok (.getfield 129, 3) := by decide +kernel
theorem dX12_ahead_18 : decode cX12_ahead 18 = .ok (.invokevirtual 132, 3) := by decide +kernel
theorem dX12_ahead_21 : decode cX12_ahead 21 = .ok (.bipush 10, 2) := by decide +kernel
theorem dX12_ahead_23 : decode cX12_ahead 23 = .ok (.if_icmp .ne 16, 3) := by decide +kernel
theorem dX12_ahead_26 : decode cX12_ahead 26 = .ok (.aload_n 0, 1) := by decide +kernel
theorem dX12_ahead_27 : decode cX12_ahead 27 = .ok (.dup, 1) := by decide +kernel
theorem dX12_ahead_28 : decode cX12_ahead 28 = .ok (.getfield 129, 3) := by decide +kernel
theorem dX12_ahead_31 : decode cX12_ahead 31 = .ok (.iconst 1, 1) := by decide +kernel
theorem dX12_ahead_32 : decode cX12_ahead 32 = .ok (.iadd, 1) := by decide +kernel
theorem dX12_ahead_33 : decode cX12_ahead 33 = .ok (.putfield 129, 3) := by decide +kernel
theorem dX12_ahead_36 : decode cX12_ahead 36 = .ok (.goto (-36), 3) := by decide +kernel
theorem dX12_ahead_39 : decode cX12_ahead 39 = .ok (.aload_n 0, 1) := by decide +kernel
theorem dX12_ahead_40 : decode cX12_ahead 40 = .ok (.aload_n 0, 1) := by decide +kernel
theorem dX12_ahead_41 : decode cX12_ahead 41 = .ok (.getfield 129, 3) := by decide +kernel
theorem dX12_ahead_44 : decode cX12_ahead 44 = .ok (.putfield 136, 3) := by decide +kernel
theorem dX12_ahead_47 : decode cX12_ahead 47 = .ok (.aload_n 0, 1) := by decide +kernel
theorem dX12_ahead_48 : decode cX12_ahead 48 = .ok (.aload_n 0, 1) := by decide +kernel
theorem dX12_ahead_49 : decode cX12_ahead 49 = .ok (.getfield 129, 3) := by decide +kernel
theorem dX12_ahead_52 : decode cX12_ahead 52 = .ok (.invokevirtual 132, 3) := by decide +kernel
theorem dX12_ahead_55 : decode cX12_ahead 55 = .ok (.istore_n 1, 1) := by decide +kernel
theorem dX12_ahead_56 : decode cX12_ahead 56 = .ok (.aload_n 0, 1) := by decide +kernel
theorem dX12_ahead_57 : decode cX12_ahead 57 = .ok (.iload_n 1, 1) := by decide +kernel
theorem dX12_ahead_58 : decode cX12_ahead 58 = .ok (.putfield 139, 3) := by decide +kernel
theorem dX12_ahead_61 : decode cX12_ahead 61 = .ok (.iload_n 1, 1) := by decide +kernel
theorem dX12_ahead_62 : decode cX12_ahead 62 = .ok (.iconst (-1), 1) := by decide +kernel
theorem dX12_ahead_63 : decode cX12_ahead 63 = .ok (.if_icmp .ne 11, 3) := by decide +kernel
theorem dX12_ahead_66 : decode cX12_ahead 66 = .ok (.aload_n 0, 1) := by decide +kernel
theorem dX12_ahead_67 : decode cX12_ahead 67 = .ok (.iconst 0, 1) := by decide +kernel
theorem dX12_ahead_68 : decode cX12_ahead 68 = .ok (.putfield 142, 3) := by decide +kernel
theorem dX12_ahead_71 : decode cX12_ahead 71 = .ok (.goto 180, 3) := by decide +kernel
theorem dX12_ahead_74 : decode cX12_ahead 74 = .ok (.iload_n 1, 1) := by decide +kernel
theorem dX12_ahead_75 : decode cX12_ahead 75 = .ok (.invokestatic 145, 3) := by decide +kernel
theorem dX12_ahead_78 : decode cX12_ahead 78 = .ok (.ifCond .eq 38, 3) := by decide +kernel
theorem dX12_ahead_81 : decode cX12_ahead 81 = .ok (.aload_n 0, 1) := by decide +kernel
theorem dX12_ahead_82 : decode cX12_ahead 82 = .ok (.aload_n 0, 1) := by decide +kernel
theorem dX12_ahead_83 : decode cX12_ahead 83 = .ok (.getfield 129, 3) := by decide +kernel
theorem dX12_ahead_86 : decode cX12_ahead 86 = .ok (.invokevirtual 132, 3) := by decide +kernel
theorem dX12_ahead_89 : decode cX12_ahead 89 = .ok (.invokestatic 145, 3) := by decide +kernel
theorem dX12_ahead_92 : decode cX12_ahead 92 = .ok (.ifCond .eq 16, 3) := by decide +kernel
theorem dX12_ahead_95 : decode cX12_ahead 95 = .ok (.aload_n 0, 1) := by decide +kernel
theorem dX12_ahead_96 : decode cX12_ahead 96 = .ok (.dup, 1) := by decide +kernel
theorem dX12_ahead_97 : decode cX12_ahead 97 = .ok (.getfield 129, 3) := by decide +kernel
theorem dX12_ahead_100 : decode cX12_ahead 100 = .ok (.iconst 1, 1) := by decide +kernel
theorem dX12_ahead_101 : decode cX12_ahead 101 = .ok (.iadd, 1) := by decide +kernel
theorem dX12_ahead_102 : decode cX12_ahead 102 = .ok (.putfield 129, 3) := by decide +kernel
theorem dX12_ahead_105 : decode cX12_ahead 105 = .ok (.goto (-24), 3) := by decide +kernel
theorem dX12_ahead_108 : decode cX12_ahead 108 = .ok (.aload_n 0, 1) := by decide +kernel
theorem dX12_ahead_109 : decode cX12_ahead 109 = .ok (.iconst 2, 1) := by decide +kernel
theorem dX12_ahead_110 : decode cX12_ahead 110 = .ok (.putfield 142, 3) := by decide +kernel
theorem dX12_ahead_113 : decode cX12_ahead 113 = .ok (.goto 138, 3) := by decide +kernel
theorem dX12_ahead_116 : decode cX12_ahead 116 = .ok (.iload_n 1, 1) := by decide +kernel
theorem dX12_ahead_117 : decode cX12_ahead 117 = .ok (.invokestatic 148, 3) := by decide +kernel
theorem dX12_ahead_120 : decode cX12_ahead 120 = .ok (.ifCond .eq 88, 3) := by decide +kernel
theorem dX12_ahead_123 : decode cX12_ahead 123 = .ok (.aload_n 0, 1) := by decide +kernel
theorem dX12_ahead_124 : decode cX12_ahead 124 = .ok (.iconst 0, 1) := by decide +kernel
theorem dX12_ahead_125 : decode cX12_ahead 125 = .ok (.putfield 139, 3) := by decide +kernel
theorem dX12_ahead_128 : decode cX12_ahead 128 = .ok (.aload_n 0, 1) := by decide +kernel
theorem dX12_ahead_129 : decode cX12_ahead 129 = .ok (.aload_n 0, 1) := by decide +kernel
theorem dX12_ahead_130 : decode cX12_ahead 130 = .ok (.getfield 129, 3) := by decide +kernel
theorem dX12_ahead_133 : decode cX12_ahead 133 = .ok (.invokevirtual 132, 3) := by decide +kernel
theorem dX12_ahead_136 : decode cX12_ahead 136 = .ok (.invokestatic 148, 3) := by decide +kernel
theorem dX12_ahead_139 : decode cX12_ahead 139 = .ok (.ifCond .eq 44, 3) := by decide +kernel
theorem dX12_ahead_142 : decode cX12_ahead 142 = .ok (.aload_n 0, 1) := by decide +kernel
theorem dX12_ahead_143 : decode cX12_ahead 143 = .ok (.ldc 151, 2) := by decide +kernel
theorem dX12_ahead_145 : decode cX12_ahead 145 = .ok (.bipush 10, 2) := by decide +kernel
theorem dX12_ahead_147 : decode cX12_ahead 147 = .ok (.aload_n 0, 1) := by decide +kernel
theorem dX12_ahead_148 : decode cX12_ahead 148 = .ok (.getfield 139, 3) := by decide +kernel
theorem dX12_ahead_151 : decode cX12_ahead 151 = .ok (.imul, 1) := by decide +kernel
theorem dX12_ahead_152 : decode cX12_ahead 152 = .ok (.aload_n 0, 1) := by decide +kernel
theorem dX12_ahead_153 : decode cX12_ahead 153 = .ok (.aload_n 0, 1) := by decide +kernel
theorem dX12_ahead_154 : decode cX12_ahead 154 = .ok (.getfield 129, 3) := by decide +kernel
theorem dX12_ahead_157 : decode cX12_ahead 157 = .ok (.invokevirtual 132, 3) := by decide +kernel
theorem dX12_ahead_160 : decode cX12_ahead 160 = .ok (.iadd, 1) := by decide +kernel
theorem dX12_ahead_161 : decode cX12_ahead 161 = .ok (.bipush 48, 2) := by decide +kernel
theorem dX12_ahead_163 : decode cX12_ahead 163 = .ok (.isub, 1) := by decide +kernel
theorem dX12_ahead_164 : decode cX12_ahead 164 = .ok (.invokestatic 152, 3) := by decide +kernel
theorem dX12_ahead_167 : decode cX12_ahead 167 = .ok (.putfield 139, 3) := by decide +kernel
theorem dX12_ahead_170 : decode cX12_ahead 170 = .ok (.aload_n 0, 1) := by decide +kernel
theorem dX12_ahead_171 : decode cX12_ahead 171 = .ok (.dup, 1) := by decide +kernel
theorem dX12_ahead_172 : decode cX12_ahead 172 = .ok (.getfield 129, 3) := by decide +kernel
theorem dX12_ahead_175 : decode cX12_ahead 175 = .ok (.iconst 1, 1) := by decide +kernel
theorem dX12_ahead_176 : decode cX12_ahead 176 = .ok (.iadd, 1) := by decide +kernel
theorem dX12_ahead_177 : decode cX12_ahead 177 = .ok (.putfield 129, 3) := by decide +kernel
theorem dX12_ahead_180 : decode cX12_ahead 180 = .ok (.goto (-52), 3) := by decide +kernel
theorem dX12_ahead_183 : decode cX12_ahead 183 = .ok (.aload_n 0, 1) := by decide +kernel
theorem dX12_ahead_184 : decode cX12_ahead 184 = .ok (.aload_n 0, 1) := by decide +kernel
theorem dX12_ahead_185 : decode cX12_ahead 185 = .ok (.getfield 129, 3) := by decide +kernel
theorem dX12_ahead_188 : decode cX12_ahead 188 = .ok (.aload_n 0, 1) := by decide +kernel
theorem dX12_ahead_189 : decode cX12_ahead 189 = .ok (.getfield 136, 3) := by decide +kernel
theorem dX12_ahead_192 : decode cX12_ahead 192 = .ok (.isub, 1) := by decide +kernel
theorem dX12_ahead_193 : decode cX12_ahead 193 = .ok (.iconst 4, 1) := by decide +kernel
theorem dX12_ahead_194 : decode cX12_ahead 194 = .ok (.if_icmp .le 7, 3) := by decide +kernel
theorem dX12_ahead_197 : decode cX12_ahead 197 = .ok (.iconst 1, 1) := by decide +kernel
theorem dX12_ahead_198 : decode cX12_ahead 198 = .ok (.goto 4, 3) := by decide +kernel
theorem dX12_ahead_201 : decode cX12_ahead 201 = .ok (.iconst 3, 1) := by decide +kernel
theorem dX12_ahead_202 : decode cX12_ahead 202 = .ok (.putfield 142, 3) := by decide +kernel
theorem dX12_ahead_205 : decode cX12_ahead 205 = .ok (.goto 46, 3) := by decide +kernel
theorem dX12_ahead_208 : decode cX12_ahead 208 = .ok (.aload_n 0, 1) := by decide +kernel
theorem dX12_ahead_209 : decode cX12_ahead 209 = .ok (.dup, 1) := by decide +kernel
theorem dX12_ahead_210 : decode cX12_ahead 210 = .ok (.getfield 129, 3) := by decide +kernel
theorem dX12_ahead_213 : decode cX12_ahead 213 = .ok (.iconst 1, 1) := by decide +kernel
theorem dX12_ahead_214 : decode cX12_ahead 214 = .ok (.iadd, 1) := by decide +kernel
theorem dX12_ahead_215 : decode cX12_ahead 215 = .ok (.putfield 129, 3) := by decide +kernel
theorem dX12_ahead_218 : decode cX12_ahead 218 = .ok (.aload_n 0, 1) := by decide +kernel
theorem dX12_ahead_219 : decode cX12_ahead 219 = .ok (.iload_n 1, 1) := by decide +kernel
theorem dX12_ahead_220 : decode cX12_ahead 220 = .ok (.bipush 59, 2) := by decide +kernel
theorem dX12_ahead_222 : decode cX12_ahead 222 = .ok (.if_icmp .eq 21, 3) := by decide +kernel
theorem dX12_ahead_225 : decode cX12_ahead 225 = .ok (.iload_n 1, 1) := by decide +kernel
theorem dX12_ahead_226 : decode cX12_ahead 226 = .ok (.bipush 60, 2) := by decide +kernel
theorem dX12_ahead_228 : decode cX12_ahead 228 = .ok (.if_icmp .eq 15, 3) := by decide +kernel
theorem dX12_ahead_231 : decode cX12_ahead 231 = .ok (.iload_n 1, 1) := by decide +kernel
theorem dX12_ahead_232 : decode cX12_ahead 232 = .ok (.bipush 62, 2) := by decide +kernel
theorem dX12_ahead_234 : decode cX12_ahead 234 = .ok (.if_icmp .eq 9, 3) := by decide +kernel
theorem dX12_ahead_237 : decode cX12_ahead 237 = .ok (.iload_n 1, 1) := by decide +kernel
theorem dX12_ahead_238 : decode cX12_ahead 238 = .ok (.bipush 61, 2) := by decide +kernel
theorem dX12_ahead_240 : decode cX12_ahead 240 = .ok (.if_icmp .ne 7, 3) := by decide +kernel
theorem dX12_ahead_243 : decode cX12_ahead 243 = .ok (.iconst 4, 1) := by decide +kernel
theorem dX12_ahead_244 : decode cX12_ahead 244 = .ok (.goto 4, 3) := by decide +kernel
theorem dX12_ahead_247 : decode cX12_ahead 247 = .ok (.iconst 1, 1) := by decide +kernel
theorem dX12_ahead_248 : decode cX12_ahead 248 = .ok (.putfield 142, 3) := by decide +kernel
theorem dX12_ahead_251 : decode cX12_ahead 251 = .ok (.return_, 1) := by decide +kernel
theorem dX12_isSign_0 : decode cX12_isSign 0 = .ok (.aload_n 0, 1) := by decide +kernel
theorem dX12_isSign_1 : decode cX12_isSign 1 = .ok (.getfield 142, 3) := by decide +kernel
theorem dX12_isSign_4 : decode cX12_isSign 4 = .ok (.iconst 4, 1) := by decide +kernel
theorem dX12_isSign_5 : decode cX12_isSign 5 = .ok (.if_icmp .ne 15, 3) := by decide +kernel
theorem dX12_isSign_8 : decode cX12_isSign 8 = .ok (.aload_n 0, 1) := by decide +kernel
theorem dX12_isSign_9 : decode cX12_isSign 9 = .ok (.getfield 139, 3) := by decide +kernel
theorem dX12_isSign_12 : decode cX12_isSign 12 = .ok (.iload_n 1, 1) := by decide +kernel
theorem dX12_isSign_13 : decode cX12_isSign 13 = .ok (.if_icmp .ne 7, 3) := by decide +kernel
theorem dX12_isSign_16 : decode cX12_isSign 16 = .ok (.iconst 1, 1) := by decide +kernel
theorem dX12_isSign_17 : decode cX12_isSign 17 = .ok (.goto 4, 3) := by decide +kernel
theorem dX12_isSign_20 : decode cX12_isSign 20 = .ok (.iconst 0, 1) := by decide +kernel
theorem dX12_isSign_21 : decode cX12_isSign 21 = .ok (.ireturn, 1) := by decide +kernel
theorem dX12_inWords_0 : decode cX12_inWords 0 = .ok (.aload_n 0, 1) := by decide +kernel
theorem dX12_inWords_1 : decode cX12_inWords 1 = .ok (.getfield 142, 3) := by decide +kernel
theorem dX12_inWords_4 : decode cX12_inWords 4 = .ok (.iconst 2, 1) := by decide +kernel
theorem dX12_inWords_5 : decode cX12_inWords 5 = .ok (.if_icmp .eq 5, 3) := by decide +kernel
theorem dX12_inWords_8 : decode cX12_inWords 8 = .ok (.iconst (-1), 1) := by decide +kernel
theorem dX12_inWords_9 : decode cX12_inWords 9 = .ok (.ireturn, 1) := by decide +kernel
theorem dX12_inWords_10 : decode cX12_inWords 10 = .ok (.iconst 0, 1) := by decide +kernel
theorem dX12_inWords_11 : decode cX12_inWords 11 = .ok (.istore_n 2, 1) := by decide +kernel
theorem dX12_inWords_12 : decode cX12_inWords 12 = .ok (.iconst 1, 1) := by decide +kernel
theorem dX12_inWords_13 : decode cX12_inWords 13 = .ok (.istore_n 3, 1) := by decide +kernel
theorem dX12_inWords_14 : decode cX12_inWords 14 = .ok (.iload_n 3, 1) := by decide +kernel
theorem dX12_inWords_15 : decode cX12_inWords 15 = .ok (.aload_n 1, 1) := by decide +kernel
theorem dX12_inWords_16 : decode cX12_inWords 16 = .ok (.invokevirtual 157, 3) := by decide +kernel
theorem dX12_inWords_19 : decode cX12_inWords 19 = .ok (.if_icmp .ge 114, 3) := by decide +kernel
theorem dX12_inWords_22 : decode cX12_inWords 22 = .ok (.iload_n 3, 1) := by decide +kernel
theorem dX12_inWords_23 : decode cX12_inWords 23 = .ok (.istore 4, 2) := by decide +kernel
theorem dX12_inWords_25 : decode cX12_inWords 25 = .ok (.aload_n 1, 1) := by decide +kernel
theorem dX12_inWords_26 : decode cX12_inWords 26 = .ok (.iload 4, 2) := by decide +kernel
theorem dX12_inWords_28 : decode cX12_inWords 28 = .ok (.invokevirtual 163, 3) := by decide +kernel
theorem dX12_inWords_31 : decode cX12_inWords 31 = .ok (.bipush 32, 2) := by decide +kernel
theorem dX12_inWords_33 : decode cX12_inWords 33 = .ok (.if_icmp .eq 9, 3) := by decide +kernel
theorem dX12_inWords_36 : decode cX12_inWords 36 = .ok (.iinc 4 1, 3) := by decide +kernel
theorem dX12_inWords_39 : decode cX12_inWords 39 = .ok (.goto (-14), 3) := by decide +kernel
theorem dX12_inWords_42 : decode cX12_inWords 42 = .ok (.iload 4, 2) := by decide +kernel
theorem dX12_inWords_44 : decode cX12_inWords 44 = .ok (.iload_n 3, 1) := by decide +kernel
theorem dX12_inWords_45 : decode cX12_inWords 45 = .ok (.isub, 1) := by decide +kernel
theorem dX12_inWords_46 : decode cX12_inWords 46 = .ok (.aload_n 0, 1) := by decide +kernel
theorem dX12_inWords_47 : decode cX12_inWords 47 = .ok (.getfield 129, 3) := by decide +kernel
theorem dX12_inWords_50 : decode cX12_inWords 50 = .ok (.aload_n 0, 1) := by decide +kernel
theorem dX12_inWords_51 : decode cX12_inWords 51 = .ok (.getfield 136, 3) := by decide +kernel
theorem dX12_inWords_54 : decode cX12_inWords 54 = .ok (.isub, 1) := by decide +kernel
theorem dX12_inWords_55 : decode cX12_inWords 55 = .ok (.if_icmp .ne 7, 3) := by decide +kernel
theorem dX12_inWords_58 : decode cX12_inWords 58 = .ok (.iconst 1, 1) := by decide +kernel
theorem dX12_inWords_59 : decode cX12_inWords 59 = .ok (.goto 4, 3) := by decide +kernel
theorem dX12_inWords_62 : decode cX12_inWords 62 = .ok (.iconst 0, 1) := by decide +kernel
theorem dX12_inWords_63 : decode cX12_inWords 63 = .ok (.istore 5, 2) := by decide +kernel
theorem dX12_inWords_65 : decode cX12_inWords 65 = .ok (.iload_n 3, 1) := by decide +kernel
theorem dX12_inWords_66 : decode cX12_inWords 66 = .ok (.istore 6, 2) := by decide +kernel
theorem dX12_inWords_68 : decode cX12_inWords 68 = .ok (.iload 6, 2) := by decide +kernel
theorem dX12_inWords_70 : decode cX12_inWords 70 = .ok (.iload 4, 2) := by decide +kernel
theorem dX12_inWords_72 : decode cX12_inWords 72 = .ok (.if_icmp .ge 43, 3) := by decide +kernel
theorem dX12_inWords_75 : decode cX12_inWords 75 = .ok (.iload 5, 2) := by decide +kernel
theorem dX12_inWords_77 : decode cX12_inWords 77 = .ok (.ifCond .eq 38, 3) := by decide +kernel
theorem dX12_inWords_80 : decode cX12_inWords 80 = .ok (.aload_n 1, 1) := by decide +kernel
theorem dX12_inWords_81 : decode cX12_inWords 81 = .ok (.iload 6, 2) := by decide +kernel
theorem dX12_inWords_83 : decode cX12_inWords 83 = .ok (.invokevirtual 163, 3) := by decide +kernel
theorem dX12_inWords_86 : decode cX12_inWords 86 = .ok (.aload_n 0, 1) := by decide +kernel
theorem dX12_inWords_87 : decode cX12_inWords 87 = .ok (.aload_n 0, 1) := by decide +kernel
theorem dX12_inWords_88 : decode cX12_inWords 88 = .ok (.getfield 136, 3) := by decide +kernel
theorem dX12_inWords_91 : decode cX12_inWords 91 = .ok (.iload 6, 2) := by decide +kernel
theorem dX12_inWords_93 : decode cX12_inWords 93 = .ok (.iadd, 1) := by decide +kernel
theorem dX12_inWords_94 : decode cX12_inWords 94 = .ok (.iload_n 3, 1) := by decide +kernel
theorem dX12_inWords_95 : decode cX12_inWords 95 = .ok (.isub, 1) := by decide +kernel
theorem dX12_inWords_96 : decode cX12_inWords 96 = .ok (.invokevirtual 132, 3) := by decide +kernel
theorem dX12_inWords_99 : decode cX12_inWords 99 = .ok (.if_icmp .ne 7, 3) := by decide +kernel
theorem dX12_inWords_102 : decode cX12_inWords 102 = .ok (.iconst 1, 1) := by decide +kernel
theorem dX12_inWords_103 : decode cX12_inWords 103 = .ok (.goto 4, 3) := by decide +kernel
theorem dX12_inWords_106 : decode cX12_inWords 106 = .ok (.iconst 0, 1) := by decide +kernel
theorem dX12_inWords_107 : decode cX12_inWords 107 = .ok (.istore 5, 2) := by decide +kernel
theorem dX12_inWords_109 : decode cX12_inWords 109 = .ok (.iinc 6 1, 3) := by decide +kernel
theorem dX12_inWords_112 : decode cX12_inWords 112 = .ok (.goto (-44), 3) := by decide +kernel
theorem dX12_inWords_115 : decode cX12_inWords 115 = .ok (.iload 5, 2) := by decide +kernel
theorem dX12_inWords_117 : decode cX12_inWords 117 = .ok (.ifCond .eq 5, 3) := by decide +kernel
theorem dX12_inWords_120 : decode cX12_inWords 120 = .ok (.iload_n 2, 1) := by decide +kernel
theorem dX12_inWords_121 : decode cX12_inWords 121 = .ok (.ireturn, 1) := by decide +kernel
theorem dX12_inWords_122 : decode cX12_inWords 122 = .ok (.iinc 2 1, 3) := by decide +kernel
theorem dX12_inWords_125 : decode cX12_inWords 125 = .ok (.iload 4, 2) := by decide +kernel
theorem dX12_inWords_127 : decode cX12_inWords 127 = .ok (.iconst 1, 1) := by decide +kernel
theorem dX12_inWords_128 : decode cX12_inWords 128 = .ok (.iadd, 1) := by decide +kernel
theorem dX12_inWords_129 : decode cX12_inWords 129 = .ok (.istore_n 3, 1) := by decide +kernel
theorem dX12_inWords_130 : decode cX12_inWords 130 = .ok (.goto (-116), 3) := by decide +kernel
theorem dX12_inWords_133 : decode cX12_inWords 133 = .ok (.iconst (-1), 1) := by decide +kernel
theorem dX12_inWords_134 : decode cX12_inWords 134 = .ok (.ireturn, 1) := by decide +kernel
theorem dX12_fails_0 : decode cX12_fails 0 = .ok (.aload_n 0, 1) := by decide +kernel
theorem dX12_fails_1 : decode cX12_fails 1 = .ok (.getfield 167, 3) := by decide +kernel
theorem dX12_fails_4 : decode cX12_fails 4 = .ok (.ifCond .ne 28, 3) := by decide +kernel
theorem dX12_fails_7 : decode cX12_fails 7 = .ok (.aload_n 0, 1) := by decide +kernel
theorem dX12_fails_8 : decode cX12_fails 8 = .ok (.aload_n 0, 1) := by decide +kernel
theorem dX12_fails_9 : decode cX12_fails 9 = .ok (.getfield 142, 3) := by decide +kernel
theorem dX12_fails_12 : decode cX12_fails 12 = .ok (.iconst 1, 1) := by decide +kernel
theorem dX12_fails_13 : decode cX12_fails 13 = .ok (.if_icmp .ne 7, 3) := by decide +kernel
theorem dX12_fails_16 : decode cX12_fails 16 = .ok (.iconst 1, 1) := by decide +kernel
theorem dX12_fails_17 : decode cX12_fails 17 = .ok (.goto 4, 3) := by decide +kernel
theorem dX12_fails_20 : decode cX12_fails 20 = .ok (.iload_n 1, 1) := by decide +kernel
theorem dX12_fails_21 : decode cX12_fails 21 = .ok (.putfield 167, 3) := by decide +kernel
theorem dX12_fails_24 : decode cX12_fails 24 = .ok (.aload_n 0, 1) := by decide +kernel
theorem dX12_fails_25 : decode cX12_fails 25 = .ok (.aload_n 0, 1) := by decide +kernel
theorem dX12_fails_26 : decode cX12_fails 26 = .ok (.getfield 136, 3) := by decide +kernel
theorem dX12_fails_29 : decode cX12_fails 29 = .ok (.putfield 41, 3) := by decide +kernel
theorem dX12_fails_32 : decode cX12_fails 32 = .ok (.iconst 0, 1) := by decide +kernel
theorem dX12_fails_33 : decode cX12_fails 33 = .ok (.ireturn, 1) := by decide +kernel
theorem dX12_begins_0 : decode cX12_begins 0 = .ok (.iload_n 1, 1) := by decide +kernel
theorem dX12_begins_1 : decode cX12_begins 1 = .ok (.ifCond .lt 16, 3) := by decide +kernel
theorem dX12_begins_4 : decode cX12_begins 4 = .ok (.iload_n 1, 1) := by decide +kernel
theorem dX12_begins_5 : decode cX12_begins 5 = .ok (.aload_n 0, 1) := by decide +kernel
theorem dX12_begins_6 : decode cX12_begins 6 = .ok (.getfield 120, 3) := by decide +kernel
theorem dX12_begins_9 : decode cX12_begins 9 = .ok (.if_icmp .gt 8, 3) := by decide +kernel
theorem dX12_begins_12 : decode cX12_begins 12 = .ok (.iload_n 1, 1) := by decide +kernel
theorem dX12_begins_13 : decode cX12_begins 13 = .ok (.iload_n 2, 1) := by decide +kernel
theorem dX12_begins_14 : decode cX12_begins 14 = .ok (.if_icmp .le 5, 3) := by decide +kernel
theorem dX12_begins_17 : decode cX12_begins 17 = .ok (.iconst 0, 1) := by decide +kernel
theorem dX12_begins_18 : decode cX12_begins 18 = .ok (.ireturn, 1) := by decide +kernel
theorem dX12_begins_19 : decode cX12_begins 19 = .ok (.aload_n 0, 1) := by decide +kernel
theorem dX12_begins_20 : decode cX12_begins 20 = .ok (.iload_n 1, 1) := by decide +kernel
theorem dX12_begins_21 : decode cX12_begins 21 = .ok (.putfield 126, 3) := by decide +kernel
theorem dX12_begins_24 : decode cX12_begins 24 = .ok (.iconst 0, 1) := by decide +kernel
theorem dX12_begins_25 : decode cX12_begins 25 = .ok (.istore_n 3, 1) := by decide +kernel
theorem dX12_begins_26 : decode cX12_begins 26 = .ok (.iload_n 3, 1) := by decide +kernel
theorem dX12_begins_27 : decode cX12_begins 27 = .ok (.iload_n 1, 1) := by decide +kernel
theorem dX12_begins_28 : decode cX12_begins 28 = .ok (.if_icmp .ge 21, 3) := by decide +kernel
theorem dX12_begins_31 : decode cX12_begins 31 = .ok (.aload_n 0, 1) := by decide +kernel
theorem dX12_begins_32 : decode cX12_begins 32 = .ok (.getfield 34, 3) := by decide +kernel
theorem dX12_begins_35 : decode cX12_begins 35 = .ok (.iload_n 3, 1) := by decide +kernel
theorem dX12_begins_36 : decode cX12_begins 36 = .ok (.aload_n 0, 1) := by decide +kernel
theorem dX12_begins_37 : decode cX12_begins 37 = .ok (.getfield 30, 3) := by decide +kernel
theorem dX12_begins_40 : decode cX12_begins 40 = .ok (.iload_n 3, 1) := by decide +kernel
theorem dX12_begins_41 : decode cX12_begins 41 = .ok (.baload, 1) := by decide +kernel
theorem dX12_begins_42 : decode cX12_begins 42 = .ok (.bastore, 1) := by decide +kernel
theorem dX12_begins_43 : decode cX12_begins 43 = .ok (.iinc 3 1, 3) := by decide +kernel
theorem dX12_begins_46 : decode cX12_begins 46 = .ok (.goto (-20), 3) := by decide +kernel
theorem dX12_begins_49 : decode cX12_begins 49 = .ok (.aload_n 0, 1) := by decide +kernel
theorem dX12_begins_50 : decode cX12_begins 50 = .ok (.iconst 0, 1) := by decide +kernel
theorem dX12_begins_51 : decode cX12_begins 51 = .ok (.putfield 120, 3) := by decide +kernel
theorem dX12_begins_54 : decode cX12_begins 54 = .ok (.aload_n 0, 1) := by decide +kernel
theorem dX12_begins_55 : decode cX12_begins 55 = .ok (.iconst 0, 1) := by decide +kernel
theorem dX12_begins_56 : decode cX12_begins 56 = .ok (.putfield 167, 3) := by decide +kernel
theorem dX12_begins_59 : decode cX12_begins 59 = .ok (.aload_n 0, 1) := by decide +kernel
theorem dX12_begins_60 : decode cX12_begins 60 = .ok (.iconst (-1), 1) := by decide +kernel
theorem dX12_begins_61 : decode cX12_begins 61 = .ok (.putfield 41, 3) := by decide +kernel
theorem dX12_begins_64 : decode cX12_begins 64 = .ok (.aload_n 0, 1) := by decide +kernel
theorem dX12_begins_65 : decode cX12_begins 65 = .ok (.iconst 0, 1) := by decide +kernel
theorem dX12_begins_66 : decode cX12_begins 66 = .ok (.putfield 129, 3) := by decide +kernel
theorem dX12_begins_69 : decode cX12_begins 69 = .ok (.aload_n 0, 1) := by decide +kernel
theorem dX12_begins_70 : decode cX12_begins 70 = .ok (.iconst 0, 1) := by decide +kernel
theorem dX12_begins_71 : decode cX12_begins 71 = .ok (.putfield 170, 3) := by decide +kernel
theorem dX12_begins_74 : decode cX12_begins 74 = .ok (.aload_n 0, 1) := by decide +kernel
theorem dX12_begins_75 : decode cX12_begins 75 = .ok (.invokevirtual 173, 3) := by decide +kernel
theorem dX12_begins_78 : decode cX12_begins 78 = .ok (.iconst 1, 1) := by decide +kernel
theorem dX12_begins_79 : decode cX12_begins 79 = .ok (.ireturn, 1) := by decide +kernel
theorem dX12_wantSign_0 : decode cX12_wantSign 0 = .ok (.aload_n 0, 1) := by decide +kernel
theorem dX12_wantSign_1 : decode cX12_wantSign 1 = .ok (.iload_n 1, 1) := by decide +kernel
theorem dX12_wantSign_2 : decode cX12_wantSign 2 = .ok (.invokevirtual 176, 3) := by decide +kernel
theorem dX12_wantSign_5 : decode cX12_wantSign 5 = .ok (.ifCond .ne 9, 3) := by decide +kernel
theorem dX12_wantSign_8 : decode cX12_wantSign 8 = .ok (.aload_n 0, 1) := by decide +kernel
theorem dX12_wantSign_9 : decode cX12_wantSign 9 = .ok (.iconst 2, 1) := by decide +kernel
theorem dX12_wantSign_10 : decode cX12_wantSign 10 = .ok (.invokevirtual 179, 3) := by decide +kernel
theorem dX12_wantSign_13 : decode cX12_wantSign 13 = .ok (.ireturn, 1) := by decide +kernel
theorem dX12_wantSign_14 : decode cX12_wantSign 14 = .ok (.aload_n 0, 1) := by decide +kernel
theorem dX12_wantSign_15 : decode cX12_wantSign 15 = .ok (.invokevirtual 173, 3) := by decide +kernel
theorem dX12_wantSign_18 : decode cX12_wantSign 18 = .ok (.iconst 1, 1) := by decide +kernel
theorem dX12_wantSign_19 : decode cX12_wantSign 19 = .ok (.ireturn, 1) := by decide +kernel
theorem dX12_wantWord_0 : decode cX12_wantWord 0 = .ok (.aload_n 0, 1) := by decide +kernel
theorem dX12_wantWord_1 : decode cX12_wantWord 1 = .ok (.aload_n 1, 1) := by decide +kernel
theorem dX12_wantWord_2 : decode cX12_wantWord 2 = .ok (.invokevirtual 182, 3) := by decide +kernel
theorem dX12_wantWord_5 : decode cX12_wantWord 5 = .ok (.iload_n 2, 1) := by decide +kernel
theorem dX12_wantWord_6 : decode cX12_wantWord 6 = .ok (.if_icmp .eq 9, 3) := by decide +kernel
theorem dX12_wantWord_9 : decode cX12_wantWord 9 = .ok (.aload_n 0, 1) := by decide +kernel
theorem dX12_wantWord_10 : decode cX12_wantWord 10 = .ok (.iconst 2, 1) := by decide +kernel
theorem dX12_wantWord_11 : decode cX12_wantWord 11 = .ok (.invokevirtual 179, 3) := by decide +kernel
theorem dX12_wantWord_14 : decode cX12_wantWord 14 = .ok (.ireturn, 1) := by decide +kernel
theorem dX12_wantWord_15 : decode cX12_wantWord 15 = .ok (.aload_n 0, 1) := by decide +kernel
theorem dX12_wantWord_16 : decode cX12_wantWord 16 = .ok (.invokevirtual 173, 3) := by decide +kernel
theorem dX12_wantWord_19 : decode cX12_wantWord 19 = .ok (.iconst 1, 1) := by decide +kernel
theorem dX12_wantWord_20 : decode cX12_wantWord 20 = .ok (.ireturn, 1) := by decide +kernel
theorem dX12_number_0 : decode cX12_number 0 = .ok (.aload_n 0, 1) := by decide +kernel
theorem dX12_number_1 : decode cX12_number 1 = .ok (.getfield 142, 3) := by decide +kernel
theorem dX12_number_4 : decode cX12_number 4 = .ok (.iconst 3, 1) := by decide +kernel
theorem dX12_number_5 : decode cX12_number 5 = .ok (.if_icmp .eq 9, 3) := by decide +kernel
theorem dX12_number_8 : decode cX12_number 8 = .ok (.aload_n 0, 1) := by decide +kernel
theorem dX12_number_9 : decode cX12_number 9 = .ok (.iconst 2, 1) := by decide +kernel
theorem dX12_number_10 : decode cX12_number 10 = .ok (.invokevirtual 179, 3) := by decide +kernel
theorem dX12_number_13 : decode cX12_number 13 = .ok (.ireturn, 1) := by decide +kernel
theorem dX12_number_14 : decode cX12_number 14 = .ok (.aload_n 0, 1) := by decide +kernel
theorem dX12_number_15 : decode cX12_number 15 = .ok (.getfield 139, 3) := by decide +kernel
theorem dX12_number_18 : decode cX12_number 18 = .ok (.iload_n 2, 1) := by decide +kernel
theorem dX12_number_19 : decode cX12_number 19 = .ok (.if_icmp .lt 11, 3) := by decide +kernel
theorem dX12_number_22 : decode cX12_number 22 = .ok (.aload_n 0, 1) := by decide +kernel
theorem dX12_number_23 : decode cX12_number 23 = .ok (.getfield 139, 3) := by decide +kernel
theorem dX12_number_26 : decode cX12_number 26 = .ok (.iload_n 3, 1) := by decide +kernel
theorem dX12_number_27 : decode cX12_number 27 = .ok (.if_icmp .le 9, 3) := by decide +kernel
theorem dX12_number_30 : decode cX12_number 30 = .ok (.aload_n 0, 1) := by decide +kernel
theorem dX12_number_31 : decode cX12_number 31 = .ok (.iconst 4, 1) := by decide +kernel
theorem dX12_number_32 : decode cX12_number 32 = .ok (.invokevirtual 179, 3) := by decide +kernel
theorem dX12_number_35 : decode cX12_number 35 = .ok (.ireturn, 1) := by decide +kernel
theorem dX12_number_36 : decode cX12_number 36 = .ok (.aload_n 0, 1) := by decide +kernel
theorem dX12_number_37 : decode cX12_number 37 = .ok (.getfield 7, 3) := by decide +kernel
theorem dX12_number_40 : decode cX12_number 40 = .ok (.iload_n 1, 1) := by decide +kernel
theorem dX12_number_41 : decode cX12_number 41 = .ok (.aload_n 0, 1) := by decide +kernel
theorem dX12_number_42 : decode cX12_number 42 = .ok (.getfield 139, 3) := by decide +kernel
theorem dX12_number_45 : decode cX12_number 45 = .ok (.iastore, 1) := by decide +kernel
theorem dX12_number_46 : decode cX12_number 46 = .ok (.aload_n 0, 1) := by decide +kernel
theorem dX12_number_47 : decode cX12_number 47 = .ok (.invokevirtual 173, 3) := by decide +kernel
theorem dX12_number_50 : decode cX12_number 50 = .ok (.iconst 1, 1) := by decide +kernel
theorem dX12_number_51 : decode cX12_number 51 = .ok (.ireturn, 1) := by decide +kernel
theorem dX12_isName_0 : decode cX12_isName 0 = .ok (.aload_n 0, 1) := by decide +kernel
theorem dX12_isName_1 : decode cX12_isName 1 = .ok (.getfield 142, 3) := by decide +kernel
theorem dX12_isName_4 : decode cX12_isName 4 = .ok (.iconst 2, 1) := by decide +kernel
theorem dX12_isName_5 : decode cX12_isName 5 = .ok (.if_icmp .ne 30, 3) := by decide +kernel
theorem dX12_isName_8 : decode cX12_isName 8 = .ok (.aload_n 0, 1) := by decide +kernel
theorem dX12_isName_9 : decode cX12_isName 9 = .ok (.getfield 129, 3) := by decide +kernel
theorem dX12_isName_12 : decode cX12_isName 12 = .ok (.aload_n 0, 1) := by decide +kernel
theorem dX12_isName_13 : decode cX12_isName 13 = .ok (.getfield 136, 3) := by decide +kernel
theorem dX12_isName_16 : decode cX12_isName 16 = .ok (.isub, 1) := by decide +kernel
theorem dX12_isName_17 : decode cX12_isName 17 = .ok (.bipush 8, 2) := by decide +kernel
theorem dX12_isName_19 : decode cX12_isName 19 = .ok (.if_icmp .gt 16, 3) := by decide +kernel
theorem dX12_isName_22 : decode cX12_isName 22 = .ok (.aload_n 0, 1) := by decide +kernel
theorem dX12_isName_23 : decode cX12_isName 23 = .ok (.aload_n 1, 1) := by decide +kernel
theorem dX12_isName_24 : decode cX12_isName 24 = .ok (.invokevirtual 182, 3) := by decide +kernel
theorem dX12_isName_27 : decode cX12_isName 27 = .ok (.iconst (-1), 1) := by decide +kernel
theorem dX12_isName_28 : decode cX12_isName 28 = .ok (.if_icmp .ne 7, 3) := by decide +kernel
theorem dX12_isName_31 : decode cX12_isName 31 = .ok (.iconst 1, 1) := by decide +kernel
theorem dX12_isName_32 : decode cX12_isName 32 = .ok (.goto 4, 3) := by decide +kernel
theorem dX12_isName_35 : decode cX12_isName 35 = .ok (.iconst 0, 1) := by decide +kernel
theorem dX12_isName_36 : decode cX12_isName 36 = .ok (.ireturn, 1) := by decide +kernel
theorem dX12_nameHere_0 : decode cX12_nameHere 0 = .ok (.lconst 0, 1) := by decide +kernel
theorem dX12_nameHere_1 : decode cX12_nameHere 1 = .ok (.lstore_n 1, 1) := by decide +kernel
theorem dX12_nameHere_2 : decode cX12_nameHere 2 = .ok (.aload_n 0, 1) := by decide +kernel
theorem dX12_nameHere_3 : decode cX12_nameHere 3 = .ok (.getfield 136, 3) := by decide +kernel
theorem dX12_nameHere_6 : decode cX12_nameHere 6 = .ok (.istore_n 3, 1) := by decide +kernel
theorem dX12_nameHere_7 : decode cX12_nameHere 7 = .ok (.iload_n 3, 1) := by decide +kernel
theorem dX12_nameHere_8 : decode cX12_nameHere 8 = .ok (.aload_n 0, 1) := by decide +kernel
theorem dX12_nameHere_9 : decode cX12_nameHere 9 = .ok (.getfield 129, 3) := by decide +kernel
theorem dX12_nameHere_12 : decode cX12_nameHere 12 = .ok (.if_icmp .ge 21, 3) := by decide +kernel
theorem dX12_nameHere_15 : decode cX12_nameHere 15 = .ok (.lload_n 1, 1) := by decide +kernel
theorem dX12_nameHere_16 : decode cX12_nameHere 16 = .ok (.bipush 8, 2) := by decide +kernel
theorem dX12_nameHere_18 : decode cX12_nameHere 18 = .ok (.lshl, 1) := by decide +kernel
theorem dX12_nameHere_19 : decode cX12_nameHere 19 = .ok (.aload_n 0, 1) := by decide +kernel
theorem dX12_nameHere_20 : decode cX12_nameHere 20 = .ok (.iload_n 3, 1) := by decide +kernel
theorem dX12_nameHere_21 : decode cX12_nameHere 21 = .ok (.invokevirtual 132, 3) := by decide +kernel
theorem dX12_nameHere_24 : decode cX12_nameHere 24 = .ok (.i2l, 1) := by decide +kernel
theorem dX12_nameHere_25 : decode cX12_nameHere 25 = .ok (.lor, 1) := by decide +kernel
theorem dX12_nameHere_26 : decode cX12_nameHere 26 = .ok (.lstore_n 1, 1) := by decide +kernel
theorem dX12_nameHere_27 : decode cX12_nameHere 27 = .ok (.iinc 3 1, 3) := by decide +kernel
theorem dX12_nameHere_30 : decode cX12_nameHere 30 = .ok (.goto (-23), 3) := by decide +kernel
theorem dX12_nameHere_33 : decode cX12_nameHere 33 = .ok (.lload_n 1, 1) := by decide +kernel
theorem dX12_nameHere_34 : decode cX12_nameHere 34 = .ok (.lreturn, 1) := by decide +kernel
theorem dX12_findHere_0 : decode cX12_findHere 0 = .ok (.iconst 0, 1) := by decide +kernel
theorem dX12_findHere_1 : decode cX12_findHere 1 = .ok (.istore_n 3, 1) := by decide +kernel
theorem dX12_findHere_2 : decode cX12_findHere 2 = .ok (.iload_n 3, 1) := by decide +kernel
theorem dX12_findHere_3 : decode cX12_findHere 3 = .ok (.iload_n 2, 1) := by decide +kernel
theorem dX12_findHere_4 : decode cX12_findHere 4 = .ok (.if_icmp .ge 27, 3) := by decide +kernel
theorem dX12_findHere_7 : decode cX12_findHere 7 = .ok (.aload_n 0, 1) := by decide +kernel
theorem dX12_findHere_8 : decode cX12_findHere 8 = .ok (.getfield 13, 3) := by decide +kernel
theorem dX12_findHere_11 : decode cX12_findHere 11 = .ok (.iload_n 1, 1) := by decide +kernel
theorem dX12_findHere_12 : decode cX12_findHere 12 = .ok (.iload_n 3, 1) := by decide +kernel
theorem dX12_findHere_13 : decode cX12_findHere 13 = .ok (.iadd, 1) := by decide +kernel
theorem dX12_findHere_14 : decode cX12_findHere 14 = .ok (.laload, 1) := by decide +kernel
theorem dX12_findHere_15 : decode cX12_findHere 15 = .ok (.aload_n 0, 1) := by decide +kernel
theorem dX12_findHere_16 : decode cX12_findHere 16 = .ok (.invokevirtual 186, 3) := by decide +kernel
theorem dX12_findHere_19 : decode cX12_findHere 19 = .ok (.lcmp, 1) := by decide +kernel
theorem dX12_findHere_20 : decode cX12_findHere 20 = .ok (.ifCond .ne 5, 3) := by decide +kernel
theorem dX12_findHere_23 : decode cX12_findHere 23 = .ok (.iload_n 3, 1) := by decide +kernel
theorem dX12_findHere_24 : decode cX12_findHere 24 = .ok (.ireturn, 1) := by decide +kernel
theorem dX12_findHere_25 : decode cX12_findHere 25 = .ok (.iinc 3 1, 3) := by decide +kernel
theorem dX12_findHere_28 : decode cX12_findHere 28 = .ok (.goto (-26), 3) := by decide +kernel
theorem dX12_findHere_31 : decode cX12_findHere 31 = .ok (.iconst (-1), 1) := by decide +kernel
theorem dX12_findHere_32 : decode cX12_findHere 32 = .ok (.ireturn, 1) := by decide +kernel
theorem dX12_fault_0 : decode cX12_fault 0 = .ok (.iload_n 1, 1) := by decide +kernel
theorem dX12_fault_1 : decode cX12_fault 1 = .ok (.ifCond .ne 10, 3) := by decide +kernel
theorem dX12_fault_4 : decode cX12_fault 4 = .ok (.aload_n 0, 1) := by decide +kernel
theorem dX12_fault_5 : decode cX12_fault 5 = .ok (.getfield 37, 3) := by decide +kernel
theorem dX12_fault_8 : decode cX12_fault 8 = .ok (.goto 16, 3) := by decide +kernel
theorem dX12_fault_11 : decode cX12_fault 11 = .ok (.iload_n 1, 1) := by decide +kernel
theorem dX12_fault_12 : decode cX12_fault 12 = .ok (.iconst 1, 1) := by decide +kernel
theorem dX12_fault_13 : decode cX12_fault 13 = .ok (.if_icmp .ne 10, 3) := by decide +kernel
theorem dX12_fault_16 : decode cX12_fault 16 = .ok (.aload_n 0, 1) := by decide +kernel
theorem dX12_fault_17 : decode cX12_fault 17 = .ok (.getfield 41, 3) := by decide +kernel
theorem dX12_fault_20 : decode cX12_fault 20 = .ok (.goto 4, 3) := by decide +kernel
theorem dX12_fault_23 : decode cX12_fault 23 = .ok (.iconst (-1), 1) := by decide +kernel
theorem dX12_fault_24 : decode cX12_fault 24 = .ok (.ireturn, 1) := by decide +kernel
theorem dX12_taken_0 : decode cX12_taken 0 = .ok (.aload_n 0, 1) := by decide +kernel
theorem dX12_taken_1 : decode cX12_taken 1 = .ok (.aload_n 0, 1) := by decide +kernel
theorem dX12_taken_2 : decode cX12_taken 2 = .ok (.getfield 167, 3) := by decide +kernel
theorem dX12_taken_5 : decode cX12_taken 5 = .ok (.putfield 37, 3) := by decide +kernel
theorem dX12_taken_8 : decode cX12_taken 8 = .ok (.aload_n 0, 1) := by decide +kernel
theorem dX12_taken_9 : decode cX12_taken 9 = .ok (.getfield 167, 3) := by decide +kernel
theorem dX12_taken_12 : decode cX12_taken 12 = .ok (.ifCond .le 12, 3) := by decide +kernel
theorem dX12_taken_15 : decode cX12_taken 15 = .ok (.aload_n 0, 1) := by decide +kernel
theorem dX12_taken_16 : decode cX12_taken 16 = .ok (.bipush 9, 2) := by decide +kernel
theorem dX12_taken_18 : decode cX12_taken 18 = .ok (.invokevirtual 190, 3) := by decide +kernel
theorem dX12_taken_21 : decode cX12_taken 21 = .ok (.goto 8, 3) := by decide +kernel
theorem dX12_taken_24 : decode cX12_taken 24 = .ok (.aload_n 0, 1) := by decide +kernel
theorem dX12_taken_25 : decode cX12_taken 25 = .ok (.iload_n 1, 1) := by decide +kernel
theorem dX12_taken_26 : decode cX12_taken 26 = .ok (.invokevirtual 193, 3) := by decide +kernel
theorem dX12_taken_29 : decode cX12_taken 29 = .ok (.ireturn, 1) := by decide +kernel
theorem dX12_aNewName_0 : decode cX12_aNewName 0 = .ok (.aload_n 0, 1) := by decide +kernel
theorem dX12_aNewName_1 : decode cX12_aNewName 1 = .ok (.invokevirtual 173, 3) := by decide +kernel
theorem dX12_aNewName_4 : decode cX12_aNewName 4 = .ok (.aload_n 0, 1) := by decide +kernel
theorem dX12_aNewName_5 : decode cX12_aNewName 5 = .ok (.ldc 196, 2) := by decide +kernel
theorem dX12_aNewName_7 : decode cX12_aNewName 7 = .ok (.invokevirtual 198, 3) := by decide +kernel
theorem dX12_aNewName_10 : decode cX12_aNewName 10 = .ok (.ifCond .ne 9, 3) := by decide +kernel
theorem dX12_aNewName_13 : decode cX12_aNewName 13 = .ok (.aload_n 0, 1) := by decide +kernel
theorem dX12_aNewName_14 : decode cX12_aNewName 14 = .ok (.iconst 2, 1) := by decide +kernel
theorem dX12_aNewName_15 : decode cX12_aNewName 15 = .ok (.invokevirtual 179, 3) := by decide +kernel
theorem dX12_aNewName_18 : decode cX12_aNewName 18 = .ok (.ireturn, 1) := by decide +kernel
theorem dX12_aNewName_19 : decode cX12_aNewName 19 = .ok (.aload_n 0, 1) := by decide +kernel
theorem dX12_aNewName_20 : decode cX12_aNewName 20 = .ok (.bipush 48, 2) := by decide +kernel
theorem dX12_aNewName_22 : decode cX12_aNewName 22 = .ok (.aload_n 0, 1) := by decide +kernel
theorem dX12_aNewName_23 : decode cX12_aNewName 23 = .ok (.getfield 7, 3) := by decide +kernel
theorem dX12_aNewName_26 : decode cX12_aNewName 26 = .ok (.sipush 19403, 3) := by decide +kernel
theorem dX12_aNewName_29 : decode cX12_aNewName 29 = .ok (.iaload, 1) := by decide +kernel
theorem dX12_aNewName_30 : decode cX12_aNewName 30 = .ok (.invokevirtual 202, 3) := by decide +kernel
theorem dX12_aNewName_33 : decode cX12_aNewName 33 = .ok (.iconst (-1), 1) := by decide +kernel
theorem dX12_aNewName_34 : decode cX12_aNewName 34 = .ok (.if_icmp .ne 21, 3) := by decide +kernel
theorem dX12_aNewName_37 : decode cX12_aNewName 37 = .ok (.aload_n 0, 1) := by decide +kernel
theorem dX12_aNewName_38 : decode cX12_aNewName 38 = .ok (.bipush 54, 2) := by decide +kernel
theorem dX12_aNewName_40 : decode cX12_aNewName 40 = .ok (.aload_n 0, 1) := by decide +kernel
theorem dX12_aNewName_41 : decode cX12_aNewName 41 = .ok (.getfield 7, 3) := by decide +kernel
theorem dX12_aNewName_44 : decode cX12_aNewName 44 = .ok (.sipush 19404, 3) := by decide +kernel
theorem dX12_aNewName_47 : decode cX12_aNewName 47 = .ok (.iaload, 1) := by decide +kernel
theorem dX12_aNewName_48 : decode cX12_aNewName 48 = .ok (.invokevirtual 202, 3) := by decide +kernel
theorem dX12_aNewName_51 : decode cX12_aNewName 51 = .ok (.iconst (-1), 1) := by decide +kernel
theorem dX12_aNewName_52 : decode cX12_aNewName 52 = .ok (.if_icmp .eq 9, 3) := by decide +kernel
theorem dX12_aNewName_55 : decode cX12_aNewName 55 = .ok (.aload_n 0, 1) := by decide +kernel
theorem dX12_aNewName_56 : decode cX12_aNewName 56 = .ok (.iconst 3, 1) := by decide +kernel
theorem dX12_aNewName_57 : decode cX12_aNewName 57 = .ok (.invokevirtual 179, 3) := by decide +kernel
theorem dX12_aNewName_60 : decode cX12_aNewName 60 = .ok (.ireturn, 1) := by decide +kernel
theorem dX12_aNewName_61 : decode cX12_aNewName 61 = .ok (.aload_n 0, 1) := by decide +kernel
theorem dX12_aNewName_62 : decode cX12_aNewName 62 = .ok (.getfield 13, 3) := by decide +kernel
theorem dX12_aNewName_65 : decode cX12_aNewName 65 = .ok (.bipush 48, 2) := by decide +kernel
theorem dX12_aNewName_67 : decode cX12_aNewName 67 = .ok (.iload_n 1, 1) := by decide +kernel
theorem dX12_aNewName_68 : decode cX12_aNewName 68 = .ok (.iadd, 1) := by decide +kernel
theorem dX12_aNewName_69 : decode cX12_aNewName 69 = .ok (.aload_n 0, 1) := by decide +kernel
theorem dX12_aNewName_70 : decode cX12_aNewName 70 = .ok (.invokevirtual 186, 3) := by decide +kernel
theorem dX12_aNewName_73 : decode cX12_aNewName 73 = .ok (.lastore, 1) := by decide +kernel
theorem dX12_aNewName_74 : decode cX12_aNewName 74 = .ok (.aload_n 0, 1) := by decide +kernel
theorem dX12_aNewName_75 : decode cX12_aNewName 75 = .ok (.invokevirtual 173, 3) := by decide +kernel
theorem dX12_aNewName_78 : decode cX12_aNewName 78 = .ok (.iconst 1, 1) := by decide +kernel
theorem dX12_aNewName_79 : decode cX12_aNewName 79 = .ok (.ireturn, 1) := by decide +kernel
theorem dX12_placesPart_0 : decode cX12_placesPart 0 = .ok (.aload_n 0, 1) := by decide +kernel
theorem dX12_placesPart_1 : decode cX12_placesPart 1 = .ok (.getfield 170, 3) := by decide +kernel
theorem dX12_placesPart_4 : decode cX12_placesPart 4 = .ok (.iconst 1, 1) := by decide +kernel
theorem dX12_placesPart_5 : decode cX12_placesPart 5 = .ok (.if_icmp .ne 9, 3) := by decide +kernel
theorem dX12_placesPart_8 : decode cX12_placesPart 8 = .ok (.aload_n 0, 1) := by decide +kernel
theorem dX12_placesPart_9 : decode cX12_placesPart 9 = .ok (.iconst 5, 1) := by decide +kernel
theorem dX12_placesPart_10 : decode cX12_placesPart 10 = .ok (.invokevirtual 179, 3) := by decide +kernel
theorem dX12_placesPart_13 : decode cX12_placesPart 13 = .ok (.ireturn, 1) := by decide +kernel
theorem dX12_placesPart_14 : decode cX12_placesPart 14 = .ok (.aload_n 0, 1) := by decide +kernel
theorem dX12_placesPart_15 : decode cX12_placesPart 15 = .ok (.iconst 1, 1) := by decide +kernel
theorem dX12_placesPart_16 : decode cX12_placesPart 16 = .ok (.putfield 170, 3) := by decide +kernel
theorem dX12_placesPart_19 : decode cX12_placesPart 19 = .ok (.aload_n 0, 1) := by decide +kernel
theorem dX12_placesPart_20 : decode cX12_placesPart 20 = .ok (.invokevirtual 173, 3) := by decide +kernel
theorem dX12_placesPart_23 : decode cX12_placesPart 23 = .ok (.aload_n 0, 1) := by decide +kernel
theorem dX12_placesPart_24 : decode cX12_placesPart 24 = .ok (.sipush 19400, 3) := by decide +kernel
theorem dX12_placesPart_27 : decode cX12_placesPart 27 = .ok (.iconst 1, 1) := by decide +kernel
theorem dX12_placesPart_28 : decode cX12_placesPart 28 = .ok (.bipush 6, 2) := by decide +kernel
theorem dX12_placesPart_30 : decode cX12_placesPart 30 = .ok (.invokevirtual 205, 3) := by decide +kernel
theorem dX12_placesPart_33 : decode cX12_placesPart 33 = .ok (.ifCond .ne 5, 3) := by decide +kernel
theorem dX12_placesPart_36 : decode cX12_placesPart 36 = .ok (.iconst 0, 1) := by decide +kernel
theorem dX12_placesPart_37 : decode cX12_placesPart 37 = .ok (.ireturn, 1) := by decide +kernel
theorem dX12_placesPart_38 : decode cX12_placesPart 38 = .ok (.aload_n 0, 1) := by decide +kernel
theorem dX12_placesPart_39 : decode cX12_placesPart 39 = .ok (.ldc 196, 2) := by decide +kernel
theorem dX12_placesPart_41 : decode cX12_placesPart 41 = .ok (.iconst 3, 1) := by decide +kernel
theorem dX12_placesPart_42 : decode cX12_placesPart 42 = .ok (.invokevirtual 209, 3) := by decide +kernel
theorem dX12_placesPart_45 : decode cX12_placesPart 45 = .ok (.ifCond .eq 55, 3) := by decide +kernel
theorem dX12_placesPart_48 : decode cX12_placesPart 48 = .ok (.aload_n 0, 1) := by decide +kernel
theorem dX12_placesPart_49 : decode cX12_placesPart 49 = .ok (.sipush 19401, 3) := by decide +kernel
theorem dX12_placesPart_52 : decode cX12_placesPart 52 = .ok (.iconst 1, 1) := by decide +kernel
theorem dX12_placesPart_53 : decode cX12_placesPart 53 = .ok (.aload_n 0, 1) := by decide +kernel
theorem dX12_placesPart_54 : decode cX12_placesPart 54 = .ok (.getfield 7, 3) := by decide +kernel
theorem dX12_placesPart_57 : decode cX12_placesPart 57 = .ok (.sipush 19400, 3) := by decide +kernel
theorem dX12_placesPart_60 : decode cX12_placesPart 60 = .ok (.iaload, 1) := by decide +kernel
theorem dX12_placesPart_61 : decode cX12_placesPart 61 = .ok (.invokevirtual 205, 3) := by decide +kernel
theorem dX12_placesPart_64 : decode cX12_placesPart 64 = .ok (.ifCond .eq 36, 3) := by decide +kernel
theorem dX12_placesPart_67 : decode cX12_placesPart 67 = .ok (.aload_n 0, 1) := by decide +kernel
theorem dX12_placesPart_68 : decode cX12_placesPart 68 = .ok (.ldc 196, 2) := by decide +kernel
theorem dX12_placesPart_70 : decode cX12_placesPart 70 = .ok (.iconst 4, 1) := by decide +kernel
theorem dX12_placesPart_71 : decode cX12_placesPart 71 = .ok (.invokevirtual 209, 3) := by decide +kernel
theorem dX12_placesPart_74 : decode cX12_placesPart 74 = .ok (.ifCond .eq 26, 3) := by decide +kernel
theorem dX12_placesPart_77 : decode cX12_placesPart 77 = .ok (.aload_n 0, 1) := by decide +kernel
theorem dX12_placesPart_78 : decode cX12_placesPart 78 = .ok (.sipush 19402, 3) := by decide +kernel
theorem dX12_placesPart_81 : decode cX12_placesPart 81 = .ok (.iconst 1, 1) := by decide +kernel
theorem dX12_placesPart_82 : decode cX12_placesPart 82 = .ok (.aload_n 0, 1) := by decide +kernel
theorem dX12_placesPart_83 : decode cX12_placesPart 83 = .ok (.getfield 7, 3) := by decide +kernel
theorem dX12_placesPart_86 : decode cX12_placesPart 86 = .ok (.sipush 19400, 3) := by decide +kernel
theorem dX12_placesPart_89 : decode cX12_placesPart 89 = .ok (.iaload, 1) := by decide +kernel
theorem dX12_placesPart_90 : decode cX12_placesPart 90 = .ok (.invokevirtual 205, 3) := by decide +kernel
theorem dX12_placesPart_93 : decode cX12_placesPart 93 = .ok (.ifCond .eq 7, 3) := by decide +kernel
theorem dX12_placesPart_96 : decode cX12_placesPart 96 = .ok (.iconst 1, 1) := by decide +kernel
theorem dX12_placesPart_97 : decode cX12_placesPart 97 = .ok (.goto 4, 3) := by decide +kernel
theorem dX12_placesPart_100 : decode cX12_placesPart 100 = .ok (.iconst 0, 1) := by decide +kernel
theorem dX12_placesPart_101 : decode cX12_placesPart 101 = .ok (.ireturn, 1) := by decide +kernel
theorem dX12_aKeeper_0 : decode cX12_aKeeper 0 = .ok (.aload_n 0, 1) := by decide +kernel
theorem dX12_aKeeper_1 : decode cX12_aKeeper 1 = .ok (.getfield 7, 3) := by decide +kernel
theorem dX12_aKeeper_4 : decode cX12_aKeeper 4 = .ok (.sipush 19403, 3) := by decide +kernel
theorem dX12_aKeeper_7 : decode cX12_aKeeper 7 = .ok (.iaload, 1) := by decide +kernel
theorem dX12_aKeeper_8 : decode cX12_aKeeper 8 = .ok (.istore_n 1, 1) := by decide +kernel
theorem dX12_aKeeper_9 : decode cX12_aKeeper 9 = .ok (.iload_n 1, 1) := by decide +kernel
theorem dX12_aKeeper_10 : decode cX12_aKeeper 10 = .ok (.bipush 6, 2) := by decide +kernel
theorem dX12_aKeeper_12 : decode cX12_aKeeper 12 = .ok (.if_icmp .ne 10, 3) := by decide +kernel
theorem dX12_aKeeper_15 : decode cX12_aKeeper 15 = .ok (.aload_n 0, 1) := by decide +kernel
theorem dX12_aKeeper_16 : decode cX12_aKeeper 16 = .ok (.bipush 6, 2) := by decide +kernel
theorem dX12_aKeeper_18 : decode cX12_aKeeper 18 = .ok (.invokevirtual 179, 3) := by decide +kernel
theorem dX12_aKeeper_21 : decode cX12_aKeeper 21 = .ok (.ireturn, 1) := by decide +kernel
theorem dX12_aKeeper_22 : decode cX12_aKeeper 22 = .ok (.aload_n 0, 1) := by decide +kernel
theorem dX12_aKeeper_23 : decode cX12_aKeeper 23 = .ok (.iload_n 1, 1) := by decide +kernel
theorem dX12_aKeeper_24 : decode cX12_aKeeper 24 = .ok (.invokevirtual 213, 3) := by decide +kernel
theorem dX12_aKeeper_27 : decode cX12_aKeeper 27 = .ok (.ifCond .eq 13, 3) := by decide +kernel
theorem dX12_aKeeper_30 : decode cX12_aKeeper 30 = .ok (.aload_n 0, 1) := by decide +kernel
theorem dX12_aKeeper_31 : decode cX12_aKeeper 31 = .ok (.ldc 196, 2) := by decide +kernel
theorem dX12_aKeeper_33 : decode cX12_aKeeper 33 = .ok (.iconst 5, 1) := by decide +kernel
theorem dX12_aKeeper_34 : decode cX12_aKeeper 34 = .ok (.invokevirtual 209, 3) := by decide +kernel
theorem dX12_aKeeper_37 : decode cX12_aKeeper 37 = .ok (.ifCond .ne 5, 3) := by decide +kernel
theorem dX12_aKeeper_40 : decode cX12_aKeeper 40 = .ok (.iconst 0, 1) := by decide +kernel
theorem dX12_aKeeper_41 : decode cX12_aKeeper 41 = .ok (.ireturn, 1) := by decide +kernel
theorem dX12_aKeeper_42 : decode cX12_aKeeper 42 = .ok (.aload_n 0, 1) := by decide +kernel
theorem dX12_aKeeper_43 : decode cX12_aKeeper 43 = .ok (.getfield 142, 3) := by decide +kernel
theorem dX12_aKeeper_46 : decode cX12_aKeeper 46 = .ok (.iconst 3, 1) := by decide +kernel
theorem dX12_aKeeper_47 : decode cX12_aKeeper 47 = .ok (.if_icmp .ne 49, 3) := by decide +kernel
theorem dX12_aKeeper_50 : decode cX12_aKeeper 50 = .ok (.aload_n 0, 1) := by decide +kernel
theorem dX12_aKeeper_51 : decode cX12_aKeeper 51 = .ok (.getfield 139, 3) := by decide +kernel
theorem dX12_aKeeper_54 : decode cX12_aKeeper 54 = .ok (.sipush 999, 3) := by decide +kernel
theorem dX12_aKeeper_57 : decode cX12_aKeeper 57 = .ok (.if_icmp .gt 39, 3) := by decide +kernel
theorem dX12_aKeeper_60 : decode cX12_aKeeper 60 = .ok (.iconst 0, 1) := by decide +kernel
theorem dX12_aKeeper_61 : decode cX12_aKeeper 61 = .ok (.istore_n 2, 1) := by decide +kernel
theorem dX12_aKeeper_62 : decode cX12_aKeeper 62 = .ok (.iload_n 2, 1) := by decide +kernel
theorem dX12_aKeeper_63 : decode cX12_aKeeper 63 = .ok (.iload_n 1, 1) := by decide +kernel
theorem dX12_aKeeper_64 : decode cX12_aKeeper 64 = .ok (.if_icmp .ge 32, 3) := by decide +kernel
theorem dX12_aKeeper_67 : decode cX12_aKeeper 67 = .ok (.aload_n 0, 1) := by decide +kernel
theorem dX12_aKeeper_68 : decode cX12_aKeeper 68 = .ok (.getfield 7, 3) := by decide +kernel
theorem dX12_aKeeper_71 : decode cX12_aKeeper 71 = .ok (.sipush 19410, 3) := by decide +kernel
theorem dX12_aKeeper_74 : decode cX12_aKeeper 74 = .ok (.iload_n 2, 1) := by decide +kernel
theorem dX12_aKeeper_75 : decode cX12_aKeeper 75 = .ok (.iadd, 1) := by decide +kernel
theorem dX12_aKeeper_76 : decode cX12_aKeeper 76 = .ok (.iaload, 1) := by decide +kernel
theorem dX12_aKeeper_77 : decode cX12_aKeeper 77 = .ok (.aload_n 0, 1) := by decide +kernel
theorem dX12_aKeeper_78 : decode cX12_aKeeper 78 = .ok (.getfield 139, 3) := by decide +kernel
theorem dX12_aKeeper_81 : decode cX12_aKeeper 81 = .ok (.if_icmp .ne 9, 3) := by decide +kernel
theorem dX12_aKeeper_84 : decode cX12_aKeeper 84 = .ok (.aload_n 0, 1) := by decide +kernel
theorem dX12_aKeeper_85 : decode cX12_aKeeper 85 = .ok (.iconst 5, 1) := by decide +kernel
theorem dX12_aKeeper_86 : decode cX12_aKeeper 86 = .ok (.invokevirtual 179, 3) := by decide +kernel
theorem dX12_aKeeper_89 : decode cX12_aKeeper 89 = .ok (.ireturn, 1) := by decide +kernel
theorem dX12_aKeeper_90 : decode cX12_aKeeper 90 = .ok (.iinc 2 1, 3) := by decide +kernel
theorem dX12_aKeeper_93 : decode cX12_aKeeper 93 = .ok (.goto (-31), 3) := by decide +kernel
theorem dX12_aKeeper_96 : decode cX12_aKeeper 96 = .ok (.aload_n 0, 1) := by decide +kernel
theorem dX12_aKeeper_97 : decode cX12_aKeeper 97 = .ok (.sipush 19410, 3) := by decide +kernel
theorem dX12_aKeeper_100 : decode cX12_aKeeper 100 = .ok (.iload_n 1, 1) := by decide +kernel
theorem dX12_aKeeper_101 : decode cX12_aKeeper 101 = .ok (.iadd, 1) := by decide +kernel
theorem dX12_aKeeper_102 : decode cX12_aKeeper 102 = .ok (.iconst 0, 1) := by decide +kernel
theorem dX12_aKeeper_103 : decode cX12_aKeeper 103 = .ok (.sipush 999, 3) := by decide +kernel
theorem dX12_aKeeper_106 : decode cX12_aKeeper 106 = .ok (.invokevirtual 205, 3) := by decide +kernel
theorem dX12_aKeeper_109 : decode cX12_aKeeper 109 = .ok (.ifCond .ne 5, 3) := by decide +kernel
theorem dX12_aKeeper_112 : decode cX12_aKeeper 112 = .ok (.iconst 0, 1) := by decide +kernel
theorem dX12_aKeeper_113 : decode cX12_aKeeper 113 = .ok (.ireturn, 1) := by decide +kernel
theorem dX12_aKeeper_114 : decode cX12_aKeeper 114 = .ok (.aload_n 0, 1) := by decide +kernel
theorem dX12_aKeeper_115 : decode cX12_aKeeper 115 = .ok (.getfield 7, 3) := by decide +kernel
theorem dX12_aKeeper_118 : decode cX12_aKeeper 118 = .ok (.sipush 19403, 3) := by decide +kernel
theorem dX12_aKeeper_121 : decode cX12_aKeeper 121 = .ok (.dup2, 1) := by decide +kernel
theorem dX12_aKeeper_122 : decode cX12_aKeeper 122 = .ok (.iaload, 1) := by decide +kernel
theorem dX12_aKeeper_123 : decode cX12_aKeeper 123 = .ok (.iconst 1, 1) := by decide +kernel
theorem dX12_aKeeper_124 : decode cX12_aKeeper 124 = .ok (.iadd, 1) := by decide +kernel
theorem dX12_aKeeper_125 : decode cX12_aKeeper 125 = .ok (.iastore, 1) := by decide +kernel
theorem dX12_aKeeper_126 : decode cX12_aKeeper 126 = .ok (.iconst 1, 1) := by decide +kernel
theorem dX12_aKeeper_127 : decode cX12_aKeeper 127 = .ok (.ireturn, 1) := by decide +kernel
theorem dX12_aKey_0 : decode cX12_aKey 0 = .ok (.aload_n 0, 1) := by decide +kernel
theorem dX12_aKey_1 : decode cX12_aKey 1 = .ok (.getfield 7, 3) := by decide +kernel
theorem dX12_aKey_4 : decode cX12_aKey 4 = .ok (.sipush 19404, 3) := by decide +kernel
theorem dX12_aKey_7 : decode cX12_aKey 7 = .ok (.iaload, 1) := by decide +kernel
theorem dX12_aKey_8 : decode cX12_aKey 8 = .ok (.istore_n 1, 1) := by decide +kernel
theorem dX12_aKey_9 : decode cX12_aKey 9 = .ok (.iload_n 1, 1) := by decide +kernel
theorem dX12_aKey_10 : decode cX12_aKey 10 = .ok (.bipush 6, 2) := by decide +kernel
theorem dX12_aKey_12 : decode cX12_aKey 12 = .ok (.if_icmp .ne 10, 3) := by decide +kernel
theorem dX12_aKey_15 : decode cX12_aKey 15 = .ok (.aload_n 0, 1) := by decide +kernel
theorem dX12_aKey_16 : decode cX12_aKey 16 = .ok (.bipush 6, 2) := by decide +kernel
theorem dX12_aKey_18 : decode cX12_aKey 18 = .ok (.invokevirtual 179, 3) := by decide +kernel
theorem dX12_aKey_21 : decode cX12_aKey 21 = .ok (.ireturn, 1) := by decide +kernel
theorem dX12_aKey_22 : decode cX12_aKey 22 = .ok (.aload_n 0, 1) := by decide +kernel
theorem dX12_aKey_23 : decode cX12_aKey 23 = .ok (.bipush 6, 2) := by decide +kernel
theorem dX12_aKey_25 : decode cX12_aKey 25 = .ok (.iload_n 1, 1) := by decide +kernel
theorem dX12_aKey_26 : decode cX12_aKey 26 = .ok (.iadd, 1) := by decide +kernel
theorem dX12_aKey_27 : decode cX12_aKey 27 = .ok (.invokevirtual 213, 3) := by decide +kernel
theorem dX12_aKey_30 : decode cX12_aKey 30 = .ok (.ifCond .eq 29, 3) := by decide +kernel
theorem dX12_aKey_33 : decode cX12_aKey 33 = .ok (.aload_n 0, 1) := by decide +kernel
theorem dX12_aKey_34 : decode cX12_aKey 34 = .ok (.ldc 196, 2) := by decide +kernel
theorem dX12_aKey_36 : decode cX12_aKey 36 = .ok (.iconst 5, 1) := by decide +kernel
theorem dX12_aKey_37 : decode cX12_aKey 37 = .ok (.invokevirtual 209, 3) := by decide +kernel
theorem dX12_aKey_40 : decode cX12_aKey 40 = .ok (.ifCond .eq 19, 3) := by decide +kernel
theorem dX12_aKey_43 : decode cX12_aKey 43 = .ok (.aload_n 0, 1) := by decide +kernel
theorem dX12_aKey_44 : decode cX12_aKey 44 = .ok (.sipush 19416, 3) := by decide +kernel
theorem dX12_aKey_47 : decode cX12_aKey 47 = .ok (.iload_n 1, 1) := by decide +kernel
theorem dX12_aKey_48 : decode cX12_aKey 48 = .ok (.iadd, 1) := by decide +kernel
theorem dX12_aKey_49 : decode cX12_aKey 49 = .ok (.iconst 0, 1) := by decide +kernel
theorem dX12_aKey_50 : decode cX12_aKey 50 = .ok (.sipush 999, 3) := by decide +kernel
theorem dX12_aKey_53 : decode cX12_aKey 53 = .ok (.invokevirtual 205, 3) := by decide +kernel
theorem dX12_aKey_56 : decode cX12_aKey 56 = .ok (.ifCond .ne 5, 3) := by decide +kernel
theorem dX12_aKey_59 : decode cX12_aKey 59 = .ok (.iconst 0, 1) := by decide +kernel
theorem dX12_aKey_60 : decode cX12_aKey 60 = .ok (.ireturn, 1) := by decide +kernel
theorem dX12_aKey_61 : decode cX12_aKey 61 = .ok (.aload_n 0, 1) := by decide +kernel
theorem dX12_aKey_62 : decode cX12_aKey 62 = .ok (.ldc 196, 2) := by decide +kernel
theorem dX12_aKey_64 : decode cX12_aKey 64 = .ok (.invokevirtual 182, 3) := by decide +kernel
theorem dX12_aKey_67 : decode cX12_aKey 67 = .ok (.bipush 6, 2) := by decide +kernel
theorem dX12_aKey_69 : decode cX12_aKey 69 = .ok (.if_icmp .ne 18, 3) := by decide +kernel
theorem dX12_aKey_72 : decode cX12_aKey 72 = .ok (.aload_n 0, 1) := by decide +kernel
theorem dX12_aKey_73 : decode cX12_aKey 73 = .ok (.getfield 7, 3) := by decide +kernel
theorem dX12_aKey_76 : decode cX12_aKey 76 = .ok (.sipush 19422, 3) := by decide +kernel
theorem dX12_aKey_79 : decode cX12_aKey 79 = .ok (.iload_n 1, 1) := by decide +kernel
theorem dX12_aKey_80 : decode cX12_aKey 80 = .ok (.iadd, 1) := by decide +kernel
theorem dX12_aKey_81 : decode cX12_aKey 81 = .ok (.iconst 1, 1) := by decide +kernel
theorem dX12_aKey_82 : decode cX12_aKey 82 = .ok (.iastore, 1) := by decide +kernel
theorem dX12_aKey_83 : decode cX12_aKey 83 = .ok (.aload_n 0, 1) := by decide +kernel
theorem dX12_aKey_84 : decode cX12_aKey 84 = .ok (.invokevirtual 173, 3) := by decide +kernel
theorem dX12_aKey_87 : decode cX12_aKey 87 = .ok (.aload_n 0, 1) := by decide +kernel
theorem dX12_aKey_88 : decode cX12_aKey 88 = .ok (.getfield 7, 3) := by decide +kernel
theorem dX12_aKey_91 : decode cX12_aKey 91 = .ok (.sipush 19404, 3) := by decide +kernel
theorem dX12_aKey_94 : decode cX12_aKey 94 = .ok (.dup2, 1) := by decide +kernel
theorem dX12_aKey_95 : decode cX12_aKey 95 = .ok (.iaload, 1) := by decide +kernel
theorem dX12_aKey_96 : decode cX12_aKey 96 = .ok (.iconst 1, 1) := by decide +kernel
theorem dX12_aKey_97 : decode cX12_aKey 97 = .ok (.iadd, 1) := by decide +kernel
theorem dX12_aKey_98 : decode cX12_aKey 98 = .ok (.iastore, 1) := by decide +kernel
theorem dX12_aKey_99 : decode cX12_aKey 99 = .ok (.iconst 1, 1) := by decide +kernel
theorem dX12_aKey_100 : decode cX12_aKey 100 = .ok (.ireturn, 1) := by decide +kernel
theorem dX12_shelfPart_0 : decode cX12_shelfPart 0 = .ok (.aload_n 0, 1) := by decide +kernel
theorem dX12_shelfPart_1 : decode cX12_shelfPart 1 = .ok (.ldc 196, 2) := by decide +kernel
theorem dX12_shelfPart_3 : decode cX12_shelfPart 3 = .ok (.invokevirtual 182, 3) := by decide +kernel
theorem dX12_shelfPart_6 : decode cX12_shelfPart 6 = .ok (.tableswitch 50 0 2 #[26, 34, 42], 26) := by decide +kernel
theorem dX12_shelfPart_32 : decode cX12_shelfPart 32 = .ok (.aload_n 0, 1) := by decide +kernel
theorem dX12_shelfPart_33 : decode cX12_shelfPart 33 = .ok (.invokevirtual 216, 3) := by decide +kernel
theorem dX12_shelfPart_36 : decode cX12_shelfPart 36 = .ok (.istore_n 1, 1) := by decide +kernel
theorem dX12_shelfPart_37 : decode cX12_shelfPart 37 = .ok (.goto 25, 3) := by decide +kernel
theorem dX12_shelfPart_40 : decode cX12_shelfPart 40 = .ok (.aload_n 0, 1) := by decide +kernel
theorem dX12_shelfPart_41 : decode cX12_shelfPart 41 = .ok (.invokevirtual 220, 3) := by decide +kernel
theorem dX12_shelfPart_44 : decode cX12_shelfPart 44 = .ok (.istore_n 1, 1) := by decide +kernel
theorem dX12_shelfPart_45 : decode cX12_shelfPart 45 = .ok (.goto 17, 3) := by decide +kernel
theorem dX12_shelfPart_48 : decode cX12_shelfPart 48 = .ok (.aload_n 0, 1) := by decide +kernel
theorem dX12_shelfPart_49 : decode cX12_shelfPart 49 = .ok (.invokevirtual 223, 3) := by decide +kernel
theorem dX12_shelfPart_52 : decode cX12_shelfPart 52 = .ok (.istore_n 1, 1) := by decide +kernel
theorem dX12_shelfPart_53 : decode cX12_shelfPart 53 = .ok (.goto 9, 3) := by decide +kernel
theorem dX12_shelfPart_56 : decode cX12_shelfPart 56 = .ok (.aload_n 0, 1) := by decide +kernel
theorem dX12_shelfPart_57 : decode cX12_shelfPart 57 = .ok (.iconst 2, 1) := by decide +kernel
theorem dX12_shelfPart_58 : decode cX12_shelfPart 58 = .ok (.invokevirtual 179, 3) := by decide +kernel
theorem dX12_shelfPart_61 : decode cX12_shelfPart 61 = .ok (.ireturn, 1) := by decide +kernel
theorem dX12_shelfPart_62 : decode cX12_shelfPart 62 = .ok (.iload_n 1, 1) := by decide +kernel
theorem dX12_shelfPart_63 : decode cX12_shelfPart 63 = .ok (.ifCond .eq 16, 3) := by decide +kernel
theorem dX12_shelfPart_66 : decode cX12_shelfPart 66 = .ok (.aload_n 0, 1) := by decide +kernel
theorem dX12_shelfPart_67 : decode cX12_shelfPart 67 = .ok (.bipush 59, 2) := by decide +kernel
theorem dX12_shelfPart_69 : decode cX12_shelfPart 69 = .ok (.invokevirtual 226, 3) := by decide +kernel
theorem dX12_shelfPart_72 : decode cX12_shelfPart 72 = .ok (.ifCond .eq 7, 3) := by decide +kernel
theorem dX12_shelfPart_75 : decode cX12_shelfPart 75 = .ok (.iconst 1, 1) := by decide +kernel
theorem dX12_shelfPart_76 : decode cX12_shelfPart 76 = .ok (.goto 4, 3) := by decide +kernel
theorem dX12_shelfPart_79 : decode cX12_shelfPart 79 = .ok (.iconst 0, 1) := by decide +kernel
theorem dX12_shelfPart_80 : decode cX12_shelfPart 80 = .ok (.ireturn, 1) := by decide +kernel
theorem dX12_shelf_0 : decode cX12_shelf 0 = .ok (.aload_n 0, 1) := by decide +kernel
theorem dX12_shelf_1 : decode cX12_shelf 1 = .ok (.iload_n 1, 1) := by decide +kernel
theorem dX12_shelf_2 : decode cX12_shelf 2 = .ok (.sipush 900, 3) := by decide +kernel
theorem dX12_shelf_5 : decode cX12_shelf 5 = .ok (.invokevirtual 229, 3) := by decide +kernel
theorem dX12_shelf_8 : decode cX12_shelf 8 = .ok (.ifCond .ne 9, 3) := by decide +kernel
theorem dX12_shelf_11 : decode cX12_shelf 11 = .ok (.aload_n 0, 1) := by decide +kernel
theorem dX12_shelf_12 : decode cX12_shelf 12 = .ok (.iconst 1, 1) := by decide +kernel
theorem dX12_shelf_13 : decode cX12_shelf 13 = .ok (.invokevirtual 190, 3) := by decide +kernel
theorem dX12_shelf_16 : decode cX12_shelf 16 = .ok (.ireturn, 1) := by decide +kernel
theorem dX12_shelf_17 : decode cX12_shelf 17 = .ok (.aload_n 0, 1) := by decide +kernel
theorem dX12_shelf_18 : decode cX12_shelf 18 = .ok (.sipush 19400, 3) := by decide +kernel
theorem dX12_shelf_21 : decode cX12_shelf 21 = .ok (.invokevirtual 93, 3) := by decide +kernel
theorem dX12_shelf_24 : decode cX12_shelf 24 = .ok (.iconst 1, 1) := by decide +kernel
theorem dX12_shelf_25 : decode cX12_shelf 25 = .ok (.istore_n 2, 1) := by decide +kernel
theorem dX12_shelf_26 : decode cX12_shelf 26 = .ok (.iload_n 2, 1) := by decide +kernel
theorem dX12_shelf_27 : decode cX12_shelf 27 = .ok (.ifCond .eq 18, 3) := by decide +kernel
theorem dX12_shelf_30 : decode cX12_shelf 30 = .ok (.aload_n 0, 1) := by decide +kernel
theorem dX12_shelf_31 : decode cX12_shelf 31 = .ok (.getfield 142, 3) := by decide +kernel
theorem dX12_shelf_34 : decode cX12_shelf 34 = .ok (.ifCond .eq 11, 3) := by decide +kernel
theorem dX12_shelf_37 : decode cX12_shelf 37 = .ok (.aload_n 0, 1) := by decide +kernel
theorem dX12_shelf_38 : decode cX12_shelf 38 = .ok (.invokevirtual 233, 3) := by decide +kernel
theorem dX12_shelf_41 : decode cX12_shelf 41 = .ok (.istore_n 2, 1) := by decide +kernel
theorem dX12_shelf_42 : decode cX12_shelf 42 = .ok (.goto (-16), 3) := by decide +kernel
theorem dX12_shelf_45 : decode cX12_shelf 45 = .ok (.aload_n 0, 1) := by decide +kernel
theorem dX12_shelf_46 : decode cX12_shelf 46 = .ok (.getfield 167, 3) := by decide +kernel
theorem dX12_shelf_49 : decode cX12_shelf 49 = .ok (.ifCond .ne 83, 3) := by decide +kernel
theorem dX12_shelf_52 : decode cX12_shelf 52 = .ok (.aload_n 0, 1) := by decide +kernel
theorem dX12_shelf_53 : decode cX12_shelf 53 = .ok (.getfield 7, 3) := by decide +kernel
theorem dX12_shelf_56 : decode cX12_shelf 56 = .ok (.sipush 19405, 3) := by decide +kernel
theorem dX12_shelf_59 : decode cX12_shelf 59 = .ok (.iconst 1, 1) := by decide +kernel
theorem dX12_shelf_60 : decode cX12_shelf 60 = .ok (.aload_n 0, 1) := by decide +kernel
theorem dX12_shelf_61 : decode cX12_shelf 61 = .ok (.getfield 7, 3) := by decide +kernel
theorem dX12_shelf_64 : decode cX12_shelf 64 = .ok (.sipush 19403, 3) := by decide +kernel
theorem dX12_shelf_67 : decode cX12_shelf 67 = .ok (.iaload, 1) := by decide +kernel
theorem dX12_shelf_68 : decode cX12_shelf 68 = .ok (.ishl, 1) := by decide +kernel
theorem dX12_shelf_69 : decode cX12_shelf 69 = .ok (.iconst 1, 1) := by decide +kernel
theorem dX12_shelf_70 : decode cX12_shelf 70 = .ok (.isub, 1) := by decide +kernel
theorem dX12_shelf_71 : decode cX12_shelf 71 = .ok (.iastore, 1) := by decide +kernel
theorem dX12_shelf_72 : decode cX12_shelf 72 = .ok (.iconst 0, 1) := by decide +kernel
theorem dX12_shelf_73 : decode cX12_shelf 73 = .ok (.istore_n 3, 1) := by decide +kernel
theorem dX12_shelf_74 : decode cX12_shelf 74 = .ok (.iload_n 3, 1) := by decide +kernel
theorem dX12_shelf_75 : decode cX12_shelf 75 = .ok (.sipush 4850, 3) := by decide +kernel
theorem dX12_shelf_78 : decode cX12_shelf 78 = .ok (.if_icmp .ge 25, 3) := by decide +kernel
theorem dX12_shelf_81 : decode cX12_shelf 81 = .ok (.aload_n 0, 1) := by decide +kernel
theorem dX12_shelf_82 : decode cX12_shelf 82 = .ok (.getfield 7, 3) := by decide +kernel
theorem dX12_shelf_85 : decode cX12_shelf 85 = .ok (.iload_n 3, 1) := by decide +kernel
theorem dX12_shelf_86 : decode cX12_shelf 86 = .ok (.aload_n 0, 1) := by decide +kernel
theorem dX12_shelf_87 : decode cX12_shelf 87 = .ok (.getfield 7, 3) := by decide +kernel
theorem dX12_shelf_90 : decode cX12_shelf 90 = .ok (.sipush 19400, 3) := by decide +kernel
theorem dX12_shelf_93 : decode cX12_shelf 93 = .ok (.iload_n 3, 1) := by decide +kernel
theorem dX12_shelf_94 : decode cX12_shelf 94 = .ok (.iadd, 1) := by decide +kernel
theorem dX12_shelf_95 : decode cX12_shelf 95 = .ok (.iaload, 1) := by decide +kernel
theorem dX12_shelf_96 : decode cX12_shelf 96 = .ok (.iastore, 1) := by decide +kernel
theorem dX12_shelf_97 : decode cX12_shelf 97 = .ok (.iinc 3 1, 3) := by decide +kernel
theorem dX12_shelf_100 : decode cX12_shelf 100 = .ok (.goto (-26), 3) := by decide +kernel
theorem dX12_shelf_103 : decode cX12_shelf 103 = .ok (.iconst 0, 1) := by decide +kernel
theorem dX12_shelf_104 : decode cX12_shelf 104 = .ok (.istore_n 3, 1) := by decide +kernel
theorem dX12_shelf_105 : decode cX12_shelf 105 = .ok (.iload_n 3, 1) := by decide +kernel
theorem dX12_shelf_106 : decode cX12_shelf 106 = .ok (.bipush 12, 2) := by decide +kernel
theorem dX12_shelf_108 : decode cX12_shelf 108 = .ok (.if_icmp .ge 24, 3) := by decide +kernel
theorem dX12_shelf_111 : decode cX12_shelf 111 = .ok (.aload_n 0, 1) := by decide +kernel
theorem dX12_shelf_112 : decode cX12_shelf 112 = .ok (.getfield 13, 3) := by decide +kernel
theorem dX12_shelf_115 : decode cX12_shelf 115 = .ok (.iload_n 3, 1) := by decide +kernel
theorem dX12_shelf_116 : decode cX12_shelf 116 = .ok (.aload_n 0, 1) := by decide +kernel
theorem dX12_shelf_117 : decode cX12_shelf 117 = .ok (.getfield 13, 3) := by decide +kernel
theorem dX12_shelf_120 : decode cX12_shelf 120 = .ok (.bipush 48, 2) := by decide +kernel
theorem dX12_shelf_122 : decode cX12_shelf 122 = .ok (.iload_n 3, 1) := by decide +kernel
theorem dX12_shelf_123 : decode cX12_shelf 123 = .ok (.iadd, 1) := by decide +kernel
theorem dX12_shelf_124 : decode cX12_shelf 124 = .ok (.laload, 1) := by decide +kernel
theorem dX12_shelf_125 : decode cX12_shelf 125 = .ok (.lastore, 1) := by decide +kernel
theorem dX12_shelf_126 : decode cX12_shelf 126 = .ok (.iinc 3 1, 3) := by decide +kernel
theorem dX12_shelf_129 : decode cX12_shelf 129 = .ok (.goto (-24), 3) := by decide +kernel
theorem dX12_shelf_132 : decode cX12_shelf 132 = .ok (.aload_n 0, 1) := by decide +kernel
theorem dX12_shelf_133 : decode cX12_shelf 133 = .ok (.aload_n 0, 1) := by decide +kernel
theorem dX12_shelf_134 : decode cX12_shelf 134 = .ok (.getfield 7, 3) := by decide +kernel
theorem dX12_shelf_137 : decode cX12_shelf 137 = .ok (.iconst 4, 1) := by decide +kernel
theorem dX12_shelf_138 : decode cX12_shelf 138 = .ok (.iaload, 1) := by decide +kernel
theorem dX12_shelf_139 : decode cX12_shelf 139 = .ok (.invokevirtual 236, 3) := by decide +kernel
theorem dX12_shelf_142 : decode cX12_shelf 142 = .ok (.ireturn, 1) := by decide +kernel
theorem dX12_keyTo_0 : decode cX12_keyTo 0 = .ok (.aload_n 0, 1) := by decide +kernel
theorem dX12_keyTo_1 : decode cX12_keyTo 1 = .ok (.ldc 196, 2) := by decide +kernel
theorem dX12_keyTo_3 : decode cX12_keyTo 3 = .ok (.invokevirtual 198, 3) := by decide +kernel
theorem dX12_keyTo_6 : decode cX12_keyTo 6 = .ok (.ifCond .ne 9, 3) := by decide +kernel
theorem dX12_keyTo_9 : decode cX12_keyTo 9 = .ok (.aload_n 0, 1) := by decide +kernel
theorem dX12_keyTo_10 : decode cX12_keyTo 10 = .ok (.iconst 2, 1) := by decide +kernel
theorem dX12_keyTo_11 : decode cX12_keyTo 11 = .ok (.invokevirtual 179, 3) := by decide +kernel
theorem dX12_keyTo_14 : decode cX12_keyTo 14 = .ok (.ireturn, 1) := by decide +kernel
theorem dX12_keyTo_15 : decode cX12_keyTo 15 = .ok (.aload_n 0, 1) := by decide +kernel
theorem dX12_keyTo_16 : decode cX12_keyTo 16 = .ok (.getfield 7, 3) := by decide +kernel
theorem dX12_keyTo_19 : decode cX12_keyTo 19 = .ok (.iload_n 1, 1) := by decide +kernel
theorem dX12_keyTo_20 : decode cX12_keyTo 20 = .ok (.aload_n 0, 1) := by decide +kernel
theorem dX12_keyTo_21 : decode cX12_keyTo 21 = .ok (.bipush 6, 2) := by decide +kernel
theorem dX12_keyTo_23 : decode cX12_keyTo 23 = .ok (.aload_n 0, 1) := by decide +kernel
theorem dX12_keyTo_24 : decode cX12_keyTo 24 = .ok (.getfield 7, 3) := by decide +kernel
theorem dX12_keyTo_27 : decode cX12_keyTo 27 = .ok (.iconst 4, 1) := by decide +kernel
theorem dX12_keyTo_28 : decode cX12_keyTo 28 = .ok (.iaload, 1) := by decide +kernel
theorem dX12_keyTo_29 : decode cX12_keyTo 29 = .ok (.invokevirtual 202, 3) := by decide +kernel
theorem dX12_keyTo_32 : decode cX12_keyTo 32 = .ok (.iastore, 1) := by decide +kernel
theorem dX12_keyTo_33 : decode cX12_keyTo 33 = .ok (.aload_n 0, 1) := by decide +kernel
theorem dX12_keyTo_34 : decode cX12_keyTo 34 = .ok (.getfield 7, 3) := by decide +kernel
theorem dX12_keyTo_37 : decode cX12_keyTo 37 = .ok (.iload_n 1, 1) := by decide +kernel
theorem dX12_keyTo_38 : decode cX12_keyTo 38 = .ok (.iaload, 1) := by decide +kernel
theorem dX12_keyTo_39 : decode cX12_keyTo 39 = .ok (.iconst (-1), 1) := by decide +kernel
theorem dX12_keyTo_40 : decode cX12_keyTo 40 = .ok (.if_icmp .ne 9, 3) := by decide +kernel
theorem dX12_keyTo_43 : decode cX12_keyTo 43 = .ok (.aload_n 0, 1) := by decide +kernel
theorem dX12_keyTo_44 : decode cX12_keyTo 44 = .ok (.iconst 3, 1) := by decide +kernel
theorem dX12_keyTo_45 : decode cX12_keyTo 45 = .ok (.invokevirtual 179, 3) := by decide +kernel
theorem dX12_keyTo_48 : decode cX12_keyTo 48 = .ok (.ireturn, 1) := by decide +kernel
theorem dX12_keyTo_49 : decode cX12_keyTo 49 = .ok (.aload_n 0, 1) := by decide +kernel
theorem dX12_keyTo_50 : decode cX12_keyTo 50 = .ok (.invokevirtual 173, 3) := by decide +kernel
theorem dX12_keyTo_53 : decode cX12_keyTo 53 = .ok (.iconst 1, 1) := by decide +kernel
theorem dX12_keyTo_54 : decode cX12_keyTo 54 = .ok (.ireturn, 1) := by decide +kernel
theorem dX12_keeperTo_0 : decode cX12_keeperTo 0 = .ok (.aload_n 0, 1) := by decide +kernel
theorem dX12_keeperTo_1 : decode cX12_keeperTo 1 = .ok (.ldc 196, 2) := by decide +kernel
theorem dX12_keeperTo_3 : decode cX12_keeperTo 3 = .ok (.invokevirtual 198, 3) := by decide +kernel
theorem dX12_keeperTo_6 : decode cX12_keeperTo 6 = .ok (.ifCond .ne 9, 3) := by decide +kernel
theorem dX12_keeperTo_9 : decode cX12_keeperTo 9 = .ok (.aload_n 0, 1) := by decide +kernel
theorem dX12_keeperTo_10 : decode cX12_keeperTo 10 = .ok (.iconst 2, 1) := by decide +kernel
theorem dX12_keeperTo_11 : decode cX12_keeperTo 11 = .ok (.invokevirtual 179, 3) := by decide +kernel
theorem dX12_keeperTo_14 : decode cX12_keeperTo 14 = .ok (.ireturn, 1) := by decide +kernel
theorem dX12_keeperTo_15 : decode cX12_keeperTo 15 = .ok (.aload_n 0, 1) := by decide +kernel
theorem dX12_keeperTo_16 : decode cX12_keeperTo 16 = .ok (.getfield 7, 3) := by decide +kernel
theorem dX12_keeperTo_19 : decode cX12_keeperTo 19 = .ok (.iload_n 1, 1) := by decide +kernel
theorem dX12_keeperTo_20 : decode cX12_keeperTo 20 = .ok (.aload_n 0, 1) := by decide +kernel
theorem dX12_keeperTo_21 : decode cX12_keeperTo 21 = .ok (.iconst 0, 1) := by decide +kernel
theorem dX12_keeperTo_22 : decode cX12_keeperTo 22 = .ok (.aload_n 0, 1) := by decide +kernel
theorem dX12_keeperTo_23 : decode cX12_keeperTo 23 = .ok (.getfield 7, 3) := by decide +kernel
theorem dX12_keeperTo_26 : decode cX12_keeperTo 26 = .ok (.iconst 3, 1) := by decide +kernel
theorem dX12_keeperTo_27 : decode cX12_keeperTo 27 = .ok (.iaload, 1) := by decide +kernel
theorem dX12_keeperTo_28 : decode cX12_keeperTo 28 = .ok (.invokevirtual 202, 3) := by decide +kernel
theorem dX12_keeperTo_31 : decode cX12_keeperTo 31 = .ok (.iastore, 1) := by decide +kernel
theorem dX12_keeperTo_32 : decode cX12_keeperTo 32 = .ok (.aload_n 0, 1) := by decide +kernel
theorem dX12_keeperTo_33 : decode cX12_keeperTo 33 = .ok (.getfield 7, 3) := by decide +kernel
theorem dX12_keeperTo_36 : decode cX12_keeperTo 36 = .ok (.iload_n 1, 1) := by decide +kernel
theorem dX12_keeperTo_37 : decode cX12_keeperTo 37 = .ok (.iaload, 1) := by decide +kernel
theorem dX12_keeperTo_38 : decode cX12_keeperTo 38 = .ok (.iconst (-1), 1) := by decide +kernel
theorem dX12_keeperTo_39 : decode cX12_keeperTo 39 = .ok (.if_icmp .ne 9, 3) := by decide +kernel
theorem dX12_keeperTo_42 : decode cX12_keeperTo 42 = .ok (.aload_n 0, 1) := by decide +kernel
theorem dX12_keeperTo_43 : decode cX12_keeperTo 43 = .ok (.iconst 3, 1) := by decide +kernel
theorem dX12_keeperTo_44 : decode cX12_keeperTo 44 = .ok (.invokevirtual 179, 3) := by decide +kernel
theorem dX12_keeperTo_47 : decode cX12_keeperTo 47 = .ok (.ireturn, 1) := by decide +kernel
theorem dX12_keeperTo_48 : decode cX12_keeperTo 48 = .ok (.aload_n 0, 1) := by decide +kernel
theorem dX12_keeperTo_49 : decode cX12_keeperTo 49 = .ok (.invokevirtual 173, 3) := by decide +kernel
theorem dX12_keeperTo_52 : decode cX12_keeperTo 52 = .ok (.iconst 1, 1) := by decide +kernel
theorem dX12_keeperTo_53 : decode cX12_keeperTo 53 = .ok (.ireturn, 1) := by decide +kernel
theorem dX12_keyAt_0 : decode cX12_keyAt 0 = .ok (.aload_n 0, 1) := by decide +kernel
theorem dX12_keyAt_1 : decode cX12_keyAt 1 = .ok (.ldc 196, 2) := by decide +kernel
theorem dX12_keyAt_3 : decode cX12_keyAt 3 = .ok (.invokevirtual 198, 3) := by decide +kernel
theorem dX12_keyAt_6 : decode cX12_keyAt 6 = .ok (.ifCond .eq 45, 3) := by decide +kernel
theorem dX12_keyAt_9 : decode cX12_keyAt 9 = .ok (.iload_n 2, 1) := by decide +kernel
theorem dX12_keyAt_10 : decode cX12_keyAt 10 = .ok (.iconst (-1), 1) := by decide +kernel
theorem dX12_keyAt_11 : decode cX12_keyAt 11 = .ok (.if_icmp .eq 40, 3) := by decide +kernel
theorem dX12_keyAt_14 : decode cX12_keyAt 14 = .ok (.aload_n 0, 1) := by decide +kernel
theorem dX12_keyAt_15 : decode cX12_keyAt 15 = .ok (.bipush 6, 2) := by decide +kernel
theorem dX12_keyAt_17 : decode cX12_keyAt 17 = .ok (.aload_n 0, 1) := by decide +kernel
theorem dX12_keyAt_18 : decode cX12_keyAt 18 = .ok (.getfield 7, 3) := by decide +kernel
theorem dX12_keyAt_21 : decode cX12_keyAt 21 = .ok (.iconst 4, 1) := by decide +kernel
theorem dX12_keyAt_22 : decode cX12_keyAt 22 = .ok (.iaload, 1) := by decide +kernel
theorem dX12_keyAt_23 : decode cX12_keyAt 23 = .ok (.invokevirtual 202, 3) := by decide +kernel
theorem dX12_keyAt_26 : decode cX12_keyAt 26 = .ok (.istore_n 3, 1) := by decide +kernel
theorem dX12_keyAt_27 : decode cX12_keyAt 27 = .ok (.iload_n 3, 1) := by decide +kernel
theorem dX12_keyAt_28 : decode cX12_keyAt 28 = .ok (.iconst (-1), 1) := by decide +kernel
theorem dX12_keyAt_29 : decode cX12_keyAt 29 = .ok (.if_icmp .eq 22, 3) := by decide +kernel
theorem dX12_keyAt_32 : decode cX12_keyAt 32 = .ok (.aload_n 0, 1) := by decide +kernel
theorem dX12_keyAt_33 : decode cX12_keyAt 33 = .ok (.getfield 7, 3) := by decide +kernel
theorem dX12_keyAt_36 : decode cX12_keyAt 36 = .ok (.bipush 22, 2) := by decide +kernel
theorem dX12_keyAt_38 : decode cX12_keyAt 38 = .ok (.iload_n 3, 1) := by decide +kernel
theorem dX12_keyAt_39 : decode cX12_keyAt 39 = .ok (.iadd, 1) := by decide +kernel
theorem dX12_keyAt_40 : decode cX12_keyAt 40 = .ok (.iaload, 1) := by decide +kernel
theorem dX12_keyAt_41 : decode cX12_keyAt 41 = .ok (.iload_n 2, 1) := by decide +kernel
theorem dX12_keyAt_42 : decode cX12_keyAt 42 = .ok (.if_icmp .eq 9, 3) := by decide +kernel
theorem dX12_keyAt_45 : decode cX12_keyAt 45 = .ok (.aload_n 0, 1) := by decide +kernel
theorem dX12_keyAt_46 : decode cX12_keyAt 46 = .ok (.iconst 5, 1) := by decide +kernel
theorem dX12_keyAt_47 : decode cX12_keyAt 47 = .ok (.invokevirtual 179, 3) := by decide +kernel
theorem dX12_keyAt_50 : decode cX12_keyAt 50 = .ok (.ireturn, 1) := by decide +kernel
theorem dX12_keyAt_51 : decode cX12_keyAt 51 = .ok (.aload_n 0, 1) := by decide +kernel
theorem dX12_keyAt_52 : decode cX12_keyAt 52 = .ok (.iload_n 1, 1) := by decide +kernel
theorem dX12_keyAt_53 : decode cX12_keyAt 53 = .ok (.iconst 1, 1) := by decide +kernel
theorem dX12_keyAt_54 : decode cX12_keyAt 54 = .ok (.iadd, 1) := by decide +kernel
theorem dX12_keyAt_55 : decode cX12_keyAt 55 = .ok (.invokevirtual 239, 3) := by decide +kernel
theorem dX12_keyAt_58 : decode cX12_keyAt 58 = .ok (.ifCond .eq 27, 3) := by decide +kernel
theorem dX12_keyAt_61 : decode cX12_keyAt 61 = .ok (.aload_n 0, 1) := by decide +kernel
theorem dX12_keyAt_62 : decode cX12_keyAt 62 = .ok (.ldc 196, 2) := by decide +kernel
theorem dX12_keyAt_64 : decode cX12_keyAt 64 = .ok (.iconst 5, 1) := by decide +kernel
theorem dX12_keyAt_65 : decode cX12_keyAt 65 = .ok (.invokevirtual 209, 3) := by decide +kernel
theorem dX12_keyAt_68 : decode cX12_keyAt 68 = .ok (.ifCond .eq 17, 3) := by decide +kernel
theorem dX12_keyAt_71 : decode cX12_keyAt 71 = .ok (.aload_n 0, 1) := by decide +kernel
theorem dX12_keyAt_72 : decode cX12_keyAt 72 = .ok (.iload_n 1, 1) := by decide +kernel
theorem dX12_keyAt_73 : decode cX12_keyAt 73 = .ok (.iconst 2, 1) := by decide +kernel
theorem dX12_keyAt_74 : decode cX12_keyAt 74 = .ok (.iadd, 1) := by decide +kernel
theorem dX12_keyAt_75 : decode cX12_keyAt 75 = .ok (.invokevirtual 242, 3) := by decide +kernel
theorem dX12_keyAt_78 : decode cX12_keyAt 78 = .ok (.ifCond .eq 7, 3) := by decide +kernel
theorem dX12_keyAt_81 : decode cX12_keyAt 81 = .ok (.iconst 1, 1) := by decide +kernel
theorem dX12_keyAt_82 : decode cX12_keyAt 82 = .ok (.goto 4, 3) := by decide +kernel
theorem dX12_keyAt_85 : decode cX12_keyAt 85 = .ok (.iconst 0, 1) := by decide +kernel
theorem dX12_keyAt_86 : decode cX12_keyAt 86 = .ok (.ireturn, 1) := by decide +kernel
theorem dX12_some_0 : decode cX12_some 0 = .ok (.aload_n 0, 1) := by decide +kernel
theorem dX12_some_1 : decode cX12_some 1 = .ok (.getfield 7, 3) := by decide +kernel
theorem dX12_some_4 : decode cX12_some 4 = .ok (.iload_n 1, 1) := by decide +kernel
theorem dX12_some_5 : decode cX12_some 5 = .ok (.iconst 1, 1) := by decide +kernel
theorem dX12_some_6 : decode cX12_some 6 = .ok (.iadd, 1) := by decide +kernel
theorem dX12_some_7 : decode cX12_some 7 = .ok (.iconst 0, 1) := by decide +kernel
theorem dX12_some_8 : decode cX12_some 8 = .ok (.iastore, 1) := by decide +kernel
theorem dX12_some_9 : decode cX12_some 9 = .ok (.aload_n 0, 1) := by decide +kernel
theorem dX12_some_10 : decode cX12_some 10 = .ok (.ldc 196, 2) := by decide +kernel
theorem dX12_some_12 : decode cX12_some 12 = .ok (.invokevirtual 198, 3) := by decide +kernel
theorem dX12_some_15 : decode cX12_some 15 = .ok (.ifCond .ne 9, 3) := by decide +kernel
theorem dX12_some_18 : decode cX12_some 18 = .ok (.aload_n 0, 1) := by decide +kernel
theorem dX12_some_19 : decode cX12_some 19 = .ok (.iconst 2, 1) := by decide +kernel
theorem dX12_some_20 : decode cX12_some 20 = .ok (.invokevirtual 179, 3) := by decide +kernel
theorem dX12_some_23 : decode cX12_some 23 = .ok (.ireturn, 1) := by decide +kernel
theorem dX12_some_24 : decode cX12_some 24 = .ok (.aload_n 0, 1) := by decide +kernel
theorem dX12_some_25 : decode cX12_some 25 = .ok (.ldc 196, 2) := by decide +kernel
theorem dX12_some_27 : decode cX12_some 27 = .ok (.invokevirtual 198, 3) := by decide +kernel
theorem dX12_some_30 : decode cX12_some 30 = .ok (.ifCond .eq 69, 3) := by decide +kernel
theorem dX12_some_33 : decode cX12_some 33 = .ok (.aload_n 0, 1) := by decide +kernel
theorem dX12_some_34 : decode cX12_some 34 = .ok (.iconst 0, 1) := by decide +kernel
theorem dX12_some_35 : decode cX12_some 35 = .ok (.aload_n 0, 1) := by decide +kernel
theorem dX12_some_36 : decode cX12_some 36 = .ok (.getfield 7, 3) := by decide +kernel
theorem dX12_some_39 : decode cX12_some 39 = .ok (.iconst 3, 1) := by decide +kernel
theorem dX12_some_40 : decode cX12_some 40 = .ok (.iaload, 1) := by decide +kernel
theorem dX12_some_41 : decode cX12_some 41 = .ok (.invokevirtual 202, 3) := by decide +kernel
theorem dX12_some_44 : decode cX12_some 44 = .ok (.istore_n 2, 1) := by decide +kernel
theorem dX12_some_45 : decode cX12_some 45 = .ok (.iload_n 2, 1) := by decide +kernel
theorem dX12_some_46 : decode cX12_some 46 = .ok (.iconst (-1), 1) := by decide +kernel
theorem dX12_some_47 : decode cX12_some 47 = .ok (.if_icmp .ne 9, 3) := by decide +kernel
theorem dX12_some_50 : decode cX12_some 50 = .ok (.aload_n 0, 1) := by decide +kernel
theorem dX12_some_51 : decode cX12_some 51 = .ok (.iconst 3, 1) := by decide +kernel
theorem dX12_some_52 : decode cX12_some 52 = .ok (.invokevirtual 179, 3) := by decide +kernel
theorem dX12_some_55 : decode cX12_some 55 = .ok (.ireturn, 1) := by decide +kernel
theorem dX12_some_56 : decode cX12_some 56 = .ok (.aload_n 0, 1) := by decide +kernel
theorem dX12_some_57 : decode cX12_some 57 = .ok (.getfield 7, 3) := by decide +kernel
theorem dX12_some_60 : decode cX12_some 60 = .ok (.iload_n 1, 1) := by decide +kernel
theorem dX12_some_61 : decode cX12_some 61 = .ok (.iconst 1, 1) := by decide +kernel
theorem dX12_some_62 : decode cX12_some 62 = .ok (.iadd, 1) := by decide +kernel
theorem dX12_some_63 : decode cX12_some 63 = .ok (.iaload, 1) := by decide +kernel
theorem dX12_some_64 : decode cX12_some 64 = .ok (.iload_n 2, 1) := by decide +kernel
theorem dX12_some_65 : decode cX12_some 65 = .ok (.ishr, 1) := by decide +kernel
theorem dX12_some_66 : decode cX12_some 66 = .ok (.iconst 1, 1) := by decide +kernel
theorem dX12_some_67 : decode cX12_some 67 = .ok (.iand, 1) := by decide +kernel
theorem dX12_some_68 : decode cX12_some 68 = .ok (.iconst 1, 1) := by decide +kernel
theorem dX12_some_69 : decode cX12_some 69 = .ok (.if_icmp .ne 9, 3) := by decide +kernel
theorem dX12_some_72 : decode cX12_some 72 = .ok (.aload_n 0, 1) := by decide +kernel
theorem dX12_some_73 : decode cX12_some 73 = .ok (.iconst 5, 1) := by decide +kernel
theorem dX12_some_74 : decode cX12_some 74 = .ok (.invokevirtual 179, 3) := by decide +kernel
theorem dX12_some_77 : decode cX12_some 77 = .ok (.ireturn, 1) := by decide +kernel
theorem dX12_some_78 : decode cX12_some 78 = .ok (.aload_n 0, 1) := by decide +kernel
theorem dX12_some_79 : decode cX12_some 79 = .ok (.getfield 7, 3) := by decide +kernel
theorem dX12_some_82 : decode cX12_some 82 = .ok (.iload_n 1, 1) := by decide +kernel
theorem dX12_some_83 : decode cX12_some 83 = .ok (.iconst 1, 1) := by decide +kernel
theorem dX12_some_84 : decode cX12_some 84 = .ok (.iadd, 1) := by decide +kernel
theorem dX12_some_85 : decode cX12_some 85 = .ok (.dup2, 1) := by decide +kernel
theorem dX12_some_86 : decode cX12_some 86 = .ok (.iaload, 1) := by decide +kernel
theorem dX12_some_87 : decode cX12_some 87 = .ok (.iconst 1, 1) := by decide +kernel
theorem dX12_some_88 : decode cX12_some 88 = .ok (.iload_n 2, 1) := by decide +kernel
theorem dX12_some_89 : decode cX12_some 89 = .ok (.ishl, 1) := by decide +kernel
theorem dX12_some_90 : decode cX12_some 90 = .ok (.ior, 1) := by decide +kernel
theorem dX12_some_91 : decode cX12_some 91 = .ok (.iastore, 1) := by decide +kernel
theorem dX12_some_92 : decode cX12_some 92 = .ok (.aload_n 0, 1) := by decide +kernel
theorem dX12_some_93 : decode cX12_some 93 = .ok (.invokevirtual 173, 3) := by decide +kernel
theorem dX12_some_96 : decode cX12_some 96 = .ok (.goto (-72), 3) := by decide +kernel
theorem dX12_some_99 : decode cX12_some 99 = .ok (.iconst 1, 1) := by decide +kernel
theorem dX12_some_100 : decode cX12_some 100 = .ok (.ireturn, 1) := by decide +kernel
theorem dX12_test_0 : decode cX12_test 0 = .ok (.aload_n 0, 1) := by decide +kernel
theorem dX12_test_1 : decode cX12_test 1 = .ok (.ldc 196, 2) := by decide +kernel
theorem dX12_test_3 : decode cX12_test 3 = .ok (.invokevirtual 182, 3) := by decide +kernel
theorem dX12_test_6 : decode cX12_test 6 = .ok (.istore_n 2, 1) := by decide +kernel
theorem dX12_test_7 : decode cX12_test 7 = .ok (.iload_n 2, 1) := by decide +kernel
theorem dX12_test_8 : decode cX12_test 8 = .ok (.bipush 23, 2) := by decide +kernel
theorem dX12_test_10 : decode cX12_test 10 = .ok (.if_icmp .eq 21, 3) := by decide +kernel
theorem dX12_test_13 : decode cX12_test 13 = .ok (.iload_n 2, 1) := by decide +kernel
theorem dX12_test_14 : decode cX12_test 14 = .ok (.bipush 24, 2) := by decide +kernel
theorem dX12_test_16 : decode cX12_test 16 = .ok (.if_icmp .eq 15, 3) := by decide +kernel
theorem dX12_test_19 : decode cX12_test 19 = .ok (.iload_n 2, 1) := by decide +kernel
theorem dX12_test_20 : decode cX12_test 20 = .ok (.bipush 25, 2) := by decide +kernel
theorem dX12_test_22 : decode cX12_test 22 = .ok (.if_icmp .eq 9, 3) := by decide +kernel
theorem dX12_test_25 : decode cX12_test 25 = .ok (.aload_n 0, 1) := by decide +kernel
theorem dX12_test_26 : decode cX12_test 26 = .ok (.iconst 2, 1) := by decide +kernel
theorem dX12_test_27 : decode cX12_test 27 = .ok (.invokevirtual 179, 3) := by decide +kernel
theorem dX12_test_30 : decode cX12_test 30 = .ok (.ireturn, 1) := by decide +kernel
theorem dX12_test_31 : decode cX12_test 31 = .ok (.aload_n 0, 1) := by decide +kernel
theorem dX12_test_32 : decode cX12_test 32 = .ok (.getfield 7, 3) := by decide +kernel
theorem dX12_test_35 : decode cX12_test 35 = .ok (.iload_n 1, 1) := by decide +kernel
theorem dX12_test_36 : decode cX12_test 36 = .ok (.sipush 1900, 3) := by decide +kernel
theorem dX12_test_39 : decode cX12_test 39 = .ok (.iload_n 2, 1) := by decide +kernel
theorem dX12_test_40 : decode cX12_test 40 = .ok (.iadd, 1) := by decide +kernel
theorem dX12_test_41 : decode cX12_test 41 = .ok (.iastore, 1) := by decide +kernel
theorem dX12_test_42 : decode cX12_test 42 = .ok (.aload_n 0, 1) := by decide +kernel
theorem dX12_test_43 : decode cX12_test 43 = .ok (.invokevirtual 173, 3) := by decide +kernel
theorem dX12_test_46 : decode cX12_test 46 = .ok (.iload_n 2, 1) := by decide +kernel
theorem dX12_test_47 : decode cX12_test 47 = .ok (.bipush 23, 2) := by decide +kernel
theorem dX12_test_49 : decode cX12_test 49 = .ok (.if_icmp .ne 11, 3) := by decide +kernel
theorem dX12_test_52 : decode cX12_test 52 = .ok (.aload_n 0, 1) := by decide +kernel
theorem dX12_test_53 : decode cX12_test 53 = .ok (.iload_n 1, 1) := by decide +kernel
theorem dX12_test_54 : decode cX12_test 54 = .ok (.iconst 1, 1) := by decide +kernel
theorem dX12_test_55 : decode cX12_test 55 = .ok (.iadd, 1) := by decide +kernel
theorem dX12_test_56 : decode cX12_test 56 = .ok (.invokevirtual 239, 3) := by decide +kernel
theorem dX12_test_59 : decode cX12_test 59 = .ok (.ireturn, 1) := by decide +kernel
theorem dX12_test_60 : decode cX12_test 60 = .ok (.iload_n 2, 1) := by decide +kernel
theorem dX12_test_61 : decode cX12_test 61 = .ok (.bipush 24, 2) := by decide +kernel
theorem dX12_test_63 : decode cX12_test 63 = .ok (.if_icmp .ne 11, 3) := by decide +kernel
theorem dX12_test_66 : decode cX12_test 66 = .ok (.aload_n 0, 1) := by decide +kernel
theorem dX12_test_67 : decode cX12_test 67 = .ok (.iload_n 1, 1) := by decide +kernel
theorem dX12_test_68 : decode cX12_test 68 = .ok (.iconst 2, 1) := by decide +kernel
theorem dX12_test_69 : decode cX12_test 69 = .ok (.iadd, 1) := by decide +kernel
theorem dX12_test_70 : decode cX12_test 70 = .ok (.invokevirtual 242, 3) := by decide +kernel
theorem dX12_test_73 : decode cX12_test 73 = .ok (.ireturn, 1) := by decide +kernel
theorem dX12_test_74 : decode cX12_test 74 = .ok (.aload_n 0, 1) := by decide +kernel
theorem dX12_test_75 : decode cX12_test 75 = .ok (.iload_n 1, 1) := by decide +kernel
theorem dX12_test_76 : decode cX12_test 76 = .ok (.iconst (-1), 1) := by decide +kernel
theorem dX12_test_77 : decode cX12_test 77 = .ok (.invokevirtual 245, 3) := by decide +kernel
theorem dX12_test_80 : decode cX12_test 80 = .ok (.ifCond .ne 5, 3) := by decide +kernel
theorem dX12_test_83 : decode cX12_test 83 = .ok (.iconst 0, 1) := by decide +kernel
theorem dX12_test_84 : decode cX12_test 84 = .ok (.ireturn, 1) := by decide +kernel
theorem dX12_test_85 : decode cX12_test 85 = .ok (.aload_n 0, 1) := by decide +kernel
theorem dX12_test_86 : decode cX12_test 86 = .ok (.bipush 60, 2) := by decide +kernel
theorem dX12_test_88 : decode cX12_test 88 = .ok (.invokevirtual 176, 3) := by decide +kernel
theorem dX12_test_91 : decode cX12_test 91 = .ok (.ifCond .ne 27, 3) := by decide +kernel
theorem dX12_test_94 : decode cX12_test 94 = .ok (.aload_n 0, 1) := by decide +kernel
theorem dX12_test_95 : decode cX12_test 95 = .ok (.bipush 62, 2) := by decide +kernel
theorem dX12_test_97 : decode cX12_test 97 = .ok (.invokevirtual 176, 3) := by decide +kernel
theorem dX12_test_100 : decode cX12_test 100 = .ok (.ifCond .ne 18, 3) := by decide +kernel
theorem dX12_test_103 : decode cX12_test 103 = .ok (.aload_n 0, 1) := by decide +kernel
theorem dX12_test_104 : decode cX12_test 104 = .ok (.bipush 61, 2) := by decide +kernel
theorem dX12_test_106 : decode cX12_test 106 = .ok (.invokevirtual 176, 3) := by decide +kernel
theorem dX12_test_109 : decode cX12_test 109 = .ok (.ifCond .ne 9, 3) := by decide +kernel
theorem dX12_test_112 : decode cX12_test 112 = .ok (.aload_n 0, 1) := by decide +kernel
theorem dX12_test_113 : decode cX12_test 113 = .ok (.iconst 2, 1) := by decide +kernel
theorem dX12_test_114 : decode cX12_test 114 = .ok (.invokevirtual 179, 3) := by decide +kernel
theorem dX12_test_117 : decode cX12_test 117 = .ok (.ireturn, 1) := by decide +kernel
theorem dX12_test_118 : decode cX12_test 118 = .ok (.aload_n 0, 1) := by decide +kernel
theorem dX12_test_119 : decode cX12_test 119 = .ok (.getfield 7, 3) := by decide +kernel
theorem dX12_test_122 : decode cX12_test 122 = .ok (.iload_n 1, 1) := by decide +kernel
theorem dX12_test_123 : decode cX12_test 123 = .ok (.iconst 5, 1) := by decide +kernel
theorem dX12_test_124 : decode cX12_test 124 = .ok (.iadd, 1) := by decide +kernel
theorem dX12_test_125 : decode cX12_test 125 = .ok (.aload_n 0, 1) := by decide +kernel
theorem dX12_test_126 : decode cX12_test 126 = .ok (.getfield 139, 3) := by decide +kernel
theorem dX12_test_129 : decode cX12_test 129 = .ok (.iastore, 1) := by decide +kernel
theorem dX12_test_130 : decode cX12_test 130 = .ok (.aload_n 0, 1) := by decide +kernel
theorem dX12_test_131 : decode cX12_test 131 = .ok (.invokevirtual 173, 3) := by decide +kernel
theorem dX12_test_134 : decode cX12_test 134 = .ok (.aload_n 0, 1) := by decide +kernel
theorem dX12_test_135 : decode cX12_test 135 = .ok (.iload_n 1, 1) := by decide +kernel
theorem dX12_test_136 : decode cX12_test 136 = .ok (.iconst 3, 1) := by decide +kernel
theorem dX12_test_137 : decode cX12_test 137 = .ok (.iadd, 1) := by decide +kernel
theorem dX12_test_138 : decode cX12_test 138 = .ok (.iconst 0, 1) := by decide +kernel
theorem dX12_test_139 : decode cX12_test 139 = .ok (.bipush 99, 2) := by decide +kernel
theorem dX12_test_141 : decode cX12_test 141 = .ok (.invokevirtual 205, 3) := by decide +kernel
theorem dX12_test_144 : decode cX12_test 144 = .ok (.ireturn, 1) := by decide +kernel
theorem dX12_order_0 : decode cX12_order 0 = .ok (.iload_n 1, 1) := by decide +kernel
theorem dX12_order_1 : decode cX12_order 1 = .ok (.tableswitch 211 7 20 #[71, 100, 107, 136, 143, 143, 143, 151, 211, 211, 157, 183, 194, 200], 71) := by decide +kernel
theorem dX12_order_72 : decode cX12_order 72 = .ok (.aload_n 0, 1) := by decide +kernel
theorem dX12_order_73 : decode cX12_order 73 = .ok (.iload_n 2, 1) := by decide +kernel
theorem dX12_order_74 : decode cX12_order 74 = .ok (.iconst 0, 1) := by decide +kernel
theorem dX12_order_75 : decode cX12_order 75 = .ok (.invokevirtual 245, 3) := by decide +kernel
theorem dX12_order_78 : decode cX12_order 78 = .ok (.ifCond .eq 21, 3) := by decide +kernel
theorem dX12_order_81 : decode cX12_order 81 = .ok (.aload_n 0, 1) := by decide +kernel
theorem dX12_order_82 : decode cX12_order 82 = .ok (.iload_n 2, 1) := by decide +kernel
theorem dX12_order_83 : decode cX12_order 83 = .ok (.iconst 3, 1) := by decide +kernel
theorem dX12_order_84 : decode cX12_order 84 = .ok (.iadd, 1) := by decide +kernel
theorem dX12_order_85 : decode cX12_order 85 = .ok (.iconst 0, 1) := by decide +kernel
theorem dX12_order_86 : decode cX12_order 86 = .ok (.sipush 999, 3) := by decide +kernel
theorem dX12_order_89 : decode cX12_order 89 = .ok (.invokevirtual 205, 3) := by decide +kernel
theorem dX12_order_92 : decode cX12_order 92 = .ok (.ifCond .eq 7, 3) := by decide +kernel
theorem dX12_order_95 : decode cX12_order 95 = .ok (.iconst 1, 1) := by decide +kernel
theorem dX12_order_96 : decode cX12_order 96 = .ok (.goto 4, 3) := by decide +kernel
theorem dX12_order_99 : decode cX12_order 99 = .ok (.iconst 0, 1) := by decide +kernel
theorem dX12_order_100 : decode cX12_order 100 = .ok (.ireturn, 1) := by decide +kernel
theorem dX12_order_101 : decode cX12_order 101 = .ok (.aload_n 0, 1) := by decide +kernel
theorem dX12_order_102 : decode cX12_order 102 = .ok (.iload_n 2, 1) := by decide +kernel
theorem dX12_order_103 : decode cX12_order 103 = .ok (.iconst 0, 1) := by decide +kernel
theorem dX12_order_104 : decode cX12_order 104 = .ok (.invokevirtual 245, 3) := by decide +kernel
theorem dX12_order_107 : decode cX12_order 107 = .ok (.ireturn, 1) := by decide +kernel
theorem dX12_order_108 : decode cX12_order 108 = .ok (.aload_n 0, 1) := by decide +kernel
theorem dX12_order_109 : decode cX12_order 109 = .ok (.iload_n 2, 1) := by decide +kernel
theorem dX12_order_110 : decode cX12_order 110 = .ok (.iconst 1, 1) := by decide +kernel
theorem dX12_order_111 : decode cX12_order 111 = .ok (.invokevirtual 245, 3) := by decide +kernel
theorem dX12_order_114 : decode cX12_order 114 = .ok (.ifCond .eq 21, 3) := by decide +kernel
theorem dX12_order_117 : decode cX12_order 117 = .ok (.aload_n 0, 1) := by decide +kernel
theorem dX12_order_118 : decode cX12_order 118 = .ok (.iload_n 2, 1) := by decide +kernel
theorem dX12_order_119 : decode cX12_order 119 = .ok (.iconst 3, 1) := by decide +kernel
theorem dX12_order_120 : decode cX12_order 120 = .ok (.iadd, 1) := by decide +kernel
theorem dX12_order_121 : decode cX12_order 121 = .ok (.iconst 1, 1) := by decide +kernel
theorem dX12_order_122 : decode cX12_order 122 = .ok (.sipush 999, 3) := by decide +kernel
theorem dX12_order_125 : decode cX12_order 125 = .ok (.invokevirtual 205, 3) := by decide +kernel
theorem dX12_order_128 : decode cX12_order 128 = .ok (.ifCond .eq 7, 3) := by decide +kernel
theorem dX12_order_131 : decode cX12_order 131 = .ok (.iconst 1, 1) := by decide +kernel
theorem dX12_order_132 : decode cX12_order 132 = .ok (.goto 4, 3) := by decide +kernel
theorem dX12_order_135 : decode cX12_order 135 = .ok (.iconst 0, 1) := by decide +kernel
theorem dX12_order_136 : decode cX12_order 136 = .ok (.ireturn, 1) := by decide +kernel
theorem dX12_order_137 : decode cX12_order 137 = .ok (.aload_n 0, 1) := by decide +kernel
theorem dX12_order_138 : decode cX12_order 138 = .ok (.iload_n 2, 1) := by decide +kernel
theorem dX12_order_139 : decode cX12_order 139 = .ok (.iconst (-1), 1) := by decide +kernel
theorem dX12_order_140 : decode cX12_order 140 = .ok (.invokevirtual 245, 3) := by decide +kernel
theorem dX12_order_143 : decode cX12_order 143 = .ok (.ireturn, 1) := by decide +kernel
theorem dX12_order_144 : decode cX12_order 144 = .ok (.aload_n 0, 1) := by decide +kernel
theorem dX12_order_145 : decode cX12_order 145 = .ok (.iload_n 2, 1) := by decide +kernel
theorem dX12_order_146 : decode cX12_order 146 = .ok (.iconst 1, 1) := by decide +kernel
theorem dX12_order_147 : decode cX12_order 147 = .ok (.iadd, 1) := by decide +kernel
theorem dX12_order_148 : decode cX12_order 148 = .ok (.invokevirtual 242, 3) := by decide +kernel
theorem dX12_order_151 : decode cX12_order 151 = .ok (.ireturn, 1) := by decide +kernel
theorem dX12_order_152 : decode cX12_order 152 = .ok (.aload_n 0, 1) := by decide +kernel
theorem dX12_order_153 : decode cX12_order 153 = .ok (.iload_n 2, 1) := by decide +kernel
theorem dX12_order_154 : decode cX12_order 154 = .ok (.invokevirtual 248, 3) := by decide +kernel
theorem dX12_order_157 : decode cX12_order 157 = .ok (.ireturn, 1) := by decide +kernel
theorem dX12_order_158 : decode cX12_order 158 = .ok (.aload_n 0, 1) := by decide +kernel
theorem dX12_order_159 : decode cX12_order 159 = .ok (.iload_n 2, 1) := by decide +kernel
theorem dX12_order_160 : decode cX12_order 160 = .ok (.iconst 1, 1) := by decide +kernel
theorem dX12_order_161 : decode cX12_order 161 = .ok (.iadd, 1) := by decide +kernel
theorem dX12_order_162 : decode cX12_order 162 = .ok (.invokevirtual 242, 3) := by decide +kernel
theorem dX12_order_165 : decode cX12_order 165 = .ok (.ifCond .eq 17, 3) := by decide +kernel
theorem dX12_order_168 : decode cX12_order 168 = .ok (.aload_n 0, 1) := by decide +kernel
theorem dX12_order_169 : decode cX12_order 169 = .ok (.iload_n 2, 1) := by decide +kernel
theorem dX12_order_170 : decode cX12_order 170 = .ok (.iconst 2, 1) := by decide +kernel
theorem dX12_order_171 : decode cX12_order 171 = .ok (.iadd, 1) := by decide +kernel
theorem dX12_order_172 : decode cX12_order 172 = .ok (.invokevirtual 242, 3) := by decide +kernel
theorem dX12_order_175 : decode cX12_order 175 = .ok (.ifCond .eq 7, 3) := by decide +kernel
theorem dX12_order_178 : decode cX12_order 178 = .ok (.iconst 1, 1) := by decide +kernel
theorem dX12_order_179 : decode cX12_order 179 = .ok (.goto 4, 3) := by decide +kernel
theorem dX12_order_182 : decode cX12_order 182 = .ok (.iconst 0, 1) := by decide +kernel
theorem dX12_order_183 : decode cX12_order 183 = .ok (.ireturn, 1) := by decide +kernel
theorem dX12_order_184 : decode cX12_order 184 = .ok (.aload_n 0, 1) := by decide +kernel
theorem dX12_order_185 : decode cX12_order 185 = .ok (.iload_n 2, 1) := by decide +kernel
theorem dX12_order_186 : decode cX12_order 186 = .ok (.iconst 1, 1) := by decide +kernel
theorem dX12_order_187 : decode cX12_order 187 = .ok (.iadd, 1) := by decide +kernel
theorem dX12_order_188 : decode cX12_order 188 = .ok (.iconst 0, 1) := by decide +kernel
theorem dX12_order_189 : decode cX12_order 189 = .ok (.bipush 16, 2) := by decide +kernel
theorem dX12_order_191 : decode cX12_order 191 = .ok (.invokevirtual 205, 3) := by decide +kernel
theorem dX12_order_194 : decode cX12_order 194 = .ok (.ireturn, 1) := by decide +kernel
theorem dX12_order_195 : decode cX12_order 195 = .ok (.aload_n 0, 1) := by decide +kernel
theorem dX12_order_196 : decode cX12_order 196 = .ok (.iload_n 2, 1) := by decide +kernel
theorem dX12_order_197 : decode cX12_order 197 = .ok (.invokevirtual 251, 3) := by decide +kernel
theorem dX12_order_200 : decode cX12_order 200 = .ok (.ireturn, 1) := by decide +kernel
theorem dX12_order_201 : decode cX12_order 201 = .ok (.aload_n 0, 1) := by decide +kernel
theorem dX12_order_202 : decode cX12_order 202 = .ok (.iload_n 2, 1) := by decide +kernel
theorem dX12_order_203 : decode cX12_order 203 = .ok (.iconst 1, 1) := by decide +kernel
theorem dX12_order_204 : decode cX12_order 204 = .ok (.iadd, 1) := by decide +kernel
theorem dX12_order_205 : decode cX12_order 205 = .ok (.iconst 1, 1) := by decide +kernel
theorem dX12_order_206 : decode cX12_order 206 = .ok (.bipush 99, 2) := by decide +kernel
theorem dX12_order_208 : decode cX12_order 208 = .ok (.invokevirtual 205, 3) := by decide +kernel
theorem dX12_order_211 : decode cX12_order 211 = .ok (.ireturn, 1) := by decide +kernel
theorem dX12_order_212 : decode cX12_order 212 = .ok (.iconst 1, 1) := by decide +kernel
theorem dX12_order_213 : decode cX12_order 213 = .ok (.ireturn, 1) := by decide +kernel
theorem dX12_step_0 : decode cX12_step 0 = .ok (.aload_n 0, 1) := by decide +kernel
theorem dX12_step_1 : decode cX12_step 1 = .ok (.ldc 196, 2) := by decide +kernel
theorem dX12_step_3 : decode cX12_step 3 = .ok (.invokevirtual 182, 3) := by decide +kernel
theorem dX12_step_6 : decode cX12_step 6 = .ok (.istore_n 1, 1) := by decide +kernel
theorem dX12_step_7 : decode cX12_step 7 = .ok (.aload_n 0, 1) := by decide +kernel
theorem dX12_step_8 : decode cX12_step 8 = .ok (.getfield 7, 3) := by decide +kernel
theorem dX12_step_11 : decode cX12_step 11 = .ok (.sipush 19407, 3) := by decide +kernel
theorem dX12_step_14 : decode cX12_step 14 = .ok (.iaload, 1) := by decide +kernel
theorem dX12_step_15 : decode cX12_step 15 = .ok (.istore_n 2, 1) := by decide +kernel
theorem dX12_step_16 : decode cX12_step 16 = .ok (.sipush 23880, 3) := by decide +kernel
theorem dX12_step_19 : decode cX12_step 19 = .ok (.bipush 6, 2) := by decide +kernel
theorem dX12_step_21 : decode cX12_step 21 = .ok (.iload_n 2, 1) := by decide +kernel
theorem dX12_step_22 : decode cX12_step 22 = .ok (.imul, 1) := by decide +kernel
theorem dX12_step_23 : decode cX12_step 23 = .ok (.iadd, 1) := by decide +kernel
theorem dX12_step_24 : decode cX12_step 24 = .ok (.istore_n 3, 1) := by decide +kernel
theorem dX12_step_25 : decode cX12_step 25 = .ok (.iload_n 1, 1) := by decide +kernel
theorem dX12_step_26 : decode cX12_step 26 = .ok (.bipush 19, 2) := by decide +kernel
theorem dX12_step_28 : decode cX12_step 28 = .ok (.if_icmp .eq 9, 3) := by decide +kernel
theorem dX12_step_31 : decode cX12_step 31 = .ok (.iload_n 1, 1) := by decide +kernel
theorem dX12_step_32 : decode cX12_step 32 = .ok (.bipush 20, 2) := by decide +kernel
theorem dX12_step_34 : decode cX12_step 34 = .ok (.if_icmp .ne 7, 3) := by decide +kernel
theorem dX12_step_37 : decode cX12_step 37 = .ok (.iconst 1, 1) := by decide +kernel
theorem dX12_step_38 : decode cX12_step 38 = .ok (.goto 4, 3) := by decide +kernel
theorem dX12_step_41 : decode cX12_step 41 = .ok (.iconst 0, 1) := by decide +kernel
theorem dX12_step_42 : decode cX12_step 42 = .ok (.istore 4, 2) := by decide +kernel
theorem dX12_step_44 : decode cX12_step 44 = .ok (.iload_n 1, 1) := by decide +kernel
theorem dX12_step_45 : decode cX12_step 45 = .ok (.bipush 7, 2) := by decide +kernel
theorem dX12_step_47 : decode cX12_step 47 = .ok (.if_icmp .lt 22, 3) := by decide +kernel
theorem dX12_step_50 : decode cX12_step 50 = .ok (.iload_n 1, 1) := by decide +kernel
theorem dX12_step_51 : decode cX12_step 51 = .ok (.bipush 22, 2) := by decide +kernel
theorem dX12_step_53 : decode cX12_step 53 = .ok (.if_icmp .gt 16, 3) := by decide +kernel
theorem dX12_step_56 : decode cX12_step 56 = .ok (.iload_n 1, 1) := by decide +kernel
theorem dX12_step_57 : decode cX12_step 57 = .ok (.bipush 21, 2) := by decide +kernel
theorem dX12_step_59 : decode cX12_step 59 = .ok (.if_icmp .ne 16, 3) := by decide +kernel
theorem dX12_step_62 : decode cX12_step 62 = .ok (.aload_n 0, 1) := by decide +kernel
theorem dX12_step_63 : decode cX12_step 63 = .ok (.getfield 254, 3) := by decide +kernel
theorem dX12_step_66 : decode cX12_step 66 = .ok (.ifCond .ne 9, 3) := by decide +kernel
theorem dX12_step_69 : decode cX12_step 69 = .ok (.aload_n 0, 1) := by decide +kernel
theorem dX12_step_70 : decode cX12_step 70 = .ok (.iconst 2, 1) := by decide +kernel
theorem dX12_step_71 : decode cX12_step 71 = .ok (.invokevirtual 179, 3) := by decide +kernel
theorem dX12_step_74 : decode cX12_step 74 = .ok (.ireturn, 1) := by decide +kernel
theorem dX12_step_75 : decode cX12_step 75 = .ok (.iload_n 1, 1) := by decide +kernel
theorem dX12_step_76 : decode cX12_step 76 = .ok (.bipush 21, 2) := by decide +kernel
theorem dX12_step_78 : decode cX12_step 78 = .ok (.if_icmp .eq 19, 3) := by decide +kernel
theorem dX12_step_81 : decode cX12_step 81 = .ok (.aload_n 0, 1) := by decide +kernel
theorem dX12_step_82 : decode cX12_step 82 = .ok (.getfield 257, 3) := by decide +kernel
theorem dX12_step_85 : decode cX12_step 85 = .ok (.bipush 30, 2) := by decide +kernel
theorem dX12_step_87 : decode cX12_step 87 = .ok (.if_icmp .ne 10, 3) := by decide +kernel
theorem dX12_step_90 : decode cX12_step 90 = .ok (.aload_n 0, 1) := by decide +kernel
theorem dX12_step_91 : decode cX12_step 91 = .ok (.bipush 6, 2) := by decide +kernel
theorem dX12_step_93 : decode cX12_step 93 = .ok (.invokevirtual 179, 3) := by decide +kernel
theorem dX12_step_96 : decode cX12_step 96 = .ok (.ireturn, 1) := by decide +kernel
theorem dX12_step_97 : decode cX12_step 97 = .ok (.iload 4, 2) := by decide +kernel
theorem dX12_step_99 : decode cX12_step 99 = .ok (.ifCond .eq 18, 3) := by decide +kernel
theorem dX12_step_102 : decode cX12_step 102 = .ok (.aload_n 0, 1) := by decide +kernel
theorem dX12_step_103 : decode cX12_step 103 = .ok (.getfield 254, 3) := by decide +kernel
theorem dX12_step_106 : decode cX12_step 106 = .ok (.iconst 3, 1) := by decide +kernel
theorem dX12_step_107 : decode cX12_step 107 = .ok (.if_icmp .ne 10, 3) := by decide +kernel
theorem dX12_step_110 : decode cX12_step 110 = .ok (.aload_n 0, 1) := by decide +kernel
theorem dX12_step_111 : decode cX12_step 111 = .ok (.bipush 7, 2) := by decide +kernel
theorem dX12_step_113 : decode cX12_step 113 = .ok (.invokevirtual 179, 3) := by decide +kernel
theorem dX12_step_116 : decode cX12_step 116 = .ok (.ireturn, 1) := by decide +kernel
theorem dX12_step_117 : decode cX12_step 117 = .ok (.aload_n 0, 1) := by decide +kernel
theorem dX12_step_118 : decode cX12_step 118 = .ok (.dup, 1) := by decide +kernel
theorem dX12_step_119 : decode cX12_step 119 = .ok (.getfield 257, 3) := by decide +kernel
theorem dX12_step_122 : decode cX12_step 122 = .ok (.iload_n 1, 1) := by decide +kernel
theorem dX12_step_123 : decode cX12_step 123 = .ok (.bipush 21, 2) := by decide +kernel
theorem dX12_step_125 : decode cX12_step 125 = .ok (.if_icmp .ne 7, 3) := by decide +kernel
theorem dX12_step_128 : decode cX12_step 128 = .ok (.iconst 0, 1) := by decide +kernel
theorem dX12_step_129 : decode cX12_step 129 = .ok (.goto 4, 3) := by decide +kernel
theorem dX12_step_132 : decode cX12_step 132 = .ok (.iconst 1, 1) := by decide +kernel
theorem dX12_step_133 : decode cX12_step 133 = .ok (.iadd, 1) := by decide +kernel
theorem dX12_step_134 : decode cX12_step 134 = .ok (.putfield 257, 3) := by decide +kernel
theorem dX12_step_137 : decode cX12_step 137 = .ok (.aload_n 0, 1) := by decide +kernel
theorem dX12_step_138 : decode cX12_step 138 = .ok (.getfield 7, 3) := by decide +kernel
theorem dX12_step_141 : decode cX12_step 141 = .ok (.iload_n 3, 1) := by decide +kernel
theorem dX12_step_142 : decode cX12_step 142 = .ok (.iload_n 1, 1) := by decide +kernel
theorem dX12_step_143 : decode cX12_step 143 = .ok (.iastore, 1) := by decide +kernel
theorem dX12_step_144 : decode cX12_step 144 = .ok (.iconst 1, 1) := by decide +kernel
theorem dX12_step_145 : decode cX12_step 145 = .ok (.istore 5, 2) := by decide +kernel
theorem dX12_step_147 : decode cX12_step 147 = .ok (.iload 5, 2) := by decide +kernel
theorem dX12_step_149 : decode cX12_step 149 = .ok (.bipush 6, 2) := by decide +kernel
theorem dX12_step_151 : decode cX12_step 151 = .ok (.if_icmp .ge 19, 3) := by decide +kernel
theorem dX12_step_154 : decode cX12_step 154 = .ok (.aload_n 0, 1) := by decide +kernel
theorem dX12_step_155 : decode cX12_step 155 = .ok (.getfield 7, 3) := by decide +kernel
theorem dX12_step_158 : decode cX12_step 158 = .ok (.iload_n 3, 1) := by decide +kernel
theorem dX12_step_159 : decode cX12_step 159 = .ok (.iload 5, 2) := by decide +kernel
theorem dX12_step_161 : decode cX12_step 161 = .ok (.iadd, 1) := by decide +kernel
theorem dX12_step_162 : decode cX12_step 162 = .ok (.iconst 0, 1) := by decide +kernel
theorem dX12_step_163 : decode cX12_step 163 = .ok (.iastore, 1) := by decide +kernel
theorem dX12_step_164 : decode cX12_step 164 = .ok (.iinc 5 1, 3) := by decide +kernel
theorem dX12_step_167 : decode cX12_step 167 = .ok (.goto (-20), 3) := by decide +kernel
theorem dX12_step_170 : decode cX12_step 170 = .ok (.aload_n 0, 1) := by decide +kernel
theorem dX12_step_171 : decode cX12_step 171 = .ok (.getfield 7, 3) := by decide +kernel
theorem dX12_step_174 : decode cX12_step 174 = .ok (.sipush 19407, 3) := by decide +kernel
theorem dX12_step_177 : decode cX12_step 177 = .ok (.dup2, 1) := by decide +kernel
theorem dX12_step_178 : decode cX12_step 178 = .ok (.iaload, 1) := by decide +kernel
theorem dX12_step_179 : decode cX12_step 179 = .ok (.iconst 1, 1) := by decide +kernel
theorem dX12_step_180 : decode cX12_step 180 = .ok (.iadd, 1) := by decide +kernel
theorem dX12_step_181 : decode cX12_step 181 = .ok (.iastore, 1) := by decide +kernel
theorem dX12_step_182 : decode cX12_step 182 = .ok (.aload_n 0, 1) := by decide +kernel
theorem dX12_step_183 : decode cX12_step 183 = .ok (.invokevirtual 173, 3) := by decide +kernel
theorem dX12_step_186 : decode cX12_step 186 = .ok (.aload_n 0, 1) := by decide +kernel
theorem dX12_step_187 : decode cX12_step 187 = .ok (.iload_n 1, 1) := by decide +kernel
theorem dX12_step_188 : decode cX12_step 188 = .ok (.iload_n 3, 1) := by decide +kernel
theorem dX12_step_189 : decode cX12_step 189 = .ok (.invokevirtual 260, 3) := by decide +kernel
theorem dX12_step_192 : decode cX12_step 192 = .ok (.ifCond .ne 5, 3) := by decide +kernel
theorem dX12_step_195 : decode cX12_step 195 = .ok (.iconst 0, 1) := by decide +kernel
theorem dX12_step_196 : decode cX12_step 196 = .ok (.ireturn, 1) := by decide +kernel
theorem dX12_step_197 : decode cX12_step 197 = .ok (.iload 4, 2) := by decide +kernel
theorem dX12_step_199 : decode cX12_step 199 = .ok (.ifCond .eq 23, 3) := by decide +kernel
theorem dX12_step_202 : decode cX12_step 202 = .ok (.aload_n 0, 1) := by decide +kernel
theorem dX12_step_203 : decode cX12_step 203 = .ok (.getfield 44, 3) := by decide +kernel
theorem dX12_step_206 : decode cX12_step 206 = .ok (.aload_n 0, 1) := by decide +kernel
theorem dX12_step_207 : decode cX12_step 207 = .ok (.getfield 254, 3) := by decide +kernel
theorem dX12_step_210 : decode cX12_step 210 = .ok (.iload_n 2, 1) := by decide +kernel
theorem dX12_step_211 : decode cX12_step 211 = .ok (.iastore, 1) := by decide +kernel
theorem dX12_step_212 : decode cX12_step 212 = .ok (.aload_n 0, 1) := by decide +kernel
theorem dX12_step_213 : decode cX12_step 213 = .ok (.dup, 1) := by decide +kernel
theorem dX12_step_214 : decode cX12_step 214 = .ok (.getfield 254, 3) := by decide +kernel
theorem dX12_step_217 : decode cX12_step 217 = .ok (.iconst 1, 1) := by decide +kernel
theorem dX12_step_218 : decode cX12_step 218 = .ok (.iadd, 1) := by decide +kernel
theorem dX12_step_219 : decode cX12_step 219 = .ok (.putfield 254, 3) := by decide +kernel
theorem dX12_step_222 : decode cX12_step 222 = .ok (.iload_n 1, 1) := by decide +kernel
theorem dX12_step_223 : decode cX12_step 223 = .ok (.bipush 21, 2) := by decide +kernel
theorem dX12_step_225 : decode cX12_step 225 = .ok (.if_icmp .ne 54, 3) := by decide +kernel
theorem dX12_step_228 : decode cX12_step 228 = .ok (.aload_n 0, 1) := by decide +kernel
theorem dX12_step_229 : decode cX12_step 229 = .ok (.dup, 1) := by decide +kernel
theorem dX12_step_230 : decode cX12_step 230 = .ok (.getfield 254, 3) := by decide +kernel
theorem dX12_step_233 : decode cX12_step 233 = .ok (.iconst 1, 1) := by decide +kernel
theorem dX12_step_234 : decode cX12_step 234 = .ok (.isub, 1) := by decide +kernel
theorem dX12_step_235 : decode cX12_step 235 = .ok (.putfield 254, 3) := by decide +kernel
theorem dX12_step_238 : decode cX12_step 238 = .ok (.aload_n 0, 1) := by decide +kernel
theorem dX12_step_239 : decode cX12_step 239 = .ok (.getfield 7, 3) := by decide +kernel
theorem dX12_step_242 : decode cX12_step 242 = .ok (.iload_n 3, 1) := by decide +kernel
theorem dX12_step_243 : decode cX12_step 243 = .ok (.iconst 4, 1) := by decide +kernel
theorem dX12_step_244 : decode cX12_step 244 = .ok (.iadd, 1) := by decide +kernel
theorem dX12_step_245 : decode cX12_step 245 = .ok (.aload_n 0, 1) := by decide +kernel
theorem dX12_step_246 : decode cX12_step 246 = .ok (.getfield 44, 3) := by decide +kernel
theorem dX12_step_249 : decode cX12_step 249 = .ok (.aload_n 0, 1) := by decide +kernel
theorem dX12_step_250 : decode cX12_step 250 = .ok (.getfield 254, 3) := by decide +kernel
theorem dX12_step_253 : decode cX12_step 253 = .ok (.iaload, 1) := by decide +kernel
theorem dX12_step_254 : decode cX12_step 254 = .ok (.iastore, 1) := by decide +kernel
theorem dX12_step_255 : decode cX12_step 255 = .ok (.aload_n 0, 1) := by decide +kernel
theorem dX12_step_256 : decode cX12_step 256 = .ok (.getfield 7, 3) := by decide +kernel
theorem dX12_step_259 : decode cX12_step 259 = .ok (.sipush 23880, 3) := by decide +kernel
theorem dX12_step_262 : decode cX12_step 262 = .ok (.bipush 6, 2) := by decide +kernel
theorem dX12_step_264 : decode cX12_step 264 = .ok (.aload_n 0, 1) := by decide +kernel
theorem dX12_step_265 : decode cX12_step 265 = .ok (.getfield 44, 3) := by decide +kernel
theorem dX12_step_268 : decode cX12_step 268 = .ok (.aload_n 0, 1) := by decide +kernel
theorem dX12_step_269 : decode cX12_step 269 = .ok (.getfield 254, 3) := by decide +kernel
theorem dX12_step_272 : decode cX12_step 272 = .ok (.iaload, 1) := by decide +kernel
theorem dX12_step_273 : decode cX12_step 273 = .ok (.imul, 1) := by decide +kernel
theorem dX12_step_274 : decode cX12_step 274 = .ok (.iadd, 1) := by decide +kernel
theorem dX12_step_275 : decode cX12_step 275 = .ok (.iconst 4, 1) := by decide +kernel
theorem dX12_step_276 : decode cX12_step 276 = .ok (.iadd, 1) := by decide +kernel
theorem dX12_step_277 : decode cX12_step 277 = .ok (.iload_n 2, 1) := by decide +kernel
theorem dX12_step_278 : decode cX12_step 278 = .ok (.iastore, 1) := by decide +kernel
theorem dX12_step_279 : decode cX12_step 279 = .ok (.aload_n 0, 1) := by decide +kernel
theorem dX12_step_280 : decode cX12_step 280 = .ok (.bipush 59, 2) := by decide +kernel
theorem dX12_step_282 : decode cX12_step 282 = .ok (.invokevirtual 226, 3) := by decide +kernel
theorem dX12_step_285 : decode cX12_step 285 = .ok (.ireturn, 1) := by decide +kernel
theorem dX12_days_0 : decode cX12_days 0 = .ok (.aload_n 0, 1) := by decide +kernel
theorem dX12_days_1 : decode cX12_days 1 = .ok (.iload_n 1, 1) := by decide +kernel
theorem dX12_days_2 : decode cX12_days 2 = .ok (.sipush 300, 3) := by decide +kernel
theorem dX12_days_5 : decode cX12_days 5 = .ok (.invokevirtual 229, 3) := by decide +kernel
theorem dX12_days_8 : decode cX12_days 8 = .ok (.ifCond .ne 9, 3) := by decide +kernel
theorem dX12_days_11 : decode cX12_days 11 = .ok (.aload_n 0, 1) := by decide +kernel
theorem dX12_days_12 : decode cX12_days 12 = .ok (.iconst 1, 1) := by decide +kernel
theorem dX12_days_13 : decode cX12_days 13 = .ok (.invokevirtual 190, 3) := by decide +kernel
theorem dX12_days_16 : decode cX12_days 16 = .ok (.ireturn, 1) := by decide +kernel
theorem dX12_days_17 : decode cX12_days 17 = .ok (.aload_n 0, 1) := by decide +kernel
theorem dX12_days_18 : decode cX12_days 18 = .ok (.getfield 7, 3) := by decide +kernel
theorem dX12_days_21 : decode cX12_days 21 = .ok (.sipush 19407, 3) := by decide +kernel
theorem dX12_days_24 : decode cX12_days 24 = .ok (.iconst 0, 1) := by decide +kernel
theorem dX12_days_25 : decode cX12_days 25 = .ok (.iastore, 1) := by decide +kernel
theorem dX12_days_26 : decode cX12_days 26 = .ok (.aload_n 0, 1) := by decide +kernel
theorem dX12_days_27 : decode cX12_days 27 = .ok (.iconst 0, 1) := by decide +kernel
theorem dX12_days_28 : decode cX12_days 28 = .ok (.putfield 254, 3) := by decide +kernel
theorem dX12_days_31 : decode cX12_days 31 = .ok (.aload_n 0, 1) := by decide +kernel
theorem dX12_days_32 : decode cX12_days 32 = .ok (.iconst 0, 1) := by decide +kernel
theorem dX12_days_33 : decode cX12_days 33 = .ok (.putfield 257, 3) := by decide +kernel
theorem dX12_days_36 : decode cX12_days 36 = .ok (.iconst 1, 1) := by decide +kernel
theorem dX12_days_37 : decode cX12_days 37 = .ok (.istore_n 2, 1) := by decide +kernel
theorem dX12_days_38 : decode cX12_days 38 = .ok (.iload_n 2, 1) := by decide +kernel
theorem dX12_days_39 : decode cX12_days 39 = .ok (.ifCond .eq 18, 3) := by decide +kernel
theorem dX12_days_42 : decode cX12_days 42 = .ok (.aload_n 0, 1) := by decide +kernel
theorem dX12_days_43 : decode cX12_days 43 = .ok (.getfield 142, 3) := by decide +kernel
theorem dX12_days_46 : decode cX12_days 46 = .ok (.ifCond .eq 11, 3) := by decide +kernel
theorem dX12_days_49 : decode cX12_days 49 = .ok (.aload_n 0, 1) := by decide +kernel
theorem dX12_days_50 : decode cX12_days 50 = .ok (.invokevirtual 263, 3) := by decide +kernel
theorem dX12_days_53 : decode cX12_days 53 = .ok (.istore_n 2, 1) := by decide +kernel
theorem dX12_days_54 : decode cX12_days 54 = .ok (.goto (-16), 3) := by decide +kernel
theorem dX12_days_57 : decode cX12_days 57 = .ok (.aload_n 0, 1) := by decide +kernel
theorem dX12_days_58 : decode cX12_days 58 = .ok (.getfield 167, 3) := by decide +kernel
theorem dX12_days_61 : decode cX12_days 61 = .ok (.ifCond .ne 16, 3) := by decide +kernel
theorem dX12_days_64 : decode cX12_days 64 = .ok (.aload_n 0, 1) := by decide +kernel
theorem dX12_days_65 : decode cX12_days 65 = .ok (.getfield 254, 3) := by decide +kernel
theorem dX12_days_68 : decode cX12_days 68 = .ok (.ifCond .le 9, 3) := by decide +kernel
theorem dX12_days_71 : decode cX12_days 71 = .ok (.aload_n 0, 1) := by decide +kernel
theorem dX12_days_72 : decode cX12_days 72 = .ok (.iconst 2, 1) := by decide +kernel
theorem dX12_days_73 : decode cX12_days 73 = .ok (.invokevirtual 179, 3) := by decide +kernel
theorem dX12_days_76 : decode cX12_days 76 = .ok (.pop, 1) := by decide +kernel
theorem dX12_days_77 : decode cX12_days 77 = .ok (.aload_n 0, 1) := by decide +kernel
theorem dX12_days_78 : decode cX12_days 78 = .ok (.getfield 167, 3) := by decide +kernel
theorem dX12_days_81 : decode cX12_days 81 = .ok (.ifCond .ne 51, 3) := by decide +kernel
theorem dX12_days_84 : decode cX12_days 84 = .ok (.aload_n 0, 1) := by decide +kernel
theorem dX12_days_85 : decode cX12_days 85 = .ok (.getfield 7, 3) := by decide +kernel
theorem dX12_days_88 : decode cX12_days 88 = .ok (.bipush 7, 2) := by decide +kernel
theorem dX12_days_90 : decode cX12_days 90 = .ok (.aload_n 0, 1) := by decide +kernel
theorem dX12_days_91 : decode cX12_days 91 = .ok (.getfield 7, 3) := by decide +kernel
theorem dX12_days_94 : decode cX12_days 94 = .ok (.sipush 19407, 3) := by decide +kernel
theorem dX12_days_97 : decode cX12_days 97 = .ok (.iaload, 1) := by decide +kernel
theorem dX12_days_98 : decode cX12_days 98 = .ok (.iastore, 1) := by decide +kernel
theorem dX12_days_99 : decode cX12_days 99 = .ok (.sipush 4480, 3) := by decide +kernel
theorem dX12_days_102 : decode cX12_days 102 = .ok (.istore_n 3, 1) := by decide +kernel
theorem dX12_days_103 : decode cX12_days 103 = .ok (.iload_n 3, 1) := by decide +kernel
theorem dX12_days_104 : decode cX12_days 104 = .ok (.sipush 4850, 3) := by decide +kernel
theorem dX12_days_107 : decode cX12_days 107 = .ok (.if_icmp .ge 25, 3) := by decide +kernel
theorem dX12_days_110 : decode cX12_days 110 = .ok (.aload_n 0, 1) := by decide +kernel
theorem dX12_days_111 : decode cX12_days 111 = .ok (.getfield 7, 3) := by decide +kernel
theorem dX12_days_114 : decode cX12_days 114 = .ok (.iload_n 3, 1) := by decide +kernel
theorem dX12_days_115 : decode cX12_days 115 = .ok (.aload_n 0, 1) := by decide +kernel
theorem dX12_days_116 : decode cX12_days 116 = .ok (.getfield 7, 3) := by decide +kernel
theorem dX12_days_119 : decode cX12_days 119 = .ok (.sipush 19400, 3) := by decide +kernel
theorem dX12_days_122 : decode cX12_days 122 = .ok (.iload_n 3, 1) := by decide +kernel
theorem dX12_days_123 : decode cX12_days 123 = .ok (.iadd, 1) := by decide +kernel
theorem dX12_days_124 : decode cX12_days 124 = .ok (.iaload, 1) := by decide +kernel
theorem dX12_days_125 : decode cX12_days 125 = .ok (.iastore, 1) := by decide +kernel
theorem dX12_days_126 : decode cX12_days 126 = .ok (.iinc 3 1, 3) := by decide +kernel
theorem dX12_days_129 : decode cX12_days 129 = .ok (.goto (-26), 3) := by decide +kernel
theorem dX12_days_132 : decode cX12_days 132 = .ok (.aload_n 0, 1) := by decide +kernel
theorem dX12_days_133 : decode cX12_days 133 = .ok (.aload_n 0, 1) := by decide +kernel
theorem dX12_days_134 : decode cX12_days 134 = .ok (.getfield 257, 3) := by decide +kernel
theorem dX12_days_137 : decode cX12_days 137 = .ok (.invokevirtual 236, 3) := by decide +kernel
theorem dX12_days_140 : decode cX12_days 140 = .ok (.ireturn, 1) := by decide +kernel
theorem dX12_isKeeper_0 : decode cX12_isKeeper 0 = .ok (.iload_n 1, 1) := by decide +kernel
theorem dX12_isKeeper_1 : decode cX12_isKeeper 1 = .ok (.ifCond .lt 17, 3) := by decide +kernel
theorem dX12_isKeeper_4 : decode cX12_isKeeper 4 = .ok (.iload_n 1, 1) := by decide +kernel
theorem dX12_isKeeper_5 : decode cX12_isKeeper 5 = .ok (.aload_n 0, 1) := by decide +kernel
theorem dX12_isKeeper_6 : decode cX12_isKeeper 6 = .ok (.getfield 7, 3) := by decide +kernel
theorem dX12_isKeeper_9 : decode cX12_isKeeper 9 = .ok (.iconst 3, 1) := by decide +kernel
theorem dX12_isKeeper_10 : decode cX12_isKeeper 10 = .ok (.iaload, 1) := by decide +kernel
theorem dX12_isKeeper_11 : decode cX12_isKeeper 11 = .ok (.if_icmp .ge 7, 3) := by decide +kernel
theorem dX12_isKeeper_14 : decode cX12_isKeeper 14 = .ok (.iconst 1, 1) := by decide +kernel
theorem dX12_isKeeper_15 : decode cX12_isKeeper 15 = .ok (.goto 4, 3) := by decide +kernel
theorem dX12_isKeeper_18 : decode cX12_isKeeper 18 = .ok (.iconst 0, 1) := by decide +kernel
theorem dX12_isKeeper_19 : decode cX12_isKeeper 19 = .ok (.ireturn, 1) := by decide +kernel
theorem dX12_isKey_0 : decode cX12_isKey 0 = .ok (.iload_n 1, 1) := by decide +kernel
theorem dX12_isKey_1 : decode cX12_isKey 1 = .ok (.ifCond .lt 17, 3) := by decide +kernel
theorem dX12_isKey_4 : decode cX12_isKey 4 = .ok (.iload_n 1, 1) := by decide +kernel
theorem dX12_isKey_5 : decode cX12_isKey 5 = .ok (.aload_n 0, 1) := by decide +kernel
theorem dX12_isKey_6 : decode cX12_isKey 6 = .ok (.getfield 7, 3) := by decide +kernel
theorem dX12_isKey_9 : decode cX12_isKey 9 = .ok (.iconst 4, 1) := by decide +kernel
theorem dX12_isKey_10 : decode cX12_isKey 10 = .ok (.iaload, 1) := by decide +kernel
theorem dX12_isKey_11 : decode cX12_isKey 11 = .ok (.if_icmp .ge 7, 3) := by decide +kernel
theorem dX12_isKey_14 : decode cX12_isKey 14 = .ok (.iconst 1, 1) := by decide +kernel
theorem dX12_isKey_15 : decode cX12_isKey 15 = .ok (.goto 4, 3) := by decide +kernel
theorem dX12_isKey_18 : decode cX12_isKey 18 = .ok (.iconst 0, 1) := by decide +kernel
theorem dX12_isKey_19 : decode cX12_isKey 19 = .ok (.ireturn, 1) := by decide +kernel
theorem dX12_isTicket_0 : decode cX12_isTicket 0 = .ok (.iload_n 0, 1) := by decide +kernel
theorem dX12_isTicket_1 : decode cX12_isTicket 1 = .ok (.ifCond .lt 12, 3) := by decide +kernel
theorem dX12_isTicket_4 : decode cX12_isTicket 4 = .ok (.iload_n 0, 1) := by decide +kernel
theorem dX12_isTicket_5 : decode cX12_isTicket 5 = .ok (.iconst 4, 1) := by decide +kernel
theorem dX12_isTicket_6 : decode cX12_isTicket 6 = .ok (.if_icmp .ge 7, 3) := by decide +kernel
theorem dX12_isTicket_9 : decode cX12_isTicket 9 = .ok (.iconst 1, 1) := by decide +kernel
theorem dX12_isTicket_10 : decode cX12_isTicket 10 = .ok (.goto 4, 3) := by decide +kernel
theorem dX12_isTicket_13 : decode cX12_isTicket 13 = .ok (.iconst 0, 1) := by decide +kernel
theorem dX12_isTicket_14 : decode cX12_isTicket 14 = .ok (.ireturn, 1) := by decide +kernel
theorem dX12_isSum_0 : decode cX12_isSum 0 = .ok (.aload_n 0, 1) := by decide +kernel
theorem dX12_isSum_1 : decode cX12_isSum 1 = .ok (.getfield 7, 3) := by decide +kernel
theorem dX12_isSum_4 : decode cX12_isSum 4 = .ok (.bipush 22, 2) := by decide +kernel
theorem dX12_isSum_6 : decode cX12_isSum 6 = .ok (.iload_n 1, 1) := by decide +kernel
theorem dX12_isSum_7 : decode cX12_isSum 7 = .ok (.iadd, 1) := by decide +kernel
theorem dX12_isSum_8 : decode cX12_isSum 8 = .ok (.iaload, 1) := by decide +kernel
theorem dX12_isSum_9 : decode cX12_isSum 9 = .ok (.iconst 1, 1) := by decide +kernel
theorem dX12_isSum_10 : decode cX12_isSum 10 = .ok (.if_icmp .ne 7, 3) := by decide +kernel
theorem dX12_isSum_13 : decode cX12_isSum 13 = .ok (.iconst 1, 1) := by decide +kernel
theorem dX12_isSum_14 : decode cX12_isSum 14 = .ok (.goto 4, 3) := by decide +kernel
theorem dX12_isSum_17 : decode cX12_isSum 17 = .ok (.iconst 0, 1) := by decide +kernel
theorem dX12_isSum_18 : decode cX12_isSum 18 = .ok (.ireturn, 1) := by decide +kernel
theorem dX12_isUp_0 : decode cX12_isUp 0 = .ok (.aload_n 0, 1) := by decide +kernel
theorem dX12_isUp_1 : decode cX12_isUp 1 = .ok (.getfield 7, 3) := by decide +kernel
theorem dX12_isUp_4 : decode cX12_isUp 4 = .ok (.iconst 5, 1) := by decide +kernel
theorem dX12_isUp_5 : decode cX12_isUp 5 = .ok (.iaload, 1) := by decide +kernel
theorem dX12_isUp_6 : decode cX12_isUp 6 = .ok (.iload_n 1, 1) := by decide +kernel
theorem dX12_isUp_7 : decode cX12_isUp 7 = .ok (.ishr, 1) := by decide +kernel
theorem dX12_isUp_8 : decode cX12_isUp 8 = .ok (.iconst 1, 1) := by decide +kernel
theorem dX12_isUp_9 : decode cX12_isUp 9 = .ok (.iand, 1) := by decide +kernel
theorem dX12_isUp_10 : decode cX12_isUp 10 = .ok (.iconst 1, 1) := by decide +kernel
theorem dX12_isUp_11 : decode cX12_isUp 11 = .ok (.if_icmp .ne 7, 3) := by decide +kernel
theorem dX12_isUp_14 : decode cX12_isUp 14 = .ok (.iconst 1, 1) := by decide +kernel
theorem dX12_isUp_15 : decode cX12_isUp 15 = .ok (.goto 4, 3) := by decide +kernel
theorem dX12_isUp_18 : decode cX12_isUp 18 = .ok (.iconst 0, 1) := by decide +kernel
theorem dX12_isUp_19 : decode cX12_isUp 19 = .ok (.ireturn, 1) := by decide +kernel
theorem dX12_doReach_0 : decode cX12_doReach 0 = .ok (.aload_n 0, 1) := by decide +kernel
theorem dX12_doReach_1 : decode cX12_doReach 1 = .ok (.iload_n 1, 1) := by decide +kernel
theorem dX12_doReach_2 : decode cX12_doReach 2 = .ok (.invokevirtual 266, 3) := by decide +kernel
theorem dX12_doReach_5 : decode cX12_doReach 5 = .ok (.ifCond .eq 40, 3) := by decide +kernel
theorem dX12_doReach_8 : decode cX12_doReach 8 = .ok (.aload_n 0, 1) := by decide +kernel
theorem dX12_doReach_9 : decode cX12_doReach 9 = .ok (.iload_n 2, 1) := by decide +kernel
theorem dX12_doReach_10 : decode cX12_doReach 10 = .ok (.invokevirtual 266, 3) := by decide +kernel
theorem dX12_doReach_13 : decode cX12_doReach 13 = .ok (.ifCond .eq 32, 3) := by decide +kernel
theorem dX12_doReach_16 : decode cX12_doReach 16 = .ok (.aload_n 0, 1) := by decide +kernel
theorem dX12_doReach_17 : decode cX12_doReach 17 = .ok (.getfield 7, 3) := by decide +kernel
theorem dX12_doReach_20 : decode cX12_doReach 20 = .ok (.bipush 6, 2) := by decide +kernel
theorem dX12_doReach_22 : decode cX12_doReach 22 = .ok (.iaload, 1) := by decide +kernel
theorem dX12_doReach_23 : decode cX12_doReach 23 = .ok (.iload_n 1, 1) := by decide +kernel
theorem dX12_doReach_24 : decode cX12_doReach 24 = .ok (.ishr, 1) := by decide +kernel
theorem dX12_doReach_25 : decode cX12_doReach 25 = .ok (.iconst 1, 1) := by decide +kernel
theorem dX12_doReach_26 : decode cX12_doReach 26 = .ok (.iand, 1) := by decide +kernel
theorem dX12_doReach_27 : decode cX12_doReach 27 = .ok (.aload_n 0, 1) := by decide +kernel
theorem dX12_doReach_28 : decode cX12_doReach 28 = .ok (.getfield 7, 3) := by decide +kernel
theorem dX12_doReach_31 : decode cX12_doReach 31 = .ok (.bipush 6, 2) := by decide +kernel
theorem dX12_doReach_33 : decode cX12_doReach 33 = .ok (.iaload, 1) := by decide +kernel
theorem dX12_doReach_34 : decode cX12_doReach 34 = .ok (.iload_n 2, 1) := by decide +kernel
theorem dX12_doReach_35 : decode cX12_doReach 35 = .ok (.ishr, 1) := by decide +kernel
theorem dX12_doReach_36 : decode cX12_doReach 36 = .ok (.iconst 1, 1) := by decide +kernel
theorem dX12_doReach_37 : decode cX12_doReach 37 = .ok (.iand, 1) := by decide +kernel
theorem dX12_doReach_38 : decode cX12_doReach 38 = .ok (.if_icmp .ne 7, 3) := by decide +kernel
theorem dX12_doReach_41 : decode cX12_doReach 41 = .ok (.iconst 1, 1) := by decide +kernel
theorem dX12_doReach_42 : decode cX12_doReach 42 = .ok (.goto 4, 3) := by decide +kernel
theorem dX12_doReach_45 : decode cX12_doReach 45 = .ok (.iconst 0, 1) := by decide +kernel
theorem dX12_doReach_46 : decode cX12_doReach 46 = .ok (.ireturn, 1) := by decide +kernel
theorem dX12_told_0 : decode cX12_told 0 = .ok (.iload_n 1, 1) := by decide +kernel
theorem dX12_told_1 : decode cX12_told 1 = .ok (.ifCond .lt 9, 3) := by decide +kernel
theorem dX12_told_4 : decode cX12_told 4 = .ok (.iload_n 1, 1) := by decide +kernel
theorem dX12_told_5 : decode cX12_told 5 = .ok (.bipush 7, 2) := by decide +kernel
theorem dX12_told_7 : decode cX12_told 7 = .ok (.if_icmp .le 9, 3) := by decide +kernel
theorem dX12_told_10 : decode cX12_told 10 = .ok (.aload_n 0, 1) := by decide +kernel
theorem dX12_told_11 : decode cX12_told 11 = .ok (.iconst 1, 1) := by decide +kernel
theorem dX12_told_12 : decode cX12_told 12 = .ok (.invokevirtual 190, 3) := by decide +kernel
theorem dX12_told_15 : decode cX12_told 15 = .ok (.ireturn, 1) := by decide +kernel
theorem dX12_told_16 : decode cX12_told 16 = .ok (.iload_n 1, 1) := by decide +kernel
theorem dX12_told_17 : decode cX12_told 17 = .ok (.bipush 7, 2) := by decide +kernel
theorem dX12_told_19 : decode cX12_told 19 = .ok (.if_icmp .ge 14, 3) := by decide +kernel
theorem dX12_told_22 : decode cX12_told 22 = .ok (.aload_n 0, 1) := by decide +kernel
theorem dX12_told_23 : decode cX12_told 23 = .ok (.aload_n 0, 1) := by decide +kernel
theorem dX12_told_24 : decode cX12_told 24 = .ok (.getfield 7, 3) := by decide +kernel
theorem dX12_told_27 : decode cX12_told 27 = .ok (.iload_n 1, 1) := by decide +kernel
theorem dX12_told_28 : decode cX12_told 28 = .ok (.iaload, 1) := by decide +kernel
theorem dX12_told_29 : decode cX12_told 29 = .ok (.invokevirtual 193, 3) := by decide +kernel
theorem dX12_told_32 : decode cX12_told 32 = .ok (.ireturn, 1) := by decide +kernel
theorem dX12_told_33 : decode cX12_told 33 = .ok (.iconst 0, 1) := by decide +kernel
theorem dX12_told_34 : decode cX12_told 34 = .ok (.istore_n 2, 1) := by decide +kernel
theorem dX12_told_35 : decode cX12_told 35 = .ok (.iconst 0, 1) := by decide +kernel
theorem dX12_told_36 : decode cX12_told 36 = .ok (.istore_n 3, 1) := by decide +kernel
theorem dX12_told_37 : decode cX12_told 37 = .ok (.iload_n 3, 1) := by decide +kernel
theorem dX12_told_38 : decode cX12_told 38 = .ok (.iconst 4, 1) := by decide +kernel
theorem dX12_told_39 : decode cX12_told 39 = .ok (.if_icmp .ge 36, 3) := by decide +kernel
theorem dX12_told_42 : decode cX12_told 42 = .ok (.iload_n 2, 1) := by decide +kernel
theorem dX12_told_43 : decode cX12_told 43 = .ok (.aload_n 0, 1) := by decide +kernel
theorem dX12_told_44 : decode cX12_told 44 = .ok (.getfield 7, 3) := by decide +kernel
theorem dX12_told_47 : decode cX12_told 47 = .ok (.sipush 4440, 3) := by decide +kernel
theorem dX12_told_50 : decode cX12_told 50 = .ok (.bipush 8, 2) := by decide +kernel
theorem dX12_told_52 : decode cX12_told 52 = .ok (.iload_n 3, 1) := by decide +kernel
theorem dX12_told_53 : decode cX12_told 53 = .ok (.imul, 1) := by decide +kernel
theorem dX12_told_54 : decode cX12_told 54 = .ok (.iadd, 1) := by decide +kernel
theorem dX12_told_55 : decode cX12_told 55 = .ok (.iaload, 1) := by decide +kernel
theorem dX12_told_56 : decode cX12_told 56 = .ok (.iconst (-1), 1) := by decide +kernel
theorem dX12_told_57 : decode cX12_told 57 = .ok (.if_icmp .ne 7, 3) := by decide +kernel
theorem dX12_told_60 : decode cX12_told 60 = .ok (.iconst 0, 1) := by decide +kernel
theorem dX12_told_61 : decode cX12_told 61 = .ok (.goto 6, 3) := by decide +kernel
theorem dX12_told_64 : decode cX12_told 64 = .ok (.iconst 1, 1) := by decide +kernel
theorem dX12_told_65 : decode cX12_told 65 = .ok (.iload_n 3, 1) := by decide +kernel
theorem dX12_told_66 : decode cX12_told 66 = .ok (.ishl, 1) := by decide +kernel
theorem dX12_told_67 : decode cX12_told 67 = .ok (.ior, 1) := by decide +kernel
theorem dX12_told_68 : decode cX12_told 68 = .ok (.istore_n 2, 1) := by decide +kernel
theorem dX12_told_69 : decode cX12_told 69 = .ok (.iinc 3 1, 3) := by decide +kernel
theorem dX12_told_72 : decode cX12_told 72 = .ok (.goto (-35), 3) := by decide +kernel
theorem dX12_told_75 : decode cX12_told 75 = .ok (.aload_n 0, 1) := by decide +kernel
theorem dX12_told_76 : decode cX12_told 76 = .ok (.iload_n 2, 1) := by decide +kernel
theorem dX12_told_77 : decode cX12_told 77 = .ok (.invokevirtual 193, 3) := by decide +kernel
theorem dX12_told_80 : decode cX12_told 80 = .ok (.ireturn, 1) := by decide +kernel
theorem dX12_laysRow_0 : decode cX12_laysRow 0 = .ok (.aload_n 0, 1) := by decide +kernel
theorem dX12_laysRow_1 : decode cX12_laysRow 1 = .ok (.getfield 7, 3) := by decide +kernel
theorem dX12_laysRow_4 : decode cX12_laysRow 4 = .ok (.iconst 3, 1) := by decide +kernel
theorem dX12_laysRow_5 : decode cX12_laysRow 5 = .ok (.iaload, 1) := by decide +kernel
theorem dX12_laysRow_6 : decode cX12_laysRow 6 = .ok (.istore_n 2, 1) := by decide +kernel
theorem dX12_laysRow_7 : decode cX12_laysRow 7 = .ok (.iconst 0, 1) := by decide +kernel
theorem dX12_laysRow_8 : decode cX12_laysRow 8 = .ok (.istore_n 3, 1) := by decide +kernel
theorem dX12_laysRow_9 : decode cX12_laysRow 9 = .ok (.iload_n 3, 1) := by decide +kernel
theorem dX12_laysRow_10 : decode cX12_laysRow 10 = .ok (.iload_n 2, 1) := by decide +kernel
theorem dX12_laysRow_11 : decode cX12_laysRow 11 = .ok (.if_icmp .ge 116, 3) := by decide +kernel
theorem dX12_laysRow_14 : decode cX12_laysRow 14 = .ok (.aload_n 0, 1) := by decide +kernel
theorem dX12_laysRow_15 : decode cX12_laysRow 15 = .ok (.getfield 7, 3) := by decide +kernel
theorem dX12_laysRow_18 : decode cX12_laysRow 18 = .ok (.bipush 10, 2) := by decide +kernel
theorem dX12_laysRow_20 : decode cX12_laysRow 20 = .ok (.iload_n 3, 1) := by decide +kernel
theorem dX12_laysRow_21 : decode cX12_laysRow 21 = .ok (.iadd, 1) := by decide +kernel
theorem dX12_laysRow_22 : decode cX12_laysRow 22 = .ok (.iaload, 1) := by decide +kernel
theorem dX12_laysRow_23 : decode cX12_laysRow 23 = .ok (.aload_n 0, 1) := by decide +kernel
theorem dX12_laysRow_24 : decode cX12_laysRow 24 = .ok (.getfield 7, 3) := by decide +kernel
theorem dX12_laysRow_27 : decode cX12_laysRow 27 = .ok (.bipush 16, 2) := by decide +kernel
theorem dX12_laysRow_29 : decode cX12_laysRow 29 = .ok (.iload_n 1, 1) := by decide +kernel
theorem dX12_laysRow_30 : decode cX12_laysRow 30 = .ok (.iadd, 1) := by decide +kernel
theorem dX12_laysRow_31 : decode cX12_laysRow 31 = .ok (.iaload, 1) := by decide +kernel
theorem dX12_laysRow_32 : decode cX12_laysRow 32 = .ok (.isub, 1) := by decide +kernel
theorem dX12_laysRow_33 : decode cX12_laysRow 33 = .ok (.sipush 1000, 3) := by decide +kernel
theorem dX12_laysRow_36 : decode cX12_laysRow 36 = .ok (.iadd, 1) := by decide +kernel
theorem dX12_laysRow_37 : decode cX12_laysRow 37 = .ok (.sipush 1000, 3) := by decide +kernel
theorem dX12_laysRow_40 : decode cX12_laysRow 40 = .ok (.irem, 1) := by decide +kernel
theorem dX12_laysRow_41 : decode cX12_laysRow 41 = .ok (.istore 4, 2) := by decide +kernel
theorem dX12_laysRow_43 : decode cX12_laysRow 43 = .ok (.iload_n 3, 1) := by decide +kernel
theorem dX12_laysRow_44 : decode cX12_laysRow 44 = .ok (.istore 5, 2) := by decide +kernel
theorem dX12_laysRow_46 : decode cX12_laysRow 46 = .ok (.iload 5, 2) := by decide +kernel
theorem dX12_laysRow_48 : decode cX12_laysRow 48 = .ok (.ifCond .le 65, 3) := by decide +kernel
theorem dX12_laysRow_51 : decode cX12_laysRow 51 = .ok (.aload_n 0, 1) := by decide +kernel
theorem dX12_laysRow_52 : decode cX12_laysRow 52 = .ok (.getfield 7, 3) := by decide +kernel
theorem dX12_laysRow_55 : decode cX12_laysRow 55 = .ok (.bipush 10, 2) := by decide +kernel
theorem dX12_laysRow_57 : decode cX12_laysRow 57 = .ok (.aload_n 0, 1) := by decide +kernel
theorem dX12_laysRow_58 : decode cX12_laysRow 58 = .ok (.getfield 47, 3) := by decide +kernel
theorem dX12_laysRow_61 : decode cX12_laysRow 61 = .ok (.iload 5, 2) := by decide +kernel
theorem dX12_laysRow_63 : decode cX12_laysRow 63 = .ok (.iconst 1, 1) := by decide +kernel
theorem dX12_laysRow_64 : decode cX12_laysRow 64 = .ok (.isub, 1) := by decide +kernel
theorem dX12_laysRow_65 : decode cX12_laysRow 65 = .ok (.iaload, 1) := by decide +kernel
theorem dX12_laysRow_66 : decode cX12_laysRow 66 = .ok (.iadd, 1) := by decide +kernel
theorem dX12_laysRow_67 : decode cX12_laysRow 67 = .ok (.iaload, 1) := by decide +kernel
theorem dX12_laysRow_68 : decode cX12_laysRow 68 = .ok (.aload_n 0, 1) := by decide +kernel
theorem dX12_laysRow_69 : decode cX12_laysRow 69 = .ok (.getfield 7, 3) := by decide +kernel
theorem dX12_laysRow_72 : decode cX12_laysRow 72 = .ok (.bipush 16, 2) := by decide +kernel
theorem dX12_laysRow_74 : decode cX12_laysRow 74 = .ok (.iload_n 1, 1) := by decide +kernel
theorem dX12_laysRow_75 : decode cX12_laysRow 75 = .ok (.iadd, 1) := by decide +kernel
theorem dX12_laysRow_76 : decode cX12_laysRow 76 = .ok (.iaload, 1) := by decide +kernel
theorem dX12_laysRow_77 : decode cX12_laysRow 77 = .ok (.isub, 1) := by decide +kernel
theorem dX12_laysRow_78 : decode cX12_laysRow 78 = .ok (.sipush 1000, 3) := by decide +kernel
theorem dX12_laysRow_81 : decode cX12_laysRow 81 = .ok (.iadd, 1) := by decide +kernel
theorem dX12_laysRow_82 : decode cX12_laysRow 82 = .ok (.sipush 1000, 3) := by decide +kernel
theorem dX12_laysRow_85 : decode cX12_laysRow 85 = .ok (.irem, 1) := by decide +kernel
theorem dX12_laysRow_86 : decode cX12_laysRow 86 = .ok (.iload 4, 2) := by decide +kernel
theorem dX12_laysRow_88 : decode cX12_laysRow 88 = .ok (.if_icmp .le 25, 3) := by decide +kernel
theorem dX12_laysRow_91 : decode cX12_laysRow 91 = .ok (.aload_n 0, 1) := by decide +kernel
theorem dX12_laysRow_92 : decode cX12_laysRow 92 = .ok (.getfield 47, 3) := by decide +kernel
theorem dX12_laysRow_95 : decode cX12_laysRow 95 = .ok (.iload 5, 2) := by decide +kernel
theorem dX12_laysRow_97 : decode cX12_laysRow 97 = .ok (.aload_n 0, 1) := by decide +kernel
theorem dX12_laysRow_98 : decode cX12_laysRow 98 = .ok (.getfield 47, 3) := by decide +kernel
theorem dX12_laysRow_101 : decode cX12_laysRow 101 = .ok (.iload 5, 2) := by decide +kernel
theorem dX12_laysRow_103 : decode cX12_laysRow 103 = .ok (.iconst 1, 1) := by decide +kernel
theorem dX12_laysRow_104 : decode cX12_laysRow 104 = .ok (.isub, 1) := by decide +kernel
theorem dX12_laysRow_105 : decode cX12_laysRow 105 = .ok (.iaload, 1) := by decide +kernel
theorem dX12_laysRow_106 : decode cX12_laysRow 106 = .ok (.iastore, 1) := by decide +kernel
theorem dX12_laysRow_107 : decode cX12_laysRow 107 = .ok (.iinc 5 (-1), 3) := by decide +kernel
theorem dX12_laysRow_110 : decode cX12_laysRow 110 = .ok (.goto (-64), 3) := by decide +kernel
theorem dX12_laysRow_113 : decode cX12_laysRow 113 = .ok (.aload_n 0, 1) := by decide +kernel
theorem dX12_laysRow_114 : decode cX12_laysRow 114 = .ok (.getfield 47, 3) := by decide +kernel
theorem dX12_laysRow_117 : decode cX12_laysRow 117 = .ok (.iload 5, 2) := by decide +kernel
theorem dX12_laysRow_119 : decode cX12_laysRow 119 = .ok (.iload_n 3, 1) := by decide +kernel
theorem dX12_laysRow_120 : decode cX12_laysRow 120 = .ok (.iastore, 1) := by decide +kernel
theorem dX12_laysRow_121 : decode cX12_laysRow 121 = .ok (.iinc 3 1, 3) := by decide +kernel
theorem dX12_laysRow_124 : decode cX12_laysRow 124 = .ok (.goto (-115), 3) := by decide +kernel
theorem dX12_laysRow_127 : decode cX12_laysRow 127 = .ok (.return_, 1) := by decide +kernel
theorem dX12_placeMany_0 : decode cX12_placeMany 0 = .ok (.aload_n 0, 1) := by decide +kernel
theorem dX12_placeMany_1 : decode cX12_placeMany 1 = .ok (.getfield 7, 3) := by decide +kernel
theorem dX12_placeMany_4 : decode cX12_placeMany 4 = .ok (.iconst 0, 1) := by decide +kernel
theorem dX12_placeMany_5 : decode cX12_placeMany 5 = .ok (.iaload, 1) := by decide +kernel
theorem dX12_placeMany_6 : decode cX12_placeMany 6 = .ok (.aload_n 0, 1) := by decide +kernel
theorem dX12_placeMany_7 : decode cX12_placeMany 7 = .ok (.getfield 7, 3) := by decide +kernel
theorem dX12_placeMany_10 : decode cX12_placeMany 10 = .ok (.iconst 3, 1) := by decide +kernel
theorem dX12_placeMany_11 : decode cX12_placeMany 11 = .ok (.iaload, 1) := by decide +kernel
theorem dX12_placeMany_12 : decode cX12_placeMany 12 = .ok (.if_icmp .ge 12, 3) := by decide +kernel
theorem dX12_placeMany_15 : decode cX12_placeMany 15 = .ok (.aload_n 0, 1) := by decide +kernel
theorem dX12_placeMany_16 : decode cX12_placeMany 16 = .ok (.getfield 7, 3) := by decide +kernel
theorem dX12_placeMany_19 : decode cX12_placeMany 19 = .ok (.iconst 0, 1) := by decide +kernel
theorem dX12_placeMany_20 : decode cX12_placeMany 20 = .ok (.iaload, 1) := by decide +kernel
theorem dX12_placeMany_21 : decode cX12_placeMany 21 = .ok (.goto 9, 3) := by decide +kernel
theorem dX12_placeMany_24 : decode cX12_placeMany 24 = .ok (.aload_n 0, 1) := by decide +kernel
theorem dX12_placeMany_25 : decode cX12_placeMany 25 = .ok (.getfield 7, 3) := by decide +kernel
theorem dX12_placeMany_28 : decode cX12_placeMany 28 = .ok (.iconst 3, 1) := by decide +kernel
theorem dX12_placeMany_29 : decode cX12_placeMany 29 = .ok (.iaload, 1) := by decide +kernel
theorem dX12_placeMany_30 : decode cX12_placeMany 30 = .ok (.ireturn, 1) := by decide +kernel
theorem dX12_placesOf_0 : decode cX12_placesOf 0 = .ok (.aload_n 0, 1) := by decide +kernel
theorem dX12_placesOf_1 : decode cX12_placesOf 1 = .ok (.iload_n 1, 1) := by decide +kernel
theorem dX12_placesOf_2 : decode cX12_placesOf 2 = .ok (.invokevirtual 269, 3) := by decide +kernel
theorem dX12_placesOf_5 : decode cX12_placesOf 5 = .ok (.iconst 0, 1) := by decide +kernel
theorem dX12_placesOf_6 : decode cX12_placesOf 6 = .ok (.istore_n 2, 1) := by decide +kernel
theorem dX12_placesOf_7 : decode cX12_placesOf 7 = .ok (.iconst 0, 1) := by decide +kernel
theorem dX12_placesOf_8 : decode cX12_placesOf 8 = .ok (.istore_n 3, 1) := by decide +kernel
theorem dX12_placesOf_9 : decode cX12_placesOf 9 = .ok (.iload_n 3, 1) := by decide +kernel
theorem dX12_placesOf_10 : decode cX12_placesOf 10 = .ok (.aload_n 0, 1) := by decide +kernel
theorem dX12_placesOf_11 : decode cX12_placesOf 11 = .ok (.invokevirtual 272, 3) := by decide +kernel
theorem dX12_placesOf_14 : decode cX12_placesOf 14 = .ok (.if_icmp .ge 20, 3) := by decide +kernel
theorem dX12_placesOf_17 : decode cX12_placesOf 17 = .ok (.iload_n 2, 1) := by decide +kernel
theorem dX12_placesOf_18 : decode cX12_placesOf 18 = .ok (.iconst 1, 1) := by decide +kernel
theorem dX12_placesOf_19 : decode cX12_placesOf 19 = .ok (.aload_n 0, 1) := by decide +kernel
theorem dX12_placesOf_20 : decode cX12_placesOf 20 = .ok (.getfield 47, 3) := by decide +kernel
theorem dX12_placesOf_23 : decode cX12_placesOf 23 = .ok (.iload_n 3, 1) := by decide +kernel
theorem dX12_placesOf_24 : decode cX12_placesOf 24 = .ok (.iaload, 1) := by decide +kernel
theorem dX12_placesOf_25 : decode cX12_placesOf 25 = .ok (.ishl, 1) := by decide +kernel
theorem dX12_placesOf_26 : decode cX12_placesOf 26 = .ok (.ior, 1) := by decide +kernel
theorem dX12_placesOf_27 : decode cX12_placesOf 27 = .ok (.istore_n 2, 1) := by decide +kernel
theorem dX12_placesOf_28 : decode cX12_placesOf 28 = .ok (.iinc 3 1, 3) := by decide +kernel
theorem dX12_placesOf_31 : decode cX12_placesOf 31 = .ok (.goto (-22), 3) := by decide +kernel
theorem dX12_placesOf_34 : decode cX12_placesOf 34 = .ok (.iload_n 2, 1) := by decide +kernel
theorem dX12_placesOf_35 : decode cX12_placesOf 35 = .ok (.ireturn, 1) := by decide +kernel
theorem dX12_isPlace_0 : decode cX12_isPlace 0 = .ok (.aload_n 0, 1) := by decide +kernel
theorem dX12_isPlace_1 : decode cX12_isPlace 1 = .ok (.iload_n 2, 1) := by decide +kernel
theorem dX12_isPlace_2 : decode cX12_isPlace 2 = .ok (.invokevirtual 275, 3) := by decide +kernel
theorem dX12_isPlace_5 : decode cX12_isPlace 5 = .ok (.iload_n 1, 1) := by decide +kernel
theorem dX12_isPlace_6 : decode cX12_isPlace 6 = .ok (.ishr, 1) := by decide +kernel
theorem dX12_isPlace_7 : decode cX12_isPlace 7 = .ok (.iconst 1, 1) := by decide +kernel
theorem dX12_isPlace_8 : decode cX12_isPlace 8 = .ok (.iand, 1) := by decide +kernel
theorem dX12_isPlace_9 : decode cX12_isPlace 9 = .ok (.iconst 1, 1) := by decide +kernel
theorem dX12_isPlace_10 : decode cX12_isPlace 10 = .ok (.if_icmp .ne 7, 3) := by decide +kernel
theorem dX12_isPlace_13 : decode cX12_isPlace 13 = .ok (.iconst 1, 1) := by decide +kernel
theorem dX12_isPlace_14 : decode cX12_isPlace 14 = .ok (.goto 4, 3) := by decide +kernel
theorem dX12_isPlace_17 : decode cX12_isPlace 17 = .ok (.iconst 0, 1) := by decide +kernel
theorem dX12_isPlace_18 : decode cX12_isPlace 18 = .ok (.ireturn, 1) := by decide +kernel
theorem dX12_row_0 : decode cX12_row 0 = .ok (.aload_n 0, 1) := by decide +kernel
theorem dX12_row_1 : decode cX12_row 1 = .ok (.iload_n 1, 1) := by decide +kernel
theorem dX12_row_2 : decode cX12_row 2 = .ok (.invokevirtual 278, 3) := by decide +kernel
theorem dX12_row_5 : decode cX12_row 5 = .ok (.ifCond .ne 9, 3) := by decide +kernel
theorem dX12_row_8 : decode cX12_row 8 = .ok (.aload_n 0, 1) := by decide +kernel
theorem dX12_row_9 : decode cX12_row 9 = .ok (.iconst 1, 1) := by decide +kernel
theorem dX12_row_10 : decode cX12_row 10 = .ok (.invokevirtual 190, 3) := by decide +kernel
theorem dX12_row_13 : decode cX12_row 13 = .ok (.ireturn, 1) := by decide +kernel
theorem dX12_row_14 : decode cX12_row 14 = .ok (.iload_n 2, 1) := by decide +kernel
theorem dX12_row_15 : decode cX12_row 15 = .ok (.ifCond .lt 13, 3) := by decide +kernel
theorem dX12_row_18 : decode cX12_row 18 = .ok (.iload_n 2, 1) := by decide +kernel
theorem dX12_row_19 : decode cX12_row 19 = .ok (.aload_n 0, 1) := by decide +kernel
theorem dX12_row_20 : decode cX12_row 20 = .ok (.getfield 7, 3) := by decide +kernel
theorem dX12_row_23 : decode cX12_row 23 = .ok (.iconst 3, 1) := by decide +kernel
theorem dX12_row_24 : decode cX12_row 24 = .ok (.iaload, 1) := by decide +kernel
theorem dX12_row_25 : decode cX12_row 25 = .ok (.if_icmp .lt 10, 3) := by decide +kernel
theorem dX12_row_28 : decode cX12_row 28 = .ok (.aload_n 0, 1) := by decide +kernel
theorem dX12_row_29 : decode cX12_row 29 = .ok (.bipush 6, 2) := by decide +kernel
theorem dX12_row_31 : decode cX12_row 31 = .ok (.invokevirtual 190, 3) := by decide +kernel
theorem dX12_row_34 : decode cX12_row 34 = .ok (.ireturn, 1) := by decide +kernel
theorem dX12_row_35 : decode cX12_row 35 = .ok (.aload_n 0, 1) := by decide +kernel
theorem dX12_row_36 : decode cX12_row 36 = .ok (.iload_n 1, 1) := by decide +kernel
theorem dX12_row_37 : decode cX12_row 37 = .ok (.invokevirtual 269, 3) := by decide +kernel
theorem dX12_row_40 : decode cX12_row 40 = .ok (.aload_n 0, 1) := by decide +kernel
theorem dX12_row_41 : decode cX12_row 41 = .ok (.aload_n 0, 1) := by decide +kernel
theorem dX12_row_42 : decode cX12_row 42 = .ok (.getfield 47, 3) := by decide +kernel
theorem dX12_row_45 : decode cX12_row 45 = .ok (.iload_n 2, 1) := by decide +kernel
theorem dX12_row_46 : decode cX12_row 46 = .ok (.iaload, 1) := by decide +kernel
theorem dX12_row_47 : decode cX12_row 47 = .ok (.invokevirtual 193, 3) := by decide +kernel
theorem dX12_row_50 : decode cX12_row 50 = .ok (.ireturn, 1) := by decide +kernel
theorem dX12_places_0 : decode cX12_places 0 = .ok (.aload_n 0, 1) := by decide +kernel
theorem dX12_places_1 : decode cX12_places 1 = .ok (.iload_n 1, 1) := by decide +kernel
theorem dX12_places_2 : decode cX12_places 2 = .ok (.invokevirtual 278, 3) := by decide +kernel
theorem dX12_places_5 : decode cX12_places 5 = .ok (.ifCond .eq 15, 3) := by decide +kernel
theorem dX12_places_8 : decode cX12_places 8 = .ok (.aload_n 0, 1) := by decide +kernel
theorem dX12_places_9 : decode cX12_places 9 = .ok (.aload_n 0, 1) := by decide +kernel
theorem dX12_places_10 : decode cX12_places 10 = .ok (.iload_n 1, 1) := by decide +kernel
theorem dX12_places_11 : decode cX12_places 11 = .ok (.invokevirtual 275, 3) := by decide +kernel
theorem dX12_places_14 : decode cX12_places 14 = .ok (.invokevirtual 193, 3) := by decide +kernel
theorem dX12_places_17 : decode cX12_places 17 = .ok (.goto 8, 3) := by decide +kernel
theorem dX12_places_20 : decode cX12_places 20 = .ok (.aload_n 0, 1) := by decide +kernel
theorem dX12_places_21 : decode cX12_places 21 = .ok (.iconst 1, 1) := by decide +kernel
theorem dX12_places_22 : decode cX12_places 22 = .ok (.invokevirtual 190, 3) := by decide +kernel
theorem dX12_places_25 : decode cX12_places 25 = .ok (.ireturn, 1) := by decide +kernel
theorem dX12_reach_0 : decode cX12_reach 0 = .ok (.aload_n 0, 1) := by decide +kernel
theorem dX12_reach_1 : decode cX12_reach 1 = .ok (.iload_n 1, 1) := by decide +kernel
theorem dX12_reach_2 : decode cX12_reach 2 = .ok (.invokevirtual 281, 3) := by decide +kernel
theorem dX12_reach_5 : decode cX12_reach 5 = .ok (.ifCond .eq 32, 3) := by decide +kernel
theorem dX12_reach_8 : decode cX12_reach 8 = .ok (.aload_n 0, 1) := by decide +kernel
theorem dX12_reach_9 : decode cX12_reach 9 = .ok (.iload_n 2, 1) := by decide +kernel
theorem dX12_reach_10 : decode cX12_reach 10 = .ok (.invokevirtual 281, 3) := by decide +kernel
theorem dX12_reach_13 : decode cX12_reach 13 = .ok (.ifCond .eq 24, 3) := by decide +kernel
theorem dX12_reach_16 : decode cX12_reach 16 = .ok (.aload_n 0, 1) := by decide +kernel
theorem dX12_reach_17 : decode cX12_reach 17 = .ok (.aload_n 0, 1) := by decide +kernel
theorem dX12_reach_18 : decode cX12_reach 18 = .ok (.iload_n 1, 1) := by decide +kernel
theorem dX12_reach_19 : decode cX12_reach 19 = .ok (.iload_n 2, 1) := by decide +kernel
theorem dX12_reach_20 : decode cX12_reach 20 = .ok (.invokevirtual 284, 3) := by decide +kernel
theorem dX12_reach_23 : decode cX12_reach 23 = .ok (.ifCond .eq 7, 3) := by decide +kernel
theorem dX12_reach_26 : decode cX12_reach 26 = .ok (.iconst 1, 1) := by decide +kernel
theorem dX12_reach_27 : decode cX12_reach 27 = .ok (.goto 4, 3) := by decide +kernel
theorem dX12_reach_30 : decode cX12_reach 30 = .ok (.iconst 0, 1) := by decide +kernel
theorem dX12_reach_31 : decode cX12_reach 31 = .ok (.invokevirtual 193, 3) := by decide +kernel
theorem dX12_reach_34 : decode cX12_reach 34 = .ok (.goto 8, 3) := by decide +kernel
theorem dX12_reach_37 : decode cX12_reach 37 = .ok (.aload_n 0, 1) := by decide +kernel
theorem dX12_reach_38 : decode cX12_reach 38 = .ok (.iconst 1, 1) := by decide +kernel
theorem dX12_reach_39 : decode cX12_reach 39 = .ok (.invokevirtual 190, 3) := by decide +kernel
theorem dX12_reach_42 : decode cX12_reach 42 = .ok (.ireturn, 1) := by decide +kernel
theorem dX12_thingOf_0 : decode cX12_thingOf 0 = .ok (.bipush 30, 2) := by decide +kernel
theorem dX12_thingOf_2 : decode cX12_thingOf 2 = .ok (.bipush 12, 2) := by decide +kernel
theorem dX12_thingOf_4 : decode cX12_thingOf 4 = .ok (.bipush 6, 2) := by decide +kernel
theorem dX12_thingOf_6 : decode cX12_thingOf 6 = .ok (.iload_n 1, 1) := by decide +kernel
theorem dX12_thingOf_7 : decode cX12_thingOf 7 = .ok (.imul, 1) := by decide +kernel
theorem dX12_thingOf_8 : decode cX12_thingOf 8 = .ok (.iload_n 2, 1) := by decide +kernel
theorem dX12_thingOf_9 : decode cX12_thingOf 9 = .ok (.iadd, 1) := by decide +kernel
theorem dX12_thingOf_10 : decode cX12_thingOf 10 = .ok (.imul, 1) := by decide +kernel
theorem dX12_thingOf_11 : decode cX12_thingOf 11 = .ok (.iadd, 1) := by decide +kernel
theorem dX12_thingOf_12 : decode cX12_thingOf 12 = .ok (.ireturn, 1) := by decide +kernel
theorem dX12_hintOf_0 : decode cX12_hintOf 0 = .ok (.sipush 470, 3) := by decide +kernel
theorem dX12_hintOf_3 : decode cX12_hintOf 3 = .ok (.bipush 13, 2) := by decide +kernel
theorem dX12_hintOf_5 : decode cX12_hintOf 5 = .ok (.bipush 6, 2) := by decide +kernel
theorem dX12_hintOf_7 : decode cX12_hintOf 7 = .ok (.iload_n 1, 1) := by decide +kernel
theorem dX12_hintOf_8 : decode cX12_hintOf 8 = .ok (.imul, 1) := by decide +kernel
theorem dX12_hintOf_9 : decode cX12_hintOf 9 = .ok (.iload_n 2, 1) := by decide +kernel
theorem dX12_hintOf_10 : decode cX12_hintOf 10 = .ok (.iadd, 1) := by decide +kernel
theorem dX12_hintOf_11 : decode cX12_hintOf 11 = .ok (.bipush 6, 2) := by decide +kernel
theorem dX12_hintOf_13 : decode cX12_hintOf 13 = .ok (.imul, 1) := by decide +kernel
theorem dX12_hintOf_14 : decode cX12_hintOf 14 = .ok (.iload_n 3, 1) := by decide +kernel
theorem dX12_hintOf_15 : decode cX12_hintOf 15 = .ok (.iadd, 1) := by decide +kernel
theorem dX12_hintOf_16 : decode cX12_hintOf 16 = .ok (.imul, 1) := by decide +kernel
theorem dX12_hintOf_17 : decode cX12_hintOf 17 = .ok (.iadd, 1) := by decide +kernel
theorem dX12_hintOf_18 : decode cX12_hintOf 18 = .ok (.ireturn, 1) := by decide +kernel
theorem dX12_upTo_0 : decode cX12_upTo 0 = .ok (.iconst 1, 1) := by decide +kernel
theorem dX12_upTo_1 : decode cX12_upTo 1 = .ok (.iload_n 0, 1) := by decide +kernel
theorem dX12_upTo_2 : decode cX12_upTo 2 = .ok (.ishl, 1) := by decide +kernel
theorem dX12_upTo_3 : decode cX12_upTo 3 = .ok (.iconst 1, 1) := by decide +kernel
theorem dX12_upTo_4 : decode cX12_upTo 4 = .ok (.isub, 1) := by decide +kernel
theorem dX12_upTo_5 : decode cX12_upTo 5 = .ok (.ireturn, 1) := by decide +kernel
theorem dX12_joins_0 : decode cX12_joins 0 = .ok (.iconst 0, 1) := by decide +kernel
theorem dX12_joins_1 : decode cX12_joins 1 = .ok (.istore 4, 2) := by decide +kernel
theorem dX12_joins_3 : decode cX12_joins 3 = .ok (.iload 4, 2) := by decide +kernel
theorem dX12_joins_5 : decode cX12_joins 5 = .ok (.bipush 6, 2) := by decide +kernel
theorem dX12_joins_7 : decode cX12_joins 7 = .ok (.if_icmp .ge 155, 3) := by decide +kernel
theorem dX12_joins_10 : decode cX12_joins 10 = .ok (.aload_n 0, 1) := by decide +kernel
theorem dX12_joins_11 : decode cX12_joins 11 = .ok (.getfield 7, 3) := by decide +kernel
theorem dX12_joins_14 : decode cX12_joins 14 = .ok (.iload_n 1, 1) := by decide +kernel
theorem dX12_joins_15 : decode cX12_joins 15 = .ok (.iload 4, 2) := by decide +kernel
theorem dX12_joins_17 : decode cX12_joins 17 = .ok (.iadd, 1) := by decide +kernel
theorem dX12_joins_18 : decode cX12_joins 18 = .ok (.iaload, 1) := by decide +kernel
theorem dX12_joins_19 : decode cX12_joins 19 = .ok (.istore 5, 2) := by decide +kernel
theorem dX12_joins_21 : decode cX12_joins 21 = .ok (.aload_n 0, 1) := by decide +kernel
theorem dX12_joins_22 : decode cX12_joins 22 = .ok (.getfield 7, 3) := by decide +kernel
theorem dX12_joins_25 : decode cX12_joins 25 = .ok (.iload_n 2, 1) := by decide +kernel
theorem dX12_joins_26 : decode cX12_joins 26 = .ok (.iload 4, 2) := by decide +kernel
theorem dX12_joins_28 : decode cX12_joins 28 = .ok (.iadd, 1) := by decide +kernel
theorem dX12_joins_29 : decode cX12_joins 29 = .ok (.iaload, 1) := by decide +kernel
theorem dX12_joins_30 : decode cX12_joins 30 = .ok (.istore 6, 2) := by decide +kernel
theorem dX12_joins_32 : decode cX12_joins 32 = .ok (.aload_n 0, 1) := by decide +kernel
theorem dX12_joins_33 : decode cX12_joins 33 = .ok (.iload_n 3, 1) := by decide +kernel
theorem dX12_joins_34 : decode cX12_joins 34 = .ok (.invokevirtual 287, 3) := by decide +kernel
theorem dX12_joins_37 : decode cX12_joins 37 = .ok (.ifCond .eq 29, 3) := by decide +kernel
theorem dX12_joins_40 : decode cX12_joins 40 = .ok (.aload_n 0, 1) := by decide +kernel
theorem dX12_joins_41 : decode cX12_joins 41 = .ok (.getfield 7, 3) := by decide +kernel
theorem dX12_joins_44 : decode cX12_joins 44 = .ok (.iload_n 1, 1) := by decide +kernel
theorem dX12_joins_45 : decode cX12_joins 45 = .ok (.iload 4, 2) := by decide +kernel
theorem dX12_joins_47 : decode cX12_joins 47 = .ok (.iadd, 1) := by decide +kernel
theorem dX12_joins_48 : decode cX12_joins 48 = .ok (.iload 5, 2) := by decide +kernel
theorem dX12_joins_50 : decode cX12_joins 50 = .ok (.iload 6, 2) := by decide +kernel
theorem dX12_joins_52 : decode cX12_joins 52 = .ok (.if_icmp .le 8, 3) := by decide +kernel
theorem dX12_joins_55 : decode cX12_joins 55 = .ok (.iload 5, 2) := by decide +kernel
theorem dX12_joins_57 : decode cX12_joins 57 = .ok (.goto 5, 3) := by decide +kernel
theorem dX12_joins_60 : decode cX12_joins 60 = .ok (.iload 6, 2) := by decide +kernel
theorem dX12_joins_62 : decode cX12_joins 62 = .ok (.iastore, 1) := by decide +kernel
theorem dX12_joins_63 : decode cX12_joins 63 = .ok (.goto 93, 3) := by decide +kernel
theorem dX12_joins_66 : decode cX12_joins 66 = .ok (.aload_n 0, 1) := by decide +kernel
theorem dX12_joins_67 : decode cX12_joins 67 = .ok (.getfield 7, 3) := by decide +kernel
theorem dX12_joins_70 : decode cX12_joins 70 = .ok (.iload_n 1, 1) := by decide +kernel
theorem dX12_joins_71 : decode cX12_joins 71 = .ok (.bipush 6, 2) := by decide +kernel
theorem dX12_joins_73 : decode cX12_joins 73 = .ok (.iadd, 1) := by decide +kernel
theorem dX12_joins_74 : decode cX12_joins 74 = .ok (.iload 4, 2) := by decide +kernel
theorem dX12_joins_76 : decode cX12_joins 76 = .ok (.iadd, 1) := by decide +kernel
theorem dX12_joins_77 : decode cX12_joins 77 = .ok (.iaload, 1) := by decide +kernel
theorem dX12_joins_78 : decode cX12_joins 78 = .ok (.istore 7, 2) := by decide +kernel
theorem dX12_joins_80 : decode cX12_joins 80 = .ok (.aload_n 0, 1) := by decide +kernel
theorem dX12_joins_81 : decode cX12_joins 81 = .ok (.getfield 7, 3) := by decide +kernel
theorem dX12_joins_84 : decode cX12_joins 84 = .ok (.iload_n 2, 1) := by decide +kernel
theorem dX12_joins_85 : decode cX12_joins 85 = .ok (.bipush 6, 2) := by decide +kernel
theorem dX12_joins_87 : decode cX12_joins 87 = .ok (.iadd, 1) := by decide +kernel
theorem dX12_joins_88 : decode cX12_joins 88 = .ok (.iload 4, 2) := by decide +kernel
theorem dX12_joins_90 : decode cX12_joins 90 = .ok (.iadd, 1) := by decide +kernel
theorem dX12_joins_91 : decode cX12_joins 91 = .ok (.iaload, 1) := by decide +kernel
theorem dX12_joins_92 : decode cX12_joins 92 = .ok (.istore 8, 2) := by decide +kernel
theorem dX12_joins_94 : decode cX12_joins 94 = .ok (.aload_n 0, 1) := by decide +kernel
theorem dX12_joins_95 : decode cX12_joins 95 = .ok (.getfield 7, 3) := by decide +kernel
theorem dX12_joins_98 : decode cX12_joins 98 = .ok (.iload_n 1, 1) := by decide +kernel
theorem dX12_joins_99 : decode cX12_joins 99 = .ok (.iload 4, 2) := by decide +kernel
theorem dX12_joins_101 : decode cX12_joins 101 = .ok (.iadd, 1) := by decide +kernel
theorem dX12_joins_102 : decode cX12_joins 102 = .ok (.iload 5, 2) := by decide +kernel
theorem dX12_joins_104 : decode cX12_joins 104 = .ok (.iload 6, 2) := by decide +kernel
theorem dX12_joins_106 : decode cX12_joins 106 = .ok (.iand, 1) := by decide +kernel
theorem dX12_joins_107 : decode cX12_joins 107 = .ok (.iload 5, 2) := by decide +kernel
theorem dX12_joins_109 : decode cX12_joins 109 = .ok (.iload 8, 2) := by decide +kernel
theorem dX12_joins_111 : decode cX12_joins 111 = .ok (.invokestatic 290, 3) := by decide +kernel
theorem dX12_joins_114 : decode cX12_joins 114 = .ok (.iconst (-1), 1) := by decide +kernel
theorem dX12_joins_115 : decode cX12_joins 115 = .ok (.ixor, 1) := by decide +kernel
theorem dX12_joins_116 : decode cX12_joins 116 = .ok (.iand, 1) := by decide +kernel
theorem dX12_joins_117 : decode cX12_joins 117 = .ok (.ior, 1) := by decide +kernel
theorem dX12_joins_118 : decode cX12_joins 118 = .ok (.iload 6, 2) := by decide +kernel
theorem dX12_joins_120 : decode cX12_joins 120 = .ok (.iload 7, 2) := by decide +kernel
theorem dX12_joins_122 : decode cX12_joins 122 = .ok (.invokestatic 290, 3) := by decide +kernel
theorem dX12_joins_125 : decode cX12_joins 125 = .ok (.iconst (-1), 1) := by decide +kernel
theorem dX12_joins_126 : decode cX12_joins 126 = .ok (.ixor, 1) := by decide +kernel
theorem dX12_joins_127 : decode cX12_joins 127 = .ok (.iand, 1) := by decide +kernel
theorem dX12_joins_128 : decode cX12_joins 128 = .ok (.ior, 1) := by decide +kernel
theorem dX12_joins_129 : decode cX12_joins 129 = .ok (.iastore, 1) := by decide +kernel
theorem dX12_joins_130 : decode cX12_joins 130 = .ok (.aload_n 0, 1) := by decide +kernel
theorem dX12_joins_131 : decode cX12_joins 131 = .ok (.getfield 7, 3) := by decide +kernel
theorem dX12_joins_134 : decode cX12_joins 134 = .ok (.iload_n 1, 1) := by decide +kernel
theorem dX12_joins_135 : decode cX12_joins 135 = .ok (.bipush 6, 2) := by decide +kernel
theorem dX12_joins_137 : decode cX12_joins 137 = .ok (.iadd, 1) := by decide +kernel
theorem dX12_joins_138 : decode cX12_joins 138 = .ok (.iload 4, 2) := by decide +kernel
theorem dX12_joins_140 : decode cX12_joins 140 = .ok (.iadd, 1) := by decide +kernel
theorem dX12_joins_141 : decode cX12_joins 141 = .ok (.iload 7, 2) := by decide +kernel
theorem dX12_joins_143 : decode cX12_joins 143 = .ok (.iload 8, 2) := by decide +kernel
theorem dX12_joins_145 : decode cX12_joins 145 = .ok (.if_icmp .le 8, 3) := by decide +kernel
theorem dX12_joins_148 : decode cX12_joins 148 = .ok (.iload 7, 2) := by decide +kernel
theorem dX12_joins_150 : decode cX12_joins 150 = .ok (.goto 5, 3) := by decide +kernel
theorem dX12_joins_153 : decode cX12_joins 153 = .ok (.iload 8, 2) := by decide +kernel
theorem dX12_joins_155 : decode cX12_joins 155 = .ok (.iastore, 1) := by decide +kernel
theorem dX12_joins_156 : decode cX12_joins 156 = .ok (.iinc 4 1, 3) := by decide +kernel
theorem dX12_joins_159 : decode cX12_joins 159 = .ok (.goto (-156), 3) := by decide +kernel
theorem dX12_joins_162 : decode cX12_joins 162 = .ok (.return_, 1) := by decide +kernel
theorem dX12_copy_0 : decode cX12_copy 0 = .ok (.iconst 0, 1) := by decide +kernel
theorem dX12_copy_1 : decode cX12_copy 1 = .ok (.istore_n 3, 1) := by decide +kernel
theorem dX12_copy_2 : decode cX12_copy 2 = .ok (.iload_n 3, 1) := by decide +kernel
theorem dX12_copy_3 : decode cX12_copy 3 = .ok (.bipush 12, 2) := by decide +kernel
theorem dX12_copy_5 : decode cX12_copy 5 = .ok (.if_icmp .ge 25, 3) := by decide +kernel
theorem dX12_copy_8 : decode cX12_copy 8 = .ok (.aload_n 0, 1) := by decide +kernel
theorem dX12_copy_9 : decode cX12_copy 9 = .ok (.getfield 7, 3) := by decide +kernel
theorem dX12_copy_12 : decode cX12_copy 12 = .ok (.iload_n 1, 1) := by decide +kernel
theorem dX12_copy_13 : decode cX12_copy 13 = .ok (.iload_n 3, 1) := by decide +kernel
theorem dX12_copy_14 : decode cX12_copy 14 = .ok (.iadd, 1) := by decide +kernel
theorem dX12_copy_15 : decode cX12_copy 15 = .ok (.aload_n 0, 1) := by decide +kernel
theorem dX12_copy_16 : decode cX12_copy 16 = .ok (.getfield 7, 3) := by decide +kernel
theorem dX12_copy_19 : decode cX12_copy 19 = .ok (.iload_n 2, 1) := by decide +kernel
theorem dX12_copy_20 : decode cX12_copy 20 = .ok (.iload_n 3, 1) := by decide +kernel
theorem dX12_copy_21 : decode cX12_copy 21 = .ok (.iadd, 1) := by decide +kernel
theorem dX12_copy_22 : decode cX12_copy 22 = .ok (.iaload, 1) := by decide +kernel
theorem dX12_copy_23 : decode cX12_copy 23 = .ok (.iastore, 1) := by decide +kernel
theorem dX12_copy_24 : decode cX12_copy 24 = .ok (.iinc 3 1, 3) := by decide +kernel
theorem dX12_copy_27 : decode cX12_copy 27 = .ok (.goto (-25), 3) := by decide +kernel
theorem dX12_copy_30 : decode cX12_copy 30 = .ok (.return_, 1) := by decide +kernel
theorem dX12_areLike_0 : decode cX12_areLike 0 = .ok (.iconst 1, 1) := by decide +kernel
theorem dX12_areLike_1 : decode cX12_areLike 1 = .ok (.istore_n 3, 1) := by decide +kernel
theorem dX12_areLike_2 : decode cX12_areLike 2 = .ok (.iconst 0, 1) := by decide +kernel
theorem dX12_areLike_3 : decode cX12_areLike 3 = .ok (.istore 4, 2) := by decide +kernel
theorem dX12_areLike_5 : decode cX12_areLike 5 = .ok (.iload 4, 2) := by decide +kernel
theorem dX12_areLike_7 : decode cX12_areLike 7 = .ok (.bipush 12, 2) := by decide +kernel
theorem dX12_areLike_9 : decode cX12_areLike 9 = .ok (.if_icmp .ge 40, 3) := by decide +kernel
theorem dX12_areLike_12 : decode cX12_areLike 12 = .ok (.iload_n 3, 1) := by decide +kernel
theorem dX12_areLike_13 : decode cX12_areLike 13 = .ok (.ifCond .eq 28, 3) := by decide +kernel
theorem dX12_areLike_16 : decode cX12_areLike 16 = .ok (.aload_n 0, 1) := by decide +kernel
theorem dX12_areLike_17 : decode cX12_areLike 17 = .ok (.getfield 7, 3) := by decide +kernel
theorem dX12_areLike_20 : decode cX12_areLike 20 = .ok (.iload_n 1, 1) := by decide +kernel
theorem dX12_areLike_21 : decode cX12_areLike 21 = .ok (.iload 4, 2) := by decide +kernel
theorem dX12_areLike_23 : decode cX12_areLike 23 = .ok (.iadd, 1) := by decide +kernel
theorem dX12_areLike_24 : decode cX12_areLike 24 = .ok (.iaload, 1) := by decide +kernel
theorem dX12_areLike_25 : decode cX12_areLike 25 = .ok (.aload_n 0, 1) := by decide +kernel
theorem dX12_areLike_26 : decode cX12_areLike 26 = .ok (.getfield 7, 3) := by decide +kernel
theorem dX12_areLike_29 : decode cX12_areLike 29 = .ok (.iload_n 2, 1) := by decide +kernel
theorem dX12_areLike_30 : decode cX12_areLike 30 = .ok (.iload 4, 2) := by decide +kernel
theorem dX12_areLike_32 : decode cX12_areLike 32 = .ok (.iadd, 1) := by decide +kernel
theorem dX12_areLike_33 : decode cX12_areLike 33 = .ok (.iaload, 1) := by decide +kernel
theorem dX12_areLike_34 : decode cX12_areLike 34 = .ok (.if_icmp .ne 7, 3) := by decide +kernel
theorem dX12_areLike_37 : decode cX12_areLike 37 = .ok (.iconst 1, 1) := by decide +kernel
theorem dX12_areLike_38 : decode cX12_areLike 38 = .ok (.goto 4, 3) := by decide +kernel
theorem dX12_areLike_41 : decode cX12_areLike 41 = .ok (.iconst 0, 1) := by decide +kernel
theorem dX12_areLike_42 : decode cX12_areLike 42 = .ok (.istore_n 3, 1) := by decide +kernel
theorem dX12_areLike_43 : decode cX12_areLike 43 = .ok (.iinc 4 1, 3) := by decide +kernel
theorem dX12_areLike_46 : decode cX12_areLike 46 = .ok (.goto (-41), 3) := by decide +kernel
theorem dX12_areLike_49 : decode cX12_areLike 49 = .ok (.iload_n 3, 1) := by decide +kernel
theorem dX12_areLike_50 : decode cX12_areLike 50 = .ok (.ireturn, 1) := by decide +kernel
theorem dX12_bits_0 : decode cX12_bits 0 = .ok (.iconst 0, 1) := by decide +kernel
theorem dX12_bits_1 : decode cX12_bits 1 = .ok (.istore_n 1, 1) := by decide +kernel
theorem dX12_bits_2 : decode cX12_bits 2 = .ok (.iload_n 0, 1) := by decide +kernel
theorem dX12_bits_3 : decode cX12_bits 3 = .ok (.istore_n 2, 1) := by decide +kernel
theorem dX12_bits_4 : decode cX12_bits 4 = .ok (.iload_n 2, 1) := by decide +kernel
theorem dX12_bits_5 : decode cX12_bits 5 = .ok (.ifCond .eq 15, 3) := by decide +kernel
theorem dX12_bits_8 : decode cX12_bits 8 = .ok (.iinc 1 1, 3) := by decide +kernel
theorem dX12_bits_11 : decode cX12_bits 11 = .ok (.iload_n 2, 1) := by decide +kernel
theorem dX12_bits_12 : decode cX12_bits 12 = .ok (.iload_n 2, 1) := by decide +kernel
theorem dX12_bits_13 : decode cX12_bits 13 = .ok (.iconst 1, 1) := by decide +kernel
theorem dX12_bits_14 : decode cX12_bits 14 = .ok (.isub, 1) := by decide +kernel
theorem dX12_bits_15 : decode cX12_bits 15 = .ok (.iand, 1) := by decide +kernel
theorem dX12_bits_16 : decode cX12_bits 16 = .ok (.istore_n 2, 1) := by decide +kernel
theorem dX12_bits_17 : decode cX12_bits 17 = .ok (.goto (-13), 3) := by decide +kernel
theorem dX12_bits_20 : decode cX12_bits 20 = .ok (.iload_n 1, 1) := by decide +kernel
theorem dX12_bits_21 : decode cX12_bits 21 = .ok (.ireturn, 1) := by decide +kernel
theorem dX12_twinsOf_0 : decode cX12_twinsOf 0 = .ok (.iconst 0, 1) := by decide +kernel
theorem dX12_twinsOf_1 : decode cX12_twinsOf 1 = .ok (.istore_n 3, 1) := by decide +kernel
theorem dX12_twinsOf_2 : decode cX12_twinsOf 2 = .ok (.iconst 0, 1) := by decide +kernel
theorem dX12_twinsOf_3 : decode cX12_twinsOf 3 = .ok (.istore 4, 2) := by decide +kernel
theorem dX12_twinsOf_5 : decode cX12_twinsOf 5 = .ok (.iload 4, 2) := by decide +kernel
theorem dX12_twinsOf_7 : decode cX12_twinsOf 7 = .ok (.bipush 6, 2) := by decide +kernel
theorem dX12_twinsOf_9 : decode cX12_twinsOf 9 = .ok (.if_icmp .ge 32, 3) := by decide +kernel
theorem dX12_twinsOf_12 : decode cX12_twinsOf 12 = .ok (.aload_n 0, 1) := by decide +kernel
theorem dX12_twinsOf_13 : decode cX12_twinsOf 13 = .ok (.iload_n 2, 1) := by decide +kernel
theorem dX12_twinsOf_14 : decode cX12_twinsOf 14 = .ok (.invokevirtual 287, 3) := by decide +kernel
theorem dX12_twinsOf_17 : decode cX12_twinsOf 17 = .ok (.ifCond .ne 24, 3) := by decide +kernel
theorem dX12_twinsOf_20 : decode cX12_twinsOf 20 = .ok (.iload_n 3, 1) := by decide +kernel
theorem dX12_twinsOf_21 : decode cX12_twinsOf 21 = .ok (.aload_n 0, 1) := by decide +kernel
theorem dX12_twinsOf_22 : decode cX12_twinsOf 22 = .ok (.getfield 7, 3) := by decide +kernel
theorem dX12_twinsOf_25 : decode cX12_twinsOf 25 = .ok (.iload_n 1, 1) := by decide +kernel
theorem dX12_twinsOf_26 : decode cX12_twinsOf 26 = .ok (.iload 4, 2) := by decide +kernel
theorem dX12_twinsOf_28 : decode cX12_twinsOf 28 = .ok (.iadd, 1) := by decide +kernel
theorem dX12_twinsOf_29 : decode cX12_twinsOf 29 = .ok (.iaload, 1) := by decide +kernel
theorem dX12_twinsOf_30 : decode cX12_twinsOf 30 = .ok (.invokestatic 293, 3) := by decide +kernel
theorem dX12_twinsOf_33 : decode cX12_twinsOf 33 = .ok (.iadd, 1) := by decide +kernel
theorem dX12_twinsOf_34 : decode cX12_twinsOf 34 = .ok (.istore_n 3, 1) := by decide +kernel
theorem dX12_twinsOf_35 : decode cX12_twinsOf 35 = .ok (.iinc 4 1, 3) := by decide +kernel
theorem dX12_twinsOf_38 : decode cX12_twinsOf 38 = .ok (.goto (-33), 3) := by decide +kernel
theorem dX12_twinsOf_41 : decode cX12_twinsOf 41 = .ok (.iload_n 3, 1) := by decide +kernel
theorem dX12_twinsOf_42 : decode cX12_twinsOf 42 = .ok (.ireturn, 1) := by decide +kernel
theorem dX12_valueOf_0 : decode cX12_valueOf 0 = .ok (.aload_n 0, 1) := by decide +kernel
theorem dX12_valueOf_1 : decode cX12_valueOf 1 = .ok (.getfield 7, 3) := by decide +kernel
theorem dX12_valueOf_4 : decode cX12_valueOf 4 = .ok (.sipush 3280, 3) := by decide +kernel
theorem dX12_valueOf_7 : decode cX12_valueOf 7 = .ok (.bipush 31, 2) := by decide +kernel
theorem dX12_valueOf_9 : decode cX12_valueOf 9 = .ok (.bipush 6, 2) := by decide +kernel
theorem dX12_valueOf_11 : decode cX12_valueOf 11 = .ok (.iload_n 1, 1) := by decide +kernel
theorem dX12_valueOf_12 : decode cX12_valueOf 12 = .ok (.imul, 1) := by decide +kernel
theorem dX12_valueOf_13 : decode cX12_valueOf 13 = .ok (.iload_n 2, 1) := by decide +kernel
theorem dX12_valueOf_14 : decode cX12_valueOf 14 = .ok (.iadd, 1) := by decide +kernel
theorem dX12_valueOf_15 : decode cX12_valueOf 15 = .ok (.imul, 1) := by decide +kernel
theorem dX12_valueOf_16 : decode cX12_valueOf 16 = .ok (.iadd, 1) := by decide +kernel
theorem dX12_valueOf_17 : decode cX12_valueOf 17 = .ok (.iload_n 3, 1) := by decide +kernel
theorem dX12_valueOf_18 : decode cX12_valueOf 18 = .ok (.iadd, 1) := by decide +kernel
theorem dX12_valueOf_19 : decode cX12_valueOf 19 = .ok (.iaload, 1) := by decide +kernel
theorem dX12_valueOf_20 : decode cX12_valueOf 20 = .ok (.ireturn, 1) := by decide +kernel
theorem dX12_laysTwins_0 : decode cX12_laysTwins 0 = .ok (.aload_n 0, 1) := by decide +kernel
theorem dX12_laysTwins_1 : decode cX12_laysTwins 1 = .ok (.iconst 0, 1) := by decide +kernel
theorem dX12_laysTwins_2 : decode cX12_laysTwins 2 = .ok (.putfield 296, 3) := by decide +kernel
theorem dX12_laysTwins_5 : decode cX12_laysTwins 5 = .ok (.iconst 0, 1) := by decide +kernel
theorem dX12_laysTwins_6 : decode cX12_laysTwins 6 = .ok (.istore_n 3, 1) := by decide +kernel
theorem dX12_laysTwins_7 : decode cX12_laysTwins 7 = .ok (.iload_n 3, 1) := by decide +kernel
theorem dX12_laysTwins_8 : decode cX12_laysTwins 8 = .ok (.bipush 6, 2) := by decide +kernel
theorem dX12_laysTwins_10 : decode cX12_laysTwins 10 = .ok (.if_icmp .ge 102, 3) := by decide +kernel
theorem dX12_laysTwins_13 : decode cX12_laysTwins 13 = .ok (.aload_n 0, 1) := by decide +kernel
theorem dX12_laysTwins_14 : decode cX12_laysTwins 14 = .ok (.iload_n 2, 1) := by decide +kernel
theorem dX12_laysTwins_15 : decode cX12_laysTwins 15 = .ok (.invokevirtual 287, 3) := by decide +kernel
theorem dX12_laysTwins_18 : decode cX12_laysTwins 18 = .ok (.ifCond .ne 94, 3) := by decide +kernel
theorem dX12_laysTwins_21 : decode cX12_laysTwins 21 = .ok (.iconst 1, 1) := by decide +kernel
theorem dX12_laysTwins_22 : decode cX12_laysTwins 22 = .ok (.istore 4, 2) := by decide +kernel
theorem dX12_laysTwins_24 : decode cX12_laysTwins 24 = .ok (.iload 4, 2) := by decide +kernel
theorem dX12_laysTwins_26 : decode cX12_laysTwins 26 = .ok (.bipush 30, 2) := by decide +kernel
theorem dX12_laysTwins_28 : decode cX12_laysTwins 28 = .ok (.if_icmp .gt 78, 3) := by decide +kernel
theorem dX12_laysTwins_31 : decode cX12_laysTwins 31 = .ok (.aload_n 0, 1) := by decide +kernel
theorem dX12_laysTwins_32 : decode cX12_laysTwins 32 = .ok (.getfield 7, 3) := by decide +kernel
theorem dX12_laysTwins_35 : decode cX12_laysTwins 35 = .ok (.iload_n 1, 1) := by decide +kernel
theorem dX12_laysTwins_36 : decode cX12_laysTwins 36 = .ok (.iload_n 3, 1) := by decide +kernel
theorem dX12_laysTwins_37 : decode cX12_laysTwins 37 = .ok (.iadd, 1) := by decide +kernel
theorem dX12_laysTwins_38 : decode cX12_laysTwins 38 = .ok (.iaload, 1) := by decide +kernel
theorem dX12_laysTwins_39 : decode cX12_laysTwins 39 = .ok (.iload 4, 2) := by decide +kernel
theorem dX12_laysTwins_41 : decode cX12_laysTwins 41 = .ok (.iconst 1, 1) := by decide +kernel
theorem dX12_laysTwins_42 : decode cX12_laysTwins 42 = .ok (.isub, 1) := by decide +kernel
theorem dX12_laysTwins_43 : decode cX12_laysTwins 43 = .ok (.ishr, 1) := by decide +kernel
theorem dX12_laysTwins_44 : decode cX12_laysTwins 44 = .ok (.iconst 1, 1) := by decide +kernel
theorem dX12_laysTwins_45 : decode cX12_laysTwins 45 = .ok (.iand, 1) := by decide +kernel
theorem dX12_laysTwins_46 : decode cX12_laysTwins 46 = .ok (.ifCond .ne 6, 3) := by decide +kernel
theorem dX12_laysTwins_49 : decode cX12_laysTwins 49 = .ok (.goto 51, 3) := by decide +kernel
theorem dX12_laysTwins_52 : decode cX12_laysTwins 52 = .ok (.aload_n 0, 1) := by decide +kernel
theorem dX12_laysTwins_53 : decode cX12_laysTwins 53 = .ok (.getfield 50, 3) := by decide +kernel
theorem dX12_laysTwins_56 : decode cX12_laysTwins 56 = .ok (.aload_n 0, 1) := by decide +kernel
theorem dX12_laysTwins_57 : decode cX12_laysTwins 57 = .ok (.getfield 296, 3) := by decide +kernel
theorem dX12_laysTwins_60 : decode cX12_laysTwins 60 = .ok (.aload_n 0, 1) := by decide +kernel
theorem dX12_laysTwins_61 : decode cX12_laysTwins 61 = .ok (.iload_n 2, 1) := by decide +kernel
theorem dX12_laysTwins_62 : decode cX12_laysTwins 62 = .ok (.iload_n 3, 1) := by decide +kernel
theorem dX12_laysTwins_63 : decode cX12_laysTwins 63 = .ok (.iload 4, 2) := by decide +kernel
theorem dX12_laysTwins_65 : decode cX12_laysTwins 65 = .ok (.invokevirtual 299, 3) := by decide +kernel
theorem dX12_laysTwins_68 : decode cX12_laysTwins 68 = .ok (.iastore, 1) := by decide +kernel
theorem dX12_laysTwins_69 : decode cX12_laysTwins 69 = .ok (.aload_n 0, 1) := by decide +kernel
theorem dX12_laysTwins_70 : decode cX12_laysTwins 70 = .ok (.getfield 53, 3) := by decide +kernel
theorem dX12_laysTwins_73 : decode cX12_laysTwins 73 = .ok (.aload_n 0, 1) := by decide +kernel
theorem dX12_laysTwins_74 : decode cX12_laysTwins 74 = .ok (.getfield 296, 3) := by decide +kernel
theorem dX12_laysTwins_77 : decode cX12_laysTwins 77 = .ok (.iload_n 3, 1) := by decide +kernel
theorem dX12_laysTwins_78 : decode cX12_laysTwins 78 = .ok (.iastore, 1) := by decide +kernel
theorem dX12_laysTwins_79 : decode cX12_laysTwins 79 = .ok (.aload_n 0, 1) := by decide +kernel
theorem dX12_laysTwins_80 : decode cX12_laysTwins 80 = .ok (.getfield 56, 3) := by decide +kernel
theorem dX12_laysTwins_83 : decode cX12_laysTwins 83 = .ok (.aload_n 0, 1) := by decide +kernel
theorem dX12_laysTwins_84 : decode cX12_laysTwins 84 = .ok (.getfield 296, 3) := by decide +kernel
theorem dX12_laysTwins_87 : decode cX12_laysTwins 87 = .ok (.iload 4, 2) := by decide +kernel
theorem dX12_laysTwins_89 : decode cX12_laysTwins 89 = .ok (.iastore, 1) := by decide +kernel
theorem dX12_laysTwins_90 : decode cX12_laysTwins 90 = .ok (.aload_n 0, 1) := by decide +kernel
theorem dX12_laysTwins_91 : decode cX12_laysTwins 91 = .ok (.dup, 1) := by decide +kernel
theorem dX12_laysTwins_92 : decode cX12_laysTwins 92 = .ok (.getfield 296, 3) := by decide +kernel
theorem dX12_laysTwins_95 : decode cX12_laysTwins 95 = .ok (.iconst 1, 1) := by decide +kernel
theorem dX12_laysTwins_96 : decode cX12_laysTwins 96 = .ok (.iadd, 1) := by decide +kernel
theorem dX12_laysTwins_97 : decode cX12_laysTwins 97 = .ok (.putfield 296, 3) := by decide +kernel
theorem dX12_laysTwins_100 : decode cX12_laysTwins 100 = .ok (.iinc 4 1, 3) := by decide +kernel
theorem dX12_laysTwins_103 : decode cX12_laysTwins 103 = .ok (.goto (-79), 3) := by decide +kernel
theorem dX12_laysTwins_106 : decode cX12_laysTwins 106 = .ok (.iinc 3 1, 3) := by decide +kernel
theorem dX12_laysTwins_109 : decode cX12_laysTwins 109 = .ok (.goto (-102), 3) := by decide +kernel
theorem dX12_laysTwins_112 : decode cX12_laysTwins 112 = .ok (.return_, 1) := by decide +kernel
theorem dX12_sumOf_0 : decode cX12_sumOf 0 = .ok (.iconst 0, 1) := by decide +kernel
theorem dX12_sumOf_1 : decode cX12_sumOf 1 = .ok (.istore_n 2, 1) := by decide +kernel
theorem dX12_sumOf_2 : decode cX12_sumOf 2 = .ok (.iconst 0, 1) := by decide +kernel
theorem dX12_sumOf_3 : decode cX12_sumOf 3 = .ok (.istore_n 3, 1) := by decide +kernel
theorem dX12_sumOf_4 : decode cX12_sumOf 4 = .ok (.iload_n 3, 1) := by decide +kernel
theorem dX12_sumOf_5 : decode cX12_sumOf 5 = .ok (.bipush 6, 2) := by decide +kernel
theorem dX12_sumOf_7 : decode cX12_sumOf 7 = .ok (.if_icmp .ge 20, 3) := by decide +kernel
theorem dX12_sumOf_10 : decode cX12_sumOf 10 = .ok (.iload_n 2, 1) := by decide +kernel
theorem dX12_sumOf_11 : decode cX12_sumOf 11 = .ok (.aload_n 0, 1) := by decide +kernel
theorem dX12_sumOf_12 : decode cX12_sumOf 12 = .ok (.getfield 7, 3) := by decide +kernel
theorem dX12_sumOf_15 : decode cX12_sumOf 15 = .ok (.iload_n 1, 1) := by decide +kernel
theorem dX12_sumOf_16 : decode cX12_sumOf 16 = .ok (.iload_n 3, 1) := by decide +kernel
theorem dX12_sumOf_17 : decode cX12_sumOf 17 = .ok (.iadd, 1) := by decide +kernel
theorem dX12_sumOf_18 : decode cX12_sumOf 18 = .ok (.iaload, 1) := by decide +kernel
theorem dX12_sumOf_19 : decode cX12_sumOf 19 = .ok (.iadd, 1) := by decide +kernel
theorem dX12_sumOf_20 : decode cX12_sumOf 20 = .ok (.istore_n 2, 1) := by decide +kernel
theorem dX12_sumOf_21 : decode cX12_sumOf 21 = .ok (.iinc 3 1, 3) := by decide +kernel
theorem dX12_sumOf_24 : decode cX12_sumOf 24 = .ok (.goto (-20), 3) := by decide +kernel
theorem dX12_sumOf_27 : decode cX12_sumOf 27 = .ok (.iload_n 2, 1) := by decide +kernel
theorem dX12_sumOf_28 : decode cX12_sumOf 28 = .ok (.ireturn, 1) := by decide +kernel
theorem dX12_givesOut_0 : decode cX12_givesOut 0 = .ok (.aload_n 0, 1) := by decide +kernel
theorem dX12_givesOut_1 : decode cX12_givesOut 1 = .ok (.iload_n 1, 1) := by decide +kernel
theorem dX12_givesOut_2 : decode cX12_givesOut 2 = .ok (.invokevirtual 269, 3) := by decide +kernel
theorem dX12_givesOut_5 : decode cX12_givesOut 5 = .ok (.iconst 1, 1) := by decide +kernel
theorem dX12_givesOut_6 : decode cX12_givesOut 6 = .ok (.istore_n 3, 1) := by decide +kernel
theorem dX12_givesOut_7 : decode cX12_givesOut 7 = .ok (.aload_n 0, 1) := by decide +kernel
theorem dX12_givesOut_8 : decode cX12_givesOut 8 = .ok (.invokevirtual 272, 3) := by decide +kernel
theorem dX12_givesOut_11 : decode cX12_givesOut 11 = .ok (.istore 4, 2) := by decide +kernel
theorem dX12_givesOut_13 : decode cX12_givesOut 13 = .ok (.aload_n 0, 1) := by decide +kernel
theorem dX12_givesOut_14 : decode cX12_givesOut 14 = .ok (.iload_n 2, 1) := by decide +kernel
theorem dX12_givesOut_15 : decode cX12_givesOut 15 = .ok (.iload_n 1, 1) := by decide +kernel
theorem dX12_givesOut_16 : decode cX12_givesOut 16 = .ok (.invokevirtual 303, 3) := by decide +kernel
theorem dX12_givesOut_19 : decode cX12_givesOut 19 = .ok (.istore 5, 2) := by decide +kernel
theorem dX12_givesOut_21 : decode cX12_givesOut 21 = .ok (.iconst 0, 1) := by decide +kernel
theorem dX12_givesOut_22 : decode cX12_givesOut 22 = .ok (.istore 6, 2) := by decide +kernel
theorem dX12_givesOut_24 : decode cX12_givesOut 24 = .ok (.iload 6, 2) := by decide +kernel
theorem dX12_givesOut_26 : decode cX12_givesOut 26 = .ok (.aload_n 0, 1) := by decide +kernel
theorem dX12_givesOut_27 : decode cX12_givesOut 27 = .ok (.invokevirtual 272, 3) := by decide +kernel
theorem dX12_givesOut_30 : decode cX12_givesOut 30 = .ok (.if_icmp .ge 54, 3) := by decide +kernel
theorem dX12_givesOut_33 : decode cX12_givesOut 33 = .ok (.aload_n 0, 1) := by decide +kernel
theorem dX12_givesOut_34 : decode cX12_givesOut 34 = .ok (.getfield 47, 3) := by decide +kernel
theorem dX12_givesOut_37 : decode cX12_givesOut 37 = .ok (.iload 6, 2) := by decide +kernel
theorem dX12_givesOut_39 : decode cX12_givesOut 39 = .ok (.iaload, 1) := by decide +kernel
theorem dX12_givesOut_40 : decode cX12_givesOut 40 = .ok (.istore 7, 2) := by decide +kernel
theorem dX12_givesOut_42 : decode cX12_givesOut 42 = .ok (.iload 7, 2) := by decide +kernel
theorem dX12_givesOut_44 : decode cX12_givesOut 44 = .ok (.iload_n 2, 1) := by decide +kernel
theorem dX12_givesOut_45 : decode cX12_givesOut 45 = .ok (.if_icmp .eq 33, 3) := by decide +kernel
theorem dX12_givesOut_48 : decode cX12_givesOut 48 = .ok (.aload_n 0, 1) := by decide +kernel
theorem dX12_givesOut_49 : decode cX12_givesOut 49 = .ok (.iload_n 2, 1) := by decide +kernel
theorem dX12_givesOut_50 : decode cX12_givesOut 50 = .ok (.iload 7, 2) := by decide +kernel
theorem dX12_givesOut_52 : decode cX12_givesOut 52 = .ok (.invokevirtual 284, 3) := by decide +kernel
theorem dX12_givesOut_55 : decode cX12_givesOut 55 = .ok (.ifCond .ne 6, 3) := by decide +kernel
theorem dX12_givesOut_58 : decode cX12_givesOut 58 = .ok (.goto 20, 3) := by decide +kernel
theorem dX12_givesOut_61 : decode cX12_givesOut 61 = .ok (.aload_n 0, 1) := by decide +kernel
theorem dX12_givesOut_62 : decode cX12_givesOut 62 = .ok (.aload_n 0, 1) := by decide +kernel
theorem dX12_givesOut_63 : decode cX12_givesOut 63 = .ok (.iload 7, 2) := by decide +kernel
theorem dX12_givesOut_65 : decode cX12_givesOut 65 = .ok (.iload_n 1, 1) := by decide +kernel
theorem dX12_givesOut_66 : decode cX12_givesOut 66 = .ok (.invokevirtual 303, 3) := by decide +kernel
theorem dX12_givesOut_69 : decode cX12_givesOut 69 = .ok (.iload 5, 2) := by decide +kernel
theorem dX12_givesOut_71 : decode cX12_givesOut 71 = .ok (.iload_n 1, 1) := by decide +kernel
theorem dX12_givesOut_72 : decode cX12_givesOut 72 = .ok (.invokevirtual 306, 3) := by decide +kernel
theorem dX12_givesOut_75 : decode cX12_givesOut 75 = .ok (.iinc 3 1, 3) := by decide +kernel
theorem dX12_givesOut_78 : decode cX12_givesOut 78 = .ok (.iinc 6 1, 3) := by decide +kernel
theorem dX12_givesOut_81 : decode cX12_givesOut 81 = .ok (.goto (-57), 3) := by decide +kernel
theorem dX12_givesOut_84 : decode cX12_givesOut 84 = .ok (.iconst 0, 1) := by decide +kernel
theorem dX12_givesOut_85 : decode cX12_givesOut 85 = .ok (.istore 6, 2) := by decide +kernel
theorem dX12_givesOut_87 : decode cX12_givesOut 87 = .ok (.iload 6, 2) := by decide +kernel
theorem dX12_givesOut_89 : decode cX12_givesOut 89 = .ok (.aload_n 0, 1) := by decide +kernel
theorem dX12_givesOut_90 : decode cX12_givesOut 90 = .ok (.invokevirtual 272, 3) := by decide +kernel
theorem dX12_givesOut_93 : decode cX12_givesOut 93 = .ok (.if_icmp .ge 148, 3) := by decide +kernel
theorem dX12_givesOut_96 : decode cX12_givesOut 96 = .ok (.aload_n 0, 1) := by decide +kernel
theorem dX12_givesOut_97 : decode cX12_givesOut 97 = .ok (.getfield 47, 3) := by decide +kernel
theorem dX12_givesOut_100 : decode cX12_givesOut 100 = .ok (.iload 6, 2) := by decide +kernel
theorem dX12_givesOut_102 : decode cX12_givesOut 102 = .ok (.iaload, 1) := by decide +kernel
theorem dX12_givesOut_103 : decode cX12_givesOut 103 = .ok (.istore 7, 2) := by decide +kernel
theorem dX12_givesOut_105 : decode cX12_givesOut 105 = .ok (.iload 7, 2) := by decide +kernel
theorem dX12_givesOut_107 : decode cX12_givesOut 107 = .ok (.iload_n 2, 1) := by decide +kernel
theorem dX12_givesOut_108 : decode cX12_givesOut 108 = .ok (.if_icmp .eq 127, 3) := by decide +kernel
theorem dX12_givesOut_111 : decode cX12_givesOut 111 = .ok (.aload_n 0, 1) := by decide +kernel
theorem dX12_givesOut_112 : decode cX12_givesOut 112 = .ok (.iload_n 2, 1) := by decide +kernel
theorem dX12_givesOut_113 : decode cX12_givesOut 113 = .ok (.iload 7, 2) := by decide +kernel
theorem dX12_givesOut_115 : decode cX12_givesOut 115 = .ok (.invokevirtual 284, 3) := by decide +kernel
theorem dX12_givesOut_118 : decode cX12_givesOut 118 = .ok (.ifCond .eq 6, 3) := by decide +kernel
theorem dX12_givesOut_121 : decode cX12_givesOut 121 = .ok (.goto 114, 3) := by decide +kernel
theorem dX12_givesOut_124 : decode cX12_givesOut 124 = .ok (.iload 4, 2) := by decide +kernel
theorem dX12_givesOut_126 : decode cX12_givesOut 126 = .ok (.aload_n 0, 1) := by decide +kernel
theorem dX12_givesOut_127 : decode cX12_givesOut 127 = .ok (.getfield 7, 3) := by decide +kernel
theorem dX12_givesOut_130 : decode cX12_givesOut 130 = .ok (.iconst 3, 1) := by decide +kernel
theorem dX12_givesOut_131 : decode cX12_givesOut 131 = .ok (.iaload, 1) := by decide +kernel
theorem dX12_givesOut_132 : decode cX12_givesOut 132 = .ok (.if_icmp .ge 24, 3) := by decide +kernel
theorem dX12_givesOut_135 : decode cX12_givesOut 135 = .ok (.aload_n 0, 1) := by decide +kernel
theorem dX12_givesOut_136 : decode cX12_givesOut 136 = .ok (.iload_n 2, 1) := by decide +kernel
theorem dX12_givesOut_137 : decode cX12_givesOut 137 = .ok (.aload_n 0, 1) := by decide +kernel
theorem dX12_givesOut_138 : decode cX12_givesOut 138 = .ok (.getfield 47, 3) := by decide +kernel
theorem dX12_givesOut_141 : decode cX12_givesOut 141 = .ok (.iload 4, 2) := by decide +kernel
theorem dX12_givesOut_143 : decode cX12_givesOut 143 = .ok (.iaload, 1) := by decide +kernel
theorem dX12_givesOut_144 : decode cX12_givesOut 144 = .ok (.invokevirtual 284, 3) := by decide +kernel
theorem dX12_givesOut_147 : decode cX12_givesOut 147 = .ok (.ifCond .ne 9, 3) := by decide +kernel
theorem dX12_givesOut_150 : decode cX12_givesOut 150 = .ok (.iinc 4 1, 3) := by decide +kernel
theorem dX12_givesOut_153 : decode cX12_givesOut 153 = .ok (.goto (-29), 3) := by decide +kernel
theorem dX12_givesOut_156 : decode cX12_givesOut 156 = .ok (.iload 4, 2) := by decide +kernel
theorem dX12_givesOut_158 : decode cX12_givesOut 158 = .ok (.aload_n 0, 1) := by decide +kernel
theorem dX12_givesOut_159 : decode cX12_givesOut 159 = .ok (.getfield 7, 3) := by decide +kernel
theorem dX12_givesOut_162 : decode cX12_givesOut 162 = .ok (.iconst 3, 1) := by decide +kernel
theorem dX12_givesOut_163 : decode cX12_givesOut 163 = .ok (.iaload, 1) := by decide +kernel
theorem dX12_givesOut_164 : decode cX12_givesOut 164 = .ok (.if_icmp .ne 6, 3) := by decide +kernel
theorem dX12_givesOut_167 : decode cX12_givesOut 167 = .ok (.goto 74, 3) := by decide +kernel
theorem dX12_givesOut_170 : decode cX12_givesOut 170 = .ok (.aload_n 0, 1) := by decide +kernel
theorem dX12_givesOut_171 : decode cX12_givesOut 171 = .ok (.aload_n 0, 1) := by decide +kernel
theorem dX12_givesOut_172 : decode cX12_givesOut 172 = .ok (.getfield 47, 3) := by decide +kernel
theorem dX12_givesOut_175 : decode cX12_givesOut 175 = .ok (.iload 4, 2) := by decide +kernel
theorem dX12_givesOut_177 : decode cX12_givesOut 177 = .ok (.iaload, 1) := by decide +kernel
theorem dX12_givesOut_178 : decode cX12_givesOut 178 = .ok (.iload 7, 2) := by decide +kernel
theorem dX12_givesOut_180 : decode cX12_givesOut 180 = .ok (.iload_n 1, 1) := by decide +kernel
theorem dX12_givesOut_181 : decode cX12_givesOut 181 = .ok (.invokevirtual 310, 3) := by decide +kernel
theorem dX12_givesOut_184 : decode cX12_givesOut 184 = .ok (.istore 8, 2) := by decide +kernel
theorem dX12_givesOut_186 : decode cX12_givesOut 186 = .ok (.aload_n 0, 1) := by decide +kernel
theorem dX12_givesOut_187 : decode cX12_givesOut 187 = .ok (.getfield 7, 3) := by decide +kernel
theorem dX12_givesOut_190 : decode cX12_givesOut 190 = .ok (.iload 8, 2) := by decide +kernel
theorem dX12_givesOut_192 : decode cX12_givesOut 192 = .ok (.iaload, 1) := by decide +kernel
theorem dX12_givesOut_193 : decode cX12_givesOut 193 = .ok (.iconst 1, 1) := by decide +kernel
theorem dX12_givesOut_194 : decode cX12_givesOut 194 = .ok (.if_icmp .ne 17, 3) := by decide +kernel
theorem dX12_givesOut_197 : decode cX12_givesOut 197 = .ok (.aload_n 0, 1) := by decide +kernel
theorem dX12_givesOut_198 : decode cX12_givesOut 198 = .ok (.iload 8, 2) := by decide +kernel
theorem dX12_givesOut_200 : decode cX12_givesOut 200 = .ok (.iconst 1, 1) := by decide +kernel
theorem dX12_givesOut_201 : decode cX12_givesOut 201 = .ok (.iadd, 1) := by decide +kernel
theorem dX12_givesOut_202 : decode cX12_givesOut 202 = .ok (.iload 5, 2) := by decide +kernel
theorem dX12_givesOut_204 : decode cX12_givesOut 204 = .ok (.iload_n 1, 1) := by decide +kernel
theorem dX12_givesOut_205 : decode cX12_givesOut 205 = .ok (.invokevirtual 306, 3) := by decide +kernel
theorem dX12_givesOut_208 : decode cX12_givesOut 208 = .ok (.goto 13, 3) := by decide +kernel
theorem dX12_givesOut_211 : decode cX12_givesOut 211 = .ok (.aload_n 0, 1) := by decide +kernel
theorem dX12_givesOut_212 : decode cX12_givesOut 212 = .ok (.iload 8, 2) := by decide +kernel
theorem dX12_givesOut_214 : decode cX12_givesOut 214 = .ok (.iconst 1, 1) := by decide +kernel
theorem dX12_givesOut_215 : decode cX12_givesOut 215 = .ok (.iadd, 1) := by decide +kernel
theorem dX12_givesOut_216 : decode cX12_givesOut 216 = .ok (.iload 5, 2) := by decide +kernel
theorem dX12_givesOut_218 : decode cX12_givesOut 218 = .ok (.invokevirtual 313, 3) := by decide +kernel
theorem dX12_givesOut_221 : decode cX12_givesOut 221 = .ok (.aload_n 0, 1) := by decide +kernel
theorem dX12_givesOut_222 : decode cX12_givesOut 222 = .ok (.getfield 7, 3) := by decide +kernel
theorem dX12_givesOut_225 : decode cX12_givesOut 225 = .ok (.iload 8, 2) := by decide +kernel
theorem dX12_givesOut_227 : decode cX12_givesOut 227 = .ok (.iconst 1, 1) := by decide +kernel
theorem dX12_givesOut_228 : decode cX12_givesOut 228 = .ok (.iastore, 1) := by decide +kernel
theorem dX12_givesOut_229 : decode cX12_givesOut 229 = .ok (.iinc 4 1, 3) := by decide +kernel
theorem dX12_givesOut_232 : decode cX12_givesOut 232 = .ok (.iinc 3 1, 3) := by decide +kernel
theorem dX12_givesOut_235 : decode cX12_givesOut 235 = .ok (.iinc 6 1, 3) := by decide +kernel
theorem dX12_givesOut_238 : decode cX12_givesOut 238 = .ok (.goto (-151), 3) := by decide +kernel
theorem dX12_givesOut_241 : decode cX12_givesOut 241 = .ok (.aload_n 0, 1) := by decide +kernel
theorem dX12_givesOut_242 : decode cX12_givesOut 242 = .ok (.iload_n 3, 1) := by decide +kernel
theorem dX12_givesOut_243 : decode cX12_givesOut 243 = .ok (.aload_n 0, 1) := by decide +kernel
theorem dX12_givesOut_244 : decode cX12_givesOut 244 = .ok (.getfield 7, 3) := by decide +kernel
theorem dX12_givesOut_247 : decode cX12_givesOut 247 = .ok (.iconst 2, 1) := by decide +kernel
theorem dX12_givesOut_248 : decode cX12_givesOut 248 = .ok (.iaload, 1) := by decide +kernel
theorem dX12_givesOut_249 : decode cX12_givesOut 249 = .ok (.if_icmp .lt 7, 3) := by decide +kernel
theorem dX12_givesOut_252 : decode cX12_givesOut 252 = .ok (.iconst 1, 1) := by decide +kernel
theorem dX12_givesOut_253 : decode cX12_givesOut 253 = .ok (.goto 4, 3) := by decide +kernel
theorem dX12_givesOut_256 : decode cX12_givesOut 256 = .ok (.iconst 0, 1) := by decide +kernel
theorem dX12_givesOut_257 : decode cX12_givesOut 257 = .ok (.putfield 59, 3) := by decide +kernel
theorem dX12_givesOut_260 : decode cX12_givesOut 260 = .ok (.iload_n 3, 1) := by decide +kernel
theorem dX12_givesOut_261 : decode cX12_givesOut 261 = .ok (.ireturn, 1) := by decide +kernel
theorem dX12_canTake_0 : decode cX12_canTake 0 = .ok (.aload_n 0, 1) := by decide +kernel
theorem dX12_canTake_1 : decode cX12_canTake 1 = .ok (.iload_n 2, 1) := by decide +kernel
theorem dX12_canTake_2 : decode cX12_canTake 2 = .ok (.invokevirtual 266, 3) := by decide +kernel
theorem dX12_canTake_5 : decode cX12_canTake 5 = .ok (.ifCond .eq 16, 3) := by decide +kernel
theorem dX12_canTake_8 : decode cX12_canTake 8 = .ok (.aload_n 0, 1) := by decide +kernel
theorem dX12_canTake_9 : decode cX12_canTake 9 = .ok (.iload_n 2, 1) := by decide +kernel
theorem dX12_canTake_10 : decode cX12_canTake 10 = .ok (.iload_n 1, 1) := by decide +kernel
theorem dX12_canTake_11 : decode cX12_canTake 11 = .ok (.invokevirtual 317, 3) := by decide +kernel
theorem dX12_canTake_14 : decode cX12_canTake 14 = .ok (.ifCond .eq 7, 3) := by decide +kernel
theorem dX12_canTake_17 : decode cX12_canTake 17 = .ok (.iconst 1, 1) := by decide +kernel
theorem dX12_canTake_18 : decode cX12_canTake 18 = .ok (.goto 4, 3) := by decide +kernel
theorem dX12_canTake_21 : decode cX12_canTake 21 = .ok (.iconst 0, 1) := by decide +kernel
theorem dX12_canTake_22 : decode cX12_canTake 22 = .ok (.ireturn, 1) := by decide +kernel
theorem dX12_wrongPut_0 : decode cX12_wrongPut 0 = .ok (.iload_n 3, 1) := by decide +kernel
theorem dX12_wrongPut_1 : decode cX12_wrongPut 1 = .ok (.iconst (-1), 1) := by decide +kernel
theorem dX12_wrongPut_2 : decode cX12_wrongPut 2 = .ok (.if_icmp .eq 23, 3) := by decide +kernel
theorem dX12_wrongPut_5 : decode cX12_wrongPut 5 = .ok (.aload_n 0, 1) := by decide +kernel
theorem dX12_wrongPut_6 : decode cX12_wrongPut 6 = .ok (.getfield 7, 3) := by decide +kernel
theorem dX12_wrongPut_9 : decode cX12_wrongPut 9 = .ok (.sipush 4440, 3) := by decide +kernel
theorem dX12_wrongPut_12 : decode cX12_wrongPut 12 = .ok (.bipush 8, 2) := by decide +kernel
theorem dX12_wrongPut_14 : decode cX12_wrongPut 14 = .ok (.iload_n 3, 1) := by decide +kernel
theorem dX12_wrongPut_15 : decode cX12_wrongPut 15 = .ok (.imul, 1) := by decide +kernel
theorem dX12_wrongPut_16 : decode cX12_wrongPut 16 = .ok (.iadd, 1) := by decide +kernel
theorem dX12_wrongPut_17 : decode cX12_wrongPut 17 = .ok (.iaload, 1) := by decide +kernel
theorem dX12_wrongPut_18 : decode cX12_wrongPut 18 = .ok (.iconst (-1), 1) := by decide +kernel
theorem dX12_wrongPut_19 : decode cX12_wrongPut 19 = .ok (.if_icmp .ne 6, 3) := by decide +kernel
theorem dX12_wrongPut_22 : decode cX12_wrongPut 22 = .ok (.bipush 6, 2) := by decide +kernel
theorem dX12_wrongPut_24 : decode cX12_wrongPut 24 = .ok (.ireturn, 1) := by decide +kernel
theorem dX12_wrongPut_25 : decode cX12_wrongPut 25 = .ok (.aload_n 0, 1) := by decide +kernel
theorem dX12_wrongPut_26 : decode cX12_wrongPut 26 = .ok (.iload_n 1, 1) := by decide +kernel
theorem dX12_wrongPut_27 : decode cX12_wrongPut 27 = .ok (.invokevirtual 287, 3) := by decide +kernel
theorem dX12_wrongPut_30 : decode cX12_wrongPut 30 = .ok (.ifCond .ne 25, 3) := by decide +kernel
theorem dX12_wrongPut_33 : decode cX12_wrongPut 33 = .ok (.iload_n 3, 1) := by decide +kernel
theorem dX12_wrongPut_34 : decode cX12_wrongPut 34 = .ok (.iconst (-1), 1) := by decide +kernel
theorem dX12_wrongPut_35 : decode cX12_wrongPut 35 = .ok (.if_icmp .eq 23, 3) := by decide +kernel
theorem dX12_wrongPut_38 : decode cX12_wrongPut 38 = .ok (.aload_n 0, 1) := by decide +kernel
theorem dX12_wrongPut_39 : decode cX12_wrongPut 39 = .ok (.getfield 7, 3) := by decide +kernel
theorem dX12_wrongPut_42 : decode cX12_wrongPut 42 = .ok (.sipush 4440, 3) := by decide +kernel
theorem dX12_wrongPut_45 : decode cX12_wrongPut 45 = .ok (.bipush 8, 2) := by decide +kernel
theorem dX12_wrongPut_47 : decode cX12_wrongPut 47 = .ok (.iload_n 3, 1) := by decide +kernel
theorem dX12_wrongPut_48 : decode cX12_wrongPut 48 = .ok (.imul, 1) := by decide +kernel
theorem dX12_wrongPut_49 : decode cX12_wrongPut 49 = .ok (.iadd, 1) := by decide +kernel
theorem dX12_wrongPut_50 : decode cX12_wrongPut 50 = .ok (.iaload, 1) := by decide +kernel
theorem dX12_wrongPut_51 : decode cX12_wrongPut 51 = .ok (.iload_n 1, 1) := by decide +kernel
theorem dX12_wrongPut_52 : decode cX12_wrongPut 52 = .ok (.if_icmp .eq 6, 3) := by decide +kernel
theorem dX12_wrongPut_55 : decode cX12_wrongPut 55 = .ok (.bipush 7, 2) := by decide +kernel
theorem dX12_wrongPut_57 : decode cX12_wrongPut 57 = .ok (.ireturn, 1) := by decide +kernel
theorem dX12_wrongPut_58 : decode cX12_wrongPut 58 = .ok (.aload_n 0, 1) := by decide +kernel
theorem dX12_wrongPut_59 : decode cX12_wrongPut 59 = .ok (.iload_n 1, 1) := by decide +kernel
theorem dX12_wrongPut_60 : decode cX12_wrongPut 60 = .ok (.iload_n 2, 1) := by decide +kernel
theorem dX12_wrongPut_61 : decode cX12_wrongPut 61 = .ok (.invokevirtual 320, 3) := by decide +kernel
theorem dX12_wrongPut_64 : decode cX12_wrongPut 64 = .ok (.ifCond .eq 27, 3) := by decide +kernel
theorem dX12_wrongPut_67 : decode cX12_wrongPut 67 = .ok (.aload_n 0, 1) := by decide +kernel
theorem dX12_wrongPut_68 : decode cX12_wrongPut 68 = .ok (.getfield 7, 3) := by decide +kernel
theorem dX12_wrongPut_71 : decode cX12_wrongPut 71 = .ok (.sipush 4400, 3) := by decide +kernel
theorem dX12_wrongPut_74 : decode cX12_wrongPut 74 = .ok (.bipush 6, 2) := by decide +kernel
theorem dX12_wrongPut_76 : decode cX12_wrongPut 76 = .ok (.iload_n 2, 1) := by decide +kernel
theorem dX12_wrongPut_77 : decode cX12_wrongPut 77 = .ok (.imul, 1) := by decide +kernel
theorem dX12_wrongPut_78 : decode cX12_wrongPut 78 = .ok (.iadd, 1) := by decide +kernel
theorem dX12_wrongPut_79 : decode cX12_wrongPut 79 = .ok (.iload_n 1, 1) := by decide +kernel
theorem dX12_wrongPut_80 : decode cX12_wrongPut 80 = .ok (.iadd, 1) := by decide +kernel
theorem dX12_wrongPut_81 : decode cX12_wrongPut 81 = .ok (.iaload, 1) := by decide +kernel
theorem dX12_wrongPut_82 : decode cX12_wrongPut 82 = .ok (.bipush 30, 2) := by decide +kernel
theorem dX12_wrongPut_84 : decode cX12_wrongPut 84 = .ok (.if_icmp .ge 7, 3) := by decide +kernel
theorem dX12_wrongPut_87 : decode cX12_wrongPut 87 = .ok (.iconst 0, 1) := by decide +kernel
theorem dX12_wrongPut_88 : decode cX12_wrongPut 88 = .ok (.goto 5, 3) := by decide +kernel
theorem dX12_wrongPut_91 : decode cX12_wrongPut 91 = .ok (.bipush 7, 2) := by decide +kernel
theorem dX12_wrongPut_93 : decode cX12_wrongPut 93 = .ok (.ireturn, 1) := by decide +kernel
theorem dX12_puts_0 : decode cX12_puts 0 = .ok (.aload_n 0, 1) := by decide +kernel
theorem dX12_puts_1 : decode cX12_puts 1 = .ok (.iload_n 2, 1) := by decide +kernel
theorem dX12_puts_2 : decode cX12_puts 2 = .ok (.iload_n 1, 1) := by decide +kernel
theorem dX12_puts_3 : decode cX12_puts 3 = .ok (.invokevirtual 303, 3) := by decide +kernel
theorem dX12_puts_6 : decode cX12_puts 6 = .ok (.istore 5, 2) := by decide +kernel
theorem dX12_puts_8 : decode cX12_puts 8 = .ok (.iconst 0, 1) := by decide +kernel
theorem dX12_puts_9 : decode cX12_puts 9 = .ok (.istore 6, 2) := by decide +kernel
theorem dX12_puts_11 : decode cX12_puts 11 = .ok (.iload 6, 2) := by decide +kernel
theorem dX12_puts_13 : decode cX12_puts 13 = .ok (.bipush 6, 2) := by decide +kernel
theorem dX12_puts_15 : decode cX12_puts 15 = .ok (.if_icmp .ge 89, 3) := by decide +kernel
theorem dX12_puts_18 : decode cX12_puts 18 = .ok (.iload 4, 2) := by decide +kernel
theorem dX12_puts_20 : decode cX12_puts 20 = .ok (.iconst (-1), 1) := by decide +kernel
theorem dX12_puts_21 : decode cX12_puts 21 = .ok (.if_icmp .eq 83, 3) := by decide +kernel
theorem dX12_puts_24 : decode cX12_puts 24 = .ok (.aload_n 0, 1) := by decide +kernel
theorem dX12_puts_25 : decode cX12_puts 25 = .ok (.getfield 7, 3) := by decide +kernel
theorem dX12_puts_28 : decode cX12_puts 28 = .ok (.sipush 4440, 3) := by decide +kernel
theorem dX12_puts_31 : decode cX12_puts 31 = .ok (.bipush 8, 2) := by decide +kernel
theorem dX12_puts_33 : decode cX12_puts 33 = .ok (.iload 4, 2) := by decide +kernel
theorem dX12_puts_35 : decode cX12_puts 35 = .ok (.imul, 1) := by decide +kernel
theorem dX12_puts_36 : decode cX12_puts 36 = .ok (.iadd, 1) := by decide +kernel
theorem dX12_puts_37 : decode cX12_puts 37 = .ok (.iconst 1, 1) := by decide +kernel
theorem dX12_puts_38 : decode cX12_puts 38 = .ok (.iadd, 1) := by decide +kernel
theorem dX12_puts_39 : decode cX12_puts 39 = .ok (.iload 6, 2) := by decide +kernel
theorem dX12_puts_41 : decode cX12_puts 41 = .ok (.iadd, 1) := by decide +kernel
theorem dX12_puts_42 : decode cX12_puts 42 = .ok (.iaload, 1) := by decide +kernel
theorem dX12_puts_43 : decode cX12_puts 43 = .ok (.istore 7, 2) := by decide +kernel
theorem dX12_puts_45 : decode cX12_puts 45 = .ok (.aload_n 0, 1) := by decide +kernel
theorem dX12_puts_46 : decode cX12_puts 46 = .ok (.getfield 7, 3) := by decide +kernel
theorem dX12_puts_49 : decode cX12_puts 49 = .ok (.iload 5, 2) := by decide +kernel
theorem dX12_puts_51 : decode cX12_puts 51 = .ok (.iload 6, 2) := by decide +kernel
theorem dX12_puts_53 : decode cX12_puts 53 = .ok (.iadd, 1) := by decide +kernel
theorem dX12_puts_54 : decode cX12_puts 54 = .ok (.dup2, 1) := by decide +kernel
theorem dX12_puts_55 : decode cX12_puts 55 = .ok (.iaload, 1) := by decide +kernel
theorem dX12_puts_56 : decode cX12_puts 56 = .ok (.iload 7, 2) := by decide +kernel
theorem dX12_puts_58 : decode cX12_puts 58 = .ok (.invokestatic 290, 3) := by decide +kernel
theorem dX12_puts_61 : decode cX12_puts 61 = .ok (.iconst (-1), 1) := by decide +kernel
theorem dX12_puts_62 : decode cX12_puts 62 = .ok (.ixor, 1) := by decide +kernel
theorem dX12_puts_63 : decode cX12_puts 63 = .ok (.iand, 1) := by decide +kernel
theorem dX12_puts_64 : decode cX12_puts 64 = .ok (.iastore, 1) := by decide +kernel
theorem dX12_puts_65 : decode cX12_puts 65 = .ok (.iload 7, 2) := by decide +kernel
theorem dX12_puts_67 : decode cX12_puts 67 = .ok (.aload_n 0, 1) := by decide +kernel
theorem dX12_puts_68 : decode cX12_puts 68 = .ok (.getfield 7, 3) := by decide +kernel
theorem dX12_puts_71 : decode cX12_puts 71 = .ok (.iload 5, 2) := by decide +kernel
theorem dX12_puts_73 : decode cX12_puts 73 = .ok (.bipush 6, 2) := by decide +kernel
theorem dX12_puts_75 : decode cX12_puts 75 = .ok (.iadd, 1) := by decide +kernel
theorem dX12_puts_76 : decode cX12_puts 76 = .ok (.iload 6, 2) := by decide +kernel
theorem dX12_puts_78 : decode cX12_puts 78 = .ok (.iadd, 1) := by decide +kernel
theorem dX12_puts_79 : decode cX12_puts 79 = .ok (.iaload, 1) := by decide +kernel
theorem dX12_puts_80 : decode cX12_puts 80 = .ok (.if_icmp .le 18, 3) := by decide +kernel
theorem dX12_puts_83 : decode cX12_puts 83 = .ok (.aload_n 0, 1) := by decide +kernel
theorem dX12_puts_84 : decode cX12_puts 84 = .ok (.getfield 7, 3) := by decide +kernel
theorem dX12_puts_87 : decode cX12_puts 87 = .ok (.iload 5, 2) := by decide +kernel
theorem dX12_puts_89 : decode cX12_puts 89 = .ok (.bipush 6, 2) := by decide +kernel
theorem dX12_puts_91 : decode cX12_puts 91 = .ok (.iadd, 1) := by decide +kernel
theorem dX12_puts_92 : decode cX12_puts 92 = .ok (.iload 6, 2) := by decide +kernel
theorem dX12_puts_94 : decode cX12_puts 94 = .ok (.iadd, 1) := by decide +kernel
theorem dX12_puts_95 : decode cX12_puts 95 = .ok (.iload 7, 2) := by decide +kernel
theorem dX12_puts_97 : decode cX12_puts 97 = .ok (.iastore, 1) := by decide +kernel
theorem dX12_puts_98 : decode cX12_puts 98 = .ok (.iinc 6 1, 3) := by decide +kernel
theorem dX12_puts_101 : decode cX12_puts 101 = .ok (.goto (-90), 3) := by decide +kernel
theorem dX12_puts_104 : decode cX12_puts 104 = .ok (.aload_n 0, 1) := by decide +kernel
theorem dX12_puts_105 : decode cX12_puts 105 = .ok (.getfield 7, 3) := by decide +kernel
theorem dX12_puts_108 : decode cX12_puts 108 = .ok (.sipush 4400, 3) := by decide +kernel
theorem dX12_puts_111 : decode cX12_puts 111 = .ok (.bipush 6, 2) := by decide +kernel
theorem dX12_puts_113 : decode cX12_puts 113 = .ok (.iload_n 2, 1) := by decide +kernel
theorem dX12_puts_114 : decode cX12_puts 114 = .ok (.imul, 1) := by decide +kernel
theorem dX12_puts_115 : decode cX12_puts 115 = .ok (.iadd, 1) := by decide +kernel
theorem dX12_puts_116 : decode cX12_puts 116 = .ok (.iload_n 1, 1) := by decide +kernel
theorem dX12_puts_117 : decode cX12_puts 117 = .ok (.iadd, 1) := by decide +kernel
theorem dX12_puts_118 : decode cX12_puts 118 = .ok (.dup2, 1) := by decide +kernel
theorem dX12_puts_119 : decode cX12_puts 119 = .ok (.iaload, 1) := by decide +kernel
theorem dX12_puts_120 : decode cX12_puts 120 = .ok (.iconst 1, 1) := by decide +kernel
theorem dX12_puts_121 : decode cX12_puts 121 = .ok (.iadd, 1) := by decide +kernel
theorem dX12_puts_122 : decode cX12_puts 122 = .ok (.iastore, 1) := by decide +kernel
theorem dX12_puts_123 : decode cX12_puts 123 = .ok (.aload_n 0, 1) := by decide +kernel
theorem dX12_puts_124 : decode cX12_puts 124 = .ok (.getfield 7, 3) := by decide +kernel
theorem dX12_puts_127 : decode cX12_puts 127 = .ok (.sipush 4400, 3) := by decide +kernel
theorem dX12_puts_130 : decode cX12_puts 130 = .ok (.bipush 6, 2) := by decide +kernel
theorem dX12_puts_132 : decode cX12_puts 132 = .ok (.iload_n 2, 1) := by decide +kernel
theorem dX12_puts_133 : decode cX12_puts 133 = .ok (.imul, 1) := by decide +kernel
theorem dX12_puts_134 : decode cX12_puts 134 = .ok (.iadd, 1) := by decide +kernel
theorem dX12_puts_135 : decode cX12_puts 135 = .ok (.iload_n 1, 1) := by decide +kernel
theorem dX12_puts_136 : decode cX12_puts 136 = .ok (.iadd, 1) := by decide +kernel
theorem dX12_puts_137 : decode cX12_puts 137 = .ok (.iaload, 1) := by decide +kernel
theorem dX12_puts_138 : decode cX12_puts 138 = .ok (.istore 6, 2) := by decide +kernel
theorem dX12_puts_140 : decode cX12_puts 140 = .ok (.aload_n 0, 1) := by decide +kernel
theorem dX12_puts_141 : decode cX12_puts 141 = .ok (.getfield 7, 3) := by decide +kernel
theorem dX12_puts_144 : decode cX12_puts 144 = .ok (.sipush 3280, 3) := by decide +kernel
theorem dX12_puts_147 : decode cX12_puts 147 = .ok (.bipush 31, 2) := by decide +kernel
theorem dX12_puts_149 : decode cX12_puts 149 = .ok (.bipush 6, 2) := by decide +kernel
theorem dX12_puts_151 : decode cX12_puts 151 = .ok (.iload_n 1, 1) := by decide +kernel
theorem dX12_puts_152 : decode cX12_puts 152 = .ok (.imul, 1) := by decide +kernel
theorem dX12_puts_153 : decode cX12_puts 153 = .ok (.iload_n 2, 1) := by decide +kernel
theorem dX12_puts_154 : decode cX12_puts 154 = .ok (.iadd, 1) := by decide +kernel
theorem dX12_puts_155 : decode cX12_puts 155 = .ok (.imul, 1) := by decide +kernel
theorem dX12_puts_156 : decode cX12_puts 156 = .ok (.iadd, 1) := by decide +kernel
theorem dX12_puts_157 : decode cX12_puts 157 = .ok (.iload 6, 2) := by decide +kernel
theorem dX12_puts_159 : decode cX12_puts 159 = .ok (.iadd, 1) := by decide +kernel
theorem dX12_puts_160 : decode cX12_puts 160 = .ok (.iload_n 3, 1) := by decide +kernel
theorem dX12_puts_161 : decode cX12_puts 161 = .ok (.iastore, 1) := by decide +kernel
theorem dX12_puts_162 : decode cX12_puts 162 = .ok (.aload_n 0, 1) := by decide +kernel
theorem dX12_puts_163 : decode cX12_puts 163 = .ok (.getfield 7, 3) := by decide +kernel
theorem dX12_puts_166 : decode cX12_puts 166 = .ok (.iload 5, 2) := by decide +kernel
theorem dX12_puts_168 : decode cX12_puts 168 = .ok (.iload_n 2, 1) := by decide +kernel
theorem dX12_puts_169 : decode cX12_puts 169 = .ok (.iadd, 1) := by decide +kernel
theorem dX12_puts_170 : decode cX12_puts 170 = .ok (.dup2, 1) := by decide +kernel
theorem dX12_puts_171 : decode cX12_puts 171 = .ok (.iaload, 1) := by decide +kernel
theorem dX12_puts_172 : decode cX12_puts 172 = .ok (.iconst 1, 1) := by decide +kernel
theorem dX12_puts_173 : decode cX12_puts 173 = .ok (.iload 6, 2) := by decide +kernel
theorem dX12_puts_175 : decode cX12_puts 175 = .ok (.iconst 1, 1) := by decide +kernel
theorem dX12_puts_176 : decode cX12_puts 176 = .ok (.isub, 1) := by decide +kernel
theorem dX12_puts_177 : decode cX12_puts 177 = .ok (.ishl, 1) := by decide +kernel
theorem dX12_puts_178 : decode cX12_puts 178 = .ok (.ior, 1) := by decide +kernel
theorem dX12_puts_179 : decode cX12_puts 179 = .ok (.iastore, 1) := by decide +kernel
theorem dX12_puts_180 : decode cX12_puts 180 = .ok (.aload_n 0, 1) := by decide +kernel
theorem dX12_puts_181 : decode cX12_puts 181 = .ok (.getfield 7, 3) := by decide +kernel
theorem dX12_puts_184 : decode cX12_puts 184 = .ok (.iload 5, 2) := by decide +kernel
theorem dX12_puts_186 : decode cX12_puts 186 = .ok (.bipush 6, 2) := by decide +kernel
theorem dX12_puts_188 : decode cX12_puts 188 = .ok (.iadd, 1) := by decide +kernel
theorem dX12_puts_189 : decode cX12_puts 189 = .ok (.iload_n 2, 1) := by decide +kernel
theorem dX12_puts_190 : decode cX12_puts 190 = .ok (.iadd, 1) := by decide +kernel
theorem dX12_puts_191 : decode cX12_puts 191 = .ok (.iload 6, 2) := by decide +kernel
theorem dX12_puts_193 : decode cX12_puts 193 = .ok (.iastore, 1) := by decide +kernel
theorem dX12_puts_194 : decode cX12_puts 194 = .ok (.aload_n 0, 1) := by decide +kernel
theorem dX12_puts_195 : decode cX12_puts 195 = .ok (.iload_n 1, 1) := by decide +kernel
theorem dX12_puts_196 : decode cX12_puts 196 = .ok (.iload_n 2, 1) := by decide +kernel
theorem dX12_puts_197 : decode cX12_puts 197 = .ok (.invokevirtual 323, 3) := by decide +kernel
theorem dX12_puts_200 : decode cX12_puts 200 = .ok (.ireturn, 1) := by decide +kernel
theorem dX12_put0_0 : decode cX12_put0 0 = .ok (.aload_n 0, 1) := by decide +kernel
theorem dX12_put0_1 : decode cX12_put0 1 = .ok (.iload_n 1, 1) := by decide +kernel
theorem dX12_put0_2 : decode cX12_put0 2 = .ok (.invokevirtual 278, 3) := by decide +kernel
theorem dX12_put0_5 : decode cX12_put0 5 = .ok (.ifCond .eq 37, 3) := by decide +kernel
theorem dX12_put0_8 : decode cX12_put0 8 = .ok (.aload_n 0, 1) := by decide +kernel
theorem dX12_put0_9 : decode cX12_put0 9 = .ok (.iload_n 2, 1) := by decide +kernel
theorem dX12_put0_10 : decode cX12_put0 10 = .ok (.invokevirtual 281, 3) := by decide +kernel
theorem dX12_put0_13 : decode cX12_put0 13 = .ok (.ifCond .eq 29, 3) := by decide +kernel
theorem dX12_put0_16 : decode cX12_put0 16 = .ok (.iload_n 3, 1) := by decide +kernel
theorem dX12_put0_17 : decode cX12_put0 17 = .ok (.i2l, 1) := by decide +kernel
theorem dX12_put0_18 : decode cX12_put0 18 = .ok (.lconst 0, 1) := by decide +kernel
theorem dX12_put0_19 : decode cX12_put0 19 = .ok (.ldc2_w 326, 3) := by decide +kernel
theorem dX12_put0_22 : decode cX12_put0 22 = .ok (.invokestatic 328, 3) := by decide +kernel
theorem dX12_put0_25 : decode cX12_put0 25 = .ok (.ifCond .eq 17, 3) := by decide +kernel
theorem dX12_put0_28 : decode cX12_put0 28 = .ok (.iload 4, 2) := by decide +kernel
theorem dX12_put0_30 : decode cX12_put0 30 = .ok (.iconst (-1), 1) := by decide +kernel
theorem dX12_put0_31 : decode cX12_put0 31 = .ok (.if_icmp .eq 17, 3) := by decide +kernel
theorem dX12_put0_34 : decode cX12_put0 34 = .ok (.iload 4, 2) := by decide +kernel
theorem dX12_put0_36 : decode cX12_put0 36 = .ok (.invokestatic 332, 3) := by decide +kernel
theorem dX12_put0_39 : decode cX12_put0 39 = .ok (.ifCond .ne 9, 3) := by decide +kernel
theorem dX12_put0_42 : decode cX12_put0 42 = .ok (.aload_n 0, 1) := by decide +kernel
theorem dX12_put0_43 : decode cX12_put0 43 = .ok (.iconst 1, 1) := by decide +kernel
theorem dX12_put0_44 : decode cX12_put0 44 = .ok (.invokevirtual 190, 3) := by decide +kernel
theorem dX12_put0_47 : decode cX12_put0 47 = .ok (.ireturn, 1) := by decide +kernel
theorem dX12_put0_48 : decode cX12_put0 48 = .ok (.aload_n 0, 1) := by decide +kernel
theorem dX12_put0_49 : decode cX12_put0 49 = .ok (.iload_n 1, 1) := by decide +kernel
theorem dX12_put0_50 : decode cX12_put0 50 = .ok (.iload_n 2, 1) := by decide +kernel
theorem dX12_put0_51 : decode cX12_put0 51 = .ok (.iload 4, 2) := by decide +kernel
theorem dX12_put0_53 : decode cX12_put0 53 = .ok (.invokevirtual 335, 3) := by decide +kernel
theorem dX12_put0_56 : decode cX12_put0 56 = .ok (.istore 5, 2) := by decide +kernel
theorem dX12_put0_58 : decode cX12_put0 58 = .ok (.iload 5, 2) := by decide +kernel
theorem dX12_put0_60 : decode cX12_put0 60 = .ok (.ifCond .le 12, 3) := by decide +kernel
theorem dX12_put0_63 : decode cX12_put0 63 = .ok (.aload_n 0, 1) := by decide +kernel
theorem dX12_put0_64 : decode cX12_put0 64 = .ok (.iload 5, 2) := by decide +kernel
theorem dX12_put0_66 : decode cX12_put0 66 = .ok (.invokevirtual 190, 3) := by decide +kernel
theorem dX12_put0_69 : decode cX12_put0 69 = .ok (.goto 16, 3) := by decide +kernel
theorem dX12_put0_72 : decode cX12_put0 72 = .ok (.aload_n 0, 1) := by decide +kernel
theorem dX12_put0_73 : decode cX12_put0 73 = .ok (.aload_n 0, 1) := by decide +kernel
theorem dX12_put0_74 : decode cX12_put0 74 = .ok (.iload_n 1, 1) := by decide +kernel
theorem dX12_put0_75 : decode cX12_put0 75 = .ok (.iload_n 2, 1) := by decide +kernel
theorem dX12_put0_76 : decode cX12_put0 76 = .ok (.iload_n 3, 1) := by decide +kernel
theorem dX12_put0_77 : decode cX12_put0 77 = .ok (.iload 4, 2) := by decide +kernel
theorem dX12_put0_79 : decode cX12_put0 79 = .ok (.invokevirtual 338, 3) := by decide +kernel
theorem dX12_put0_82 : decode cX12_put0 82 = .ok (.invokevirtual 193, 3) := by decide +kernel
theorem dX12_put0_85 : decode cX12_put0 85 = .ok (.ireturn, 1) := by decide +kernel
theorem dX12_put_0 : decode cX12_put 0 = .ok (.aload_n 0, 1) := by decide +kernel
theorem dX12_put_1 : decode cX12_put 1 = .ok (.iload_n 1, 1) := by decide +kernel
theorem dX12_put_2 : decode cX12_put 2 = .ok (.iload_n 2, 1) := by decide +kernel
theorem dX12_put_3 : decode cX12_put 3 = .ok (.iload_n 3, 1) := by decide +kernel
theorem dX12_put_4 : decode cX12_put 4 = .ok (.sipush 1000, 3) := by decide +kernel
theorem dX12_put_7 : decode cX12_put 7 = .ok (.if_icmp .ne 7, 3) := by decide +kernel
theorem dX12_put_10 : decode cX12_put 10 = .ok (.iconst (-1), 1) := by decide +kernel
theorem dX12_put_11 : decode cX12_put 11 = .ok (.goto 4, 3) := by decide +kernel
theorem dX12_put_14 : decode cX12_put 14 = .ok (.iload_n 3, 1) := by decide +kernel
theorem dX12_put_15 : decode cX12_put 15 = .ok (.iload 4, 2) := by decide +kernel
theorem dX12_put_17 : decode cX12_put 17 = .ok (.invokevirtual 342, 3) := by decide +kernel
theorem dX12_put_20 : decode cX12_put 20 = .ok (.ireturn, 1) := by decide +kernel
theorem dX12_strike_0 : decode cX12_strike 0 = .ok (.aload_n 0, 1) := by decide +kernel
theorem dX12_strike_1 : decode cX12_strike 1 = .ok (.iload_n 1, 1) := by decide +kernel
theorem dX12_strike_2 : decode cX12_strike 2 = .ok (.iload_n 2, 1) := by decide +kernel
theorem dX12_strike_3 : decode cX12_strike 3 = .ok (.sipush 1000, 3) := by decide +kernel
theorem dX12_strike_6 : decode cX12_strike 6 = .ok (.iload_n 3, 1) := by decide +kernel
theorem dX12_strike_7 : decode cX12_strike 7 = .ok (.invokevirtual 342, 3) := by decide +kernel
theorem dX12_strike_10 : decode cX12_strike 10 = .ok (.ireturn, 1) := by decide +kernel
theorem dX12_adds_0 : decode cX12_adds 0 = .ok (.aload_n 0, 1) := by decide +kernel
theorem dX12_adds_1 : decode cX12_adds 1 = .ok (.getfield 7, 3) := by decide +kernel
theorem dX12_adds_4 : decode cX12_adds 4 = .ok (.aload_n 0, 1) := by decide +kernel
theorem dX12_adds_5 : decode cX12_adds 5 = .ok (.iload_n 2, 1) := by decide +kernel
theorem dX12_adds_6 : decode cX12_adds 6 = .ok (.iload_n 1, 1) := by decide +kernel
theorem dX12_adds_7 : decode cX12_adds 7 = .ok (.invokevirtual 303, 3) := by decide +kernel
theorem dX12_adds_10 : decode cX12_adds 10 = .ok (.iload_n 2, 1) := by decide +kernel
theorem dX12_adds_11 : decode cX12_adds 11 = .ok (.iadd, 1) := by decide +kernel
theorem dX12_adds_12 : decode cX12_adds 12 = .ok (.dup2, 1) := by decide +kernel
theorem dX12_adds_13 : decode cX12_adds 13 = .ok (.iaload, 1) := by decide +kernel
theorem dX12_adds_14 : decode cX12_adds 14 = .ok (.iload_n 3, 1) := by decide +kernel
theorem dX12_adds_15 : decode cX12_adds 15 = .ok (.iadd, 1) := by decide +kernel
theorem dX12_adds_16 : decode cX12_adds 16 = .ok (.iastore, 1) := by decide +kernel
theorem dX12_adds_17 : decode cX12_adds 17 = .ok (.aload_n 0, 1) := by decide +kernel
theorem dX12_adds_18 : decode cX12_adds 18 = .ok (.iload_n 1, 1) := by decide +kernel
theorem dX12_adds_19 : decode cX12_adds 19 = .ok (.iload_n 2, 1) := by decide +kernel
theorem dX12_adds_20 : decode cX12_adds 20 = .ok (.invokevirtual 323, 3) := by decide +kernel
theorem dX12_adds_23 : decode cX12_adds 23 = .ok (.ireturn, 1) := by decide +kernel
theorem dX12_add_0 : decode cX12_add 0 = .ok (.aload_n 0, 1) := by decide +kernel
theorem dX12_add_1 : decode cX12_add 1 = .ok (.iload_n 1, 1) := by decide +kernel
theorem dX12_add_2 : decode cX12_add 2 = .ok (.invokevirtual 278, 3) := by decide +kernel
theorem dX12_add_5 : decode cX12_add 5 = .ok (.ifCond .eq 23, 3) := by decide +kernel
theorem dX12_add_8 : decode cX12_add 8 = .ok (.aload_n 0, 1) := by decide +kernel
theorem dX12_add_9 : decode cX12_add 9 = .ok (.iload_n 2, 1) := by decide +kernel
theorem dX12_add_10 : decode cX12_add 10 = .ok (.invokevirtual 281, 3) := by decide +kernel
theorem dX12_add_13 : decode cX12_add 13 = .ok (.ifCond .eq 15, 3) := by decide +kernel
theorem dX12_add_16 : decode cX12_add 16 = .ok (.iload_n 3, 1) := by decide +kernel
theorem dX12_add_17 : decode cX12_add 17 = .ok (.i2l, 1) := by decide +kernel
theorem dX12_add_18 : decode cX12_add 18 = .ok (.lconst 1, 1) := by decide +kernel
theorem dX12_add_19 : decode cX12_add 19 = .ok (.ldc2_w 345, 3) := by decide +kernel
theorem dX12_add_22 : decode cX12_add 22 = .ok (.invokestatic 328, 3) := by decide +kernel
theorem dX12_add_25 : decode cX12_add 25 = .ok (.ifCond .ne 9, 3) := by decide +kernel
theorem dX12_add_28 : decode cX12_add 28 = .ok (.aload_n 0, 1) := by decide +kernel
theorem dX12_add_29 : decode cX12_add 29 = .ok (.iconst 1, 1) := by decide +kernel
theorem dX12_add_30 : decode cX12_add 30 = .ok (.invokevirtual 190, 3) := by decide +kernel
theorem dX12_add_33 : decode cX12_add 33 = .ok (.ireturn, 1) := by decide +kernel
theorem dX12_add_34 : decode cX12_add 34 = .ok (.aload_n 0, 1) := by decide +kernel
theorem dX12_add_35 : decode cX12_add 35 = .ok (.iload_n 1, 1) := by decide +kernel
theorem dX12_add_36 : decode cX12_add 36 = .ok (.invokevirtual 287, 3) := by decide +kernel
theorem dX12_add_39 : decode cX12_add 39 = .ok (.ifCond .eq 26, 3) := by decide +kernel
theorem dX12_add_42 : decode cX12_add 42 = .ok (.aload_n 0, 1) := by decide +kernel
theorem dX12_add_43 : decode cX12_add 43 = .ok (.iload_n 1, 1) := by decide +kernel
theorem dX12_add_44 : decode cX12_add 44 = .ok (.iload_n 2, 1) := by decide +kernel
theorem dX12_add_45 : decode cX12_add 45 = .ok (.invokevirtual 320, 3) := by decide +kernel
theorem dX12_add_48 : decode cX12_add 48 = .ok (.ifCond .eq 17, 3) := by decide +kernel
theorem dX12_add_51 : decode cX12_add 51 = .ok (.aload_n 0, 1) := by decide +kernel
theorem dX12_add_52 : decode cX12_add 52 = .ok (.aload_n 0, 1) := by decide +kernel
theorem dX12_add_53 : decode cX12_add 53 = .ok (.iload_n 1, 1) := by decide +kernel
theorem dX12_add_54 : decode cX12_add 54 = .ok (.iload_n 2, 1) := by decide +kernel
theorem dX12_add_55 : decode cX12_add 55 = .ok (.iload_n 3, 1) := by decide +kernel
theorem dX12_add_56 : decode cX12_add 56 = .ok (.invokevirtual 347, 3) := by decide +kernel
theorem dX12_add_59 : decode cX12_add 59 = .ok (.invokevirtual 193, 3) := by decide +kernel
theorem dX12_add_62 : decode cX12_add 62 = .ok (.goto 9, 3) := by decide +kernel
theorem dX12_add_65 : decode cX12_add 65 = .ok (.aload_n 0, 1) := by decide +kernel
theorem dX12_add_66 : decode cX12_add 66 = .ok (.bipush 7, 2) := by decide +kernel
theorem dX12_add_68 : decode cX12_add 68 = .ok (.invokevirtual 190, 3) := by decide +kernel
theorem dX12_add_71 : decode cX12_add 71 = .ok (.ireturn, 1) := by decide +kernel
theorem dX12_findsPlaces_0 : decode cX12_findsPlaces 0 = .ok (.aload_n 0, 1) := by decide +kernel
theorem dX12_findsPlaces_1 : decode cX12_findsPlaces 1 = .ok (.iload_n 1, 1) := by decide +kernel
theorem dX12_findsPlaces_2 : decode cX12_findsPlaces 2 = .ok (.invokevirtual 269, 3) := by decide +kernel
theorem dX12_findsPlaces_5 : decode cX12_findsPlaces 5 = .ok (.aload_n 0, 1) := by decide +kernel
theorem dX12_findsPlaces_6 : decode cX12_findsPlaces 6 = .ok (.iconst 0, 1) := by decide +kernel
theorem dX12_findsPlaces_7 : decode cX12_findsPlaces 7 = .ok (.putfield 350, 3) := by decide +kernel
theorem dX12_findsPlaces_10 : decode cX12_findsPlaces 10 = .ok (.iconst 0, 1) := by decide +kernel
theorem dX12_findsPlaces_11 : decode cX12_findsPlaces 11 = .ok (.istore_n 3, 1) := by decide +kernel
theorem dX12_findsPlaces_12 : decode cX12_findsPlaces 12 = .ok (.iload_n 3, 1) := by decide +kernel
theorem dX12_findsPlaces_13 : decode cX12_findsPlaces 13 = .ok (.aload_n 0, 1) := by decide +kernel
theorem dX12_findsPlaces_14 : decode cX12_findsPlaces 14 = .ok (.invokevirtual 272, 3) := by decide +kernel
theorem dX12_findsPlaces_17 : decode cX12_findsPlaces 17 = .ok (.if_icmp .ge 51, 3) := by decide +kernel
theorem dX12_findsPlaces_20 : decode cX12_findsPlaces 20 = .ok (.aload_n 0, 1) := by decide +kernel
theorem dX12_findsPlaces_21 : decode cX12_findsPlaces 21 = .ok (.iload_n 2, 1) := by decide +kernel
theorem dX12_findsPlaces_22 : decode cX12_findsPlaces 22 = .ok (.aload_n 0, 1) := by decide +kernel
theorem dX12_findsPlaces_23 : decode cX12_findsPlaces 23 = .ok (.getfield 47, 3) := by decide +kernel
theorem dX12_findsPlaces_26 : decode cX12_findsPlaces 26 = .ok (.iload_n 3, 1) := by decide +kernel
theorem dX12_findsPlaces_27 : decode cX12_findsPlaces 27 = .ok (.iaload, 1) := by decide +kernel
theorem dX12_findsPlaces_28 : decode cX12_findsPlaces 28 = .ok (.invokevirtual 284, 3) := by decide +kernel
theorem dX12_findsPlaces_31 : decode cX12_findsPlaces 31 = .ok (.ifCond .ne 6, 3) := by decide +kernel
theorem dX12_findsPlaces_34 : decode cX12_findsPlaces 34 = .ok (.goto 28, 3) := by decide +kernel
theorem dX12_findsPlaces_37 : decode cX12_findsPlaces 37 = .ok (.aload_n 0, 1) := by decide +kernel
theorem dX12_findsPlaces_38 : decode cX12_findsPlaces 38 = .ok (.getfield 62, 3) := by decide +kernel
theorem dX12_findsPlaces_41 : decode cX12_findsPlaces 41 = .ok (.aload_n 0, 1) := by decide +kernel
theorem dX12_findsPlaces_42 : decode cX12_findsPlaces 42 = .ok (.getfield 350, 3) := by decide +kernel
theorem dX12_findsPlaces_45 : decode cX12_findsPlaces 45 = .ok (.aload_n 0, 1) := by decide +kernel
theorem dX12_findsPlaces_46 : decode cX12_findsPlaces 46 = .ok (.getfield 47, 3) := by decide +kernel
theorem dX12_findsPlaces_49 : decode cX12_findsPlaces 49 = .ok (.iload_n 3, 1) := by decide +kernel
theorem dX12_findsPlaces_50 : decode cX12_findsPlaces 50 = .ok (.iaload, 1) := by decide +kernel
theorem dX12_findsPlaces_51 : decode cX12_findsPlaces 51 = .ok (.iastore, 1) := by decide +kernel
theorem dX12_findsPlaces_52 : decode cX12_findsPlaces 52 = .ok (.aload_n 0, 1) := by decide +kernel
theorem dX12_findsPlaces_53 : decode cX12_findsPlaces 53 = .ok (.dup, 1) := by decide +kernel
theorem dX12_findsPlaces_54 : decode cX12_findsPlaces 54 = .ok (.getfield 350, 3) := by decide +kernel
theorem dX12_findsPlaces_57 : decode cX12_findsPlaces 57 = .ok (.iconst 1, 1) := by decide +kernel
theorem dX12_findsPlaces_58 : decode cX12_findsPlaces 58 = .ok (.iadd, 1) := by decide +kernel
theorem dX12_findsPlaces_59 : decode cX12_findsPlaces 59 = .ok (.putfield 350, 3) := by decide +kernel
theorem dX12_findsPlaces_62 : decode cX12_findsPlaces 62 = .ok (.iinc 3 1, 3) := by decide +kernel
theorem dX12_findsPlaces_65 : decode cX12_findsPlaces 65 = .ok (.goto (-53), 3) := by decide +kernel
theorem dX12_findsPlaces_68 : decode cX12_findsPlaces 68 = .ok (.return_, 1) := by decide +kernel
theorem dX12_canGet_0 : decode cX12_canGet 0 = .ok (.aload_n 0, 1) := by decide +kernel
theorem dX12_canGet_1 : decode cX12_canGet 1 = .ok (.iload_n 1, 1) := by decide +kernel
theorem dX12_canGet_2 : decode cX12_canGet 2 = .ok (.iload_n 2, 1) := by decide +kernel
theorem dX12_canGet_3 : decode cX12_canGet 3 = .ok (.invokevirtual 353, 3) := by decide +kernel
theorem dX12_canGet_6 : decode cX12_canGet 6 = .ok (.aload_n 0, 1) := by decide +kernel
theorem dX12_canGet_7 : decode cX12_canGet 7 = .ok (.iload_n 2, 1) := by decide +kernel
theorem dX12_canGet_8 : decode cX12_canGet 8 = .ok (.invokevirtual 266, 3) := by decide +kernel
theorem dX12_canGet_11 : decode cX12_canGet 11 = .ok (.ifCond .eq 20, 3) := by decide +kernel
theorem dX12_canGet_14 : decode cX12_canGet 14 = .ok (.aload_n 0, 1) := by decide +kernel
theorem dX12_canGet_15 : decode cX12_canGet 15 = .ok (.getfield 350, 3) := by decide +kernel
theorem dX12_canGet_18 : decode cX12_canGet 18 = .ok (.aload_n 0, 1) := by decide +kernel
theorem dX12_canGet_19 : decode cX12_canGet 19 = .ok (.getfield 7, 3) := by decide +kernel
theorem dX12_canGet_22 : decode cX12_canGet 22 = .ok (.iconst 1, 1) := by decide +kernel
theorem dX12_canGet_23 : decode cX12_canGet 23 = .ok (.iaload, 1) := by decide +kernel
theorem dX12_canGet_24 : decode cX12_canGet 24 = .ok (.if_icmp .lt 7, 3) := by decide +kernel
theorem dX12_canGet_27 : decode cX12_canGet 27 = .ok (.iconst 1, 1) := by decide +kernel
theorem dX12_canGet_28 : decode cX12_canGet 28 = .ok (.goto 4, 3) := by decide +kernel
theorem dX12_canGet_31 : decode cX12_canGet 31 = .ok (.iconst 0, 1) := by decide +kernel
theorem dX12_canGet_32 : decode cX12_canGet 32 = .ok (.ireturn, 1) := by decide +kernel
theorem dX12_getsIt_0 : decode cX12_getsIt 0 = .ok (.aload_n 0, 1) := by decide +kernel
