theorem dX11_init_0 : decode cX11_init 0 = .ok (.aload_n 0, 1) := by decide +kernel
theorem dX11_init_1 : decode cX11_init 1 = .ok (.invokespecial 3, 3) := by decide +kernel
theorem dX11_init_4 : decode cX11_init 4 = .ok (.aload_n 0, 1) := by decide +kernel
theorem dX11_init_5 : decode cX11_init 5 = .ok (.iconst 4, 1) := by decide +kernel
theorem dX11_init_6 : decode cX11_init 6 = .ok (.anewarray 9, 3) := by decide +kernel
theorem dX11_init_9 : decode cX11_init 9 = .ok (.putfield 11, 3) := by decide +kernel
theorem dX11_init_12 : decode cX11_init 12 = .ok (.aload_n 0, 1) := by decide +kernel
theorem dX11_init_13 : decode cX11_init 13 = .ok (.new 15, 3) := by decide +kernel
theorem dX11_init_16 : decode cX11_init 16 = .ok (.dup, 1) := by decide +kernel
theorem dX11_init_17 : decode cX11_init 17 = .ok (.invokespecial 17, 3) := by decide +kernel
theorem dX11_init_20 : decode cX11_init 20 = .ok (.putfield 18, 3) := by decide +kernel
theorem dX11_init_23 : decode cX11_init 23 = .ok (.aload_n 0, 1) := by decide +kernel
theorem dX11_init_24 : decode cX11_init 24 = .ok (.new 22, 3) := by decide +kernel
theorem dX11_init_27 : decode cX11_init 27 = .ok (.dup, 1) := by decide +kernel
theorem dX11_init_28 : decode cX11_init 28 = .ok (.invokespecial 24, 3) := by decide +kernel
theorem dX11_init_31 : decode cX11_init 31 = .ok (.putfield 25, 3) := by decide +kernel
theorem dX11_init_34 : decode cX11_init 34 = .ok (.aload_n 0, 1) := by decide +kernel
theorem dX11_init_35 : decode cX11_init 35 = .ok (.new 29, 3) := by decide +kernel
theorem dX11_init_38 : decode cX11_init 38 = .ok (.dup, 1) := by decide +kernel
theorem dX11_init_39 : decode cX11_init 39 = .ok (.aload_n 0, 1) := by decide +kernel
theorem dX11_init_40 : decode cX11_init 40 = .ok (.getfield 18, 3) := by decide +kernel
theorem dX11_init_43 : decode cX11_init 43 = .ok (.invokespecial 31, 3) := by decide +kernel
theorem dX11_init_46 : decode cX11_init 46 = .ok (.putfield 34, 3) := by decide +kernel
theorem dX11_init_49 : decode cX11_init 49 = .ok (.aload_n 0, 1) := by decide +kernel
theorem dX11_init_50 : decode cX11_init 50 = .ok (.new 38, 3) := by decide +kernel
theorem dX11_init_53 : decode cX11_init 53 = .ok (.dup, 1) := by decide +kernel
theorem dX11_init_54 : decode cX11_init 54 = .ok (.aload_n 0, 1) := by decide +kernel
theorem dX11_init_55 : decode cX11_init 55 = .ok (.getfield 18, 3) := by decide +kernel
theorem dX11_init_58 : decode cX11_init 58 = .ok (.aload_n 0, 1) := by decide +kernel
theorem dX11_init_59 : decode cX11_init 59 = .ok (.getfield 25, 3) := by decide +kernel
theorem dX11_init_62 : decode cX11_init 62 = .ok (.getfield 40, 3) := by decide +kernel
theorem dX11_init_65 : decode cX11_init 65 = .ok (.invokespecial 44, 3) := by decide +kernel
theorem dX11_init_68 : decode cX11_init 68 = .ok (.putfield 47, 3) := by decide +kernel
theorem dX11_init_71 : decode cX11_init 71 = .ok (.aload_n 0, 1) := by decide +kernel
theorem dX11_init_72 : decode cX11_init 72 = .ok (.iconst 3, 1) := by decide +kernel
theorem dX11_init_73 : decode cX11_init 73 = .ok (.anewarray 22, 3) := by decide +kernel
theorem dX11_init_76 : decode cX11_init 76 = .ok (.putfield 51, 3) := by decide +kernel
theorem dX11_init_79 : decode cX11_init 79 = .ok (.aload_n 0, 1) := by decide +kernel
theorem dX11_init_80 : decode cX11_init 80 = .ok (.new 22, 3) := by decide +kernel
theorem dX11_init_83 : decode cX11_init 83 = .ok (.dup, 1) := by decide +kernel
theorem dX11_init_84 : decode cX11_init 84 = .ok (.invokespecial 24, 3) := by decide +kernel
theorem dX11_init_87 : decode cX11_init 87 = .ok (.putfield 55, 3) := by decide +kernel
theorem dX11_init_90 : decode cX11_init 90 = .ok (.aload_n 0, 1) := by decide +kernel
theorem dX11_init_91 : decode cX11_init 91 = .ok (.new 58, 3) := by decide +kernel
theorem dX11_init_94 : decode cX11_init 94 = .ok (.dup, 1) := by decide +kernel
theorem dX11_init_95 : decode cX11_init 95 = .ok (.invokespecial 60, 3) := by decide +kernel
theorem dX11_init_98 : decode cX11_init 98 = .ok (.putfield 61, 3) := by decide +kernel
theorem dX11_init_101 : decode cX11_init 101 = .ok (.aload_n 0, 1) := by decide +kernel
theorem dX11_init_102 : decode cX11_init 102 = .ok (.new 58, 3) := by decide +kernel
theorem dX11_init_105 : decode cX11_init 105 = .ok (.dup, 1) := by decide +kernel
theorem dX11_init_106 : decode cX11_init 106 = .ok (.invokespecial 60, 3) := by decide +kernel
theorem dX11_init_109 : decode cX11_init 109 = .ok (.putfield 65, 3) := by decide +kernel
theorem dX11_init_112 : decode cX11_init 112 = .ok (.aload_n 0, 1) := by decide +kernel
theorem dX11_init_113 : decode cX11_init 113 = .ok (.new 68, 3) := by decide +kernel
theorem dX11_init_116 : decode cX11_init 116 = .ok (.dup, 1) := by decide +kernel
theorem dX11_init_117 : decode cX11_init 117 = .ok (.invokespecial 70, 3) := by decide +kernel
theorem dX11_init_120 : decode cX11_init 120 = .ok (.putfield 71, 3) := by decide +kernel
theorem dX11_init_123 : decode cX11_init 123 = .ok (.aload_n 0, 1) := by decide +kernel
theorem dX11_init_124 : decode cX11_init 124 = .ok (.new 75, 3) := by decide +kernel
theorem dX11_init_127 : decode cX11_init 127 = .ok (.dup, 1) := by decide +kernel
theorem dX11_init_128 : decode cX11_init 128 = .ok (.invokespecial 77, 3) := by decide +kernel
theorem dX11_init_131 : decode cX11_init 131 = .ok (.putfield 78, 3) := by decide +kernel
theorem dX11_init_134 : decode cX11_init 134 = .ok (.aload_n 0, 1) := by decide +kernel
theorem dX11_init_135 : decode cX11_init 135 = .ok (.new 82, 3) := by decide +kernel
theorem dX11_init_138 : decode cX11_init 138 = .ok (.dup, 1) := by decide +kernel
theorem dX11_init_139 : decode cX11_init 139 = .ok (.iconst 1, 1) := by decide +kernel
theorem dX11_init_140 : decode cX11_init 140 = .ok (.invokespecial 84, 3) := by decide +kernel
theorem dX11_init_143 : decode cX11_init 143 = .ok (.putfield 87, 3) := by decide +kernel
theorem dX11_init_146 : decode cX11_init 146 = .ok (.aload_n 0, 1) := by decide +kernel
theorem dX11_init_147 : decode cX11_init 147 = .ok (.sipush 180, 3) := by decide +kernel
theorem dX11_init_150 : decode cX11_init 150 = .ok (.newarray .int, 2) := by decide +kernel
theorem dX11_init_152 : decode cX11_init 152 = .ok (.putfield 91, 3) := by decide +kernel
theorem dX11_init_155 : decode cX11_init 155 = .ok (.aload_n 0, 1) := by decide +kernel
theorem dX11_init_156 : decode cX11_init 156 = .ok (.sipush 1001, 3) := by decide +kernel
theorem dX11_init_159 : decode cX11_init 159 = .ok (.newarray .int, 2) := by decide +kernel
theorem dX11_init_161 : decode cX11_init 161 = .ok (.putfield 95, 3) := by decide +kernel
theorem dX11_init_164 : decode cX11_init 164 = .ok (.aload_n 0, 1) := by decide +kernel
theorem dX11_init_165 : decode cX11_init 165 = .ok (.iconst 0, 1) := by decide +kernel
theorem dX11_init_166 : decode cX11_init 166 = .ok (.putfield 98, 3) := by decide +kernel
theorem dX11_init_169 : decode cX11_init 169 = .ok (.aload_n 0, 1) := by decide +kernel
theorem dX11_init_170 : decode cX11_init 170 = .ok (.lconst 0, 1) := by decide +kernel
theorem dX11_init_171 : decode cX11_init 171 = .ok (.putfield 102, 3) := by decide +kernel
theorem dX11_init_174 : decode cX11_init 174 = .ok (.aload_n 0, 1) := by decide +kernel
theorem dX11_init_175 : decode cX11_init 175 = .ok (.lconst 1, 1) := by decide +kernel
theorem dX11_init_176 : decode cX11_init 176 = .ok (.putfield 106, 3) := by decide +kernel
theorem dX11_init_179 : decode cX11_init 179 = .ok (.aload_n 0, 1) := by decide +kernel
theorem dX11_init_180 : decode cX11_init 180 = .ok (.iconst 0, 1) := by decide +kernel
theorem dX11_init_181 : decode cX11_init 181 = .ok (.putfield 109, 3) := by decide +kernel
theorem dX11_init_184 : decode cX11_init 184 = .ok (.aload_n 0, 1) := by decide +kernel
theorem dX11_init_185 : decode cX11_init 185 = .ok (.iconst 0, 1) := by decide +kernel
theorem dX11_init_186 : decode cX11_init 186 = .ok (.putfield 112, 3) := by decide +kernel
theorem dX11_init_189 : decode cX11_init 189 = .ok (.aload_n 0, 1) := by decide +kernel
theorem dX11_init_190 : decode cX11_init 190 = .ok (.iconst (-1), 1) := by decide +kernel
theorem dX11_init_191 : decode cX11_init 191 = .ok (.putfield 115, 3) := by decide +kernel
theorem dX11_init_194 : decode cX11_init 194 = .ok (.iconst 0, 1) := by decide +kernel
theorem dX11_init_195 : decode cX11_init 195 = .ok (.istore_n 1, 1) := by decide +kernel
theorem dX11_init_196 : decode cX11_init 196 = .ok (.iload_n 1, 1) := by decide +kernel
theorem dX11_init_197 : decode cX11_init 197 = .ok (.iconst 4, 1) := by decide +kernel
theorem dX11_init_198 : decode cX11_init 198 = .ok (.if_icmp .ge 22, 3) := by decide +kernel
theorem dX11_init_201 : decode cX11_init 201 = .ok (.aload_n 0, 1) := by decide +kernel
theorem dX11_init_202 : decode cX11_init 202 = .ok (.getfield 11, 3) := by decide +kernel
theorem dX11_init_205 : decode cX11_init 205 = .ok (.iload_n 1, 1) := by decide +kernel
theorem dX11_init_206 : decode cX11_init 206 = .ok (.new 9, 3) := by decide +kernel
theorem dX11_init_209 : decode cX11_init 209 = .ok (.dup, 1) := by decide +kernel
theorem dX11_init_210 : decode cX11_init 210 = .ok (.invokespecial 118, 3) := by decide +kernel
theorem dX11_init_213 : decode cX11_init 213 = .ok (.aastore, 1) := by decide +kernel
theorem dX11_init_214 : decode cX11_init 214 = .ok (.iinc 1 1, 3) := by decide +kernel
theorem dX11_init_217 : decode cX11_init 217 = .ok (.goto (-21), 3) := by decide +kernel
theorem dX11_init_220 : decode cX11_init 220 = .ok (.iconst 0, 1) := by decide +kernel
theorem dX11_init_221 : decode cX11_init 221 = .ok (.istore_n 1, 1) := by decide +kernel
theorem dX11_init_222 : decode cX11_init 222 = .ok (.iload_n 1, 1) := by decide +kernel
theorem dX11_init_223 : decode cX11_init 223 = .ok (.iconst 3, 1) := by decide +kernel
theorem dX11_init_224 : decode cX11_init 224 = .ok (.if_icmp .ge 22, 3) := by decide +kernel
theorem dX11_init_227 : decode cX11_init 227 = .ok (.aload_n 0, 1) := by decide +kernel
theorem dX11_init_228 : decode cX11_init 228 = .ok (.getfield 51, 3) := by decide +kernel
theorem dX11_init_231 : decode cX11_init 231 = .ok (.iload_n 1, 1) := by decide +kernel
theorem dX11_init_232 : decode cX11_init 232 = .ok (.new 22, 3) := by decide +kernel
theorem dX11_init_235 : decode cX11_init 235 = .ok (.dup, 1) := by decide +kernel
theorem dX11_init_236 : decode cX11_init 236 = .ok (.invokespecial 24, 3) := by decide +kernel
theorem dX11_init_239 : decode cX11_init 239 = .ok (.aastore, 1) := by decide +kernel
theorem dX11_init_240 : decode cX11_init 240 = .ok (.iinc 1 1, 3) := by decide +kernel
theorem dX11_init_243 : decode cX11_init 243 = .ok (.goto (-21), 3) := by decide +kernel
theorem dX11_init_246 : decode cX11_init 246 = .ok (.return_, 1) := by decide +kernel
theorem dX11_status_0 : decode cX11_status 0 = .ok (.aload_n 0, 1) := by decide +kernel
theorem dX11_status_1 : decode cX11_status 1 = .ok (.getfield 98, 3) := by decide +kernel
theorem dX11_status_4 : decode cX11_status 4 = .ok (.ireturn, 1) := by decide +kernel
theorem dX11_top_0 : decode cX11_top 0 = .ok (.aload_n 0, 1) := by decide +kernel
theorem dX11_top_1 : decode cX11_top 1 = .ok (.getfield 102, 3) := by decide +kernel
theorem dX11_top_4 : decode cX11_top 4 = .ok (.lreturn, 1) := by decide +kernel
theorem dX11_bottom_0 : decode cX11_bottom 0 = .ok (.aload_n 0, 1) := by decide +kernel
theorem dX11_bottom_1 : decode cX11_bottom 1 = .ok (.getfield 106, 3) := by decide +kernel
theorem dX11_bottom_4 : decode cX11_bottom 4 = .ok (.lreturn, 1) := by decide +kernel
theorem dX11_tray_0 : decode cX11_tray 0 = .ok (.aload_n 0, 1) := by decide +kernel
theorem dX11_tray_1 : decode cX11_tray 1 = .ok (.iload_n 1, 1) := by decide +kernel
theorem dX11_tray_2 : decode cX11_tray 2 = .ok (.invokevirtual 119, 3) := by decide +kernel
theorem dX11_tray_5 : decode cX11_tray 5 = .ok (.ifCond .eq 22, 3) := by decide +kernel
theorem dX11_tray_8 : decode cX11_tray 8 = .ok (.iload_n 2, 1) := by decide +kernel
theorem dX11_tray_9 : decode cX11_tray 9 = .ok (.ifCond .lt 18, 3) := by decide +kernel
theorem dX11_tray_12 : decode cX11_tray 12 = .ok (.iload_n 2, 1) := by decide +kernel
theorem dX11_tray_13 : decode cX11_tray 13 = .ok (.iconst 3, 1) := by decide +kernel
theorem dX11_tray_14 : decode cX11_tray 14 = .ok (.if_icmp .gt 13, 3) := by decide +kernel
theorem dX11_tray_17 : decode cX11_tray 17 = .ok (.iload_n 3, 1) := by decide +kernel
theorem dX11_tray_18 : decode cX11_tray 18 = .ok (.ifCond .lt 9, 3) := by decide +kernel
theorem dX11_tray_21 : decode cX11_tray 21 = .ok (.iload_n 3, 1) := by decide +kernel
theorem dX11_tray_22 : decode cX11_tray 22 = .ok (.bipush 60, 2) := by decide +kernel
theorem dX11_tray_24 : decode cX11_tray 24 = .ok (.if_icmp .le 9, 3) := by decide +kernel
theorem dX11_tray_27 : decode cX11_tray 27 = .ok (.aload_n 0, 1) := by decide +kernel
theorem dX11_tray_28 : decode cX11_tray 28 = .ok (.iconst 1, 1) := by decide +kernel
theorem dX11_tray_29 : decode cX11_tray 29 = .ok (.invokevirtual 123, 3) := by decide +kernel
theorem dX11_tray_32 : decode cX11_tray 32 = .ok (.ireturn, 1) := by decide +kernel
theorem dX11_tray_33 : decode cX11_tray 33 = .ok (.aload_n 0, 1) := by decide +kernel
theorem dX11_tray_34 : decode cX11_tray 34 = .ok (.getfield 11, 3) := by decide +kernel
theorem dX11_tray_37 : decode cX11_tray 37 = .ok (.iload_n 1, 1) := by decide +kernel
theorem dX11_tray_38 : decode cX11_tray 38 = .ok (.aaload, 1) := by decide +kernel
theorem dX11_tray_39 : decode cX11_tray 39 = .ok (.iload_n 2, 1) := by decide +kernel
theorem dX11_tray_40 : decode cX11_tray 40 = .ok (.iload_n 3, 1) := by decide +kernel
theorem dX11_tray_41 : decode cX11_tray 41 = .ok (.invokevirtual 126, 3) := by decide +kernel
theorem dX11_tray_44 : decode cX11_tray 44 = .ok (.aload_n 0, 1) := by decide +kernel
theorem dX11_tray_45 : decode cX11_tray 45 = .ok (.invokevirtual 130, 3) := by decide +kernel
theorem dX11_tray_48 : decode cX11_tray 48 = .ok (.ireturn, 1) := by decide +kernel
theorem dX11_write_0 : decode cX11_write 0 = .ok (.aload_n 0, 1) := by decide +kernel
theorem dX11_write_1 : decode cX11_write 1 = .ok (.iload_n 1, 1) := by decide +kernel
theorem dX11_write_2 : decode cX11_write 2 = .ok (.iload_n 2, 1) := by decide +kernel
theorem dX11_write_3 : decode cX11_write 3 = .ok (.invokevirtual 134, 3) := by decide +kernel
theorem dX11_write_6 : decode cX11_write 6 = .ok (.istore 5, 2) := by decide +kernel
theorem dX11_write_8 : decode cX11_write 8 = .ok (.iload 5, 2) := by decide +kernel
theorem dX11_write_10 : decode cX11_write 10 = .ok (.ifCond .eq 10, 3) := by decide +kernel
theorem dX11_write_13 : decode cX11_write 13 = .ok (.aload_n 0, 1) := by decide +kernel
theorem dX11_write_14 : decode cX11_write 14 = .ok (.iload 5, 2) := by decide +kernel
theorem dX11_write_16 : decode cX11_write 16 = .ok (.invokevirtual 123, 3) := by decide +kernel
theorem dX11_write_19 : decode cX11_write 19 = .ok (.ireturn, 1) := by decide +kernel
theorem dX11_write_20 : decode cX11_write 20 = .ok (.aload_n 0, 1) := by decide +kernel
theorem dX11_write_21 : decode cX11_write 21 = .ok (.getfield 11, 3) := by decide +kernel
theorem dX11_write_24 : decode cX11_write 24 = .ok (.iload_n 1, 1) := by decide +kernel
theorem dX11_write_25 : decode cX11_write 25 = .ok (.aaload, 1) := by decide +kernel
theorem dX11_write_26 : decode cX11_write 26 = .ok (.iload_n 2, 1) := by decide +kernel
theorem dX11_write_27 : decode cX11_write 27 = .ok (.lload_n 3, 1) := by decide +kernel
theorem dX11_write_28 : decode cX11_write 28 = .ok (.invokevirtual 138, 3) := by decide +kernel
theorem dX11_write_31 : decode cX11_write 31 = .ok (.aload_n 0, 1) := by decide +kernel
theorem dX11_write_32 : decode cX11_write 32 = .ok (.invokevirtual 130, 3) := by decide +kernel
theorem dX11_write_35 : decode cX11_write 35 = .ok (.ireturn, 1) := by decide +kernel
theorem dX11_read_0 : decode cX11_read 0 = .ok (.aload_n 0, 1) := by decide +kernel
theorem dX11_read_1 : decode cX11_read 1 = .ok (.iload_n 1, 1) := by decide +kernel
theorem dX11_read_2 : decode cX11_read 2 = .ok (.iload_n 2, 1) := by decide +kernel
theorem dX11_read_3 : decode cX11_read 3 = .ok (.invokevirtual 134, 3) := by decide +kernel
theorem dX11_read_6 : decode cX11_read 6 = .ok (.istore_n 3, 1) := by decide +kernel
theorem dX11_read_7 : decode cX11_read 7 = .ok (.iload_n 3, 1) := by decide +kernel
theorem dX11_read_8 : decode cX11_read 8 = .ok (.ifCond .eq 10, 3) := by decide +kernel
theorem dX11_read_11 : decode cX11_read 11 = .ok (.aload_n 0, 1) := by decide +kernel
theorem dX11_read_12 : decode cX11_read 12 = .ok (.iload_n 3, 1) := by decide +kernel
theorem dX11_read_13 : decode cX11_read 13 = .ok (.invokevirtual 142, 3) := by decide +kernel
theorem dX11_read_16 : decode cX11_read 16 = .ok (.i2l, 1) := by decide +kernel
theorem dX11_read_17 : decode cX11_read 17 = .ok (.lreturn, 1) := by decide +kernel
theorem dX11_read_18 : decode cX11_read 18 = .ok (.aload_n 0, 1) := by decide +kernel
theorem dX11_read_19 : decode cX11_read 19 = .ok (.iconst 0, 1) := by decide +kernel
theorem dX11_read_20 : decode cX11_read 20 = .ok (.putfield 98, 3) := by decide +kernel
theorem dX11_read_23 : decode cX11_read 23 = .ok (.aload_n 0, 1) := by decide +kernel
theorem dX11_read_24 : decode cX11_read 24 = .ok (.getfield 11, 3) := by decide +kernel
theorem dX11_read_27 : decode cX11_read 27 = .ok (.iload_n 1, 1) := by decide +kernel
theorem dX11_read_28 : decode cX11_read 28 = .ok (.aaload, 1) := by decide +kernel
theorem dX11_read_29 : decode cX11_read 29 = .ok (.getfield 146, 3) := by decide +kernel
theorem dX11_read_32 : decode cX11_read 32 = .ok (.iload_n 2, 1) := by decide +kernel
theorem dX11_read_33 : decode cX11_read 33 = .ok (.laload, 1) := by decide +kernel
theorem dX11_read_34 : decode cX11_read 34 = .ok (.lreturn, 1) := by decide +kernel
theorem dX11_pour_0 : decode cX11_pour 0 = .ok (.aload_n 0, 1) := by decide +kernel
theorem dX11_pour_1 : decode cX11_pour 1 = .ok (.iload_n 1, 1) := by decide +kernel
theorem dX11_pour_2 : decode cX11_pour 2 = .ok (.invokevirtual 119, 3) := by decide +kernel
theorem dX11_pour_5 : decode cX11_pour 5 = .ok (.ifCond .eq 25, 3) := by decide +kernel
theorem dX11_pour_8 : decode cX11_pour 8 = .ok (.aload_n 0, 1) := by decide +kernel
theorem dX11_pour_9 : decode cX11_pour 9 = .ok (.iload_n 3, 1) := by decide +kernel
theorem dX11_pour_10 : decode cX11_pour 10 = .ok (.invokevirtual 119, 3) := by decide +kernel
theorem dX11_pour_13 : decode cX11_pour 13 = .ok (.ifCond .eq 17, 3) := by decide +kernel
theorem dX11_pour_16 : decode cX11_pour 16 = .ok (.iload_n 2, 1) := by decide +kernel
theorem dX11_pour_17 : decode cX11_pour 17 = .ok (.ifCond .lt 13, 3) := by decide +kernel
theorem dX11_pour_20 : decode cX11_pour 20 = .ok (.iload 4, 2) := by decide +kernel
theorem dX11_pour_22 : decode cX11_pour 22 = .ok (.ifCond .lt 8, 3) := by decide +kernel
theorem dX11_pour_25 : decode cX11_pour 25 = .ok (.iload 5, 2) := by decide +kernel
theorem dX11_pour_27 : decode cX11_pour 27 = .ok (.ifCond .ge 9, 3) := by decide +kernel
theorem dX11_pour_30 : decode cX11_pour 30 = .ok (.aload_n 0, 1) := by decide +kernel
theorem dX11_pour_31 : decode cX11_pour 31 = .ok (.iconst 1, 1) := by decide +kernel
theorem dX11_pour_32 : decode cX11_pour 32 = .ok (.invokevirtual 123, 3) := by decide +kernel
theorem dX11_pour_35 : decode cX11_pour 35 = .ok (.ireturn, 1) := by decide +kernel
theorem dX11_pour_36 : decode cX11_pour 36 = .ok (.aload_n 0, 1) := by decide +kernel
theorem dX11_pour_37 : decode cX11_pour 37 = .ok (.getfield 11, 3) := by decide +kernel
theorem dX11_pour_40 : decode cX11_pour 40 = .ok (.iload_n 1, 1) := by decide +kernel
theorem dX11_pour_41 : decode cX11_pour 41 = .ok (.aaload, 1) := by decide +kernel
theorem dX11_pour_42 : decode cX11_pour 42 = .ok (.astore 6, 2) := by decide +kernel
theorem dX11_pour_44 : decode cX11_pour 44 = .ok (.aload_n 0, 1) := by decide +kernel
theorem dX11_pour_45 : decode cX11_pour 45 = .ok (.getfield 11, 3) := by decide +kernel
theorem dX11_pour_48 : decode cX11_pour 48 = .ok (.iload_n 3, 1) := by decide +kernel
theorem dX11_pour_49 : decode cX11_pour 49 = .ok (.aaload, 1) := by decide +kernel
theorem dX11_pour_50 : decode cX11_pour 50 = .ok (.astore 7, 2) := by decide +kernel
theorem dX11_pour_52 : decode cX11_pour 52 = .ok (.aload 6, 2) := by decide +kernel
theorem dX11_pour_54 : decode cX11_pour 54 = .ok (.getfield 150, 3) := by decide +kernel
theorem dX11_pour_57 : decode cX11_pour 57 = .ok (.ifCond .eq 11, 3) := by decide +kernel
theorem dX11_pour_60 : decode cX11_pour 60 = .ok (.aload 7, 2) := by decide +kernel
theorem dX11_pour_62 : decode cX11_pour 62 = .ok (.getfield 150, 3) := by decide +kernel
theorem dX11_pour_65 : decode cX11_pour 65 = .ok (.ifCond .ne 9, 3) := by decide +kernel
theorem dX11_pour_68 : decode cX11_pour 68 = .ok (.aload_n 0, 1) := by decide +kernel
theorem dX11_pour_69 : decode cX11_pour 69 = .ok (.iconst 2, 1) := by decide +kernel
theorem dX11_pour_70 : decode cX11_pour 70 = .ok (.invokevirtual 123, 3) := by decide +kernel
theorem dX11_pour_73 : decode cX11_pour 73 = .ok (.ireturn, 1) := by decide +kernel
theorem dX11_pour_74 : decode cX11_pour 74 = .ok (.aload 6, 2) := by decide +kernel
theorem dX11_pour_76 : decode cX11_pour 76 = .ok (.getfield 154, 3) := by decide +kernel
theorem dX11_pour_79 : decode cX11_pour 79 = .ok (.aload 7, 2) := by decide +kernel
theorem dX11_pour_81 : decode cX11_pour 81 = .ok (.getfield 154, 3) := by decide +kernel
theorem dX11_pour_84 : decode cX11_pour 84 = .ok (.if_icmp .eq 10, 3) := by decide +kernel
theorem dX11_pour_87 : decode cX11_pour 87 = .ok (.aload_n 0, 1) := by decide +kernel
theorem dX11_pour_88 : decode cX11_pour 88 = .ok (.bipush 8, 2) := by decide +kernel
theorem dX11_pour_90 : decode cX11_pour 90 = .ok (.invokevirtual 123, 3) := by decide +kernel
theorem dX11_pour_93 : decode cX11_pour 93 = .ok (.ireturn, 1) := by decide +kernel
theorem dX11_pour_94 : decode cX11_pour 94 = .ok (.iload 5, 2) := by decide +kernel
theorem dX11_pour_96 : decode cX11_pour 96 = .ok (.aload 6, 2) := by decide +kernel
theorem dX11_pour_98 : decode cX11_pour 98 = .ok (.getfield 157, 3) := by decide +kernel
theorem dX11_pour_101 : decode cX11_pour 101 = .ok (.iload_n 2, 1) := by decide +kernel
theorem dX11_pour_102 : decode cX11_pour 102 = .ok (.isub, 1) := by decide +kernel
theorem dX11_pour_103 : decode cX11_pour 103 = .ok (.if_icmp .gt 16, 3) := by decide +kernel
theorem dX11_pour_106 : decode cX11_pour 106 = .ok (.iload 5, 2) := by decide +kernel
theorem dX11_pour_108 : decode cX11_pour 108 = .ok (.aload 7, 2) := by decide +kernel
theorem dX11_pour_110 : decode cX11_pour 110 = .ok (.getfield 157, 3) := by decide +kernel
theorem dX11_pour_113 : decode cX11_pour 113 = .ok (.iload 4, 2) := by decide +kernel
theorem dX11_pour_115 : decode cX11_pour 115 = .ok (.isub, 1) := by decide +kernel
theorem dX11_pour_116 : decode cX11_pour 116 = .ok (.if_icmp .le 9, 3) := by decide +kernel
theorem dX11_pour_119 : decode cX11_pour 119 = .ok (.aload_n 0, 1) := by decide +kernel
theorem dX11_pour_120 : decode cX11_pour 120 = .ok (.iconst 3, 1) := by decide +kernel
theorem dX11_pour_121 : decode cX11_pour 121 = .ok (.invokevirtual 123, 3) := by decide +kernel
theorem dX11_pour_124 : decode cX11_pour 124 = .ok (.ireturn, 1) := by decide +kernel
theorem dX11_pour_125 : decode cX11_pour 125 = .ok (.aload 6, 2) := by decide +kernel
theorem dX11_pour_127 : decode cX11_pour 127 = .ok (.getfield 146, 3) := by decide +kernel
theorem dX11_pour_130 : decode cX11_pour 130 = .ok (.iload_n 2, 1) := by decide +kernel
theorem dX11_pour_131 : decode cX11_pour 131 = .ok (.aload 7, 2) := by decide +kernel
theorem dX11_pour_133 : decode cX11_pour 133 = .ok (.getfield 146, 3) := by decide +kernel
theorem dX11_pour_136 : decode cX11_pour 136 = .ok (.iload 4, 2) := by decide +kernel
theorem dX11_pour_138 : decode cX11_pour 138 = .ok (.iload 5, 2) := by decide +kernel
theorem dX11_pour_140 : decode cX11_pour 140 = .ok (.invokestatic 160, 3) := by decide +kernel
theorem dX11_pour_143 : decode cX11_pour 143 = .ok (.aload_n 0, 1) := by decide +kernel
theorem dX11_pour_144 : decode cX11_pour 144 = .ok (.invokevirtual 130, 3) := by decide +kernel
theorem dX11_pour_147 : decode cX11_pour 147 = .ok (.ireturn, 1) := by decide +kernel
theorem dX11_feed_0 : decode cX11_feed 0 = .ok (.aload_n 0, 1) := by decide +kernel
theorem dX11_feed_1 : decode cX11_feed 1 = .ok (.getfield 18, 3) := by decide +kernel
theorem dX11_feed_4 : decode cX11_feed 4 = .ok (.getfield 166, 3) := by decide +kernel
theorem dX11_feed_7 : decode cX11_feed 7 = .ok (.sipush 880, 3) := by decide +kernel
theorem dX11_feed_10 : decode cX11_feed 10 = .ok (.if_icmp .le 5, 3) := by decide +kernel
theorem dX11_feed_13 : decode cX11_feed 13 = .ok (.iconst (-1), 1) := by decide +kernel
theorem dX11_feed_14 : decode cX11_feed 14 = .ok (.ireturn, 1) := by decide +kernel
theorem dX11_feed_15 : decode cX11_feed 15 = .ok (.aload_n 0, 1) := by decide +kernel
theorem dX11_feed_16 : decode cX11_feed 16 = .ok (.getfield 18, 3) := by decide +kernel
theorem dX11_feed_19 : decode cX11_feed 19 = .ok (.iload_n 1, 1) := by decide +kernel
theorem dX11_feed_20 : decode cX11_feed 20 = .ok (.invokevirtual 169, 3) := by decide +kernel
theorem dX11_feed_23 : decode cX11_feed 23 = .ok (.aload_n 0, 1) := by decide +kernel
theorem dX11_feed_24 : decode cX11_feed 24 = .ok (.getfield 18, 3) := by decide +kernel
theorem dX11_feed_27 : decode cX11_feed 27 = .ok (.iload_n 2, 1) := by decide +kernel
theorem dX11_feed_28 : decode cX11_feed 28 = .ok (.invokevirtual 169, 3) := by decide +kernel
theorem dX11_feed_31 : decode cX11_feed 31 = .ok (.aload_n 0, 1) := by decide +kernel
theorem dX11_feed_32 : decode cX11_feed 32 = .ok (.getfield 18, 3) := by decide +kernel
theorem dX11_feed_35 : decode cX11_feed 35 = .ok (.iload_n 3, 1) := by decide +kernel
theorem dX11_feed_36 : decode cX11_feed 36 = .ok (.invokevirtual 169, 3) := by decide +kernel
theorem dX11_feed_39 : decode cX11_feed 39 = .ok (.aload_n 0, 1) := by decide +kernel
theorem dX11_feed_40 : decode cX11_feed 40 = .ok (.getfield 18, 3) := by decide +kernel
theorem dX11_feed_43 : decode cX11_feed 43 = .ok (.iload 4, 2) := by decide +kernel
theorem dX11_feed_45 : decode cX11_feed 45 = .ok (.invokevirtual 169, 3) := by decide +kernel
theorem dX11_feed_48 : decode cX11_feed 48 = .ok (.aload_n 0, 1) := by decide +kernel
theorem dX11_feed_49 : decode cX11_feed 49 = .ok (.getfield 18, 3) := by decide +kernel
theorem dX11_feed_52 : decode cX11_feed 52 = .ok (.iload 5, 2) := by decide +kernel
theorem dX11_feed_54 : decode cX11_feed 54 = .ok (.invokevirtual 169, 3) := by decide +kernel
theorem dX11_feed_57 : decode cX11_feed 57 = .ok (.aload_n 0, 1) := by decide +kernel
theorem dX11_feed_58 : decode cX11_feed 58 = .ok (.getfield 18, 3) := by decide +kernel
theorem dX11_feed_61 : decode cX11_feed 61 = .ok (.getfield 166, 3) := by decide +kernel
theorem dX11_feed_64 : decode cX11_feed 64 = .ok (.ireturn, 1) := by decide +kernel
theorem dX11_shelf_0 : decode cX11_shelf 0 = .ok (.iload_n 1, 1) := by decide +kernel
theorem dX11_shelf_1 : decode cX11_shelf 1 = .ok (.ifCond .lt 14, 3) := by decide +kernel
theorem dX11_shelf_4 : decode cX11_shelf 4 = .ok (.iload_n 1, 1) := by decide +kernel
theorem dX11_shelf_5 : decode cX11_shelf 5 = .ok (.aload_n 0, 1) := by decide +kernel
theorem dX11_shelf_6 : decode cX11_shelf 6 = .ok (.getfield 18, 3) := by decide +kernel
theorem dX11_shelf_9 : decode cX11_shelf 9 = .ok (.getfield 166, 3) := by decide +kernel
theorem dX11_shelf_12 : decode cX11_shelf 12 = .ok (.if_icmp .le 9, 3) := by decide +kernel
theorem dX11_shelf_15 : decode cX11_shelf 15 = .ok (.aload_n 0, 1) := by decide +kernel
theorem dX11_shelf_16 : decode cX11_shelf 16 = .ok (.iconst 1, 1) := by decide +kernel
theorem dX11_shelf_17 : decode cX11_shelf 17 = .ok (.invokevirtual 142, 3) := by decide +kernel
theorem dX11_shelf_20 : decode cX11_shelf 20 = .ok (.ireturn, 1) := by decide +kernel
theorem dX11_shelf_21 : decode cX11_shelf 21 = .ok (.aload_n 0, 1) := by decide +kernel
theorem dX11_shelf_22 : decode cX11_shelf 22 = .ok (.getfield 18, 3) := by decide +kernel
theorem dX11_shelf_25 : decode cX11_shelf 25 = .ok (.iload_n 1, 1) := by decide +kernel
theorem dX11_shelf_26 : decode cX11_shelf 26 = .ok (.invokevirtual 172, 3) := by decide +kernel
theorem dX11_shelf_29 : decode cX11_shelf 29 = .ok (.aload_n 0, 1) := by decide +kernel
theorem dX11_shelf_30 : decode cX11_shelf 30 = .ok (.getfield 34, 3) := by decide +kernel
theorem dX11_shelf_33 : decode cX11_shelf 33 = .ok (.invokevirtual 175, 3) := by decide +kernel
theorem dX11_shelf_36 : decode cX11_shelf 36 = .ok (.ifCond .ne 10, 3) := by decide +kernel
theorem dX11_shelf_39 : decode cX11_shelf 39 = .ok (.aload_n 0, 1) := by decide +kernel
theorem dX11_shelf_40 : decode cX11_shelf 40 = .ok (.bipush 9, 2) := by decide +kernel
theorem dX11_shelf_42 : decode cX11_shelf 42 = .ok (.invokevirtual 142, 3) := by decide +kernel
theorem dX11_shelf_45 : decode cX11_shelf 45 = .ok (.ireturn, 1) := by decide +kernel
theorem dX11_shelf_46 : decode cX11_shelf 46 = .ok (.aload_n 0, 1) := by decide +kernel
theorem dX11_shelf_47 : decode cX11_shelf 47 = .ok (.getfield 25, 3) := by decide +kernel
theorem dX11_shelf_50 : decode cX11_shelf 50 = .ok (.aload_n 0, 1) := by decide +kernel
theorem dX11_shelf_51 : decode cX11_shelf 51 = .ok (.getfield 34, 3) := by decide +kernel
theorem dX11_shelf_54 : decode cX11_shelf 54 = .ok (.getfield 178, 3) := by decide +kernel
theorem dX11_shelf_57 : decode cX11_shelf 57 = .ok (.invokevirtual 179, 3) := by decide +kernel
theorem dX11_shelf_60 : decode cX11_shelf 60 = .ok (.aload_n 0, 1) := by decide +kernel
theorem dX11_shelf_61 : decode cX11_shelf 61 = .ok (.aload_n 0, 1) := by decide +kernel
theorem dX11_shelf_62 : decode cX11_shelf 62 = .ok (.getfield 25, 3) := by decide +kernel
theorem dX11_shelf_65 : decode cX11_shelf 65 = .ok (.getfield 40, 3) := by decide +kernel
theorem dX11_shelf_68 : decode cX11_shelf 68 = .ok (.getfield 182, 3) := by decide +kernel
theorem dX11_shelf_71 : decode cX11_shelf 71 = .ok (.invokevirtual 187, 3) := by decide +kernel
theorem dX11_shelf_74 : decode cX11_shelf 74 = .ok (.ireturn, 1) := by decide +kernel
theorem dX11_days_0 : decode cX11_days 0 = .ok (.iload_n 1, 1) := by decide +kernel
theorem dX11_days_1 : decode cX11_days 1 = .ok (.ifCond .lt 21, 3) := by decide +kernel
theorem dX11_days_4 : decode cX11_days 4 = .ok (.iload_n 1, 1) := by decide +kernel
theorem dX11_days_5 : decode cX11_days 5 = .ok (.aload_n 0, 1) := by decide +kernel
theorem dX11_days_6 : decode cX11_days 6 = .ok (.getfield 18, 3) := by decide +kernel
theorem dX11_days_9 : decode cX11_days 9 = .ok (.getfield 166, 3) := by decide +kernel
theorem dX11_days_12 : decode cX11_days 12 = .ok (.if_icmp .gt 10, 3) := by decide +kernel
theorem dX11_days_15 : decode cX11_days 15 = .ok (.iload_n 1, 1) := by decide +kernel
theorem dX11_days_16 : decode cX11_days 16 = .ok (.sipush 300, 3) := by decide +kernel
theorem dX11_days_19 : decode cX11_days 19 = .ok (.if_icmp .le 9, 3) := by decide +kernel
theorem dX11_days_22 : decode cX11_days 22 = .ok (.aload_n 0, 1) := by decide +kernel
theorem dX11_days_23 : decode cX11_days 23 = .ok (.iconst 1, 1) := by decide +kernel
theorem dX11_days_24 : decode cX11_days 24 = .ok (.invokevirtual 142, 3) := by decide +kernel
theorem dX11_days_27 : decode cX11_days 27 = .ok (.ireturn, 1) := by decide +kernel
theorem dX11_days_28 : decode cX11_days 28 = .ok (.aload_n 0, 1) := by decide +kernel
theorem dX11_days_29 : decode cX11_days 29 = .ok (.getfield 18, 3) := by decide +kernel
theorem dX11_days_32 : decode cX11_days 32 = .ok (.iload_n 1, 1) := by decide +kernel
theorem dX11_days_33 : decode cX11_days 33 = .ok (.invokevirtual 172, 3) := by decide +kernel
theorem dX11_days_36 : decode cX11_days 36 = .ok (.aload_n 0, 1) := by decide +kernel
theorem dX11_days_37 : decode cX11_days 37 = .ok (.getfield 47, 3) := by decide +kernel
theorem dX11_days_40 : decode cX11_days 40 = .ok (.invokevirtual 190, 3) := by decide +kernel
theorem dX11_days_43 : decode cX11_days 43 = .ok (.ifCond .ne 10, 3) := by decide +kernel
theorem dX11_days_46 : decode cX11_days 46 = .ok (.aload_n 0, 1) := by decide +kernel
theorem dX11_days_47 : decode cX11_days 47 = .ok (.bipush 9, 2) := by decide +kernel
theorem dX11_days_49 : decode cX11_days 49 = .ok (.invokevirtual 142, 3) := by decide +kernel
theorem dX11_days_52 : decode cX11_days 52 = .ok (.ireturn, 1) := by decide +kernel
theorem dX11_days_53 : decode cX11_days 53 = .ok (.aload_n 0, 1) := by decide +kernel
theorem dX11_days_54 : decode cX11_days 54 = .ok (.getfield 25, 3) := by decide +kernel
theorem dX11_days_57 : decode cX11_days 57 = .ok (.getfield 191, 3) := by decide +kernel
theorem dX11_days_60 : decode cX11_days 60 = .ok (.aload_n 0, 1) := by decide +kernel
theorem dX11_days_61 : decode cX11_days 61 = .ok (.getfield 47, 3) := by decide +kernel
theorem dX11_days_64 : decode cX11_days 64 = .ok (.getfield 195, 3) := by decide +kernel
theorem dX11_days_67 : decode cX11_days 67 = .ok (.invokevirtual 196, 3) := by decide +kernel
theorem dX11_days_70 : decode cX11_days 70 = .ok (.aload_n 0, 1) := by decide +kernel
theorem dX11_days_71 : decode cX11_days 71 = .ok (.aload_n 0, 1) := by decide +kernel
theorem dX11_days_72 : decode cX11_days 72 = .ok (.getfield 25, 3) := by decide +kernel
theorem dX11_days_75 : decode cX11_days 75 = .ok (.getfield 191, 3) := by decide +kernel
theorem dX11_days_78 : decode cX11_days 78 = .ok (.getfield 202, 3) := by decide +kernel
theorem dX11_days_81 : decode cX11_days 81 = .ok (.invokevirtual 187, 3) := by decide +kernel
theorem dX11_days_84 : decode cX11_days 84 = .ok (.ireturn, 1) := by decide +kernel
theorem dX11_fault_0 : decode cX11_fault 0 = .ok (.iload_n 1, 1) := by decide +kernel
theorem dX11_fault_1 : decode cX11_fault 1 = .ok (.ifCond .ne 11, 3) := by decide +kernel
theorem dX11_fault_4 : decode cX11_fault 4 = .ok (.aload_n 0, 1) := by decide +kernel
theorem dX11_fault_5 : decode cX11_fault 5 = .ok (.getfield 18, 3) := by decide +kernel
theorem dX11_fault_8 : decode cX11_fault 8 = .ok (.getfield 205, 3) := by decide +kernel
theorem dX11_fault_11 : decode cX11_fault 11 = .ok (.ireturn, 1) := by decide +kernel
theorem dX11_fault_12 : decode cX11_fault 12 = .ok (.iload_n 1, 1) := by decide +kernel
theorem dX11_fault_13 : decode cX11_fault 13 = .ok (.iconst 1, 1) := by decide +kernel
theorem dX11_fault_14 : decode cX11_fault 14 = .ok (.if_icmp .ne 13, 3) := by decide +kernel
theorem dX11_fault_17 : decode cX11_fault 17 = .ok (.aload_n 0, 1) := by decide +kernel
theorem dX11_fault_18 : decode cX11_fault 18 = .ok (.getfield 18, 3) := by decide +kernel
theorem dX11_fault_21 : decode cX11_fault 21 = .ok (.getfield 208, 3) := by decide +kernel
theorem dX11_fault_24 : decode cX11_fault 24 = .ok (.goto 4, 3) := by decide +kernel
theorem dX11_fault_27 : decode cX11_fault 27 = .ok (.iconst (-1), 1) := by decide +kernel
theorem dX11_fault_28 : decode cX11_fault 28 = .ok (.ireturn, 1) := by decide +kernel
theorem dX11_told_0 : decode cX11_told 0 = .ok (.iload_n 1, 1) := by decide +kernel
theorem dX11_told_1 : decode cX11_told 1 = .ok (.tableswitch 158 0 7 #[47, 62, 77, 92, 107, 122, 134, 146], 47) := by decide +kernel
theorem dX11_told_48 : decode cX11_told 48 = .ok (.aload_n 0, 1) := by decide +kernel
theorem dX11_told_49 : decode cX11_told 49 = .ok (.aload_n 0, 1) := by decide +kernel
theorem dX11_told_50 : decode cX11_told 50 = .ok (.getfield 25, 3) := by decide +kernel
theorem dX11_told_53 : decode cX11_told 53 = .ok (.getfield 40, 3) := by decide +kernel
theorem dX11_told_56 : decode cX11_told 56 = .ok (.getfield 211, 3) := by decide +kernel
theorem dX11_told_59 : decode cX11_told 59 = .ok (.invokevirtual 187, 3) := by decide +kernel
theorem dX11_told_62 : decode cX11_told 62 = .ok (.ireturn, 1) := by decide +kernel
theorem dX11_told_63 : decode cX11_told 63 = .ok (.aload_n 0, 1) := by decide +kernel
theorem dX11_told_64 : decode cX11_told 64 = .ok (.aload_n 0, 1) := by decide +kernel
theorem dX11_told_65 : decode cX11_told 65 = .ok (.getfield 25, 3) := by decide +kernel
theorem dX11_told_68 : decode cX11_told 68 = .ok (.getfield 40, 3) := by decide +kernel
theorem dX11_told_71 : decode cX11_told 71 = .ok (.getfield 214, 3) := by decide +kernel
theorem dX11_told_74 : decode cX11_told 74 = .ok (.invokevirtual 187, 3) := by decide +kernel
theorem dX11_told_77 : decode cX11_told 77 = .ok (.ireturn, 1) := by decide +kernel
theorem dX11_told_78 : decode cX11_told 78 = .ok (.aload_n 0, 1) := by decide +kernel
theorem dX11_told_79 : decode cX11_told 79 = .ok (.aload_n 0, 1) := by decide +kernel
theorem dX11_told_80 : decode cX11_told 80 = .ok (.getfield 25, 3) := by decide +kernel
theorem dX11_told_83 : decode cX11_told 83 = .ok (.getfield 40, 3) := by decide +kernel
theorem dX11_told_86 : decode cX11_told 86 = .ok (.getfield 217, 3) := by decide +kernel
theorem dX11_told_89 : decode cX11_told 89 = .ok (.invokevirtual 187, 3) := by decide +kernel
theorem dX11_told_92 : decode cX11_told 92 = .ok (.ireturn, 1) := by decide +kernel
theorem dX11_told_93 : decode cX11_told 93 = .ok (.aload_n 0, 1) := by decide +kernel
theorem dX11_told_94 : decode cX11_told 94 = .ok (.aload_n 0, 1) := by decide +kernel
theorem dX11_told_95 : decode cX11_told 95 = .ok (.getfield 25, 3) := by decide +kernel
theorem dX11_told_98 : decode cX11_told 98 = .ok (.getfield 40, 3) := by decide +kernel
theorem dX11_told_101 : decode cX11_told 101 = .ok (.getfield 220, 3) := by decide +kernel
theorem dX11_told_104 : decode cX11_told 104 = .ok (.invokevirtual 187, 3) := by decide +kernel
theorem dX11_told_107 : decode cX11_told 107 = .ok (.ireturn, 1) := by decide +kernel
theorem dX11_told_108 : decode cX11_told 108 = .ok (.aload_n 0, 1) := by decide +kernel
theorem dX11_told_109 : decode cX11_told 109 = .ok (.aload_n 0, 1) := by decide +kernel
theorem dX11_told_110 : decode cX11_told 110 = .ok (.getfield 25, 3) := by decide +kernel
theorem dX11_told_113 : decode cX11_told 113 = .ok (.getfield 40, 3) := by decide +kernel
theorem dX11_told_116 : decode cX11_told 116 = .ok (.getfield 182, 3) := by decide +kernel
theorem dX11_told_119 : decode cX11_told 119 = .ok (.invokevirtual 187, 3) := by decide +kernel
theorem dX11_told_122 : decode cX11_told 122 = .ok (.ireturn, 1) := by decide +kernel
theorem dX11_told_123 : decode cX11_told 123 = .ok (.aload_n 0, 1) := by decide +kernel
theorem dX11_told_124 : decode cX11_told 124 = .ok (.aload_n 0, 1) := by decide +kernel
theorem dX11_told_125 : decode cX11_told 125 = .ok (.getfield 25, 3) := by decide +kernel
theorem dX11_told_128 : decode cX11_told 128 = .ok (.getfield 223, 3) := by decide +kernel
theorem dX11_told_131 : decode cX11_told 131 = .ok (.invokevirtual 187, 3) := by decide +kernel
theorem dX11_told_134 : decode cX11_told 134 = .ok (.ireturn, 1) := by decide +kernel
theorem dX11_told_135 : decode cX11_told 135 = .ok (.aload_n 0, 1) := by decide +kernel
theorem dX11_told_136 : decode cX11_told 136 = .ok (.aload_n 0, 1) := by decide +kernel
theorem dX11_told_137 : decode cX11_told 137 = .ok (.getfield 25, 3) := by decide +kernel
theorem dX11_told_140 : decode cX11_told 140 = .ok (.getfield 226, 3) := by decide +kernel
theorem dX11_told_143 : decode cX11_told 143 = .ok (.invokevirtual 187, 3) := by decide +kernel
theorem dX11_told_146 : decode cX11_told 146 = .ok (.ireturn, 1) := by decide +kernel
theorem dX11_told_147 : decode cX11_told 147 = .ok (.aload_n 0, 1) := by decide +kernel
theorem dX11_told_148 : decode cX11_told 148 = .ok (.aload_n 0, 1) := by decide +kernel
theorem dX11_told_149 : decode cX11_told 149 = .ok (.getfield 25, 3) := by decide +kernel
theorem dX11_told_152 : decode cX11_told 152 = .ok (.getfield 229, 3) := by decide +kernel
theorem dX11_told_155 : decode cX11_told 155 = .ok (.invokevirtual 187, 3) := by decide +kernel
theorem dX11_told_158 : decode cX11_told 158 = .ok (.ireturn, 1) := by decide +kernel
theorem dX11_told_159 : decode cX11_told 159 = .ok (.aload_n 0, 1) := by decide +kernel
theorem dX11_told_160 : decode cX11_told 160 = .ok (.iconst 1, 1) := by decide +kernel
theorem dX11_told_161 : decode cX11_told 161 = .ok (.invokevirtual 142, 3) := by decide +kernel
theorem dX11_told_164 : decode cX11_told 164 = .ok (.ireturn, 1) := by decide +kernel
theorem dX11_row_0 : decode cX11_row 0 = .ok (.aload_n 0, 1) := by decide +kernel
theorem dX11_row_1 : decode cX11_row 1 = .ok (.iload_n 1, 1) := by decide +kernel
theorem dX11_row_2 : decode cX11_row 2 = .ok (.invokevirtual 232, 3) := by decide +kernel
theorem dX11_row_5 : decode cX11_row 5 = .ok (.ifCond .ne 9, 3) := by decide +kernel
theorem dX11_row_8 : decode cX11_row 8 = .ok (.aload_n 0, 1) := by decide +kernel
theorem dX11_row_9 : decode cX11_row 9 = .ok (.iconst 1, 1) := by decide +kernel
theorem dX11_row_10 : decode cX11_row 10 = .ok (.invokevirtual 142, 3) := by decide +kernel
theorem dX11_row_13 : decode cX11_row 13 = .ok (.ireturn, 1) := by decide +kernel
theorem dX11_row_14 : decode cX11_row 14 = .ok (.iload_n 2, 1) := by decide +kernel
theorem dX11_row_15 : decode cX11_row 15 = .ok (.ifCond .lt 17, 3) := by decide +kernel
theorem dX11_row_18 : decode cX11_row 18 = .ok (.iload_n 2, 1) := by decide +kernel
theorem dX11_row_19 : decode cX11_row 19 = .ok (.aload_n 0, 1) := by decide +kernel
theorem dX11_row_20 : decode cX11_row 20 = .ok (.getfield 25, 3) := by decide +kernel
theorem dX11_row_23 : decode cX11_row 23 = .ok (.getfield 40, 3) := by decide +kernel
theorem dX11_row_26 : decode cX11_row 26 = .ok (.getfield 220, 3) := by decide +kernel
theorem dX11_row_29 : decode cX11_row 29 = .ok (.if_icmp .lt 10, 3) := by decide +kernel
theorem dX11_row_32 : decode cX11_row 32 = .ok (.aload_n 0, 1) := by decide +kernel
theorem dX11_row_33 : decode cX11_row 33 = .ok (.bipush 6, 2) := by decide +kernel
theorem dX11_row_35 : decode cX11_row 35 = .ok (.invokevirtual 142, 3) := by decide +kernel
theorem dX11_row_38 : decode cX11_row 38 = .ok (.ireturn, 1) := by decide +kernel
theorem dX11_row_39 : decode cX11_row 39 = .ok (.aload_n 0, 1) := by decide +kernel
theorem dX11_row_40 : decode cX11_row 40 = .ok (.aload_n 0, 1) := by decide +kernel
theorem dX11_row_41 : decode cX11_row 41 = .ok (.getfield 25, 3) := by decide +kernel
theorem dX11_row_44 : decode cX11_row 44 = .ok (.getfield 40, 3) := by decide +kernel
theorem dX11_row_47 : decode cX11_row 47 = .ok (.iload_n 1, 1) := by decide +kernel
theorem dX11_row_48 : decode cX11_row 48 = .ok (.iload_n 2, 1) := by decide +kernel
theorem dX11_row_49 : decode cX11_row 49 = .ok (.invokevirtual 235, 3) := by decide +kernel
theorem dX11_row_52 : decode cX11_row 52 = .ok (.invokevirtual 187, 3) := by decide +kernel
theorem dX11_row_55 : decode cX11_row 55 = .ok (.ireturn, 1) := by decide +kernel
theorem dX11_places_0 : decode cX11_places 0 = .ok (.aload_n 0, 1) := by decide +kernel
theorem dX11_places_1 : decode cX11_places 1 = .ok (.iload_n 1, 1) := by decide +kernel
theorem dX11_places_2 : decode cX11_places 2 = .ok (.invokevirtual 232, 3) := by decide +kernel
theorem dX11_places_5 : decode cX11_places 5 = .ok (.ifCond .eq 22, 3) := by decide +kernel
theorem dX11_places_8 : decode cX11_places 8 = .ok (.aload_n 0, 1) := by decide +kernel
theorem dX11_places_9 : decode cX11_places 9 = .ok (.aload_n 0, 1) := by decide +kernel
theorem dX11_places_10 : decode cX11_places 10 = .ok (.getfield 25, 3) := by decide +kernel
theorem dX11_places_13 : decode cX11_places 13 = .ok (.getfield 40, 3) := by decide +kernel
theorem dX11_places_16 : decode cX11_places 16 = .ok (.getfield 238, 3) := by decide +kernel
theorem dX11_places_19 : decode cX11_places 19 = .ok (.iload_n 1, 1) := by decide +kernel
theorem dX11_places_20 : decode cX11_places 20 = .ok (.iaload, 1) := by decide +kernel
theorem dX11_places_21 : decode cX11_places 21 = .ok (.invokevirtual 187, 3) := by decide +kernel
theorem dX11_places_24 : decode cX11_places 24 = .ok (.goto 8, 3) := by decide +kernel
theorem dX11_places_27 : decode cX11_places 27 = .ok (.aload_n 0, 1) := by decide +kernel
theorem dX11_places_28 : decode cX11_places 28 = .ok (.iconst 1, 1) := by decide +kernel
theorem dX11_places_29 : decode cX11_places 29 = .ok (.invokevirtual 142, 3) := by decide +kernel
theorem dX11_places_32 : decode cX11_places 32 = .ok (.ireturn, 1) := by decide +kernel
theorem dX11_reach_0 : decode cX11_reach 0 = .ok (.aload_n 0, 1) := by decide +kernel
theorem dX11_reach_1 : decode cX11_reach 1 = .ok (.iload_n 1, 1) := by decide +kernel
theorem dX11_reach_2 : decode cX11_reach 2 = .ok (.invokevirtual 241, 3) := by decide +kernel
theorem dX11_reach_5 : decode cX11_reach 5 = .ok (.ifCond .eq 11, 3) := by decide +kernel
theorem dX11_reach_8 : decode cX11_reach 8 = .ok (.aload_n 0, 1) := by decide +kernel
theorem dX11_reach_9 : decode cX11_reach 9 = .ok (.iload_n 2, 1) := by decide +kernel
theorem dX11_reach_10 : decode cX11_reach 10 = .ok (.invokevirtual 241, 3) := by decide +kernel
theorem dX11_reach_13 : decode cX11_reach 13 = .ok (.ifCond .ne 9, 3) := by decide +kernel
theorem dX11_reach_16 : decode cX11_reach 16 = .ok (.aload_n 0, 1) := by decide +kernel
theorem dX11_reach_17 : decode cX11_reach 17 = .ok (.iconst 1, 1) := by decide +kernel
theorem dX11_reach_18 : decode cX11_reach 18 = .ok (.invokevirtual 142, 3) := by decide +kernel
theorem dX11_reach_21 : decode cX11_reach 21 = .ok (.ireturn, 1) := by decide +kernel
theorem dX11_reach_22 : decode cX11_reach 22 = .ok (.aload_n 0, 1) := by decide +kernel
theorem dX11_reach_23 : decode cX11_reach 23 = .ok (.aload_n 0, 1) := by decide +kernel
theorem dX11_reach_24 : decode cX11_reach 24 = .ok (.getfield 25, 3) := by decide +kernel
theorem dX11_reach_27 : decode cX11_reach 27 = .ok (.iload_n 1, 1) := by decide +kernel
theorem dX11_reach_28 : decode cX11_reach 28 = .ok (.iload_n 2, 1) := by decide +kernel
theorem dX11_reach_29 : decode cX11_reach 29 = .ok (.invokevirtual 244, 3) := by decide +kernel
theorem dX11_reach_32 : decode cX11_reach 32 = .ok (.invokevirtual 248, 3) := by decide +kernel
theorem dX11_reach_35 : decode cX11_reach 35 = .ok (.ireturn, 1) := by decide +kernel
theorem dX11_put_0 : decode cX11_put 0 = .ok (.aload_n 0, 1) := by decide +kernel
theorem dX11_put_1 : decode cX11_put 1 = .ok (.iload_n 1, 1) := by decide +kernel
theorem dX11_put_2 : decode cX11_put 2 = .ok (.invokevirtual 232, 3) := by decide +kernel
theorem dX11_put_5 : decode cX11_put 5 = .ok (.ifCond .eq 31, 3) := by decide +kernel
theorem dX11_put_8 : decode cX11_put 8 = .ok (.aload_n 0, 1) := by decide +kernel
theorem dX11_put_9 : decode cX11_put 9 = .ok (.iload_n 2, 1) := by decide +kernel
theorem dX11_put_10 : decode cX11_put 10 = .ok (.invokevirtual 241, 3) := by decide +kernel
theorem dX11_put_13 : decode cX11_put 13 = .ok (.ifCond .eq 23, 3) := by decide +kernel
theorem dX11_put_16 : decode cX11_put 16 = .ok (.iload_n 3, 1) := by decide +kernel
theorem dX11_put_17 : decode cX11_put 17 = .ok (.ifCond .lt 19, 3) := by decide +kernel
theorem dX11_put_20 : decode cX11_put 20 = .ok (.iload_n 3, 1) := by decide +kernel
theorem dX11_put_21 : decode cX11_put 21 = .ok (.sipush 999, 3) := by decide +kernel
theorem dX11_put_24 : decode cX11_put 24 = .ok (.if_icmp .gt 12, 3) := by decide +kernel
theorem dX11_put_27 : decode cX11_put 27 = .ok (.aload_n 0, 1) := by decide +kernel
theorem dX11_put_28 : decode cX11_put 28 = .ok (.iload 4, 2) := by decide +kernel
theorem dX11_put_30 : decode cX11_put 30 = .ok (.invokevirtual 252, 3) := by decide +kernel
theorem dX11_put_33 : decode cX11_put 33 = .ok (.ifCond .ne 9, 3) := by decide +kernel
theorem dX11_put_36 : decode cX11_put 36 = .ok (.aload_n 0, 1) := by decide +kernel
theorem dX11_put_37 : decode cX11_put 37 = .ok (.iconst 1, 1) := by decide +kernel
theorem dX11_put_38 : decode cX11_put 38 = .ok (.invokevirtual 142, 3) := by decide +kernel
theorem dX11_put_41 : decode cX11_put 41 = .ok (.ireturn, 1) := by decide +kernel
theorem dX11_put_42 : decode cX11_put 42 = .ok (.aload_n 0, 1) := by decide +kernel
theorem dX11_put_43 : decode cX11_put 43 = .ok (.iload_n 1, 1) := by decide +kernel
theorem dX11_put_44 : decode cX11_put 44 = .ok (.iload_n 2, 1) := by decide +kernel
theorem dX11_put_45 : decode cX11_put 45 = .ok (.iload_n 3, 1) := by decide +kernel
theorem dX11_put_46 : decode cX11_put 46 = .ok (.iload 4, 2) := by decide +kernel
theorem dX11_put_48 : decode cX11_put 48 = .ok (.invokevirtual 255, 3) := by decide +kernel
theorem dX11_put_51 : decode cX11_put 51 = .ok (.ireturn, 1) := by decide +kernel
theorem dX11_strike_0 : decode cX11_strike 0 = .ok (.aload_n 0, 1) := by decide +kernel
theorem dX11_strike_1 : decode cX11_strike 1 = .ok (.iload_n 1, 1) := by decide +kernel
theorem dX11_strike_2 : decode cX11_strike 2 = .ok (.invokevirtual 232, 3) := by decide +kernel
theorem dX11_strike_5 : decode cX11_strike 5 = .ok (.ifCond .eq 19, 3) := by decide +kernel
theorem dX11_strike_8 : decode cX11_strike 8 = .ok (.aload_n 0, 1) := by decide +kernel
theorem dX11_strike_9 : decode cX11_strike 9 = .ok (.iload_n 2, 1) := by decide +kernel
theorem dX11_strike_10 : decode cX11_strike 10 = .ok (.invokevirtual 241, 3) := by decide +kernel
theorem dX11_strike_13 : decode cX11_strike 13 = .ok (.ifCond .eq 11, 3) := by decide +kernel
theorem dX11_strike_16 : decode cX11_strike 16 = .ok (.aload_n 0, 1) := by decide +kernel
theorem dX11_strike_17 : decode cX11_strike 17 = .ok (.iload_n 3, 1) := by decide +kernel
theorem dX11_strike_18 : decode cX11_strike 18 = .ok (.invokevirtual 252, 3) := by decide +kernel
theorem dX11_strike_21 : decode cX11_strike 21 = .ok (.ifCond .ne 9, 3) := by decide +kernel
theorem dX11_strike_24 : decode cX11_strike 24 = .ok (.aload_n 0, 1) := by decide +kernel
theorem dX11_strike_25 : decode cX11_strike 25 = .ok (.iconst 1, 1) := by decide +kernel
theorem dX11_strike_26 : decode cX11_strike 26 = .ok (.invokevirtual 142, 3) := by decide +kernel
theorem dX11_strike_29 : decode cX11_strike 29 = .ok (.ireturn, 1) := by decide +kernel
theorem dX11_strike_30 : decode cX11_strike 30 = .ok (.aload_n 0, 1) := by decide +kernel
theorem dX11_strike_31 : decode cX11_strike 31 = .ok (.iload_n 1, 1) := by decide +kernel
theorem dX11_strike_32 : decode cX11_strike 32 = .ok (.iload_n 2, 1) := by decide +kernel
theorem dX11_strike_33 : decode cX11_strike 33 = .ok (.sipush 1000, 3) := by decide +kernel
theorem dX11_strike_36 : decode cX11_strike 36 = .ok (.iload_n 3, 1) := by decide +kernel
theorem dX11_strike_37 : decode cX11_strike 37 = .ok (.invokevirtual 255, 3) := by decide +kernel
theorem dX11_strike_40 : decode cX11_strike 40 = .ok (.ireturn, 1) := by decide +kernel
theorem dX11_add_0 : decode cX11_add 0 = .ok (.aload_n 0, 1) := by decide +kernel
theorem dX11_add_1 : decode cX11_add 1 = .ok (.iload_n 1, 1) := by decide +kernel
theorem dX11_add_2 : decode cX11_add 2 = .ok (.invokevirtual 232, 3) := by decide +kernel
theorem dX11_add_5 : decode cX11_add 5 = .ok (.ifCond .eq 23, 3) := by decide +kernel
theorem dX11_add_8 : decode cX11_add 8 = .ok (.aload_n 0, 1) := by decide +kernel
theorem dX11_add_9 : decode cX11_add 9 = .ok (.iload_n 2, 1) := by decide +kernel
theorem dX11_add_10 : decode cX11_add 10 = .ok (.invokevirtual 241, 3) := by decide +kernel
theorem dX11_add_13 : decode cX11_add 13 = .ok (.ifCond .eq 15, 3) := by decide +kernel
theorem dX11_add_16 : decode cX11_add 16 = .ok (.iload_n 3, 1) := by decide +kernel
theorem dX11_add_17 : decode cX11_add 17 = .ok (.iconst 1, 1) := by decide +kernel
theorem dX11_add_18 : decode cX11_add 18 = .ok (.if_icmp .lt 10, 3) := by decide +kernel
theorem dX11_add_21 : decode cX11_add 21 = .ok (.iload_n 3, 1) := by decide +kernel
theorem dX11_add_22 : decode cX11_add 22 = .ok (.sipush 999, 3) := by decide +kernel
theorem dX11_add_25 : decode cX11_add 25 = .ok (.if_icmp .le 9, 3) := by decide +kernel
theorem dX11_add_28 : decode cX11_add 28 = .ok (.aload_n 0, 1) := by decide +kernel
theorem dX11_add_29 : decode cX11_add 29 = .ok (.iconst 1, 1) := by decide +kernel
theorem dX11_add_30 : decode cX11_add 30 = .ok (.invokevirtual 142, 3) := by decide +kernel
theorem dX11_add_33 : decode cX11_add 33 = .ok (.ireturn, 1) := by decide +kernel
theorem dX11_add_34 : decode cX11_add 34 = .ok (.aload_n 0, 1) := by decide +kernel
theorem dX11_add_35 : decode cX11_add 35 = .ok (.aload_n 0, 1) := by decide +kernel
theorem dX11_add_36 : decode cX11_add 36 = .ok (.getfield 25, 3) := by decide +kernel
theorem dX11_add_39 : decode cX11_add 39 = .ok (.iload_n 1, 1) := by decide +kernel
theorem dX11_add_40 : decode cX11_add 40 = .ok (.iload_n 2, 1) := by decide +kernel
theorem dX11_add_41 : decode cX11_add 41 = .ok (.iload_n 3, 1) := by decide +kernel
theorem dX11_add_42 : decode cX11_add 42 = .ok (.invokevirtual 259, 3) := by decide +kernel
theorem dX11_add_45 : decode cX11_add 45 = .ok (.invokevirtual 263, 3) := by decide +kernel
theorem dX11_add_48 : decode cX11_add 48 = .ok (.ireturn, 1) := by decide +kernel
theorem dX11_get_0 : decode cX11_get 0 = .ok (.aload_n 0, 1) := by decide +kernel
theorem dX11_get_1 : decode cX11_get 1 = .ok (.iload_n 1, 1) := by decide +kernel
theorem dX11_get_2 : decode cX11_get 2 = .ok (.invokevirtual 232, 3) := by decide +kernel
theorem dX11_get_5 : decode cX11_get 5 = .ok (.ifCond .eq 19, 3) := by decide +kernel
theorem dX11_get_8 : decode cX11_get 8 = .ok (.aload_n 0, 1) := by decide +kernel
theorem dX11_get_9 : decode cX11_get 9 = .ok (.iload_n 2, 1) := by decide +kernel
theorem dX11_get_10 : decode cX11_get 10 = .ok (.invokevirtual 241, 3) := by decide +kernel
theorem dX11_get_13 : decode cX11_get 13 = .ok (.ifCond .eq 11, 3) := by decide +kernel
theorem dX11_get_16 : decode cX11_get 16 = .ok (.aload_n 0, 1) := by decide +kernel
theorem dX11_get_17 : decode cX11_get 17 = .ok (.iload_n 3, 1) := by decide +kernel
theorem dX11_get_18 : decode cX11_get 18 = .ok (.invokevirtual 252, 3) := by decide +kernel
theorem dX11_get_21 : decode cX11_get 21 = .ok (.ifCond .ne 9, 3) := by decide +kernel
theorem dX11_get_24 : decode cX11_get 24 = .ok (.aload_n 0, 1) := by decide +kernel
theorem dX11_get_25 : decode cX11_get 25 = .ok (.iconst 1, 1) := by decide +kernel
theorem dX11_get_26 : decode cX11_get 26 = .ok (.invokevirtual 142, 3) := by decide +kernel
theorem dX11_get_29 : decode cX11_get 29 = .ok (.ireturn, 1) := by decide +kernel
theorem dX11_get_30 : decode cX11_get 30 = .ok (.aload_n 0, 1) := by decide +kernel
theorem dX11_get_31 : decode cX11_get 31 = .ok (.getfield 25, 3) := by decide +kernel
theorem dX11_get_34 : decode cX11_get 34 = .ok (.iload_n 1, 1) := by decide +kernel
theorem dX11_get_35 : decode cX11_get 35 = .ok (.iload_n 2, 1) := by decide +kernel
theorem dX11_get_36 : decode cX11_get 36 = .ok (.iload_n 3, 1) := by decide +kernel
theorem dX11_get_37 : decode cX11_get 37 = .ok (.aload_n 0, 1) := by decide +kernel
theorem dX11_get_38 : decode cX11_get 38 = .ok (.getfield 87, 3) := by decide +kernel
theorem dX11_get_41 : decode cX11_get 41 = .ok (.invokevirtual 266, 3) := by decide +kernel
theorem dX11_get_44 : decode cX11_get 44 = .ok (.ifCond .ne 10, 3) := by decide +kernel
theorem dX11_get_47 : decode cX11_get 47 = .ok (.aload_n 0, 1) := by decide +kernel
theorem dX11_get_48 : decode cX11_get 48 = .ok (.bipush 7, 2) := by decide +kernel
theorem dX11_get_50 : decode cX11_get 50 = .ok (.invokevirtual 142, 3) := by decide +kernel
theorem dX11_get_53 : decode cX11_get 53 = .ok (.ireturn, 1) := by decide +kernel
theorem dX11_get_54 : decode cX11_get 54 = .ok (.aload_n 0, 1) := by decide +kernel
theorem dX11_get_55 : decode cX11_get 55 = .ok (.aload_n 0, 1) := by decide +kernel
theorem dX11_get_56 : decode cX11_get 56 = .ok (.getfield 25, 3) := by decide +kernel
theorem dX11_get_59 : decode cX11_get 59 = .ok (.aload_n 0, 1) := by decide +kernel
theorem dX11_get_60 : decode cX11_get 60 = .ok (.getfield 87, 3) := by decide +kernel
theorem dX11_get_63 : decode cX11_get 63 = .ok (.iconst 0, 1) := by decide +kernel
theorem dX11_get_64 : decode cX11_get 64 = .ok (.iload_n 1, 1) := by decide +kernel
theorem dX11_get_65 : decode cX11_get 65 = .ok (.aload_n 0, 1) := by decide +kernel
theorem dX11_get_66 : decode cX11_get 66 = .ok (.getfield 91, 3) := by decide +kernel
theorem dX11_get_69 : decode cX11_get 69 = .ok (.iconst 0, 1) := by decide +kernel
theorem dX11_get_70 : decode cX11_get 70 = .ok (.invokevirtual 270, 3) := by decide +kernel
theorem dX11_get_73 : decode cX11_get 73 = .ok (.putfield 112, 3) := by decide +kernel
theorem dX11_get_76 : decode cX11_get 76 = .ok (.aload_n 0, 1) := by decide +kernel
theorem dX11_get_77 : decode cX11_get 77 = .ok (.aload_n 0, 1) := by decide +kernel
theorem dX11_get_78 : decode cX11_get 78 = .ok (.getfield 25, 3) := by decide +kernel
theorem dX11_get_81 : decode cX11_get 81 = .ok (.getfield 40, 3) := by decide +kernel
theorem dX11_get_84 : decode cX11_get 84 = .ok (.iload_n 1, 1) := by decide +kernel
theorem dX11_get_85 : decode cX11_get 85 = .ok (.invokevirtual 274, 3) := by decide +kernel
theorem dX11_get_88 : decode cX11_get 88 = .ok (.ifCond .eq 14, 3) := by decide +kernel
theorem dX11_get_91 : decode cX11_get 91 = .ok (.aload_n 0, 1) := by decide +kernel
theorem dX11_get_92 : decode cX11_get 92 = .ok (.getfield 87, 3) := by decide +kernel
theorem dX11_get_95 : decode cX11_get 95 = .ok (.iconst 0, 1) := by decide +kernel
theorem dX11_get_96 : decode cX11_get 96 = .ok (.invokevirtual 277, 3) := by decide +kernel
theorem dX11_get_99 : decode cX11_get 99 = .ok (.goto 7, 3) := by decide +kernel
theorem dX11_get_102 : decode cX11_get 102 = .ok (.aload_n 0, 1) := by decide +kernel
theorem dX11_get_103 : decode cX11_get 103 = .ok (.getfield 112, 3) := by decide +kernel
theorem dX11_get_106 : decode cX11_get 106 = .ok (.invokevirtual 187, 3) := by decide +kernel
theorem dX11_get_109 : decode cX11_get 109 = .ok (.ireturn, 1) := by decide +kernel
theorem dX11_got_0 : decode cX11_got 0 = .ok (.iload_n 1, 1) := by decide +kernel
theorem dX11_got_1 : decode cX11_got 1 = .ok (.ifCond .lt 11, 3) := by decide +kernel
theorem dX11_got_4 : decode cX11_got 4 = .ok (.iload_n 1, 1) := by decide +kernel
theorem dX11_got_5 : decode cX11_got 5 = .ok (.aload_n 0, 1) := by decide +kernel
theorem dX11_got_6 : decode cX11_got 6 = .ok (.getfield 112, 3) := by decide +kernel
theorem dX11_got_9 : decode cX11_got 9 = .ok (.if_icmp .lt 12, 3) := by decide +kernel
theorem dX11_got_12 : decode cX11_got 12 = .ok (.aload_n 0, 1) := by decide +kernel
theorem dX11_got_13 : decode cX11_got 13 = .ok (.bipush 6, 2) := by decide +kernel
theorem dX11_got_15 : decode cX11_got 15 = .ok (.invokevirtual 142, 3) := by decide +kernel
theorem dX11_got_18 : decode cX11_got 18 = .ok (.goto 13, 3) := by decide +kernel
theorem dX11_got_21 : decode cX11_got 21 = .ok (.aload_n 0, 1) := by decide +kernel
theorem dX11_got_22 : decode cX11_got 22 = .ok (.aload_n 0, 1) := by decide +kernel
theorem dX11_got_23 : decode cX11_got 23 = .ok (.getfield 91, 3) := by decide +kernel
theorem dX11_got_26 : decode cX11_got 26 = .ok (.iload_n 1, 1) := by decide +kernel
theorem dX11_got_27 : decode cX11_got 27 = .ok (.iaload, 1) := by decide +kernel
theorem dX11_got_28 : decode cX11_got 28 = .ok (.invokevirtual 187, 3) := by decide +kernel
theorem dX11_got_31 : decode cX11_got 31 = .ok (.ireturn, 1) := by decide +kernel
theorem dX11_isDone_0 : decode cX11_isDone 0 = .ok (.aload_n 0, 1) := by decide +kernel
theorem dX11_isDone_1 : decode cX11_isDone 1 = .ok (.getfield 115, 3) := by decide +kernel
theorem dX11_isDone_4 : decode cX11_isDone 4 = .ok (.iconst (-1), 1) := by decide +kernel
theorem dX11_isDone_5 : decode cX11_isDone 5 = .ok (.if_icmp .ne 12, 3) := by decide +kernel
theorem dX11_isDone_8 : decode cX11_isDone 8 = .ok (.aload_n 0, 1) := by decide +kernel
theorem dX11_isDone_9 : decode cX11_isDone 9 = .ok (.bipush 6, 2) := by decide +kernel
theorem dX11_isDone_11 : decode cX11_isDone 11 = .ok (.invokevirtual 142, 3) := by decide +kernel
theorem dX11_isDone_14 : decode cX11_isDone 14 = .ok (.goto 11, 3) := by decide +kernel
theorem dX11_isDone_17 : decode cX11_isDone 17 = .ok (.aload_n 0, 1) := by decide +kernel
theorem dX11_isDone_18 : decode cX11_isDone 18 = .ok (.aload_n 0, 1) := by decide +kernel
theorem dX11_isDone_19 : decode cX11_isDone 19 = .ok (.getfield 115, 3) := by decide +kernel
theorem dX11_isDone_22 : decode cX11_isDone 22 = .ok (.invokevirtual 187, 3) := by decide +kernel
theorem dX11_isDone_25 : decode cX11_isDone 25 = .ok (.ireturn, 1) := by decide +kernel
theorem dX11_fall_0 : decode cX11_fall 0 = .ok (.aload_n 0, 1) := by decide +kernel
theorem dX11_fall_1 : decode cX11_fall 1 = .ok (.iload_n 1, 1) := by decide +kernel
theorem dX11_fall_2 : decode cX11_fall 2 = .ok (.invokevirtual 241, 3) := by decide +kernel
theorem dX11_fall_5 : decode cX11_fall 5 = .ok (.ifCond .ne 9, 3) := by decide +kernel
theorem dX11_fall_8 : decode cX11_fall 8 = .ok (.aload_n 0, 1) := by decide +kernel
theorem dX11_fall_9 : decode cX11_fall 9 = .ok (.iconst 1, 1) := by decide +kernel
theorem dX11_fall_10 : decode cX11_fall 10 = .ok (.invokevirtual 123, 3) := by decide +kernel
theorem dX11_fall_13 : decode cX11_fall 13 = .ok (.ireturn, 1) := by decide +kernel
theorem dX11_fall_14 : decode cX11_fall 14 = .ok (.aload_n 0, 1) := by decide +kernel
theorem dX11_fall_15 : decode cX11_fall 15 = .ok (.getfield 25, 3) := by decide +kernel
theorem dX11_fall_18 : decode cX11_fall 18 = .ok (.iload_n 1, 1) := by decide +kernel
theorem dX11_fall_19 : decode cX11_fall 19 = .ok (.iload_n 2, 1) := by decide +kernel
theorem dX11_fall_20 : decode cX11_fall 20 = .ok (.ifCond .ne 7, 3) := by decide +kernel
theorem dX11_fall_23 : decode cX11_fall 23 = .ok (.iconst 1, 1) := by decide +kernel
theorem dX11_fall_24 : decode cX11_fall 24 = .ok (.goto 4, 3) := by decide +kernel
theorem dX11_fall_27 : decode cX11_fall 27 = .ok (.iconst 0, 1) := by decide +kernel
theorem dX11_fall_28 : decode cX11_fall 28 = .ok (.invokevirtual 280, 3) := by decide +kernel
theorem dX11_fall_31 : decode cX11_fall 31 = .ok (.aload_n 0, 1) := by decide +kernel
theorem dX11_fall_32 : decode cX11_fall 32 = .ok (.invokevirtual 130, 3) := by decide +kernel
theorem dX11_fall_35 : decode cX11_fall 35 = .ok (.ireturn, 1) := by decide +kernel
theorem dX11_wipe_0 : decode cX11_wipe 0 = .ok (.aload_n 0, 1) := by decide +kernel
theorem dX11_wipe_1 : decode cX11_wipe 1 = .ok (.iload_n 1, 1) := by decide +kernel
theorem dX11_wipe_2 : decode cX11_wipe 2 = .ok (.invokevirtual 241, 3) := by decide +kernel
theorem dX11_wipe_5 : decode cX11_wipe 5 = .ok (.ifCond .ne 9, 3) := by decide +kernel
theorem dX11_wipe_8 : decode cX11_wipe 8 = .ok (.aload_n 0, 1) := by decide +kernel
theorem dX11_wipe_9 : decode cX11_wipe 9 = .ok (.iconst 1, 1) := by decide +kernel
theorem dX11_wipe_10 : decode cX11_wipe 10 = .ok (.invokevirtual 123, 3) := by decide +kernel
theorem dX11_wipe_13 : decode cX11_wipe 13 = .ok (.ireturn, 1) := by decide +kernel
theorem dX11_wipe_14 : decode cX11_wipe 14 = .ok (.aload_n 0, 1) := by decide +kernel
theorem dX11_wipe_15 : decode cX11_wipe 15 = .ok (.getfield 25, 3) := by decide +kernel
theorem dX11_wipe_18 : decode cX11_wipe 18 = .ok (.iload_n 1, 1) := by decide +kernel
theorem dX11_wipe_19 : decode cX11_wipe 19 = .ok (.invokevirtual 284, 3) := by decide +kernel
theorem dX11_wipe_22 : decode cX11_wipe 22 = .ok (.aload_n 0, 1) := by decide +kernel
theorem dX11_wipe_23 : decode cX11_wipe 23 = .ok (.invokevirtual 130, 3) := by decide +kernel
theorem dX11_wipe_26 : decode cX11_wipe 26 = .ok (.ireturn, 1) := by decide +kernel
theorem dX11_part_0 : decode cX11_part 0 = .ok (.aload_n 0, 1) := by decide +kernel
theorem dX11_part_1 : decode cX11_part 1 = .ok (.iload_n 1, 1) := by decide +kernel
theorem dX11_part_2 : decode cX11_part 2 = .ok (.invokevirtual 287, 3) := by decide +kernel
theorem dX11_part_5 : decode cX11_part 5 = .ok (.ifCond .ne 9, 3) := by decide +kernel
theorem dX11_part_8 : decode cX11_part 8 = .ok (.aload_n 0, 1) := by decide +kernel
theorem dX11_part_9 : decode cX11_part 9 = .ok (.iconst 1, 1) := by decide +kernel
theorem dX11_part_10 : decode cX11_part 10 = .ok (.invokevirtual 123, 3) := by decide +kernel
theorem dX11_part_13 : decode cX11_part 13 = .ok (.ireturn, 1) := by decide +kernel
theorem dX11_part_14 : decode cX11_part 14 = .ok (.aload_n 0, 1) := by decide +kernel
theorem dX11_part_15 : decode cX11_part 15 = .ok (.getfield 25, 3) := by decide +kernel
theorem dX11_part_18 : decode cX11_part 18 = .ok (.iload_n 1, 1) := by decide +kernel
theorem dX11_part_19 : decode cX11_part 19 = .ok (.putfield 226, 3) := by decide +kernel
theorem dX11_part_22 : decode cX11_part 22 = .ok (.aload_n 0, 1) := by decide +kernel
theorem dX11_part_23 : decode cX11_part 23 = .ok (.invokevirtual 130, 3) := by decide +kernel
theorem dX11_part_26 : decode cX11_part 26 = .ok (.ireturn, 1) := by decide +kernel
theorem dX11_hand_0 : decode cX11_hand 0 = .ok (.aload_n 0, 1) := by decide +kernel
theorem dX11_hand_1 : decode cX11_hand 1 = .ok (.aload_n 0, 1) := by decide +kernel
theorem dX11_hand_2 : decode cX11_hand 2 = .ok (.getfield 25, 3) := by decide +kernel
theorem dX11_hand_5 : decode cX11_hand 5 = .ok (.invokevirtual 290, 3) := by decide +kernel
theorem dX11_hand_8 : decode cX11_hand 8 = .ok (.invokevirtual 187, 3) := by decide +kernel
theorem dX11_hand_11 : decode cX11_hand 11 = .ok (.ireturn, 1) := by decide +kernel
theorem dX11_night_0 : decode cX11_night 0 = .ok (.aload_n 0, 1) := by decide +kernel
theorem dX11_night_1 : decode cX11_night 1 = .ok (.iload_n 1, 1) := by decide +kernel
theorem dX11_night_2 : decode cX11_night 2 = .ok (.invokevirtual 241, 3) := by decide +kernel
theorem dX11_night_5 : decode cX11_night 5 = .ok (.ifCond .eq 16, 3) := by decide +kernel
theorem dX11_night_8 : decode cX11_night 8 = .ok (.aload_n 0, 1) := by decide +kernel
theorem dX11_night_9 : decode cX11_night 9 = .ok (.iload_n 2, 1) := by decide +kernel
theorem dX11_night_10 : decode cX11_night 10 = .ok (.invokevirtual 241, 3) := by decide +kernel
theorem dX11_night_13 : decode cX11_night 13 = .ok (.ifCond .eq 8, 3) := by decide +kernel
theorem dX11_night_16 : decode cX11_night 16 = .ok (.iload_n 1, 1) := by decide +kernel
theorem dX11_night_17 : decode cX11_night 17 = .ok (.iload_n 2, 1) := by decide +kernel
theorem dX11_night_18 : decode cX11_night 18 = .ok (.if_icmp .ne 9, 3) := by decide +kernel
theorem dX11_night_21 : decode cX11_night 21 = .ok (.aload_n 0, 1) := by decide +kernel
theorem dX11_night_22 : decode cX11_night 22 = .ok (.iconst 1, 1) := by decide +kernel
theorem dX11_night_23 : decode cX11_night 23 = .ok (.invokevirtual 142, 3) := by decide +kernel
theorem dX11_night_26 : decode cX11_night 26 = .ok (.ireturn, 1) := by decide +kernel
theorem dX11_night_27 : decode cX11_night 27 = .ok (.aload_n 0, 1) := by decide +kernel
theorem dX11_night_28 : decode cX11_night 28 = .ok (.getfield 25, 3) := by decide +kernel
theorem dX11_night_31 : decode cX11_night 31 = .ok (.iload_n 1, 1) := by decide +kernel
theorem dX11_night_32 : decode cX11_night 32 = .ok (.iload_n 2, 1) := by decide +kernel
theorem dX11_night_33 : decode cX11_night 33 = .ok (.invokevirtual 294, 3) := by decide +kernel
theorem dX11_night_36 : decode cX11_night 36 = .ok (.istore_n 3, 1) := by decide +kernel
theorem dX11_night_37 : decode cX11_night 37 = .ok (.iload_n 3, 1) := by decide +kernel
theorem dX11_night_38 : decode cX11_night 38 = .ok (.iconst (-1), 1) := by decide +kernel
theorem dX11_night_39 : decode cX11_night 39 = .ok (.if_icmp .ne 12, 3) := by decide +kernel
theorem dX11_night_42 : decode cX11_night 42 = .ok (.aload_n 0, 1) := by decide +kernel
theorem dX11_night_43 : decode cX11_night 43 = .ok (.bipush 7, 2) := by decide +kernel
theorem dX11_night_45 : decode cX11_night 45 = .ok (.invokevirtual 142, 3) := by decide +kernel
theorem dX11_night_48 : decode cX11_night 48 = .ok (.goto 8, 3) := by decide +kernel
theorem dX11_night_51 : decode cX11_night 51 = .ok (.aload_n 0, 1) := by decide +kernel
theorem dX11_night_52 : decode cX11_night 52 = .ok (.iload_n 3, 1) := by decide +kernel
theorem dX11_night_53 : decode cX11_night 53 = .ok (.invokevirtual 187, 3) := by decide +kernel
theorem dX11_night_56 : decode cX11_night 56 = .ok (.ireturn, 1) := by decide +kernel
theorem dX11_bury_0 : decode cX11_bury 0 = .ok (.aload_n 0, 1) := by decide +kernel
theorem dX11_bury_1 : decode cX11_bury 1 = .ok (.iload_n 1, 1) := by decide +kernel
theorem dX11_bury_2 : decode cX11_bury 2 = .ok (.invokevirtual 232, 3) := by decide +kernel
theorem dX11_bury_5 : decode cX11_bury 5 = .ok (.ifCond .ne 9, 3) := by decide +kernel
theorem dX11_bury_8 : decode cX11_bury 8 = .ok (.aload_n 0, 1) := by decide +kernel
theorem dX11_bury_9 : decode cX11_bury 9 = .ok (.iconst 1, 1) := by decide +kernel
theorem dX11_bury_10 : decode cX11_bury 10 = .ok (.invokevirtual 142, 3) := by decide +kernel
theorem dX11_bury_13 : decode cX11_bury 13 = .ok (.ireturn, 1) := by decide +kernel
theorem dX11_bury_14 : decode cX11_bury 14 = .ok (.aload_n 0, 1) := by decide +kernel
theorem dX11_bury_15 : decode cX11_bury 15 = .ok (.getfield 25, 3) := by decide +kernel
theorem dX11_bury_18 : decode cX11_bury 18 = .ok (.getfield 40, 3) := by decide +kernel
theorem dX11_bury_21 : decode cX11_bury 21 = .ok (.iload_n 1, 1) := by decide +kernel
theorem dX11_bury_22 : decode cX11_bury 22 = .ok (.invokevirtual 274, 3) := by decide +kernel
theorem dX11_bury_25 : decode cX11_bury 25 = .ok (.ifCond .ne 36, 3) := by decide +kernel
theorem dX11_bury_28 : decode cX11_bury 28 = .ok (.aload_n 0, 1) := by decide +kernel
theorem dX11_bury_29 : decode cX11_bury 29 = .ok (.getfield 25, 3) := by decide +kernel
theorem dX11_bury_32 : decode cX11_bury 32 = .ok (.aload_n 0, 1) := by decide +kernel
theorem dX11_bury_33 : decode cX11_bury 33 = .ok (.getfield 25, 3) := by decide +kernel
theorem dX11_bury_36 : decode cX11_bury 36 = .ok (.getfield 40, 3) := by decide +kernel
theorem dX11_bury_39 : decode cX11_bury 39 = .ok (.getfield 238, 3) := by decide +kernel
theorem dX11_bury_42 : decode cX11_bury 42 = .ok (.iload_n 1, 1) := by decide +kernel
theorem dX11_bury_43 : decode cX11_bury 43 = .ok (.iaload, 1) := by decide +kernel
theorem dX11_bury_44 : decode cX11_bury 44 = .ok (.invokevirtual 297, 3) := by decide +kernel
theorem dX11_bury_47 : decode cX11_bury 47 = .ok (.ifCond .eq 14, 3) := by decide +kernel
theorem dX11_bury_50 : decode cX11_bury 50 = .ok (.aload_n 0, 1) := by decide +kernel
theorem dX11_bury_51 : decode cX11_bury 51 = .ok (.getfield 25, 3) := by decide +kernel
theorem dX11_bury_54 : decode cX11_bury 54 = .ok (.iload_n 1, 1) := by decide +kernel
theorem dX11_bury_55 : decode cX11_bury 55 = .ok (.invokevirtual 300, 3) := by decide +kernel
theorem dX11_bury_58 : decode cX11_bury 58 = .ok (.ifCond .ne 10, 3) := by decide +kernel
theorem dX11_bury_61 : decode cX11_bury 61 = .ok (.aload_n 0, 1) := by decide +kernel
theorem dX11_bury_62 : decode cX11_bury 62 = .ok (.bipush 7, 2) := by decide +kernel
theorem dX11_bury_64 : decode cX11_bury 64 = .ok (.invokevirtual 142, 3) := by decide +kernel
theorem dX11_bury_67 : decode cX11_bury 67 = .ok (.ireturn, 1) := by decide +kernel
theorem dX11_bury_68 : decode cX11_bury 68 = .ok (.aload_n 0, 1) := by decide +kernel
theorem dX11_bury_69 : decode cX11_bury 69 = .ok (.aload_n 0, 1) := by decide +kernel
theorem dX11_bury_70 : decode cX11_bury 70 = .ok (.getfield 25, 3) := by decide +kernel
theorem dX11_bury_73 : decode cX11_bury 73 = .ok (.iload_n 1, 1) := by decide +kernel
theorem dX11_bury_74 : decode cX11_bury 74 = .ok (.invokevirtual 303, 3) := by decide +kernel
theorem dX11_bury_77 : decode cX11_bury 77 = .ok (.invokevirtual 187, 3) := by decide +kernel
theorem dX11_bury_80 : decode cX11_bury 80 = .ok (.ireturn, 1) := by decide +kernel
theorem dX11_twins_0 : decode cX11_twins 0 = .ok (.aload_n 0, 1) := by decide +kernel
theorem dX11_twins_1 : decode cX11_twins 1 = .ok (.iload_n 1, 1) := by decide +kernel
theorem dX11_twins_2 : decode cX11_twins 2 = .ok (.invokevirtual 241, 3) := by decide +kernel
theorem dX11_twins_5 : decode cX11_twins 5 = .ok (.ifCond .eq 11, 3) := by decide +kernel
theorem dX11_twins_8 : decode cX11_twins 8 = .ok (.aload_n 0, 1) := by decide +kernel
theorem dX11_twins_9 : decode cX11_twins 9 = .ok (.iload_n 2, 1) := by decide +kernel
theorem dX11_twins_10 : decode cX11_twins 10 = .ok (.invokevirtual 232, 3) := by decide +kernel
theorem dX11_twins_13 : decode cX11_twins 13 = .ok (.ifCond .ne 9, 3) := by decide +kernel
theorem dX11_twins_16 : decode cX11_twins 16 = .ok (.aload_n 0, 1) := by decide +kernel
theorem dX11_twins_17 : decode cX11_twins 17 = .ok (.iconst 1, 1) := by decide +kernel
theorem dX11_twins_18 : decode cX11_twins 18 = .ok (.invokevirtual 142, 3) := by decide +kernel
theorem dX11_twins_21 : decode cX11_twins 21 = .ok (.ireturn, 1) := by decide +kernel
theorem dX11_twins_22 : decode cX11_twins 22 = .ok (.aload_n 0, 1) := by decide +kernel
theorem dX11_twins_23 : decode cX11_twins 23 = .ok (.aload_n 0, 1) := by decide +kernel
theorem dX11_twins_24 : decode cX11_twins 24 = .ok (.getfield 25, 3) := by decide +kernel
theorem dX11_twins_27 : decode cX11_twins 27 = .ok (.getfield 306, 3) := by decide +kernel
theorem dX11_twins_30 : decode cX11_twins 30 = .ok (.iload_n 1, 1) := by decide +kernel
theorem dX11_twins_31 : decode cX11_twins 31 = .ok (.iload_n 2, 1) := by decide +kernel
theorem dX11_twins_32 : decode cX11_twins 32 = .ok (.invokestatic 309, 3) := by decide +kernel
theorem dX11_twins_35 : decode cX11_twins 35 = .ok (.invokevirtual 312, 3) := by decide +kernel
theorem dX11_twins_38 : decode cX11_twins 38 = .ok (.invokevirtual 187, 3) := by decide +kernel
theorem dX11_twins_41 : decode cX11_twins 41 = .ok (.ireturn, 1) := by decide +kernel
theorem dX11_twin_0 : decode cX11_twin 0 = .ok (.aload_n 0, 1) := by decide +kernel
theorem dX11_twin_1 : decode cX11_twin 1 = .ok (.iload_n 1, 1) := by decide +kernel
theorem dX11_twin_2 : decode cX11_twin 2 = .ok (.invokevirtual 241, 3) := by decide +kernel
theorem dX11_twin_5 : decode cX11_twin 5 = .ok (.ifCond .eq 22, 3) := by decide +kernel
theorem dX11_twin_8 : decode cX11_twin 8 = .ok (.aload_n 0, 1) := by decide +kernel
theorem dX11_twin_9 : decode cX11_twin 9 = .ok (.iload_n 2, 1) := by decide +kernel
theorem dX11_twin_10 : decode cX11_twin 10 = .ok (.invokevirtual 232, 3) := by decide +kernel
theorem dX11_twin_13 : decode cX11_twin 13 = .ok (.ifCond .eq 14, 3) := by decide +kernel
theorem dX11_twin_16 : decode cX11_twin 16 = .ok (.iload 4, 2) := by decide +kernel
theorem dX11_twin_18 : decode cX11_twin 18 = .ok (.ifCond .lt 9, 3) := by decide +kernel
theorem dX11_twin_21 : decode cX11_twin 21 = .ok (.iload 4, 2) := by decide +kernel
theorem dX11_twin_23 : decode cX11_twin 23 = .ok (.iconst 2, 1) := by decide +kernel
theorem dX11_twin_24 : decode cX11_twin 24 = .ok (.if_icmp .le 9, 3) := by decide +kernel
theorem dX11_twin_27 : decode cX11_twin 27 = .ok (.aload_n 0, 1) := by decide +kernel
theorem dX11_twin_28 : decode cX11_twin 28 = .ok (.iconst 1, 1) := by decide +kernel
theorem dX11_twin_29 : decode cX11_twin 29 = .ok (.invokevirtual 142, 3) := by decide +kernel
theorem dX11_twin_32 : decode cX11_twin 32 = .ok (.ireturn, 1) := by decide +kernel
theorem dX11_twin_33 : decode cX11_twin 33 = .ok (.aload_n 0, 1) := by decide +kernel
theorem dX11_twin_34 : decode cX11_twin 34 = .ok (.getfield 25, 3) := by decide +kernel
theorem dX11_twin_37 : decode cX11_twin 37 = .ok (.getfield 306, 3) := by decide +kernel
theorem dX11_twin_40 : decode cX11_twin 40 = .ok (.iload_n 1, 1) := by decide +kernel
theorem dX11_twin_41 : decode cX11_twin 41 = .ok (.iload_n 2, 1) := by decide +kernel
theorem dX11_twin_42 : decode cX11_twin 42 = .ok (.invokestatic 309, 3) := by decide +kernel
theorem dX11_twin_45 : decode cX11_twin 45 = .ok (.iload_n 3, 1) := by decide +kernel
theorem dX11_twin_46 : decode cX11_twin 46 = .ok (.invokevirtual 315, 3) := by decide +kernel
theorem dX11_twin_49 : decode cX11_twin 49 = .ok (.istore 5, 2) := by decide +kernel
theorem dX11_twin_51 : decode cX11_twin 51 = .ok (.iload 5, 2) := by decide +kernel
theorem dX11_twin_53 : decode cX11_twin 53 = .ok (.iconst (-1), 1) := by decide +kernel
theorem dX11_twin_54 : decode cX11_twin 54 = .ok (.if_icmp .ne 10, 3) := by decide +kernel
theorem dX11_twin_57 : decode cX11_twin 57 = .ok (.aload_n 0, 1) := by decide +kernel
theorem dX11_twin_58 : decode cX11_twin 58 = .ok (.bipush 6, 2) := by decide +kernel
theorem dX11_twin_60 : decode cX11_twin 60 = .ok (.invokevirtual 142, 3) := by decide +kernel
theorem dX11_twin_63 : decode cX11_twin 63 = .ok (.ireturn, 1) := by decide +kernel
theorem dX11_twin_64 : decode cX11_twin 64 = .ok (.iload 4, 2) := by decide +kernel
theorem dX11_twin_66 : decode cX11_twin 66 = .ok (.ifCond .ne 24, 3) := by decide +kernel
theorem dX11_twin_69 : decode cX11_twin 69 = .ok (.aload_n 0, 1) := by decide +kernel
theorem dX11_twin_70 : decode cX11_twin 70 = .ok (.aload_n 0, 1) := by decide +kernel
theorem dX11_twin_71 : decode cX11_twin 71 = .ok (.getfield 25, 3) := by decide +kernel
theorem dX11_twin_74 : decode cX11_twin 74 = .ok (.getfield 318, 3) := by decide +kernel
theorem dX11_twin_77 : decode cX11_twin 77 = .ok (.iload_n 2, 1) := by decide +kernel
theorem dX11_twin_78 : decode cX11_twin 78 = .ok (.sipush 180, 3) := by decide +kernel
theorem dX11_twin_81 : decode cX11_twin 81 = .ok (.imul, 1) := by decide +kernel
theorem dX11_twin_82 : decode cX11_twin 82 = .ok (.iload 5, 2) := by decide +kernel
theorem dX11_twin_84 : decode cX11_twin 84 = .ok (.iadd, 1) := by decide +kernel
theorem dX11_twin_85 : decode cX11_twin 85 = .ok (.iaload, 1) := by decide +kernel
theorem dX11_twin_86 : decode cX11_twin 86 = .ok (.invokevirtual 187, 3) := by decide +kernel
theorem dX11_twin_89 : decode cX11_twin 89 = .ok (.ireturn, 1) := by decide +kernel
theorem dX11_twin_90 : decode cX11_twin 90 = .ok (.aload_n 0, 1) := by decide +kernel
theorem dX11_twin_91 : decode cX11_twin 91 = .ok (.iload 4, 2) := by decide +kernel
theorem dX11_twin_93 : decode cX11_twin 93 = .ok (.iconst 1, 1) := by decide +kernel
theorem dX11_twin_94 : decode cX11_twin 94 = .ok (.if_icmp .ne 11, 3) := by decide +kernel
theorem dX11_twin_97 : decode cX11_twin 97 = .ok (.iload 5, 2) := by decide +kernel
theorem dX11_twin_99 : decode cX11_twin 99 = .ok (.bipush 30, 2) := by decide +kernel
theorem dX11_twin_101 : decode cX11_twin 101 = .ok (.idiv, 1) := by decide +kernel
theorem dX11_twin_102 : decode cX11_twin 102 = .ok (.goto 10, 3) := by decide +kernel
theorem dX11_twin_105 : decode cX11_twin 105 = .ok (.iload 5, 2) := by decide +kernel
theorem dX11_twin_107 : decode cX11_twin 107 = .ok (.bipush 30, 2) := by decide +kernel
theorem dX11_twin_109 : decode cX11_twin 109 = .ok (.irem, 1) := by decide +kernel
theorem dX11_twin_110 : decode cX11_twin 110 = .ok (.iconst 1, 1) := by decide +kernel
theorem dX11_twin_111 : decode cX11_twin 111 = .ok (.iadd, 1) := by decide +kernel
theorem dX11_twin_112 : decode cX11_twin 112 = .ok (.invokevirtual 187, 3) := by decide +kernel
theorem dX11_twin_115 : decode cX11_twin 115 = .ok (.ireturn, 1) := by decide +kernel
theorem dX11_seen_0 : decode cX11_seen 0 = .ok (.aload_n 0, 1) := by decide +kernel
theorem dX11_seen_1 : decode cX11_seen 1 = .ok (.iload_n 1, 1) := by decide +kernel
theorem dX11_seen_2 : decode cX11_seen 2 = .ok (.invokevirtual 241, 3) := by decide +kernel
theorem dX11_seen_5 : decode cX11_seen 5 = .ok (.ifCond .eq 19, 3) := by decide +kernel
theorem dX11_seen_8 : decode cX11_seen 8 = .ok (.aload_n 0, 1) := by decide +kernel
theorem dX11_seen_9 : decode cX11_seen 9 = .ok (.iload_n 2, 1) := by decide +kernel
theorem dX11_seen_10 : decode cX11_seen 10 = .ok (.invokevirtual 232, 3) := by decide +kernel
theorem dX11_seen_13 : decode cX11_seen 13 = .ok (.ifCond .eq 11, 3) := by decide +kernel
theorem dX11_seen_16 : decode cX11_seen 16 = .ok (.aload_n 0, 1) := by decide +kernel
theorem dX11_seen_17 : decode cX11_seen 17 = .ok (.iload_n 3, 1) := by decide +kernel
theorem dX11_seen_18 : decode cX11_seen 18 = .ok (.invokevirtual 241, 3) := by decide +kernel
theorem dX11_seen_21 : decode cX11_seen 21 = .ok (.ifCond .ne 9, 3) := by decide +kernel
theorem dX11_seen_24 : decode cX11_seen 24 = .ok (.aload_n 0, 1) := by decide +kernel
theorem dX11_seen_25 : decode cX11_seen 25 = .ok (.iconst 1, 1) := by decide +kernel
theorem dX11_seen_26 : decode cX11_seen 26 = .ok (.invokevirtual 142, 3) := by decide +kernel
theorem dX11_seen_29 : decode cX11_seen 29 = .ok (.ireturn, 1) := by decide +kernel
theorem dX11_seen_30 : decode cX11_seen 30 = .ok (.aload_n 0, 1) := by decide +kernel
theorem dX11_seen_31 : decode cX11_seen 31 = .ok (.aload_n 0, 1) := by decide +kernel
theorem dX11_seen_32 : decode cX11_seen 32 = .ok (.getfield 25, 3) := by decide +kernel
theorem dX11_seen_35 : decode cX11_seen 35 = .ok (.getfield 40, 3) := by decide +kernel
theorem dX11_seen_38 : decode cX11_seen 38 = .ok (.iload_n 2, 1) := by decide +kernel
theorem dX11_seen_39 : decode cX11_seen 39 = .ok (.invokevirtual 274, 3) := by decide +kernel
theorem dX11_seen_42 : decode cX11_seen 42 = .ok (.ifCond .eq 7, 3) := by decide +kernel
theorem dX11_seen_45 : decode cX11_seen 45 = .ok (.iconst 0, 1) := by decide +kernel
theorem dX11_seen_46 : decode cX11_seen 46 = .ok (.goto 19, 3) := by decide +kernel
theorem dX11_seen_49 : decode cX11_seen 49 = .ok (.aload_n 0, 1) := by decide +kernel
theorem dX11_seen_50 : decode cX11_seen 50 = .ok (.getfield 25, 3) := by decide +kernel
theorem dX11_seen_53 : decode cX11_seen 53 = .ok (.getfield 306, 3) := by decide +kernel
theorem dX11_seen_56 : decode cX11_seen 56 = .ok (.iload_n 1, 1) := by decide +kernel
theorem dX11_seen_57 : decode cX11_seen 57 = .ok (.iload_n 2, 1) := by decide +kernel
theorem dX11_seen_58 : decode cX11_seen 58 = .ok (.invokestatic 309, 3) := by decide +kernel
theorem dX11_seen_61 : decode cX11_seen 61 = .ok (.iload_n 3, 1) := by decide +kernel
theorem dX11_seen_62 : decode cX11_seen 62 = .ok (.invokevirtual 321, 3) := by decide +kernel
theorem dX11_seen_65 : decode cX11_seen 65 = .ok (.invokevirtual 187, 3) := by decide +kernel
theorem dX11_seen_68 : decode cX11_seen 68 = .ok (.ireturn, 1) := by decide +kernel
theorem dX11_partOf_0 : decode cX11_partOf 0 = .ok (.aload_n 0, 1) := by decide +kernel
theorem dX11_partOf_1 : decode cX11_partOf 1 = .ok (.iload_n 1, 1) := by decide +kernel
theorem dX11_partOf_2 : decode cX11_partOf 2 = .ok (.invokevirtual 241, 3) := by decide +kernel
theorem dX11_partOf_5 : decode cX11_partOf 5 = .ok (.ifCond .eq 19, 3) := by decide +kernel
theorem dX11_partOf_8 : decode cX11_partOf 8 = .ok (.aload_n 0, 1) := by decide +kernel
theorem dX11_partOf_9 : decode cX11_partOf 9 = .ok (.iload_n 2, 1) := by decide +kernel
theorem dX11_partOf_10 : decode cX11_partOf 10 = .ok (.invokevirtual 232, 3) := by decide +kernel
theorem dX11_partOf_13 : decode cX11_partOf 13 = .ok (.ifCond .eq 11, 3) := by decide +kernel
theorem dX11_partOf_16 : decode cX11_partOf 16 = .ok (.aload_n 0, 1) := by decide +kernel
theorem dX11_partOf_17 : decode cX11_partOf 17 = .ok (.iload_n 3, 1) := by decide +kernel
theorem dX11_partOf_18 : decode cX11_partOf 18 = .ok (.invokevirtual 241, 3) := by decide +kernel
theorem dX11_partOf_21 : decode cX11_partOf 21 = .ok (.ifCond .ne 9, 3) := by decide +kernel
theorem dX11_partOf_24 : decode cX11_partOf 24 = .ok (.aload_n 0, 1) := by decide +kernel
theorem dX11_partOf_25 : decode cX11_partOf 25 = .ok (.iconst 1, 1) := by decide +kernel
theorem dX11_partOf_26 : decode cX11_partOf 26 = .ok (.invokevirtual 142, 3) := by decide +kernel
theorem dX11_partOf_29 : decode cX11_partOf 29 = .ok (.ireturn, 1) := by decide +kernel
theorem dX11_partOf_30 : decode cX11_partOf 30 = .ok (.aload_n 0, 1) := by decide +kernel
theorem dX11_partOf_31 : decode cX11_partOf 31 = .ok (.getfield 25, 3) := by decide +kernel
theorem dX11_partOf_34 : decode cX11_partOf 34 = .ok (.getfield 40, 3) := by decide +kernel
theorem dX11_partOf_37 : decode cX11_partOf 37 = .ok (.iload_n 2, 1) := by decide +kernel
theorem dX11_partOf_38 : decode cX11_partOf 38 = .ok (.invokevirtual 274, 3) := by decide +kernel
theorem dX11_partOf_41 : decode cX11_partOf 41 = .ok (.ifCond .ne 10, 3) := by decide +kernel
theorem dX11_partOf_44 : decode cX11_partOf 44 = .ok (.aload_n 0, 1) := by decide +kernel
theorem dX11_partOf_45 : decode cX11_partOf 45 = .ok (.bipush 7, 2) := by decide +kernel
theorem dX11_partOf_47 : decode cX11_partOf 47 = .ok (.invokevirtual 142, 3) := by decide +kernel
theorem dX11_partOf_50 : decode cX11_partOf 50 = .ok (.ireturn, 1) := by decide +kernel
theorem dX11_partOf_51 : decode cX11_partOf 51 = .ok (.aload_n 0, 1) := by decide +kernel
theorem dX11_partOf_52 : decode cX11_partOf 52 = .ok (.aload_n 0, 1) := by decide +kernel
theorem dX11_partOf_53 : decode cX11_partOf 53 = .ok (.getfield 25, 3) := by decide +kernel
theorem dX11_partOf_56 : decode cX11_partOf 56 = .ok (.getfield 306, 3) := by decide +kernel
theorem dX11_partOf_59 : decode cX11_partOf 59 = .ok (.iload_n 1, 1) := by decide +kernel
theorem dX11_partOf_60 : decode cX11_partOf 60 = .ok (.iload_n 2, 1) := by decide +kernel
theorem dX11_partOf_61 : decode cX11_partOf 61 = .ok (.invokestatic 309, 3) := by decide +kernel
theorem dX11_partOf_64 : decode cX11_partOf 64 = .ok (.iload_n 3, 1) := by decide +kernel
theorem dX11_partOf_65 : decode cX11_partOf 65 = .ok (.invokevirtual 321, 3) := by decide +kernel
theorem dX11_partOf_68 : decode cX11_partOf 68 = .ok (.invokevirtual 187, 3) := by decide +kernel
theorem dX11_partOf_71 : decode cX11_partOf 71 = .ok (.ireturn, 1) := by decide +kernel
theorem dX11_hints_0 : decode cX11_hints 0 = .ok (.aload_n 0, 1) := by decide +kernel
theorem dX11_hints_1 : decode cX11_hints 1 = .ok (.iload_n 1, 1) := by decide +kernel
theorem dX11_hints_2 : decode cX11_hints 2 = .ok (.invokevirtual 241, 3) := by decide +kernel
theorem dX11_hints_5 : decode cX11_hints 5 = .ok (.ifCond .eq 18, 3) := by decide +kernel
theorem dX11_hints_8 : decode cX11_hints 8 = .ok (.aload_n 0, 1) := by decide +kernel
theorem dX11_hints_9 : decode cX11_hints 9 = .ok (.aload_n 0, 1) := by decide +kernel
theorem dX11_hints_10 : decode cX11_hints 10 = .ok (.getfield 25, 3) := by decide +kernel
theorem dX11_hints_13 : decode cX11_hints 13 = .ok (.iload_n 1, 1) := by decide +kernel
theorem dX11_hints_14 : decode cX11_hints 14 = .ok (.invokevirtual 324, 3) := by decide +kernel
theorem dX11_hints_17 : decode cX11_hints 17 = .ok (.invokevirtual 187, 3) := by decide +kernel
theorem dX11_hints_20 : decode cX11_hints 20 = .ok (.goto 8, 3) := by decide +kernel
theorem dX11_hints_23 : decode cX11_hints 23 = .ok (.aload_n 0, 1) := by decide +kernel
theorem dX11_hints_24 : decode cX11_hints 24 = .ok (.iconst 1, 1) := by decide +kernel
theorem dX11_hints_25 : decode cX11_hints 25 = .ok (.invokevirtual 142, 3) := by decide +kernel
theorem dX11_hints_28 : decode cX11_hints 28 = .ok (.ireturn, 1) := by decide +kernel
theorem dX11_ticket_0 : decode cX11_ticket 0 = .ok (.iload_n 1, 1) := by decide +kernel
theorem dX11_ticket_1 : decode cX11_ticket 1 = .ok (.ifCond .lt 21, 3) := by decide +kernel
theorem dX11_ticket_4 : decode cX11_ticket 4 = .ok (.iload_n 1, 1) := by decide +kernel
theorem dX11_ticket_5 : decode cX11_ticket 5 = .ok (.iconst 4, 1) := by decide +kernel
theorem dX11_ticket_6 : decode cX11_ticket 6 = .ok (.if_icmp .ge 16, 3) := by decide +kernel
theorem dX11_ticket_9 : decode cX11_ticket 9 = .ok (.iload_n 2, 1) := by decide +kernel
theorem dX11_ticket_10 : decode cX11_ticket 10 = .ok (.iconst (-1), 1) := by decide +kernel
theorem dX11_ticket_11 : decode cX11_ticket 11 = .ok (.if_icmp .eq 17, 3) := by decide +kernel
theorem dX11_ticket_14 : decode cX11_ticket 14 = .ok (.aload_n 0, 1) := by decide +kernel
theorem dX11_ticket_15 : decode cX11_ticket 15 = .ok (.iload_n 2, 1) := by decide +kernel
theorem dX11_ticket_16 : decode cX11_ticket 16 = .ok (.invokevirtual 241, 3) := by decide +kernel
theorem dX11_ticket_19 : decode cX11_ticket 19 = .ok (.ifCond .ne 9, 3) := by decide +kernel
theorem dX11_ticket_22 : decode cX11_ticket 22 = .ok (.aload_n 0, 1) := by decide +kernel
theorem dX11_ticket_23 : decode cX11_ticket 23 = .ok (.iconst 1, 1) := by decide +kernel
theorem dX11_ticket_24 : decode cX11_ticket 24 = .ok (.invokevirtual 142, 3) := by decide +kernel
theorem dX11_ticket_27 : decode cX11_ticket 27 = .ok (.ireturn, 1) := by decide +kernel
theorem dX11_ticket_28 : decode cX11_ticket 28 = .ok (.aload_n 0, 1) := by decide +kernel
theorem dX11_ticket_29 : decode cX11_ticket 29 = .ok (.getfield 25, 3) := by decide +kernel
theorem dX11_ticket_32 : decode cX11_ticket 32 = .ok (.iload_n 1, 1) := by decide +kernel
theorem dX11_ticket_33 : decode cX11_ticket 33 = .ok (.invokevirtual 327, 3) := by decide +kernel
theorem dX11_ticket_36 : decode cX11_ticket 36 = .ok (.ifCond .ne 10, 3) := by decide +kernel
theorem dX11_ticket_39 : decode cX11_ticket 39 = .ok (.aload_n 0, 1) := by decide +kernel
theorem dX11_ticket_40 : decode cX11_ticket 40 = .ok (.bipush 6, 2) := by decide +kernel
theorem dX11_ticket_42 : decode cX11_ticket 42 = .ok (.invokevirtual 142, 3) := by decide +kernel
theorem dX11_ticket_45 : decode cX11_ticket 45 = .ok (.ireturn, 1) := by decide +kernel
theorem dX11_ticket_46 : decode cX11_ticket 46 = .ok (.aload_n 0, 1) := by decide +kernel
theorem dX11_ticket_47 : decode cX11_ticket 47 = .ok (.iload_n 2, 1) := by decide +kernel
theorem dX11_ticket_48 : decode cX11_ticket 48 = .ok (.iconst (-1), 1) := by decide +kernel
theorem dX11_ticket_49 : decode cX11_ticket 49 = .ok (.if_icmp .ne 15, 3) := by decide +kernel
theorem dX11_ticket_52 : decode cX11_ticket 52 = .ok (.aload_n 0, 1) := by decide +kernel
theorem dX11_ticket_53 : decode cX11_ticket 53 = .ok (.getfield 25, 3) := by decide +kernel
theorem dX11_ticket_56 : decode cX11_ticket 56 = .ok (.getfield 330, 3) := by decide +kernel
theorem dX11_ticket_59 : decode cX11_ticket 59 = .ok (.iload_n 1, 1) := by decide +kernel
theorem dX11_ticket_60 : decode cX11_ticket 60 = .ok (.iaload, 1) := by decide +kernel
theorem dX11_ticket_61 : decode cX11_ticket 61 = .ok (.goto 15, 3) := by decide +kernel
theorem dX11_ticket_64 : decode cX11_ticket 64 = .ok (.aload_n 0, 1) := by decide +kernel
theorem dX11_ticket_65 : decode cX11_ticket 65 = .ok (.getfield 25, 3) := by decide +kernel
theorem dX11_ticket_68 : decode cX11_ticket 68 = .ok (.getfield 333, 3) := by decide +kernel
theorem dX11_ticket_71 : decode cX11_ticket 71 = .ok (.iload_n 1, 1) := by decide +kernel
theorem dX11_ticket_72 : decode cX11_ticket 72 = .ok (.iload_n 2, 1) := by decide +kernel
theorem dX11_ticket_73 : decode cX11_ticket 73 = .ok (.invokevirtual 321, 3) := by decide +kernel
theorem dX11_ticket_76 : decode cX11_ticket 76 = .ok (.invokevirtual 187, 3) := by decide +kernel
theorem dX11_ticket_79 : decode cX11_ticket 79 = .ok (.ireturn, 1) := by decide +kernel
theorem dX11_like_0 : decode cX11_like 0 = .ok (.aload_n 0, 1) := by decide +kernel
theorem dX11_like_1 : decode cX11_like 1 = .ok (.iload_n 1, 1) := by decide +kernel
theorem dX11_like_2 : decode cX11_like 2 = .ok (.invokevirtual 241, 3) := by decide +kernel
theorem dX11_like_5 : decode cX11_like 5 = .ok (.ifCond .eq 19, 3) := by decide +kernel
theorem dX11_like_8 : decode cX11_like 8 = .ok (.aload_n 0, 1) := by decide +kernel
theorem dX11_like_9 : decode cX11_like 9 = .ok (.iload_n 2, 1) := by decide +kernel
theorem dX11_like_10 : decode cX11_like 10 = .ok (.invokevirtual 241, 3) := by decide +kernel
theorem dX11_like_13 : decode cX11_like 13 = .ok (.ifCond .eq 11, 3) := by decide +kernel
theorem dX11_like_16 : decode cX11_like 16 = .ok (.aload_n 0, 1) := by decide +kernel
theorem dX11_like_17 : decode cX11_like 17 = .ok (.iload_n 3, 1) := by decide +kernel
theorem dX11_like_18 : decode cX11_like 18 = .ok (.invokevirtual 232, 3) := by decide +kernel
theorem dX11_like_21 : decode cX11_like 21 = .ok (.ifCond .ne 9, 3) := by decide +kernel
theorem dX11_like_24 : decode cX11_like 24 = .ok (.aload_n 0, 1) := by decide +kernel
theorem dX11_like_25 : decode cX11_like 25 = .ok (.iconst 1, 1) := by decide +kernel
theorem dX11_like_26 : decode cX11_like 26 = .ok (.invokevirtual 142, 3) := by decide +kernel
theorem dX11_like_29 : decode cX11_like 29 = .ok (.ireturn, 1) := by decide +kernel
theorem dX11_like_30 : decode cX11_like 30 = .ok (.aload_n 0, 1) := by decide +kernel
theorem dX11_like_31 : decode cX11_like 31 = .ok (.aload_n 0, 1) := by decide +kernel
theorem dX11_like_32 : decode cX11_like 32 = .ok (.getfield 25, 3) := by decide +kernel
theorem dX11_like_35 : decode cX11_like 35 = .ok (.iload_n 1, 1) := by decide +kernel
theorem dX11_like_36 : decode cX11_like 36 = .ok (.iload_n 2, 1) := by decide +kernel
theorem dX11_like_37 : decode cX11_like 37 = .ok (.iload_n 3, 1) := by decide +kernel
theorem dX11_like_38 : decode cX11_like 38 = .ok (.invokevirtual 336, 3) := by decide +kernel
theorem dX11_like_41 : decode cX11_like 41 = .ok (.invokevirtual 248, 3) := by decide +kernel
theorem dX11_like_44 : decode cX11_like 44 = .ok (.ireturn, 1) := by decide +kernel
theorem dX11_alike_0 : decode cX11_alike 0 = .ok (.iconst 0, 1) := by decide +kernel
theorem dX11_alike_1 : decode cX11_alike 1 = .ok (.istore_n 1, 1) := by decide +kernel
theorem dX11_alike_2 : decode cX11_alike 2 = .ok (.iconst 0, 1) := by decide +kernel
theorem dX11_alike_3 : decode cX11_alike 3 = .ok (.istore_n 2, 1) := by decide +kernel
theorem dX11_alike_4 : decode cX11_alike 4 = .ok (.iload_n 2, 1) := by decide +kernel
theorem dX11_alike_5 : decode cX11_alike 5 = .ok (.aload_n 0, 1) := by decide +kernel
theorem dX11_alike_6 : decode cX11_alike 6 = .ok (.getfield 25, 3) := by decide +kernel
theorem dX11_alike_9 : decode cX11_alike 9 = .ok (.getfield 40, 3) := by decide +kernel
theorem dX11_alike_12 : decode cX11_alike 12 = .ok (.getfield 182, 3) := by decide +kernel
theorem dX11_alike_15 : decode cX11_alike 15 = .ok (.if_icmp .ge 26, 3) := by decide +kernel
theorem dX11_alike_18 : decode cX11_alike 18 = .ok (.aload_n 0, 1) := by decide +kernel
theorem dX11_alike_19 : decode cX11_alike 19 = .ok (.getfield 25, 3) := by decide +kernel
theorem dX11_alike_22 : decode cX11_alike 22 = .ok (.iload_n 2, 1) := by decide +kernel
theorem dX11_alike_23 : decode cX11_alike 23 = .ok (.invokevirtual 300, 3) := by decide +kernel
theorem dX11_alike_26 : decode cX11_alike 26 = .ok (.ifCond .eq 9, 3) := by decide +kernel
theorem dX11_alike_29 : decode cX11_alike 29 = .ok (.iload_n 1, 1) := by decide +kernel
theorem dX11_alike_30 : decode cX11_alike 30 = .ok (.iconst 1, 1) := by decide +kernel
theorem dX11_alike_31 : decode cX11_alike 31 = .ok (.iload_n 2, 1) := by decide +kernel
theorem dX11_alike_32 : decode cX11_alike 32 = .ok (.ishl, 1) := by decide +kernel
theorem dX11_alike_33 : decode cX11_alike 33 = .ok (.ior, 1) := by decide +kernel
theorem dX11_alike_34 : decode cX11_alike 34 = .ok (.istore_n 1, 1) := by decide +kernel
theorem dX11_alike_35 : decode cX11_alike 35 = .ok (.iinc 2 1, 3) := by decide +kernel
theorem dX11_alike_38 : decode cX11_alike 38 = .ok (.goto (-34), 3) := by decide +kernel
theorem dX11_alike_41 : decode cX11_alike 41 = .ok (.aload_n 0, 1) := by decide +kernel
theorem dX11_alike_42 : decode cX11_alike 42 = .ok (.iload_n 1, 1) := by decide +kernel
theorem dX11_alike_43 : decode cX11_alike 43 = .ok (.invokevirtual 187, 3) := by decide +kernel
theorem dX11_alike_46 : decode cX11_alike 46 = .ok (.ireturn, 1) := by decide +kernel
theorem dX11_differ_0 : decode cX11_differ 0 = .ok (.aload_n 0, 1) := by decide +kernel
theorem dX11_differ_1 : decode cX11_differ 1 = .ok (.iload_n 1, 1) := by decide +kernel
theorem dX11_differ_2 : decode cX11_differ 2 = .ok (.invokevirtual 241, 3) := by decide +kernel
theorem dX11_differ_5 : decode cX11_differ 5 = .ok (.ifCond .eq 11, 3) := by decide +kernel
theorem dX11_differ_8 : decode cX11_differ 8 = .ok (.aload_n 0, 1) := by decide +kernel
theorem dX11_differ_9 : decode cX11_differ 9 = .ok (.iload_n 2, 1) := by decide +kernel
theorem dX11_differ_10 : decode cX11_differ 10 = .ok (.invokevirtual 241, 3) := by decide +kernel
theorem dX11_differ_13 : decode cX11_differ 13 = .ok (.ifCond .ne 9, 3) := by decide +kernel
theorem dX11_differ_16 : decode cX11_differ 16 = .ok (.aload_n 0, 1) := by decide +kernel
theorem dX11_differ_17 : decode cX11_differ 17 = .ok (.iconst 1, 1) := by decide +kernel
theorem dX11_differ_18 : decode cX11_differ 18 = .ok (.invokevirtual 142, 3) := by decide +kernel
theorem dX11_differ_21 : decode cX11_differ 21 = .ok (.ireturn, 1) := by decide +kernel
theorem dX11_differ_22 : decode cX11_differ 22 = .ok (.iconst 0, 1) := by decide +kernel
theorem dX11_differ_23 : decode cX11_differ 23 = .ok (.istore_n 3, 1) := by decide +kernel
theorem dX11_differ_24 : decode cX11_differ 24 = .ok (.iconst 0, 1) := by decide +kernel
theorem dX11_differ_25 : decode cX11_differ 25 = .ok (.istore 4, 2) := by decide +kernel
theorem dX11_differ_27 : decode cX11_differ 27 = .ok (.iload 4, 2) := by decide +kernel
theorem dX11_differ_29 : decode cX11_differ 29 = .ok (.aload_n 0, 1) := by decide +kernel
theorem dX11_differ_30 : decode cX11_differ 30 = .ok (.getfield 25, 3) := by decide +kernel
theorem dX11_differ_33 : decode cX11_differ 33 = .ok (.getfield 40, 3) := by decide +kernel
theorem dX11_differ_36 : decode cX11_differ 36 = .ok (.getfield 182, 3) := by decide +kernel
theorem dX11_differ_39 : decode cX11_differ 39 = .ok (.if_icmp .ge 47, 3) := by decide +kernel
theorem dX11_differ_42 : decode cX11_differ 42 = .ok (.aload_n 0, 1) := by decide +kernel
theorem dX11_differ_43 : decode cX11_differ 43 = .ok (.getfield 25, 3) := by decide +kernel
theorem dX11_differ_46 : decode cX11_differ 46 = .ok (.getfield 40, 3) := by decide +kernel
theorem dX11_differ_49 : decode cX11_differ 49 = .ok (.iload 4, 2) := by decide +kernel
theorem dX11_differ_51 : decode cX11_differ 51 = .ok (.iload_n 1, 1) := by decide +kernel
theorem dX11_differ_52 : decode cX11_differ 52 = .ok (.iload_n 2, 1) := by decide +kernel
theorem dX11_differ_53 : decode cX11_differ 53 = .ok (.invokevirtual 340, 3) := by decide +kernel
theorem dX11_differ_56 : decode cX11_differ 56 = .ok (.ifCond .eq 24, 3) := by decide +kernel
theorem dX11_differ_59 : decode cX11_differ 59 = .ok (.aload_n 0, 1) := by decide +kernel
theorem dX11_differ_60 : decode cX11_differ 60 = .ok (.getfield 25, 3) := by decide +kernel
theorem dX11_differ_63 : decode cX11_differ 63 = .ok (.iload_n 1, 1) := by decide +kernel
theorem dX11_differ_64 : decode cX11_differ 64 = .ok (.iload_n 2, 1) := by decide +kernel
theorem dX11_differ_65 : decode cX11_differ 65 = .ok (.iload 4, 2) := by decide +kernel
theorem dX11_differ_67 : decode cX11_differ 67 = .ok (.invokevirtual 336, 3) := by decide +kernel
theorem dX11_differ_70 : decode cX11_differ 70 = .ok (.ifCond .ne 10, 3) := by decide +kernel
theorem dX11_differ_73 : decode cX11_differ 73 = .ok (.iload_n 3, 1) := by decide +kernel
theorem dX11_differ_74 : decode cX11_differ 74 = .ok (.iconst 1, 1) := by decide +kernel
theorem dX11_differ_75 : decode cX11_differ 75 = .ok (.iload 4, 2) := by decide +kernel
theorem dX11_differ_77 : decode cX11_differ 77 = .ok (.ishl, 1) := by decide +kernel
theorem dX11_differ_78 : decode cX11_differ 78 = .ok (.ior, 1) := by decide +kernel
theorem dX11_differ_79 : decode cX11_differ 79 = .ok (.istore_n 3, 1) := by decide +kernel
theorem dX11_differ_80 : decode cX11_differ 80 = .ok (.iinc 4 1, 3) := by decide +kernel
theorem dX11_differ_83 : decode cX11_differ 83 = .ok (.goto (-56), 3) := by decide +kernel
theorem dX11_differ_86 : decode cX11_differ 86 = .ok (.aload_n 0, 1) := by decide +kernel
theorem dX11_differ_87 : decode cX11_differ 87 = .ok (.iload_n 3, 1) := by decide +kernel
theorem dX11_differ_88 : decode cX11_differ 88 = .ok (.invokevirtual 187, 3) := by decide +kernel
theorem dX11_differ_91 : decode cX11_differ 91 = .ok (.ireturn, 1) := by decide +kernel
theorem dX11_root_0 : decode cX11_root 0 = .ok (.aload_n 0, 1) := by decide +kernel
theorem dX11_root_1 : decode cX11_root 1 = .ok (.iload_n 1, 1) := by decide +kernel
theorem dX11_root_2 : decode cX11_root 2 = .ok (.invokevirtual 241, 3) := by decide +kernel
theorem dX11_root_5 : decode cX11_root 5 = .ok (.ifCond .eq 18, 3) := by decide +kernel
theorem dX11_root_8 : decode cX11_root 8 = .ok (.aload_n 0, 1) := by decide +kernel
theorem dX11_root_9 : decode cX11_root 9 = .ok (.aload_n 0, 1) := by decide +kernel
theorem dX11_root_10 : decode cX11_root 10 = .ok (.getfield 25, 3) := by decide +kernel
theorem dX11_root_13 : decode cX11_root 13 = .ok (.iload_n 1, 1) := by decide +kernel
theorem dX11_root_14 : decode cX11_root 14 = .ok (.invokevirtual 343, 3) := by decide +kernel
theorem dX11_root_17 : decode cX11_root 17 = .ok (.invokevirtual 187, 3) := by decide +kernel
theorem dX11_root_20 : decode cX11_root 20 = .ok (.goto 8, 3) := by decide +kernel
theorem dX11_root_23 : decode cX11_root 23 = .ok (.aload_n 0, 1) := by decide +kernel
theorem dX11_root_24 : decode cX11_root 24 = .ok (.iconst 1, 1) := by decide +kernel
theorem dX11_root_25 : decode cX11_root 25 = .ok (.invokevirtual 142, 3) := by decide +kernel
theorem dX11_root_28 : decode cX11_root 28 = .ok (.ireturn, 1) := by decide +kernel
theorem dX11_fresh_0 : decode cX11_fresh 0 = .ok (.aload_n 0, 1) := by decide +kernel
theorem dX11_fresh_1 : decode cX11_fresh 1 = .ok (.iload_n 1, 1) := by decide +kernel
theorem dX11_fresh_2 : decode cX11_fresh 2 = .ok (.invokevirtual 232, 3) := by decide +kernel
theorem dX11_fresh_5 : decode cX11_fresh 5 = .ok (.ifCond .ne 9, 3) := by decide +kernel
theorem dX11_fresh_8 : decode cX11_fresh 8 = .ok (.aload_n 0, 1) := by decide +kernel
theorem dX11_fresh_9 : decode cX11_fresh 9 = .ok (.iconst 1, 1) := by decide +kernel
theorem dX11_fresh_10 : decode cX11_fresh 10 = .ok (.invokevirtual 142, 3) := by decide +kernel
theorem dX11_fresh_13 : decode cX11_fresh 13 = .ok (.ireturn, 1) := by decide +kernel
theorem dX11_fresh_14 : decode cX11_fresh 14 = .ok (.aload_n 0, 1) := by decide +kernel
theorem dX11_fresh_15 : decode cX11_fresh 15 = .ok (.getfield 25, 3) := by decide +kernel
theorem dX11_fresh_18 : decode cX11_fresh 18 = .ok (.aload_n 0, 1) := by decide +kernel
theorem dX11_fresh_19 : decode cX11_fresh 19 = .ok (.getfield 25, 3) := by decide +kernel
theorem dX11_fresh_22 : decode cX11_fresh 22 = .ok (.getfield 40, 3) := by decide +kernel
theorem dX11_fresh_25 : decode cX11_fresh 25 = .ok (.invokevirtual 346, 3) := by decide +kernel
theorem dX11_fresh_28 : decode cX11_fresh 28 = .ok (.iload_n 1, 1) := by decide +kernel
theorem dX11_fresh_29 : decode cX11_fresh 29 = .ok (.aload_n 0, 1) := by decide +kernel
theorem dX11_fresh_30 : decode cX11_fresh 30 = .ok (.getfield 87, 3) := by decide +kernel
theorem dX11_fresh_33 : decode cX11_fresh 33 = .ok (.iconst 0, 1) := by decide +kernel
theorem dX11_fresh_34 : decode cX11_fresh 34 = .ok (.invokevirtual 349, 3) := by decide +kernel
theorem dX11_fresh_37 : decode cX11_fresh 37 = .ok (.iconst 0, 1) := by decide +kernel
theorem dX11_fresh_38 : decode cX11_fresh 38 = .ok (.istore_n 2, 1) := by decide +kernel
theorem dX11_fresh_39 : decode cX11_fresh 39 = .ok (.iconst 0, 1) := by decide +kernel
theorem dX11_fresh_40 : decode cX11_fresh 40 = .ok (.istore_n 3, 1) := by decide +kernel
theorem dX11_fresh_41 : decode cX11_fresh 41 = .ok (.iload_n 3, 1) := by decide +kernel
theorem dX11_fresh_42 : decode cX11_fresh 42 = .ok (.aload_n 0, 1) := by decide +kernel
theorem dX11_fresh_43 : decode cX11_fresh 43 = .ok (.getfield 25, 3) := by decide +kernel
theorem dX11_fresh_46 : decode cX11_fresh 46 = .ok (.getfield 40, 3) := by decide +kernel
theorem dX11_fresh_49 : decode cX11_fresh 49 = .ok (.getfield 220, 3) := by decide +kernel
theorem dX11_fresh_52 : decode cX11_fresh 52 = .ok (.if_icmp .ge 53, 3) := by decide +kernel
theorem dX11_fresh_55 : decode cX11_fresh 55 = .ok (.aload_n 0, 1) := by decide +kernel
theorem dX11_fresh_56 : decode cX11_fresh 56 = .ok (.getfield 25, 3) := by decide +kernel
theorem dX11_fresh_59 : decode cX11_fresh 59 = .ok (.getfield 40, 3) := by decide +kernel
theorem dX11_fresh_62 : decode cX11_fresh 62 = .ok (.iload_n 1, 1) := by decide +kernel
theorem dX11_fresh_63 : decode cX11_fresh 63 = .ok (.iload_n 3, 1) := by decide +kernel
theorem dX11_fresh_64 : decode cX11_fresh 64 = .ok (.invokevirtual 353, 3) := by decide +kernel
theorem dX11_fresh_67 : decode cX11_fresh 67 = .ok (.ifCond .eq 32, 3) := by decide +kernel
theorem dX11_fresh_70 : decode cX11_fresh 70 = .ok (.aload_n 0, 1) := by decide +kernel
theorem dX11_fresh_71 : decode cX11_fresh 71 = .ok (.getfield 87, 3) := by decide +kernel
theorem dX11_fresh_74 : decode cX11_fresh 74 = .ok (.iconst 0, 1) := by decide +kernel
theorem dX11_fresh_75 : decode cX11_fresh 75 = .ok (.aload_n 0, 1) := by decide +kernel
theorem dX11_fresh_76 : decode cX11_fresh 76 = .ok (.getfield 25, 3) := by decide +kernel
theorem dX11_fresh_79 : decode cX11_fresh 79 = .ok (.getfield 306, 3) := by decide +kernel
theorem dX11_fresh_82 : decode cX11_fresh 82 = .ok (.iload_n 3, 1) := by decide +kernel
theorem dX11_fresh_83 : decode cX11_fresh 83 = .ok (.iload_n 1, 1) := by decide +kernel
theorem dX11_fresh_84 : decode cX11_fresh 84 = .ok (.invokestatic 309, 3) := by decide +kernel
theorem dX11_fresh_87 : decode cX11_fresh 87 = .ok (.invokevirtual 356, 3) := by decide +kernel
theorem dX11_fresh_90 : decode cX11_fresh 90 = .ok (.ifCond .eq 9, 3) := by decide +kernel
theorem dX11_fresh_93 : decode cX11_fresh 93 = .ok (.iload_n 2, 1) := by decide +kernel
theorem dX11_fresh_94 : decode cX11_fresh 94 = .ok (.iconst 1, 1) := by decide +kernel
theorem dX11_fresh_95 : decode cX11_fresh 95 = .ok (.iload_n 3, 1) := by decide +kernel
theorem dX11_fresh_96 : decode cX11_fresh 96 = .ok (.ishl, 1) := by decide +kernel
theorem dX11_fresh_97 : decode cX11_fresh 97 = .ok (.ior, 1) := by decide +kernel
theorem dX11_fresh_98 : decode cX11_fresh 98 = .ok (.istore_n 2, 1) := by decide +kernel
theorem dX11_fresh_99 : decode cX11_fresh 99 = .ok (.iinc 3 1, 3) := by decide +kernel
theorem dX11_fresh_102 : decode cX11_fresh 102 = .ok (.goto (-61), 3) := by decide +kernel
theorem dX11_fresh_105 : decode cX11_fresh 105 = .ok (.aload_n 0, 1) := by decide +kernel
theorem dX11_fresh_106 : decode cX11_fresh 106 = .ok (.iload_n 2, 1) := by decide +kernel
theorem dX11_fresh_107 : decode cX11_fresh 107 = .ok (.invokevirtual 187, 3) := by decide +kernel
theorem dX11_fresh_110 : decode cX11_fresh 110 = .ok (.ireturn, 1) := by decide +kernel
theorem dX11_late_0 : decode cX11_late 0 = .ok (.aload_n 0, 1) := by decide +kernel
theorem dX11_late_1 : decode cX11_late 1 = .ok (.iload_n 1, 1) := by decide +kernel
theorem dX11_late_2 : decode cX11_late 2 = .ok (.invokevirtual 241, 3) := by decide +kernel
theorem dX11_late_5 : decode cX11_late 5 = .ok (.ifCond .eq 11, 3) := by decide +kernel
theorem dX11_late_8 : decode cX11_late 8 = .ok (.aload_n 0, 1) := by decide +kernel
theorem dX11_late_9 : decode cX11_late 9 = .ok (.iload_n 2, 1) := by decide +kernel
theorem dX11_late_10 : decode cX11_late 10 = .ok (.invokevirtual 232, 3) := by decide +kernel
theorem dX11_late_13 : decode cX11_late 13 = .ok (.ifCond .ne 9, 3) := by decide +kernel
theorem dX11_late_16 : decode cX11_late 16 = .ok (.aload_n 0, 1) := by decide +kernel
theorem dX11_late_17 : decode cX11_late 17 = .ok (.iconst 1, 1) := by decide +kernel
theorem dX11_late_18 : decode cX11_late 18 = .ok (.invokevirtual 142, 3) := by decide +kernel
theorem dX11_late_21 : decode cX11_late 21 = .ok (.ireturn, 1) := by decide +kernel
theorem dX11_late_22 : decode cX11_late 22 = .ok (.aload_n 0, 1) := by decide +kernel
theorem dX11_late_23 : decode cX11_late 23 = .ok (.getfield 25, 3) := by decide +kernel
theorem dX11_late_26 : decode cX11_late 26 = .ok (.aload_n 0, 1) := by decide +kernel
theorem dX11_late_27 : decode cX11_late 27 = .ok (.getfield 25, 3) := by decide +kernel
theorem dX11_late_30 : decode cX11_late 30 = .ok (.getfield 40, 3) := by decide +kernel
theorem dX11_late_33 : decode cX11_late 33 = .ok (.invokevirtual 346, 3) := by decide +kernel
theorem dX11_late_36 : decode cX11_late 36 = .ok (.iload_n 2, 1) := by decide +kernel
theorem dX11_late_37 : decode cX11_late 37 = .ok (.aload_n 0, 1) := by decide +kernel
theorem dX11_late_38 : decode cX11_late 38 = .ok (.getfield 87, 3) := by decide +kernel
theorem dX11_late_41 : decode cX11_late 41 = .ok (.iconst 0, 1) := by decide +kernel
theorem dX11_late_42 : decode cX11_late 42 = .ok (.invokevirtual 349, 3) := by decide +kernel
theorem dX11_late_45 : decode cX11_late 45 = .ok (.aload_n 0, 1) := by decide +kernel
theorem dX11_late_46 : decode cX11_late 46 = .ok (.aload_n 0, 1) := by decide +kernel
theorem dX11_late_47 : decode cX11_late 47 = .ok (.getfield 87, 3) := by decide +kernel
theorem dX11_late_50 : decode cX11_late 50 = .ok (.iconst 0, 1) := by decide +kernel
theorem dX11_late_51 : decode cX11_late 51 = .ok (.invokevirtual 277, 3) := by decide +kernel
theorem dX11_late_54 : decode cX11_late 54 = .ok (.aload_n 0, 1) := by decide +kernel
theorem dX11_late_55 : decode cX11_late 55 = .ok (.getfield 25, 3) := by decide +kernel
theorem dX11_late_58 : decode cX11_late 58 = .ok (.getfield 306, 3) := by decide +kernel
theorem dX11_late_61 : decode cX11_late 61 = .ok (.iload_n 1, 1) := by decide +kernel
theorem dX11_late_62 : decode cX11_late 62 = .ok (.iload_n 2, 1) := by decide +kernel
theorem dX11_late_63 : decode cX11_late 63 = .ok (.invokestatic 309, 3) := by decide +kernel
theorem dX11_late_66 : decode cX11_late 66 = .ok (.invokevirtual 277, 3) := by decide +kernel
theorem dX11_late_69 : decode cX11_late 69 = .ok (.isub, 1) := by decide +kernel
theorem dX11_late_70 : decode cX11_late 70 = .ok (.invokevirtual 187, 3) := by decide +kernel
theorem dX11_late_73 : decode cX11_late 73 = .ok (.ireturn, 1) := by decide +kernel
theorem dX11_load_0 : decode cX11_load 0 = .ok (.aload_n 0, 1) := by decide +kernel
theorem dX11_load_1 : decode cX11_load 1 = .ok (.iload_n 1, 1) := by decide +kernel
theorem dX11_load_2 : decode cX11_load 2 = .ok (.invokevirtual 241, 3) := by decide +kernel
theorem dX11_load_5 : decode cX11_load 5 = .ok (.ifCond .ne 9, 3) := by decide +kernel
theorem dX11_load_8 : decode cX11_load 8 = .ok (.aload_n 0, 1) := by decide +kernel
theorem dX11_load_9 : decode cX11_load 9 = .ok (.iconst 1, 1) := by decide +kernel
theorem dX11_load_10 : decode cX11_load 10 = .ok (.invokevirtual 142, 3) := by decide +kernel
theorem dX11_load_13 : decode cX11_load 13 = .ok (.ireturn, 1) := by decide +kernel
theorem dX11_load_14 : decode cX11_load 14 = .ok (.iconst 0, 1) := by decide +kernel
theorem dX11_load_15 : decode cX11_load 15 = .ok (.istore_n 2, 1) := by decide +kernel
theorem dX11_load_16 : decode cX11_load 16 = .ok (.iconst 0, 1) := by decide +kernel
theorem dX11_load_17 : decode cX11_load 17 = .ok (.istore_n 3, 1) := by decide +kernel
theorem dX11_load_18 : decode cX11_load 18 = .ok (.iload_n 3, 1) := by decide +kernel
theorem dX11_load_19 : decode cX11_load 19 = .ok (.aload_n 0, 1) := by decide +kernel
theorem dX11_load_20 : decode cX11_load 20 = .ok (.getfield 25, 3) := by decide +kernel
theorem dX11_load_23 : decode cX11_load 23 = .ok (.getfield 40, 3) := by decide +kernel
theorem dX11_load_26 : decode cX11_load 26 = .ok (.getfield 182, 3) := by decide +kernel
theorem dX11_load_29 : decode cX11_load 29 = .ok (.if_icmp .ge 27, 3) := by decide +kernel
theorem dX11_load_32 : decode cX11_load 32 = .ok (.aload_n 0, 1) := by decide +kernel
theorem dX11_load_33 : decode cX11_load 33 = .ok (.getfield 25, 3) := by decide +kernel
theorem dX11_load_36 : decode cX11_load 36 = .ok (.getfield 40, 3) := by decide +kernel
theorem dX11_load_39 : decode cX11_load 39 = .ok (.iload_n 3, 1) := by decide +kernel
theorem dX11_load_40 : decode cX11_load 40 = .ok (.iload_n 1, 1) := by decide +kernel
theorem dX11_load_41 : decode cX11_load 41 = .ok (.invokevirtual 353, 3) := by decide +kernel
theorem dX11_load_44 : decode cX11_load 44 = .ok (.ifCond .eq 6, 3) := by decide +kernel
theorem dX11_load_47 : decode cX11_load 47 = .ok (.iinc 2 1, 3) := by decide +kernel
theorem dX11_load_50 : decode cX11_load 50 = .ok (.iinc 3 1, 3) := by decide +kernel
theorem dX11_load_53 : decode cX11_load 53 = .ok (.goto (-35), 3) := by decide +kernel
theorem dX11_load_56 : decode cX11_load 56 = .ok (.aload_n 0, 1) := by decide +kernel
theorem dX11_load_57 : decode cX11_load 57 = .ok (.iload_n 2, 1) := by decide +kernel
theorem dX11_load_58 : decode cX11_load 58 = .ok (.invokevirtual 187, 3) := by decide +kernel
theorem dX11_load_61 : decode cX11_load 61 = .ok (.ireturn, 1) := by decide +kernel
theorem dX11_moved_0 : decode cX11_moved 0 = .ok (.iload_n 1, 1) := by decide +kernel
theorem dX11_moved_1 : decode cX11_moved 1 = .ok (.ifCond .lt 10, 3) := by decide +kernel
theorem dX11_moved_4 : decode cX11_moved 4 = .ok (.iload_n 1, 1) := by decide +kernel
theorem dX11_moved_5 : decode cX11_moved 5 = .ok (.sipush 1000, 3) := by decide +kernel
theorem dX11_moved_8 : decode cX11_moved 8 = .ok (.if_icmp .lt 9, 3) := by decide +kernel
theorem dX11_moved_11 : decode cX11_moved 11 = .ok (.aload_n 0, 1) := by decide +kernel
theorem dX11_moved_12 : decode cX11_moved 12 = .ok (.iconst 1, 1) := by decide +kernel
theorem dX11_moved_13 : decode cX11_moved 13 = .ok (.invokevirtual 142, 3) := by decide +kernel
theorem dX11_moved_16 : decode cX11_moved 16 = .ok (.ireturn, 1) := by decide +kernel
theorem dX11_moved_17 : decode cX11_moved 17 = .ok (.aload_n 0, 1) := by decide +kernel
theorem dX11_moved_18 : decode cX11_moved 18 = .ok (.getfield 25, 3) := by decide +kernel
theorem dX11_moved_21 : decode cX11_moved 21 = .ok (.getfield 40, 3) := by decide +kernel
theorem dX11_moved_24 : decode cX11_moved 24 = .ok (.getfield 220, 3) := by decide +kernel
theorem dX11_moved_27 : decode cX11_moved 27 = .ok (.bipush 6, 2) := by decide +kernel
theorem dX11_moved_29 : decode cX11_moved 29 = .ok (.if_icmp .lt 9, 3) := by decide +kernel
theorem dX11_moved_32 : decode cX11_moved 32 = .ok (.aload_n 0, 1) := by decide +kernel
theorem dX11_moved_33 : decode cX11_moved 33 = .ok (.iconst 4, 1) := by decide +kernel
theorem dX11_moved_34 : decode cX11_moved 34 = .ok (.invokevirtual 142, 3) := by decide +kernel
theorem dX11_moved_37 : decode cX11_moved 37 = .ok (.ireturn, 1) := by decide +kernel
theorem dX11_moved_38 : decode cX11_moved 38 = .ok (.aload_n 0, 1) := by decide +kernel
theorem dX11_moved_39 : decode cX11_moved 39 = .ok (.getfield 25, 3) := by decide +kernel
theorem dX11_moved_42 : decode cX11_moved 42 = .ok (.getfield 40, 3) := by decide +kernel
theorem dX11_moved_45 : decode cX11_moved 45 = .ok (.iload_n 1, 1) := by decide +kernel
theorem dX11_moved_46 : decode cX11_moved 46 = .ok (.invokevirtual 360, 3) := by decide +kernel
theorem dX11_moved_49 : decode cX11_moved 49 = .ok (.ifCond .eq 10, 3) := by decide +kernel
theorem dX11_moved_52 : decode cX11_moved 52 = .ok (.aload_n 0, 1) := by decide +kernel
theorem dX11_moved_53 : decode cX11_moved 53 = .ok (.bipush 7, 2) := by decide +kernel
theorem dX11_moved_55 : decode cX11_moved 55 = .ok (.invokevirtual 142, 3) := by decide +kernel
theorem dX11_moved_58 : decode cX11_moved 58 = .ok (.ireturn, 1) := by decide +kernel
theorem dX11_moved_59 : decode cX11_moved 59 = .ok (.iconst 0, 1) := by decide +kernel
theorem dX11_moved_60 : decode cX11_moved 60 = .ok (.istore_n 2, 1) := by decide +kernel
theorem dX11_moved_61 : decode cX11_moved 61 = .ok (.iconst 0, 1) := by decide +kernel
theorem dX11_moved_62 : decode cX11_moved 62 = .ok (.istore_n 3, 1) := by decide +kernel
theorem dX11_moved_63 : decode cX11_moved 63 = .ok (.iload_n 3, 1) := by decide +kernel
theorem dX11_moved_64 : decode cX11_moved 64 = .ok (.aload_n 0, 1) := by decide +kernel
theorem dX11_moved_65 : decode cX11_moved 65 = .ok (.getfield 25, 3) := by decide +kernel
theorem dX11_moved_68 : decode cX11_moved 68 = .ok (.getfield 40, 3) := by decide +kernel
theorem dX11_moved_71 : decode cX11_moved 71 = .ok (.getfield 182, 3) := by decide +kernel
theorem dX11_moved_74 : decode cX11_moved 74 = .ok (.if_icmp .ge 37, 3) := by decide +kernel
theorem dX11_moved_77 : decode cX11_moved 77 = .ok (.aload_n 0, 1) := by decide +kernel
theorem dX11_moved_78 : decode cX11_moved 78 = .ok (.getfield 25, 3) := by decide +kernel
theorem dX11_moved_81 : decode cX11_moved 81 = .ok (.getfield 40, 3) := by decide +kernel
theorem dX11_moved_84 : decode cX11_moved 84 = .ok (.iload_n 3, 1) := by decide +kernel
theorem dX11_moved_85 : decode cX11_moved 85 = .ok (.iload_n 1, 1) := by decide +kernel
theorem dX11_moved_86 : decode cX11_moved 86 = .ok (.invokevirtual 363, 3) := by decide +kernel
theorem dX11_moved_89 : decode cX11_moved 89 = .ok (.aload_n 0, 1) := by decide +kernel
theorem dX11_moved_90 : decode cX11_moved 90 = .ok (.getfield 25, 3) := by decide +kernel
theorem dX11_moved_93 : decode cX11_moved 93 = .ok (.getfield 40, 3) := by decide +kernel
theorem dX11_moved_96 : decode cX11_moved 96 = .ok (.getfield 211, 3) := by decide +kernel
theorem dX11_moved_99 : decode cX11_moved 99 = .ok (.if_icmp .ge 6, 3) := by decide +kernel
theorem dX11_moved_102 : decode cX11_moved 102 = .ok (.iinc 2 1, 3) := by decide +kernel
theorem dX11_moved_105 : decode cX11_moved 105 = .ok (.iinc 3 1, 3) := by decide +kernel
theorem dX11_moved_108 : decode cX11_moved 108 = .ok (.goto (-45), 3) := by decide +kernel
theorem dX11_moved_111 : decode cX11_moved 111 = .ok (.aload_n 0, 1) := by decide +kernel
theorem dX11_moved_112 : decode cX11_moved 112 = .ok (.iload_n 2, 1) := by decide +kernel
theorem dX11_moved_113 : decode cX11_moved 113 = .ok (.invokevirtual 187, 3) := by decide +kernel
theorem dX11_moved_116 : decode cX11_moved 116 = .ok (.ireturn, 1) := by decide +kernel
theorem dX11_nights_0 : decode cX11_nights 0 = .ok (.aload_n 0, 1) := by decide +kernel
theorem dX11_nights_1 : decode cX11_nights 1 = .ok (.iload_n 1, 1) := by decide +kernel
theorem dX11_nights_2 : decode cX11_nights 2 = .ok (.invokevirtual 232, 3) := by decide +kernel
theorem dX11_nights_5 : decode cX11_nights 5 = .ok (.ifCond .ne 9, 3) := by decide +kernel
theorem dX11_nights_8 : decode cX11_nights 8 = .ok (.aload_n 0, 1) := by decide +kernel
theorem dX11_nights_9 : decode cX11_nights 9 = .ok (.iconst 1, 1) := by decide +kernel
theorem dX11_nights_10 : decode cX11_nights 10 = .ok (.invokevirtual 142, 3) := by decide +kernel
theorem dX11_nights_13 : decode cX11_nights 13 = .ok (.ireturn, 1) := by decide +kernel
theorem dX11_nights_14 : decode cX11_nights 14 = .ok (.aload_n 0, 1) := by decide +kernel
theorem dX11_nights_15 : decode cX11_nights 15 = .ok (.getfield 78, 3) := by decide +kernel
theorem dX11_nights_18 : decode cX11_nights 18 = .ok (.aload_n 0, 1) := by decide +kernel
theorem dX11_nights_19 : decode cX11_nights 19 = .ok (.getfield 25, 3) := by decide +kernel
theorem dX11_nights_22 : decode cX11_nights 22 = .ok (.iload_n 1, 1) := by decide +kernel
theorem dX11_nights_23 : decode cX11_nights 23 = .ok (.invokevirtual 366, 3) := by decide +kernel
theorem dX11_nights_26 : decode cX11_nights 26 = .ok (.istore_n 2, 1) := by decide +kernel
theorem dX11_nights_27 : decode cX11_nights 27 = .ok (.iload_n 2, 1) := by decide +kernel
theorem dX11_nights_28 : decode cX11_nights 28 = .ok (.iconst (-1), 1) := by decide +kernel
theorem dX11_nights_29 : decode cX11_nights 29 = .ok (.if_icmp .ne 12, 3) := by decide +kernel
theorem dX11_nights_32 : decode cX11_nights 32 = .ok (.aload_n 0, 1) := by decide +kernel
theorem dX11_nights_33 : decode cX11_nights 33 = .ok (.bipush 6, 2) := by decide +kernel
theorem dX11_nights_35 : decode cX11_nights 35 = .ok (.invokevirtual 142, 3) := by decide +kernel
theorem dX11_nights_38 : decode cX11_nights 38 = .ok (.goto 8, 3) := by decide +kernel
theorem dX11_nights_41 : decode cX11_nights 41 = .ok (.aload_n 0, 1) := by decide +kernel
theorem dX11_nights_42 : decode cX11_nights 42 = .ok (.iload_n 2, 1) := by decide +kernel
theorem dX11_nights_43 : decode cX11_nights 43 = .ok (.invokevirtual 187, 3) := by decide +kernel
theorem dX11_nights_46 : decode cX11_nights 46 = .ok (.ireturn, 1) := by decide +kernel
theorem dX11_safe_0 : decode cX11_safe 0 = .ok (.aload_n 0, 1) := by decide +kernel
theorem dX11_safe_1 : decode cX11_safe 1 = .ok (.iload_n 1, 1) := by decide +kernel
theorem dX11_safe_2 : decode cX11_safe 2 = .ok (.invokevirtual 232, 3) := by decide +kernel
theorem dX11_safe_5 : decode cX11_safe 5 = .ok (.ifCond .eq 14, 3) := by decide +kernel
theorem dX11_safe_8 : decode cX11_safe 8 = .ok (.iload_n 2, 1) := by decide +kernel
theorem dX11_safe_9 : decode cX11_safe 9 = .ok (.ifCond .lt 10, 3) := by decide +kernel
theorem dX11_safe_12 : decode cX11_safe 12 = .ok (.iload_n 2, 1) := by decide +kernel
theorem dX11_safe_13 : decode cX11_safe 13 = .ok (.sipush 1000, 3) := by decide +kernel
theorem dX11_safe_16 : decode cX11_safe 16 = .ok (.if_icmp .le 9, 3) := by decide +kernel
theorem dX11_safe_19 : decode cX11_safe 19 = .ok (.aload_n 0, 1) := by decide +kernel
theorem dX11_safe_20 : decode cX11_safe 20 = .ok (.iconst 1, 1) := by decide +kernel
theorem dX11_safe_21 : decode cX11_safe 21 = .ok (.invokevirtual 142, 3) := by decide +kernel
theorem dX11_safe_24 : decode cX11_safe 24 = .ok (.ireturn, 1) := by decide +kernel
theorem dX11_safe_25 : decode cX11_safe 25 = .ok (.aload_n 0, 1) := by decide +kernel
theorem dX11_safe_26 : decode cX11_safe 26 = .ok (.getfield 25, 3) := by decide +kernel
theorem dX11_safe_29 : decode cX11_safe 29 = .ok (.getfield 40, 3) := by decide +kernel
theorem dX11_safe_32 : decode cX11_safe 32 = .ok (.iload_n 1, 1) := by decide +kernel
theorem dX11_safe_33 : decode cX11_safe 33 = .ok (.invokevirtual 274, 3) := by decide +kernel
theorem dX11_safe_36 : decode cX11_safe 36 = .ok (.ifCond .eq 10, 3) := by decide +kernel
theorem dX11_safe_39 : decode cX11_safe 39 = .ok (.aload_n 0, 1) := by decide +kernel
theorem dX11_safe_40 : decode cX11_safe 40 = .ok (.bipush 7, 2) := by decide +kernel
theorem dX11_safe_42 : decode cX11_safe 42 = .ok (.invokevirtual 142, 3) := by decide +kernel
theorem dX11_safe_45 : decode cX11_safe 45 = .ok (.ireturn, 1) := by decide +kernel
theorem dX11_safe_46 : decode cX11_safe 46 = .ok (.aload_n 0, 1) := by decide +kernel
theorem dX11_safe_47 : decode cX11_safe 47 = .ok (.iload_n 1, 1) := by decide +kernel
theorem dX11_safe_48 : decode cX11_safe 48 = .ok (.iload_n 2, 1) := by decide +kernel
theorem dX11_safe_49 : decode cX11_safe 49 = .ok (.invokevirtual 370, 3) := by decide +kernel
theorem dX11_safe_52 : decode cX11_safe 52 = .ok (.istore_n 3, 1) := by decide +kernel
theorem dX11_safe_53 : decode cX11_safe 53 = .ok (.iload_n 3, 1) := by decide +kernel
theorem dX11_safe_54 : decode cX11_safe 54 = .ok (.ifCond .ne 12, 3) := by decide +kernel
theorem dX11_safe_57 : decode cX11_safe 57 = .ok (.aload_n 0, 1) := by decide +kernel
theorem dX11_safe_58 : decode cX11_safe 58 = .ok (.bipush 6, 2) := by decide +kernel
theorem dX11_safe_60 : decode cX11_safe 60 = .ok (.invokevirtual 142, 3) := by decide +kernel
theorem dX11_safe_63 : decode cX11_safe 63 = .ok (.goto 11, 3) := by decide +kernel
theorem dX11_safe_66 : decode cX11_safe 66 = .ok (.aload_n 0, 1) := by decide +kernel
theorem dX11_safe_67 : decode cX11_safe 67 = .ok (.iload_n 3, 1) := by decide +kernel
theorem dX11_safe_68 : decode cX11_safe 68 = .ok (.invokestatic 373, 3) := by decide +kernel
theorem dX11_safe_71 : decode cX11_safe 71 = .ok (.invokevirtual 187, 3) := by decide +kernel
theorem dX11_safe_74 : decode cX11_safe 74 = .ok (.ireturn, 1) := by decide +kernel
theorem dX11_holders_0 : decode cX11_holders 0 = .ok (.aload_n 0, 1) := by decide +kernel
theorem dX11_holders_1 : decode cX11_holders 1 = .ok (.iload_n 1, 1) := by decide +kernel
theorem dX11_holders_2 : decode cX11_holders 2 = .ok (.invokevirtual 232, 3) := by decide +kernel
theorem dX11_holders_5 : decode cX11_holders 5 = .ok (.ifCond .eq 14, 3) := by decide +kernel
theorem dX11_holders_8 : decode cX11_holders 8 = .ok (.iload_n 2, 1) := by decide +kernel
theorem dX11_holders_9 : decode cX11_holders 9 = .ok (.ifCond .lt 10, 3) := by decide +kernel
theorem dX11_holders_12 : decode cX11_holders 12 = .ok (.iload_n 2, 1) := by decide +kernel
theorem dX11_holders_13 : decode cX11_holders 13 = .ok (.sipush 1000, 3) := by decide +kernel
theorem dX11_holders_16 : decode cX11_holders 16 = .ok (.if_icmp .le 9, 3) := by decide +kernel
theorem dX11_holders_19 : decode cX11_holders 19 = .ok (.aload_n 0, 1) := by decide +kernel
theorem dX11_holders_20 : decode cX11_holders 20 = .ok (.iconst 1, 1) := by decide +kernel
theorem dX11_holders_21 : decode cX11_holders 21 = .ok (.invokevirtual 142, 3) := by decide +kernel
theorem dX11_holders_24 : decode cX11_holders 24 = .ok (.ireturn, 1) := by decide +kernel
theorem dX11_holders_25 : decode cX11_holders 25 = .ok (.aload_n 0, 1) := by decide +kernel
theorem dX11_holders_26 : decode cX11_holders 26 = .ok (.getfield 25, 3) := by decide +kernel
theorem dX11_holders_29 : decode cX11_holders 29 = .ok (.getfield 40, 3) := by decide +kernel
theorem dX11_holders_32 : decode cX11_holders 32 = .ok (.iload_n 1, 1) := by decide +kernel
theorem dX11_holders_33 : decode cX11_holders 33 = .ok (.invokevirtual 274, 3) := by decide +kernel
theorem dX11_holders_36 : decode cX11_holders 36 = .ok (.ifCond .eq 12, 3) := by decide +kernel
theorem dX11_holders_39 : decode cX11_holders 39 = .ok (.aload_n 0, 1) := by decide +kernel
theorem dX11_holders_40 : decode cX11_holders 40 = .ok (.bipush 7, 2) := by decide +kernel
theorem dX11_holders_42 : decode cX11_holders 42 = .ok (.invokevirtual 142, 3) := by decide +kernel
theorem dX11_holders_45 : decode cX11_holders 45 = .ok (.goto 13, 3) := by decide +kernel
theorem dX11_holders_48 : decode cX11_holders 48 = .ok (.aload_n 0, 1) := by decide +kernel
theorem dX11_holders_49 : decode cX11_holders 49 = .ok (.aload_n 0, 1) := by decide +kernel
theorem dX11_holders_50 : decode cX11_holders 50 = .ok (.iload_n 1, 1) := by decide +kernel
theorem dX11_holders_51 : decode cX11_holders 51 = .ok (.iload_n 2, 1) := by decide +kernel
theorem dX11_holders_52 : decode cX11_holders 52 = .ok (.invokevirtual 370, 3) := by decide +kernel
theorem dX11_holders_55 : decode cX11_holders 55 = .ok (.invokevirtual 187, 3) := by decide +kernel
theorem dX11_holders_58 : decode cX11_holders 58 = .ok (.ireturn, 1) := by decide +kernel
theorem dX11_lost_0 : decode cX11_lost 0 = .ok (.aload_n 0, 1) := by decide +kernel
theorem dX11_lost_1 : decode cX11_lost 1 = .ok (.iload_n 1, 1) := by decide +kernel
theorem dX11_lost_2 : decode cX11_lost 2 = .ok (.invokevirtual 287, 3) := by decide +kernel
theorem dX11_lost_5 : decode cX11_lost 5 = .ok (.ifCond .ne 9, 3) := by decide +kernel
theorem dX11_lost_8 : decode cX11_lost 8 = .ok (.aload_n 0, 1) := by decide +kernel
theorem dX11_lost_9 : decode cX11_lost 9 = .ok (.iconst 1, 1) := by decide +kernel
theorem dX11_lost_10 : decode cX11_lost 10 = .ok (.invokevirtual 142, 3) := by decide +kernel
theorem dX11_lost_13 : decode cX11_lost 13 = .ok (.ireturn, 1) := by decide +kernel
theorem dX11_lost_14 : decode cX11_lost 14 = .ok (.iconst 0, 1) := by decide +kernel
theorem dX11_lost_15 : decode cX11_lost 15 = .ok (.istore_n 2, 1) := by decide +kernel
theorem dX11_lost_16 : decode cX11_lost 16 = .ok (.iconst 0, 1) := by decide +kernel
theorem dX11_lost_17 : decode cX11_lost 17 = .ok (.istore_n 3, 1) := by decide +kernel
theorem dX11_lost_18 : decode cX11_lost 18 = .ok (.iload_n 3, 1) := by decide +kernel
theorem dX11_lost_19 : decode cX11_lost 19 = .ok (.aload_n 0, 1) := by decide +kernel
theorem dX11_lost_20 : decode cX11_lost 20 = .ok (.getfield 25, 3) := by decide +kernel
theorem dX11_lost_23 : decode cX11_lost 23 = .ok (.getfield 40, 3) := by decide +kernel
theorem dX11_lost_26 : decode cX11_lost 26 = .ok (.getfield 182, 3) := by decide +kernel
theorem dX11_lost_29 : decode cX11_lost 29 = .ok (.if_icmp .ge 65, 3) := by decide +kernel
theorem dX11_lost_32 : decode cX11_lost 32 = .ok (.aload_n 0, 1) := by decide +kernel
theorem dX11_lost_33 : decode cX11_lost 33 = .ok (.getfield 25, 3) := by decide +kernel
theorem dX11_lost_36 : decode cX11_lost 36 = .ok (.iload_n 3, 1) := by decide +kernel
theorem dX11_lost_37 : decode cX11_lost 37 = .ok (.aload_n 0, 1) := by decide +kernel
theorem dX11_lost_38 : decode cX11_lost 38 = .ok (.getfield 95, 3) := by decide +kernel
theorem dX11_lost_41 : decode cX11_lost 41 = .ok (.invokevirtual 378, 3) := by decide +kernel
theorem dX11_lost_44 : decode cX11_lost 44 = .ok (.iconst 0, 1) := by decide +kernel
theorem dX11_lost_45 : decode cX11_lost 45 = .ok (.istore 4, 2) := by decide +kernel
theorem dX11_lost_47 : decode cX11_lost 47 = .ok (.iload 4, 2) := by decide +kernel
theorem dX11_lost_49 : decode cX11_lost 49 = .ok (.sipush 999, 3) := by decide +kernel
theorem dX11_lost_52 : decode cX11_lost 52 = .ok (.if_icmp .gt 36, 3) := by decide +kernel
theorem dX11_lost_55 : decode cX11_lost 55 = .ok (.aload_n 0, 1) := by decide +kernel
theorem dX11_lost_56 : decode cX11_lost 56 = .ok (.getfield 95, 3) := by decide +kernel
theorem dX11_lost_59 : decode cX11_lost 59 = .ok (.iload 4, 2) := by decide +kernel
theorem dX11_lost_61 : decode cX11_lost 61 = .ok (.iaload, 1) := by decide +kernel
theorem dX11_lost_62 : decode cX11_lost 62 = .ok (.ifCond .eq 20, 3) := by decide +kernel
theorem dX11_lost_65 : decode cX11_lost 65 = .ok (.aload_n 0, 1) := by decide +kernel
theorem dX11_lost_66 : decode cX11_lost 66 = .ok (.getfield 95, 3) := by decide +kernel
theorem dX11_lost_69 : decode cX11_lost 69 = .ok (.iload 4, 2) := by decide +kernel
theorem dX11_lost_71 : decode cX11_lost 71 = .ok (.iaload, 1) := by decide +kernel
theorem dX11_lost_72 : decode cX11_lost 72 = .ok (.iload_n 1, 1) := by decide +kernel
theorem dX11_lost_73 : decode cX11_lost 73 = .ok (.iconst (-1), 1) := by decide +kernel
theorem dX11_lost_74 : decode cX11_lost 74 = .ok (.ixor, 1) := by decide +kernel
theorem dX11_lost_75 : decode cX11_lost 75 = .ok (.iand, 1) := by decide +kernel
theorem dX11_lost_76 : decode cX11_lost 76 = .ok (.ifCond .ne 6, 3) := by decide +kernel
theorem dX11_lost_79 : decode cX11_lost 79 = .ok (.iinc 2 1, 3) := by decide +kernel
theorem dX11_lost_82 : decode cX11_lost 82 = .ok (.iinc 4 1, 3) := by decide +kernel
theorem dX11_lost_85 : decode cX11_lost 85 = .ok (.goto (-38), 3) := by decide +kernel
theorem dX11_lost_88 : decode cX11_lost 88 = .ok (.iinc 3 1, 3) := by decide +kernel
theorem dX11_lost_91 : decode cX11_lost 91 = .ok (.goto (-73), 3) := by decide +kernel
theorem dX11_lost_94 : decode cX11_lost 94 = .ok (.aload_n 0, 1) := by decide +kernel
theorem dX11_lost_95 : decode cX11_lost 95 = .ok (.iload_n 2, 1) := by decide +kernel
theorem dX11_lost_96 : decode cX11_lost 96 = .ok (.invokevirtual 187, 3) := by decide +kernel
theorem dX11_lost_99 : decode cX11_lost 99 = .ok (.ireturn, 1) := by decide +kernel
theorem dX11_answers_0 : decode cX11_answers 0 = .ok (.aload_n 0, 1) := by decide +kernel
theorem dX11_answers_1 : decode cX11_answers 1 = .ok (.iload_n 1, 1) := by decide +kernel
theorem dX11_answers_2 : decode cX11_answers 2 = .ok (.invokevirtual 232, 3) := by decide +kernel
theorem dX11_answers_5 : decode cX11_answers 5 = .ok (.ifCond .eq 11, 3) := by decide +kernel
theorem dX11_answers_8 : decode cX11_answers 8 = .ok (.aload_n 0, 1) := by decide +kernel
theorem dX11_answers_9 : decode cX11_answers 9 = .ok (.iload_n 2, 1) := by decide +kernel
theorem dX11_answers_10 : decode cX11_answers 10 = .ok (.invokevirtual 241, 3) := by decide +kernel
theorem dX11_answers_13 : decode cX11_answers 13 = .ok (.ifCond .ne 9, 3) := by decide +kernel
theorem dX11_answers_16 : decode cX11_answers 16 = .ok (.aload_n 0, 1) := by decide +kernel
theorem dX11_answers_17 : decode cX11_answers 17 = .ok (.iconst 1, 1) := by decide +kernel
theorem dX11_answers_18 : decode cX11_answers 18 = .ok (.invokevirtual 142, 3) := by decide +kernel
theorem dX11_answers_21 : decode cX11_answers 21 = .ok (.ireturn, 1) := by decide +kernel
theorem dX11_answers_22 : decode cX11_answers 22 = .ok (.aload_n 0, 1) := by decide +kernel
theorem dX11_answers_23 : decode cX11_answers 23 = .ok (.getfield 71, 3) := by decide +kernel
theorem dX11_answers_26 : decode cX11_answers 26 = .ok (.aload_n 0, 1) := by decide +kernel
theorem dX11_answers_27 : decode cX11_answers 27 = .ok (.getfield 25, 3) := by decide +kernel
theorem dX11_answers_30 : decode cX11_answers 30 = .ok (.iload_n 1, 1) := by decide +kernel
theorem dX11_answers_31 : decode cX11_answers 31 = .ok (.iload_n 2, 1) := by decide +kernel
theorem dX11_answers_32 : decode cX11_answers 32 = .ok (.invokevirtual 382, 3) := by decide +kernel
theorem dX11_answers_35 : decode cX11_answers 35 = .ok (.ifCond .ne 10, 3) := by decide +kernel
theorem dX11_answers_38 : decode cX11_answers 38 = .ok (.aload_n 0, 1) := by decide +kernel
theorem dX11_answers_39 : decode cX11_answers 39 = .ok (.bipush 7, 2) := by decide +kernel
theorem dX11_answers_41 : decode cX11_answers 41 = .ok (.invokevirtual 142, 3) := by decide +kernel
theorem dX11_answers_44 : decode cX11_answers 44 = .ok (.ireturn, 1) := by decide +kernel
theorem dX11_answers_45 : decode cX11_answers 45 = .ok (.aload_n 0, 1) := by decide +kernel
theorem dX11_answers_46 : decode cX11_answers 46 = .ok (.aload_n 0, 1) := by decide +kernel
theorem dX11_answers_47 : decode cX11_answers 47 = .ok (.getfield 71, 3) := by decide +kernel
theorem dX11_answers_50 : decode cX11_answers 50 = .ok (.invokevirtual 386, 3) := by decide +kernel
theorem dX11_answers_53 : decode cX11_answers 53 = .ok (.invokevirtual 187, 3) := by decide +kernel
theorem dX11_answers_56 : decode cX11_answers 56 = .ok (.ireturn, 1) := by decide +kernel
theorem dX11_odds_0 : decode cX11_odds 0 = .ok (.aload_n 0, 1) := by decide +kernel
theorem dX11_odds_1 : decode cX11_odds 1 = .ok (.iload_n 1, 1) := by decide +kernel
theorem dX11_odds_2 : decode cX11_odds 2 = .ok (.invokevirtual 232, 3) := by decide +kernel
theorem dX11_odds_5 : decode cX11_odds 5 = .ok (.ifCond .eq 22, 3) := by decide +kernel
theorem dX11_odds_8 : decode cX11_odds 8 = .ok (.aload_n 0, 1) := by decide +kernel
theorem dX11_odds_9 : decode cX11_odds 9 = .ok (.iload_n 2, 1) := by decide +kernel
theorem dX11_odds_10 : decode cX11_odds 10 = .ok (.invokevirtual 241, 3) := by decide +kernel
theorem dX11_odds_13 : decode cX11_odds 13 = .ok (.ifCond .eq 14, 3) := by decide +kernel
theorem dX11_odds_16 : decode cX11_odds 16 = .ok (.iload_n 3, 1) := by decide +kernel
theorem dX11_odds_17 : decode cX11_odds 17 = .ok (.ifCond .lt 10, 3) := by decide +kernel
theorem dX11_odds_20 : decode cX11_odds 20 = .ok (.iload_n 3, 1) := by decide +kernel
theorem dX11_odds_21 : decode cX11_odds 21 = .ok (.sipush 1000, 3) := by decide +kernel
theorem dX11_odds_24 : decode cX11_odds 24 = .ok (.if_icmp .le 9, 3) := by decide +kernel
theorem dX11_odds_27 : decode cX11_odds 27 = .ok (.aload_n 0, 1) := by decide +kernel
theorem dX11_odds_28 : decode cX11_odds 28 = .ok (.iconst 1, 1) := by decide +kernel
theorem dX11_odds_29 : decode cX11_odds 29 = .ok (.invokevirtual 123, 3) := by decide +kernel
theorem dX11_odds_32 : decode cX11_odds 32 = .ok (.ireturn, 1) := by decide +kernel
theorem dX11_odds_33 : decode cX11_odds 33 = .ok (.aload_n 0, 1) := by decide +kernel
theorem dX11_odds_34 : decode cX11_odds 34 = .ok (.getfield 25, 3) := by decide +kernel
theorem dX11_odds_37 : decode cX11_odds 37 = .ok (.getfield 40, 3) := by decide +kernel
theorem dX11_odds_40 : decode cX11_odds 40 = .ok (.iload_n 1, 1) := by decide +kernel
theorem dX11_odds_41 : decode cX11_odds 41 = .ok (.invokevirtual 274, 3) := by decide +kernel
theorem dX11_odds_44 : decode cX11_odds 44 = .ok (.ifCond .ne 19, 3) := by decide +kernel
theorem dX11_odds_47 : decode cX11_odds 47 = .ok (.aload_n 0, 1) := by decide +kernel
theorem dX11_odds_48 : decode cX11_odds 48 = .ok (.getfield 71, 3) := by decide +kernel
theorem dX11_odds_51 : decode cX11_odds 51 = .ok (.aload_n 0, 1) := by decide +kernel
theorem dX11_odds_52 : decode cX11_odds 52 = .ok (.getfield 25, 3) := by decide +kernel
theorem dX11_odds_55 : decode cX11_odds 55 = .ok (.iload_n 1, 1) := by decide +kernel
theorem dX11_odds_56 : decode cX11_odds 56 = .ok (.iload_n 2, 1) := by decide +kernel
theorem dX11_odds_57 : decode cX11_odds 57 = .ok (.invokevirtual 382, 3) := by decide +kernel
theorem dX11_odds_60 : decode cX11_odds 60 = .ok (.ifCond .ne 10, 3) := by decide +kernel
theorem dX11_odds_63 : decode cX11_odds 63 = .ok (.aload_n 0, 1) := by decide +kernel
theorem dX11_odds_64 : decode cX11_odds 64 = .ok (.bipush 7, 2) := by decide +kernel
theorem dX11_odds_66 : decode cX11_odds 66 = .ok (.invokevirtual 123, 3) := by decide +kernel
theorem dX11_odds_69 : decode cX11_odds 69 = .ok (.ireturn, 1) := by decide +kernel
theorem dX11_odds_70 : decode cX11_odds 70 = .ok (.aload_n 0, 1) := by decide +kernel
theorem dX11_odds_71 : decode cX11_odds 71 = .ok (.aload_n 0, 1) := by decide +kernel
theorem dX11_odds_72 : decode cX11_odds 72 = .ok (.getfield 71, 3) := by decide +kernel
theorem dX11_odds_75 : decode cX11_odds 75 = .ok (.iload_n 3, 1) := by decide +kernel
theorem dX11_odds_76 : decode cX11_odds 76 = .ok (.invokevirtual 389, 3) := by decide +kernel
theorem dX11_odds_79 : decode cX11_odds 79 = .ok (.aload_n 0, 1) := by decide +kernel
theorem dX11_odds_80 : decode cX11_odds 80 = .ok (.getfield 71, 3) := by decide +kernel
theorem dX11_odds_83 : decode cX11_odds 83 = .ok (.getfield 392, 3) := by decide +kernel
theorem dX11_odds_86 : decode cX11_odds 86 = .ok (.invokevirtual 393, 3) := by decide +kernel
theorem dX11_odds_89 : decode cX11_odds 89 = .ok (.aload_n 0, 1) := by decide +kernel
theorem dX11_odds_90 : decode cX11_odds 90 = .ok (.invokevirtual 130, 3) := by decide +kernel
theorem dX11_odds_93 : decode cX11_odds 93 = .ok (.ireturn, 1) := by decide +kernel
theorem dX11_fewestFalls_0 : decode cX11_fewestFalls 0 = .ok (.aload_n 0, 1) := by decide +kernel
theorem dX11_fewestFalls_1 : decode cX11_fewestFalls 1 = .ok (.iload_n 1, 1) := by decide +kernel
theorem dX11_fewestFalls_2 : decode cX11_fewestFalls 2 = .ok (.invokevirtual 232, 3) := by decide +kernel
theorem dX11_fewestFalls_5 : decode cX11_fewestFalls 5 = .ok (.ifCond .eq 11, 3) := by decide +kernel
theorem dX11_fewestFalls_8 : decode cX11_fewestFalls 8 = .ok (.aload_n 0, 1) := by decide +kernel
theorem dX11_fewestFalls_9 : decode cX11_fewestFalls 9 = .ok (.iload_n 2, 1) := by decide +kernel
theorem dX11_fewestFalls_10 : decode cX11_fewestFalls 10 = .ok (.invokevirtual 241, 3) := by decide +kernel
theorem dX11_fewestFalls_13 : decode cX11_fewestFalls 13 = .ok (.ifCond .ne 9, 3) := by decide +kernel
theorem dX11_fewestFalls_16 : decode cX11_fewestFalls 16 = .ok (.aload_n 0, 1) := by decide +kernel
theorem dX11_fewestFalls_17 : decode cX11_fewestFalls 17 = .ok (.iconst 1, 1) := by decide +kernel
theorem dX11_fewestFalls_18 : decode cX11_fewestFalls 18 = .ok (.invokevirtual 142, 3) := by decide +kernel
theorem dX11_fewestFalls_21 : decode cX11_fewestFalls 21 = .ok (.ireturn, 1) := by decide +kernel
theorem dX11_fewestFalls_22 : decode cX11_fewestFalls 22 = .ok (.aload_n 0, 1) := by decide +kernel
theorem dX11_fewestFalls_23 : decode cX11_fewestFalls 23 = .ok (.getfield 25, 3) := by decide +kernel
theorem dX11_fewestFalls_26 : decode cX11_fewestFalls 26 = .ok (.iload_n 1, 1) := by decide +kernel
theorem dX11_fewestFalls_27 : decode cX11_fewestFalls 27 = .ok (.iload_n 2, 1) := by decide +kernel
theorem dX11_fewestFalls_28 : decode cX11_fewestFalls 28 = .ok (.invokevirtual 396, 3) := by decide +kernel
theorem dX11_fewestFalls_31 : decode cX11_fewestFalls 31 = .ok (.invokestatic 373, 3) := by decide +kernel
theorem dX11_fewestFalls_34 : decode cX11_fewestFalls 34 = .ok (.istore_n 3, 1) := by decide +kernel
theorem dX11_fewestFalls_35 : decode cX11_fewestFalls 35 = .ok (.iload_n 3, 1) := by decide +kernel
theorem dX11_fewestFalls_36 : decode cX11_fewestFalls 36 = .ok (.aload_n 0, 1) := by decide +kernel
theorem dX11_fewestFalls_37 : decode cX11_fewestFalls 37 = .ok (.getfield 25, 3) := by decide +kernel
theorem dX11_fewestFalls_40 : decode cX11_fewestFalls 40 = .ok (.getfield 40, 3) := by decide +kernel
theorem dX11_fewestFalls_43 : decode cX11_fewestFalls 43 = .ok (.getfield 214, 3) := by decide +kernel
theorem dX11_fewestFalls_46 : decode cX11_fewestFalls 46 = .ok (.if_icmp .ge 10, 3) := by decide +kernel
theorem dX11_fewestFalls_49 : decode cX11_fewestFalls 49 = .ok (.aload_n 0, 1) := by decide +kernel
theorem dX11_fewestFalls_50 : decode cX11_fewestFalls 50 = .ok (.bipush 7, 2) := by decide +kernel
theorem dX11_fewestFalls_52 : decode cX11_fewestFalls 52 = .ok (.invokevirtual 142, 3) := by decide +kernel
theorem dX11_fewestFalls_55 : decode cX11_fewestFalls 55 = .ok (.ireturn, 1) := by decide +kernel
theorem dX11_fewestFalls_56 : decode cX11_fewestFalls 56 = .ok (.iload_n 3, 1) := by decide +kernel
theorem dX11_fewestFalls_57 : decode cX11_fewestFalls 57 = .ok (.aload_n 0, 1) := by decide +kernel
theorem dX11_fewestFalls_58 : decode cX11_fewestFalls 58 = .ok (.getfield 25, 3) := by decide +kernel
theorem dX11_fewestFalls_61 : decode cX11_fewestFalls 61 = .ok (.getfield 40, 3) := by decide +kernel
theorem dX11_fewestFalls_64 : decode cX11_fewestFalls 64 = .ok (.getfield 214, 3) := by decide +kernel
theorem dX11_fewestFalls_67 : decode cX11_fewestFalls 67 = .ok (.isub, 1) := by decide +kernel
theorem dX11_fewestFalls_68 : decode cX11_fewestFalls 68 = .ok (.iconst 1, 1) := by decide +kernel
theorem dX11_fewestFalls_69 : decode cX11_fewestFalls 69 = .ok (.iadd, 1) := by decide +kernel
theorem dX11_fewestFalls_70 : decode cX11_fewestFalls 70 = .ok (.istore 4, 2) := by decide +kernel
theorem dX11_fewestFalls_72 : decode cX11_fewestFalls 72 = .ok (.aload_n 0, 1) := by decide +kernel
theorem dX11_fewestFalls_73 : decode cX11_fewestFalls 73 = .ok (.getfield 25, 3) := by decide +kernel
theorem dX11_fewestFalls_76 : decode cX11_fewestFalls 76 = .ok (.getfield 40, 3) := by decide +kernel
theorem dX11_fewestFalls_79 : decode cX11_fewestFalls 79 = .ok (.iload_n 1, 1) := by decide +kernel
theorem dX11_fewestFalls_80 : decode cX11_fewestFalls 80 = .ok (.iload_n 2, 1) := by decide +kernel
theorem dX11_fewestFalls_81 : decode cX11_fewestFalls 81 = .ok (.invokevirtual 353, 3) := by decide +kernel
theorem dX11_fewestFalls_84 : decode cX11_fewestFalls 84 = .ok (.ifCond .eq 9, 3) := by decide +kernel
theorem dX11_fewestFalls_87 : decode cX11_fewestFalls 87 = .ok (.iload_n 3, 1) := by decide +kernel
theorem dX11_fewestFalls_88 : decode cX11_fewestFalls 88 = .ok (.iconst 1, 1) := by decide +kernel
theorem dX11_fewestFalls_89 : decode cX11_fewestFalls 89 = .ok (.isub, 1) := by decide +kernel
theorem dX11_fewestFalls_90 : decode cX11_fewestFalls 90 = .ok (.goto 4, 3) := by decide +kernel
theorem dX11_fewestFalls_93 : decode cX11_fewestFalls 93 = .ok (.iload_n 3, 1) := by decide +kernel
theorem dX11_fewestFalls_94 : decode cX11_fewestFalls 94 = .ok (.istore 5, 2) := by decide +kernel
theorem dX11_fewestFalls_96 : decode cX11_fewestFalls 96 = .ok (.iload 4, 2) := by decide +kernel
theorem dX11_fewestFalls_98 : decode cX11_fewestFalls 98 = .ok (.iload 5, 2) := by decide +kernel
theorem dX11_fewestFalls_100 : decode cX11_fewestFalls 100 = .ok (.if_icmp .le 12, 3) := by decide +kernel
theorem dX11_fewestFalls_103 : decode cX11_fewestFalls 103 = .ok (.aload_n 0, 1) := by decide +kernel
theorem dX11_fewestFalls_104 : decode cX11_fewestFalls 104 = .ok (.bipush 6, 2) := by decide +kernel
theorem dX11_fewestFalls_106 : decode cX11_fewestFalls 106 = .ok (.invokevirtual 142, 3) := by decide +kernel
theorem dX11_fewestFalls_109 : decode cX11_fewestFalls 109 = .ok (.goto 9, 3) := by decide +kernel
theorem dX11_fewestFalls_112 : decode cX11_fewestFalls 112 = .ok (.aload_n 0, 1) := by decide +kernel
theorem dX11_fewestFalls_113 : decode cX11_fewestFalls 113 = .ok (.iload 4, 2) := by decide +kernel
theorem dX11_fewestFalls_115 : decode cX11_fewestFalls 115 = .ok (.invokevirtual 187, 3) := by decide +kernel
theorem dX11_fewestFalls_118 : decode cX11_fewestFalls 118 = .ok (.ireturn, 1) := by decide +kernel
theorem dX11_live_0 : decode cX11_live 0 = .ok (.iload_n 1, 1) := by decide +kernel
theorem dX11_live_1 : decode cX11_live 1 = .ok (.ifCond .lt 10, 3) := by decide +kernel
theorem dX11_live_4 : decode cX11_live 4 = .ok (.iload_n 1, 1) := by decide +kernel
theorem dX11_live_5 : decode cX11_live 5 = .ok (.sipush 9999, 3) := by decide +kernel
theorem dX11_live_8 : decode cX11_live 8 = .ok (.if_icmp .le 9, 3) := by decide +kernel
theorem dX11_live_11 : decode cX11_live 11 = .ok (.aload_n 0, 1) := by decide +kernel
theorem dX11_live_12 : decode cX11_live 12 = .ok (.iconst 1, 1) := by decide +kernel
theorem dX11_live_13 : decode cX11_live 13 = .ok (.invokevirtual 142, 3) := by decide +kernel
theorem dX11_live_16 : decode cX11_live 16 = .ok (.ireturn, 1) := by decide +kernel
theorem dX11_live_17 : decode cX11_live 17 = .ok (.aload_n 0, 1) := by decide +kernel
theorem dX11_live_18 : decode cX11_live 18 = .ok (.getfield 25, 3) := by decide +kernel
theorem dX11_live_21 : decode cX11_live 21 = .ok (.getfield 191, 3) := by decide +kernel
theorem dX11_live_24 : decode cX11_live 24 = .ok (.getfield 399, 3) := by decide +kernel
theorem dX11_live_27 : decode cX11_live 27 = .ok (.ifCond .ne 10, 3) := by decide +kernel
theorem dX11_live_30 : decode cX11_live 30 = .ok (.aload_n 0, 1) := by decide +kernel
theorem dX11_live_31 : decode cX11_live 31 = .ok (.bipush 6, 2) := by decide +kernel
theorem dX11_live_33 : decode cX11_live 33 = .ok (.invokevirtual 142, 3) := by decide +kernel
theorem dX11_live_36 : decode cX11_live 36 = .ok (.ireturn, 1) := by decide +kernel
theorem dX11_live_37 : decode cX11_live 37 = .ok (.aload_n 0, 1) := by decide +kernel
theorem dX11_live_38 : decode cX11_live 38 = .ok (.getfield 61, 3) := by decide +kernel
theorem dX11_live_41 : decode cX11_live 41 = .ok (.aload_n 0, 1) := by decide +kernel
theorem dX11_live_42 : decode cX11_live 42 = .ok (.getfield 25, 3) := by decide +kernel
theorem dX11_live_45 : decode cX11_live 45 = .ok (.iload_n 1, 1) := by decide +kernel
theorem dX11_live_46 : decode cX11_live 46 = .ok (.aload_n 0, 1) := by decide +kernel
theorem dX11_live_47 : decode cX11_live 47 = .ok (.getfield 87, 3) := by decide +kernel
theorem dX11_live_50 : decode cX11_live 50 = .ok (.invokevirtual 400, 3) := by decide +kernel
theorem dX11_live_53 : decode cX11_live 53 = .ok (.aload_n 0, 1) := by decide +kernel
theorem dX11_live_54 : decode cX11_live 54 = .ok (.aload_n 0, 1) := by decide +kernel
theorem dX11_live_55 : decode cX11_live 55 = .ok (.getfield 61, 3) := by decide +kernel
theorem dX11_live_58 : decode cX11_live 58 = .ok (.getfield 404, 3) := by decide +kernel
theorem dX11_live_61 : decode cX11_live 61 = .ok (.invokevirtual 187, 3) := by decide +kernel
theorem dX11_live_64 : decode cX11_live 64 = .ok (.ireturn, 1) := by decide +kernel
theorem dX11_lived_0 : decode cX11_lived 0 = .ok (.iload_n 1, 1) := by decide +kernel
theorem dX11_lived_1 : decode cX11_lived 1 = .ok (.ifCond .lt 9, 3) := by decide +kernel
theorem dX11_lived_4 : decode cX11_lived 4 = .ok (.iload_n 1, 1) := by decide +kernel
theorem dX11_lived_5 : decode cX11_lived 5 = .ok (.bipush 6, 2) := by decide +kernel
theorem dX11_lived_7 : decode cX11_lived 7 = .ok (.if_icmp .lt 9, 3) := by decide +kernel
theorem dX11_lived_10 : decode cX11_lived 10 = .ok (.aload_n 0, 1) := by decide +kernel
theorem dX11_lived_11 : decode cX11_lived 11 = .ok (.iconst 1, 1) := by decide +kernel
theorem dX11_lived_12 : decode cX11_lived 12 = .ok (.invokevirtual 142, 3) := by decide +kernel
theorem dX11_lived_15 : decode cX11_lived 15 = .ok (.ireturn, 1) := by decide +kernel
theorem dX11_lived_16 : decode cX11_lived 16 = .ok (.aload_n 0, 1) := by decide +kernel
theorem dX11_lived_17 : decode cX11_lived 17 = .ok (.getfield 61, 3) := by decide +kernel
theorem dX11_lived_20 : decode cX11_lived 20 = .ok (.getfield 404, 3) := by decide +kernel
theorem dX11_lived_23 : decode cX11_lived 23 = .ok (.iconst (-1), 1) := by decide +kernel
theorem dX11_lived_24 : decode cX11_lived 24 = .ok (.if_icmp .ne 12, 3) := by decide +kernel
theorem dX11_lived_27 : decode cX11_lived 27 = .ok (.aload_n 0, 1) := by decide +kernel
theorem dX11_lived_28 : decode cX11_lived 28 = .ok (.bipush 6, 2) := by decide +kernel
theorem dX11_lived_30 : decode cX11_lived 30 = .ok (.invokevirtual 142, 3) := by decide +kernel
theorem dX11_lived_33 : decode cX11_lived 33 = .ok (.goto 16, 3) := by decide +kernel
theorem dX11_lived_36 : decode cX11_lived 36 = .ok (.aload_n 0, 1) := by decide +kernel
theorem dX11_lived_37 : decode cX11_lived 37 = .ok (.aload_n 0, 1) := by decide +kernel
theorem dX11_lived_38 : decode cX11_lived 38 = .ok (.getfield 61, 3) := by decide +kernel
theorem dX11_lived_41 : decode cX11_lived 41 = .ok (.getfield 405, 3) := by decide +kernel
theorem dX11_lived_44 : decode cX11_lived 44 = .ok (.iload_n 1, 1) := by decide +kernel
theorem dX11_lived_45 : decode cX11_lived 45 = .ok (.iaload, 1) := by decide +kernel
theorem dX11_lived_46 : decode cX11_lived 46 = .ok (.invokevirtual 187, 3) := by decide +kernel
theorem dX11_lived_49 : decode cX11_lived 49 = .ok (.ireturn, 1) := by decide +kernel
theorem dX11_agreed_0 : decode cX11_agreed 0 = .ok (.iload_n 1, 1) := by decide +kernel
theorem dX11_agreed_1 : decode cX11_agreed 1 = .ok (.ifCond .lt 25, 3) := by decide +kernel
theorem dX11_agreed_4 : decode cX11_agreed 4 = .ok (.iload_n 2, 1) := by decide +kernel
theorem dX11_agreed_5 : decode cX11_agreed 5 = .ok (.iconst 1, 1) := by decide +kernel
theorem dX11_agreed_6 : decode cX11_agreed 6 = .ok (.if_icmp .lt 20, 3) := by decide +kernel
theorem dX11_agreed_9 : decode cX11_agreed 9 = .ok (.iload_n 2, 1) := by decide +kernel
theorem dX11_agreed_10 : decode cX11_agreed 10 = .ok (.bipush 20, 2) := by decide +kernel
theorem dX11_agreed_12 : decode cX11_agreed 12 = .ok (.if_icmp .gt 14, 3) := by decide +kernel
theorem dX11_agreed_15 : decode cX11_agreed 15 = .ok (.iload_n 1, 1) := by decide +kernel
theorem dX11_agreed_16 : decode cX11_agreed 16 = .ok (.sipush 9999, 3) := by decide +kernel
theorem dX11_agreed_19 : decode cX11_agreed 19 = .ok (.iload_n 2, 1) := by decide +kernel
theorem dX11_agreed_20 : decode cX11_agreed 20 = .ok (.isub, 1) := by decide +kernel
theorem dX11_agreed_21 : decode cX11_agreed 21 = .ok (.iconst 1, 1) := by decide +kernel
theorem dX11_agreed_22 : decode cX11_agreed 22 = .ok (.iadd, 1) := by decide +kernel
theorem dX11_agreed_23 : decode cX11_agreed 23 = .ok (.if_icmp .le 9, 3) := by decide +kernel
theorem dX11_agreed_26 : decode cX11_agreed 26 = .ok (.aload_n 0, 1) := by decide +kernel
theorem dX11_agreed_27 : decode cX11_agreed 27 = .ok (.iconst 1, 1) := by decide +kernel
theorem dX11_agreed_28 : decode cX11_agreed 28 = .ok (.invokevirtual 123, 3) := by decide +kernel
theorem dX11_agreed_31 : decode cX11_agreed 31 = .ok (.ireturn, 1) := by decide +kernel
theorem dX11_agreed_32 : decode cX11_agreed 32 = .ok (.aload_n 0, 1) := by decide +kernel
theorem dX11_agreed_33 : decode cX11_agreed 33 = .ok (.getfield 25, 3) := by decide +kernel
theorem dX11_agreed_36 : decode cX11_agreed 36 = .ok (.getfield 191, 3) := by decide +kernel
theorem dX11_agreed_39 : decode cX11_agreed 39 = .ok (.getfield 399, 3) := by decide +kernel
theorem dX11_agreed_42 : decode cX11_agreed 42 = .ok (.ifCond .ne 10, 3) := by decide +kernel
theorem dX11_agreed_45 : decode cX11_agreed 45 = .ok (.aload_n 0, 1) := by decide +kernel
theorem dX11_agreed_46 : decode cX11_agreed 46 = .ok (.bipush 6, 2) := by decide +kernel
theorem dX11_agreed_48 : decode cX11_agreed 48 = .ok (.invokevirtual 123, 3) := by decide +kernel
theorem dX11_agreed_51 : decode cX11_agreed 51 = .ok (.ireturn, 1) := by decide +kernel
theorem dX11_agreed_52 : decode cX11_agreed 52 = .ok (.iconst 0, 1) := by decide +kernel
theorem dX11_agreed_53 : decode cX11_agreed 53 = .ok (.istore_n 3, 1) := by decide +kernel
theorem dX11_agreed_54 : decode cX11_agreed 54 = .ok (.iconst 0, 1) := by decide +kernel
theorem dX11_agreed_55 : decode cX11_agreed 55 = .ok (.istore 4, 2) := by decide +kernel
theorem dX11_agreed_57 : decode cX11_agreed 57 = .ok (.iload 4, 2) := by decide +kernel
theorem dX11_agreed_59 : decode cX11_agreed 59 = .ok (.iload_n 2, 1) := by decide +kernel
theorem dX11_agreed_60 : decode cX11_agreed 60 = .ok (.if_icmp .ge 52, 3) := by decide +kernel
theorem dX11_agreed_63 : decode cX11_agreed 63 = .ok (.aload_n 0, 1) := by decide +kernel
theorem dX11_agreed_64 : decode cX11_agreed 64 = .ok (.getfield 55, 3) := by decide +kernel
theorem dX11_agreed_67 : decode cX11_agreed 67 = .ok (.aload_n 0, 1) := by decide +kernel
theorem dX11_agreed_68 : decode cX11_agreed 68 = .ok (.getfield 25, 3) := by decide +kernel
theorem dX11_agreed_71 : decode cX11_agreed 71 = .ok (.invokevirtual 408, 3) := by decide +kernel
theorem dX11_agreed_74 : decode cX11_agreed 74 = .ok (.aload_n 0, 1) := by decide +kernel
theorem dX11_agreed_75 : decode cX11_agreed 75 = .ok (.getfield 65, 3) := by decide +kernel
theorem dX11_agreed_78 : decode cX11_agreed 78 = .ok (.aload_n 0, 1) := by decide +kernel
theorem dX11_agreed_79 : decode cX11_agreed 79 = .ok (.getfield 55, 3) := by decide +kernel
theorem dX11_agreed_82 : decode cX11_agreed 82 = .ok (.iload_n 1, 1) := by decide +kernel
theorem dX11_agreed_83 : decode cX11_agreed 83 = .ok (.iload 4, 2) := by decide +kernel
theorem dX11_agreed_85 : decode cX11_agreed 85 = .ok (.iadd, 1) := by decide +kernel
theorem dX11_agreed_86 : decode cX11_agreed 86 = .ok (.aload_n 0, 1) := by decide +kernel
theorem dX11_agreed_87 : decode cX11_agreed 87 = .ok (.getfield 87, 3) := by decide +kernel
theorem dX11_agreed_90 : decode cX11_agreed 90 = .ok (.invokevirtual 400, 3) := by decide +kernel
theorem dX11_agreed_93 : decode cX11_agreed 93 = .ok (.aload_n 0, 1) := by decide +kernel
theorem dX11_agreed_94 : decode cX11_agreed 94 = .ok (.getfield 55, 3) := by decide +kernel
theorem dX11_agreed_97 : decode cX11_agreed 97 = .ok (.invokevirtual 411, 3) := by decide +kernel
theorem dX11_agreed_100 : decode cX11_agreed 100 = .ok (.ifCond .eq 6, 3) := by decide +kernel
theorem dX11_agreed_103 : decode cX11_agreed 103 = .ok (.iinc 3 1, 3) := by decide +kernel
theorem dX11_agreed_106 : decode cX11_agreed 106 = .ok (.iinc 4 1, 3) := by decide +kernel
theorem dX11_agreed_109 : decode cX11_agreed 109 = .ok (.goto (-52), 3) := by decide +kernel
theorem dX11_agreed_112 : decode cX11_agreed 112 = .ok (.aload_n 0, 1) := by decide +kernel
theorem dX11_agreed_113 : decode cX11_agreed 113 = .ok (.iload_n 3, 1) := by decide +kernel
theorem dX11_agreed_114 : decode cX11_agreed 114 = .ok (.iload_n 2, 1) := by decide +kernel
theorem dX11_agreed_115 : decode cX11_agreed 115 = .ok (.invokevirtual 393, 3) := by decide +kernel
theorem dX11_agreed_118 : decode cX11_agreed 118 = .ok (.aload_n 0, 1) := by decide +kernel
theorem dX11_agreed_119 : decode cX11_agreed 119 = .ok (.invokevirtual 130, 3) := by decide +kernel
theorem dX11_agreed_122 : decode cX11_agreed 122 = .ok (.ireturn, 1) := by decide +kernel
theorem dX11_mark_0 : decode cX11_mark 0 = .ok (.aload_n 0, 1) := by decide +kernel
theorem dX11_mark_1 : decode cX11_mark 1 = .ok (.getfield 109, 3) := by decide +kernel
theorem dX11_mark_4 : decode cX11_mark 4 = .ok (.iconst 3, 1) := by decide +kernel
theorem dX11_mark_5 : decode cX11_mark 5 = .ok (.if_icmp .lt 9, 3) := by decide +kernel
theorem dX11_mark_8 : decode cX11_mark 8 = .ok (.aload_n 0, 1) := by decide +kernel
theorem dX11_mark_9 : decode cX11_mark 9 = .ok (.iconst 4, 1) := by decide +kernel
theorem dX11_mark_10 : decode cX11_mark 10 = .ok (.invokevirtual 142, 3) := by decide +kernel
theorem dX11_mark_13 : decode cX11_mark 13 = .ok (.ireturn, 1) := by decide +kernel
theorem dX11_mark_14 : decode cX11_mark 14 = .ok (.aload_n 0, 1) := by decide +kernel
theorem dX11_mark_15 : decode cX11_mark 15 = .ok (.getfield 51, 3) := by decide +kernel
theorem dX11_mark_18 : decode cX11_mark 18 = .ok (.aload_n 0, 1) := by decide +kernel
theorem dX11_mark_19 : decode cX11_mark 19 = .ok (.getfield 109, 3) := by decide +kernel
theorem dX11_mark_22 : decode cX11_mark 22 = .ok (.aaload, 1) := by decide +kernel
theorem dX11_mark_23 : decode cX11_mark 23 = .ok (.aload_n 0, 1) := by decide +kernel
theorem dX11_mark_24 : decode cX11_mark 24 = .ok (.getfield 25, 3) := by decide +kernel
theorem dX11_mark_27 : decode cX11_mark 27 = .ok (.invokevirtual 408, 3) := by decide +kernel
theorem dX11_mark_30 : decode cX11_mark 30 = .ok (.aload_n 0, 1) := by decide +kernel
theorem dX11_mark_31 : decode cX11_mark 31 = .ok (.dup, 1) := by decide +kernel
theorem dX11_mark_32 : decode cX11_mark 32 = .ok (.getfield 109, 3) := by decide +kernel
theorem dX11_mark_35 : decode cX11_mark 35 = .ok (.iconst 1, 1) := by decide +kernel
theorem dX11_mark_36 : decode cX11_mark 36 = .ok (.iadd, 1) := by decide +kernel
theorem dX11_mark_37 : decode cX11_mark 37 = .ok (.putfield 109, 3) := by decide +kernel
theorem dX11_mark_40 : decode cX11_mark 40 = .ok (.aload_n 0, 1) := by decide +kernel
theorem dX11_mark_41 : decode cX11_mark 41 = .ok (.aload_n 0, 1) := by decide +kernel
theorem dX11_mark_42 : decode cX11_mark 42 = .ok (.getfield 109, 3) := by decide +kernel
theorem dX11_mark_45 : decode cX11_mark 45 = .ok (.invokevirtual 187, 3) := by decide +kernel
theorem dX11_mark_48 : decode cX11_mark 48 = .ok (.ireturn, 1) := by decide +kernel
theorem dX11_back_0 : decode cX11_back 0 = .ok (.aload_n 0, 1) := by decide +kernel
theorem dX11_back_1 : decode cX11_back 1 = .ok (.getfield 109, 3) := by decide +kernel
theorem dX11_back_4 : decode cX11_back 4 = .ok (.ifCond .gt 10, 3) := by decide +kernel
theorem dX11_back_7 : decode cX11_back 7 = .ok (.aload_n 0, 1) := by decide +kernel
theorem dX11_back_8 : decode cX11_back 8 = .ok (.bipush 6, 2) := by decide +kernel
theorem dX11_back_10 : decode cX11_back 10 = .ok (.invokevirtual 142, 3) := by decide +kernel
theorem dX11_back_13 : decode cX11_back 13 = .ok (.ireturn, 1) := by decide +kernel
theorem dX11_back_14 : decode cX11_back 14 = .ok (.aload_n 0, 1) := by decide +kernel
theorem dX11_back_15 : decode cX11_back 15 = .ok (.dup, 1) := by decide +kernel
theorem dX11_back_16 : decode cX11_back 16 = .ok (.getfield 109, 3) := by decide +kernel
theorem dX11_back_19 : decode cX11_back 19 = .ok (.iconst 1, 1) := by decide +kernel
theorem dX11_back_20 : decode cX11_back 20 = .ok (.isub, 1) := by decide +kernel
theorem dX11_back_21 : decode cX11_back 21 = .ok (.putfield 109, 3) := by decide +kernel
theorem dX11_back_24 : decode cX11_back 24 = .ok (.aload_n 0, 1) := by decide +kernel
theorem dX11_back_25 : decode cX11_back 25 = .ok (.getfield 25, 3) := by decide +kernel
theorem dX11_back_28 : decode cX11_back 28 = .ok (.aload_n 0, 1) := by decide +kernel
theorem dX11_back_29 : decode cX11_back 29 = .ok (.getfield 51, 3) := by decide +kernel
theorem dX11_back_32 : decode cX11_back 32 = .ok (.aload_n 0, 1) := by decide +kernel
theorem dX11_back_33 : decode cX11_back 33 = .ok (.getfield 109, 3) := by decide +kernel
theorem dX11_back_36 : decode cX11_back 36 = .ok (.aaload, 1) := by decide +kernel
theorem dX11_back_37 : decode cX11_back 37 = .ok (.invokevirtual 408, 3) := by decide +kernel
theorem dX11_back_40 : decode cX11_back 40 = .ok (.aload_n 0, 1) := by decide +kernel
theorem dX11_back_41 : decode cX11_back 41 = .ok (.aload_n 0, 1) := by decide +kernel
theorem dX11_back_42 : decode cX11_back 42 = .ok (.getfield 109, 3) := by decide +kernel
theorem dX11_back_45 : decode cX11_back 45 = .ok (.invokevirtual 187, 3) := by decide +kernel
theorem dX11_back_48 : decode cX11_back 48 = .ok (.ireturn, 1) := by decide +kernel
theorem dX11_answer_0 : decode cX11_answer 0 = .ok (.aload_n 0, 1) := by decide +kernel
theorem dX11_answer_1 : decode cX11_answer 1 = .ok (.iconst 0, 1) := by decide +kernel
theorem dX11_answer_2 : decode cX11_answer 2 = .ok (.putfield 98, 3) := by decide +kernel
theorem dX11_answer_5 : decode cX11_answer 5 = .ok (.iload_n 1, 1) := by decide +kernel
theorem dX11_answer_6 : decode cX11_answer 6 = .ok (.ireturn, 1) := by decide +kernel
theorem dX11_answerWhether_0 : decode cX11_answerWhether 0 = .ok (.aload_n 0, 1) := by decide +kernel
theorem dX11_answerWhether_1 : decode cX11_answerWhether 1 = .ok (.iload_n 1, 1) := by decide +kernel
theorem dX11_answerWhether_2 : decode cX11_answerWhether 2 = .ok (.ifCond .eq 7, 3) := by decide +kernel
theorem dX11_answerWhether_5 : decode cX11_answerWhether 5 = .ok (.iconst 1, 1) := by decide +kernel
theorem dX11_answerWhether_6 : decode cX11_answerWhether 6 = .ok (.goto 4, 3) := by decide +kernel
theorem dX11_answerWhether_9 : decode cX11_answerWhether 9 = .ok (.iconst 0, 1) := by decide +kernel
theorem dX11_answerWhether_10 : decode cX11_answerWhether 10 = .ok (.invokevirtual 187, 3) := by decide +kernel
theorem dX11_answerWhether_13 : decode cX11_answerWhether 13 = .ok (.ireturn, 1) := by decide +kernel
theorem dX11_refuse_0 : decode cX11_refuse 0 = .ok (.aload_n 0, 1) := by decide +kernel
theorem dX11_refuse_1 : decode cX11_refuse 1 = .ok (.iload_n 1, 1) := by decide +kernel
theorem dX11_refuse_2 : decode cX11_refuse 2 = .ok (.putfield 98, 3) := by decide +kernel
theorem dX11_refuse_5 : decode cX11_refuse 5 = .ok (.iconst (-1), 1) := by decide +kernel
theorem dX11_refuse_6 : decode cX11_refuse 6 = .ok (.ireturn, 1) := by decide +kernel
theorem dX11_allowed_0 : decode cX11_allowed 0 = .ok (.aload_n 0, 1) := by decide +kernel
theorem dX11_allowed_1 : decode cX11_allowed 1 = .ok (.iconst 0, 1) := by decide +kernel
theorem dX11_allowed_2 : decode cX11_allowed 2 = .ok (.putfield 98, 3) := by decide +kernel
theorem dX11_allowed_5 : decode cX11_allowed 5 = .ok (.iconst 1, 1) := by decide +kernel
theorem dX11_allowed_6 : decode cX11_allowed 6 = .ok (.ireturn, 1) := by decide +kernel
theorem dX11_refused_0 : decode cX11_refused 0 = .ok (.aload_n 0, 1) := by decide +kernel
theorem dX11_refused_1 : decode cX11_refused 1 = .ok (.iload_n 1, 1) := by decide +kernel
theorem dX11_refused_2 : decode cX11_refused 2 = .ok (.putfield 98, 3) := by decide +kernel
theorem dX11_refused_5 : decode cX11_refused 5 = .ok (.iconst 0, 1) := by decide +kernel
theorem dX11_refused_6 : decode cX11_refused 6 = .ok (.ireturn, 1) := by decide +kernel
theorem dX11_isTray_0 : decode cX11_isTray 0 = .ok (.iload_n 1, 1) := by decide +kernel
theorem dX11_isTray_1 : decode cX11_isTray 1 = .ok (.ifCond .lt 12, 3) := by decide +kernel
theorem dX11_isTray_4 : decode cX11_isTray 4 = .ok (.iload_n 1, 1) := by decide +kernel
theorem dX11_isTray_5 : decode cX11_isTray 5 = .ok (.iconst 4, 1) := by decide +kernel
theorem dX11_isTray_6 : decode cX11_isTray 6 = .ok (.if_icmp .ge 7, 3) := by decide +kernel
theorem dX11_isTray_9 : decode cX11_isTray 9 = .ok (.iconst 1, 1) := by decide +kernel
theorem dX11_isTray_10 : decode cX11_isTray 10 = .ok (.goto 4, 3) := by decide +kernel
theorem dX11_isTray_13 : decode cX11_isTray 13 = .ok (.iconst 0, 1) := by decide +kernel
theorem dX11_isTray_14 : decode cX11_isTray 14 = .ok (.ireturn, 1) := by decide +kernel
theorem dX11_isKeeper_0 : decode cX11_isKeeper 0 = .ok (.iload_n 1, 1) := by decide +kernel
theorem dX11_isKeeper_1 : decode cX11_isKeeper 1 = .ok (.ifCond .lt 21, 3) := by decide +kernel
theorem dX11_isKeeper_4 : decode cX11_isKeeper 4 = .ok (.iload_n 1, 1) := by decide +kernel
theorem dX11_isKeeper_5 : decode cX11_isKeeper 5 = .ok (.aload_n 0, 1) := by decide +kernel
theorem dX11_isKeeper_6 : decode cX11_isKeeper 6 = .ok (.getfield 25, 3) := by decide +kernel
theorem dX11_isKeeper_9 : decode cX11_isKeeper 9 = .ok (.getfield 40, 3) := by decide +kernel
theorem dX11_isKeeper_12 : decode cX11_isKeeper 12 = .ok (.getfield 220, 3) := by decide +kernel
theorem dX11_isKeeper_15 : decode cX11_isKeeper 15 = .ok (.if_icmp .ge 7, 3) := by decide +kernel
theorem dX11_isKeeper_18 : decode cX11_isKeeper 18 = .ok (.iconst 1, 1) := by decide +kernel
theorem dX11_isKeeper_19 : decode cX11_isKeeper 19 = .ok (.goto 4, 3) := by decide +kernel
theorem dX11_isKeeper_22 : decode cX11_isKeeper 22 = .ok (.iconst 0, 1) := by decide +kernel
theorem dX11_isKeeper_23 : decode cX11_isKeeper 23 = .ok (.ireturn, 1) := by decide +kernel
theorem dX11_isKey_0 : decode cX11_isKey 0 = .ok (.iload_n 1, 1) := by decide +kernel
theorem dX11_isKey_1 : decode cX11_isKey 1 = .ok (.ifCond .lt 21, 3) := by decide +kernel
theorem dX11_isKey_4 : decode cX11_isKey 4 = .ok (.iload_n 1, 1) := by decide +kernel
theorem dX11_isKey_5 : decode cX11_isKey 5 = .ok (.aload_n 0, 1) := by decide +kernel
theorem dX11_isKey_6 : decode cX11_isKey 6 = .ok (.getfield 25, 3) := by decide +kernel
theorem dX11_isKey_9 : decode cX11_isKey 9 = .ok (.getfield 40, 3) := by decide +kernel
theorem dX11_isKey_12 : decode cX11_isKey 12 = .ok (.getfield 182, 3) := by decide +kernel
theorem dX11_isKey_15 : decode cX11_isKey 15 = .ok (.if_icmp .ge 7, 3) := by decide +kernel
theorem dX11_isKey_18 : decode cX11_isKey 18 = .ok (.iconst 1, 1) := by decide +kernel
theorem dX11_isKey_19 : decode cX11_isKey 19 = .ok (.goto 4, 3) := by decide +kernel
theorem dX11_isKey_22 : decode cX11_isKey 22 = .ok (.iconst 0, 1) := by decide +kernel
theorem dX11_isKey_23 : decode cX11_isKey 23 = .ok (.ireturn, 1) := by decide +kernel
theorem dX11_isTicketOrNone_0 : decode cX11_isTicketOrNone 0 = .ok (.iload_n 1, 1) := by decide +kernel
theorem dX11_isTicketOrNone_1 : decode cX11_isTicketOrNone 1 = .ok (.iconst (-1), 1) := by decide +kernel
theorem dX11_isTicketOrNone_2 : decode cX11_isTicketOrNone 2 = .ok (.if_icmp .lt 12, 3) := by decide +kernel
theorem dX11_isTicketOrNone_5 : decode cX11_isTicketOrNone 5 = .ok (.iload_n 1, 1) := by decide +kernel
theorem dX11_isTicketOrNone_6 : decode cX11_isTicketOrNone 6 = .ok (.iconst 4, 1) := by decide +kernel
theorem dX11_isTicketOrNone_7 : decode cX11_isTicketOrNone 7 = .ok (.if_icmp .ge 7, 3) := by decide +kernel
theorem dX11_isTicketOrNone_10 : decode cX11_isTicketOrNone 10 = .ok (.iconst 1, 1) := by decide +kernel
theorem dX11_isTicketOrNone_11 : decode cX11_isTicketOrNone 11 = .ok (.goto 4, 3) := by decide +kernel
theorem dX11_isTicketOrNone_14 : decode cX11_isTicketOrNone 14 = .ok (.iconst 0, 1) := by decide +kernel
theorem dX11_isTicketOrNone_15 : decode cX11_isTicketOrNone 15 = .ok (.ireturn, 1) := by decide +kernel
theorem dX11_isKeeperSet_0 : decode cX11_isKeeperSet 0 = .ok (.iload_n 1, 1) := by decide +kernel
theorem dX11_isKeeperSet_1 : decode cX11_isKeeperSet 1 = .ok (.aload_n 0, 1) := by decide +kernel
theorem dX11_isKeeperSet_2 : decode cX11_isKeeperSet 2 = .ok (.getfield 25, 3) := by decide +kernel
theorem dX11_isKeeperSet_5 : decode cX11_isKeeperSet 5 = .ok (.getfield 40, 3) := by decide +kernel
theorem dX11_isKeeperSet_8 : decode cX11_isKeeperSet 8 = .ok (.invokevirtual 346, 3) := by decide +kernel
theorem dX11_isKeeperSet_11 : decode cX11_isKeeperSet 11 = .ok (.iconst (-1), 1) := by decide +kernel
theorem dX11_isKeeperSet_12 : decode cX11_isKeeperSet 12 = .ok (.ixor, 1) := by decide +kernel
theorem dX11_isKeeperSet_13 : decode cX11_isKeeperSet 13 = .ok (.iand, 1) := by decide +kernel
theorem dX11_isKeeperSet_14 : decode cX11_isKeeperSet 14 = .ok (.ifCond .ne 7, 3) := by decide +kernel
theorem dX11_isKeeperSet_17 : decode cX11_isKeeperSet 17 = .ok (.iconst 1, 1) := by decide +kernel
theorem dX11_isKeeperSet_18 : decode cX11_isKeeperSet 18 = .ok (.goto 4, 3) := by decide +kernel
theorem dX11_isKeeperSet_21 : decode cX11_isKeeperSet 21 = .ok (.iconst 0, 1) := by decide +kernel
theorem dX11_isKeeperSet_22 : decode cX11_isKeeperSet 22 = .ok (.ireturn, 1) := by decide +kernel
theorem dX11_placeStatus_0 : decode cX11_placeStatus 0 = .ok (.aload_n 0, 1) := by decide +kernel
theorem dX11_placeStatus_1 : decode cX11_placeStatus 1 = .ok (.iload_n 1, 1) := by decide +kernel
theorem dX11_placeStatus_2 : decode cX11_placeStatus 2 = .ok (.invokevirtual 119, 3) := by decide +kernel
theorem dX11_placeStatus_5 : decode cX11_placeStatus 5 = .ok (.ifCond .ne 5, 3) := by decide +kernel
theorem dX11_placeStatus_8 : decode cX11_placeStatus 8 = .ok (.iconst 1, 1) := by decide +kernel
theorem dX11_placeStatus_9 : decode cX11_placeStatus 9 = .ok (.ireturn, 1) := by decide +kernel
theorem dX11_placeStatus_10 : decode cX11_placeStatus 10 = .ok (.aload_n 0, 1) := by decide +kernel
theorem dX11_placeStatus_11 : decode cX11_placeStatus 11 = .ok (.getfield 11, 3) := by decide +kernel
theorem dX11_placeStatus_14 : decode cX11_placeStatus 14 = .ok (.iload_n 1, 1) := by decide +kernel
theorem dX11_placeStatus_15 : decode cX11_placeStatus 15 = .ok (.aaload, 1) := by decide +kernel
theorem dX11_placeStatus_16 : decode cX11_placeStatus 16 = .ok (.getfield 150, 3) := by decide +kernel
theorem dX11_placeStatus_19 : decode cX11_placeStatus 19 = .ok (.ifCond .ne 5, 3) := by decide +kernel
theorem dX11_placeStatus_22 : decode cX11_placeStatus 22 = .ok (.iconst 2, 1) := by decide +kernel
theorem dX11_placeStatus_23 : decode cX11_placeStatus 23 = .ok (.ireturn, 1) := by decide +kernel
theorem dX11_placeStatus_24 : decode cX11_placeStatus 24 = .ok (.iload_n 2, 1) := by decide +kernel
theorem dX11_placeStatus_25 : decode cX11_placeStatus 25 = .ok (.ifCond .lt 16, 3) := by decide +kernel
theorem dX11_placeStatus_28 : decode cX11_placeStatus 28 = .ok (.iload_n 2, 1) := by decide +kernel
theorem dX11_placeStatus_29 : decode cX11_placeStatus 29 = .ok (.aload_n 0, 1) := by decide +kernel
theorem dX11_placeStatus_30 : decode cX11_placeStatus 30 = .ok (.getfield 11, 3) := by decide +kernel
theorem dX11_placeStatus_33 : decode cX11_placeStatus 33 = .ok (.iload_n 1, 1) := by decide +kernel
theorem dX11_placeStatus_34 : decode cX11_placeStatus 34 = .ok (.aaload, 1) := by decide +kernel
theorem dX11_placeStatus_35 : decode cX11_placeStatus 35 = .ok (.getfield 157, 3) := by decide +kernel
theorem dX11_placeStatus_38 : decode cX11_placeStatus 38 = .ok (.if_icmp .lt 7, 3) := by decide +kernel
theorem dX11_placeStatus_41 : decode cX11_placeStatus 41 = .ok (.iconst 3, 1) := by decide +kernel
theorem dX11_placeStatus_42 : decode cX11_placeStatus 42 = .ok (.goto 4, 3) := by decide +kernel
theorem dX11_placeStatus_45 : decode cX11_placeStatus 45 = .ok (.iconst 0, 1) := by decide +kernel
theorem dX11_placeStatus_46 : decode cX11_placeStatus 46 = .ok (.ireturn, 1) := by decide +kernel
theorem dX11_putOrStrike_0 : decode cX11_putOrStrike 0 = .ok (.iload 4, 2) := by decide +kernel
theorem dX11_putOrStrike_2 : decode cX11_putOrStrike 2 = .ok (.iconst (-1), 1) := by decide +kernel
theorem dX11_putOrStrike_3 : decode cX11_putOrStrike 3 = .ok (.if_icmp .eq 22, 3) := by decide +kernel
theorem dX11_putOrStrike_6 : decode cX11_putOrStrike 6 = .ok (.aload_n 0, 1) := by decide +kernel
theorem dX11_putOrStrike_7 : decode cX11_putOrStrike 7 = .ok (.getfield 25, 3) := by decide +kernel
theorem dX11_putOrStrike_10 : decode cX11_putOrStrike 10 = .ok (.iload 4, 2) := by decide +kernel
theorem dX11_putOrStrike_12 : decode cX11_putOrStrike 12 = .ok (.invokevirtual 327, 3) := by decide +kernel
theorem dX11_putOrStrike_15 : decode cX11_putOrStrike 15 = .ok (.ifCond .ne 10, 3) := by decide +kernel
theorem dX11_putOrStrike_18 : decode cX11_putOrStrike 18 = .ok (.aload_n 0, 1) := by decide +kernel
theorem dX11_putOrStrike_19 : decode cX11_putOrStrike 19 = .ok (.bipush 6, 2) := by decide +kernel
theorem dX11_putOrStrike_21 : decode cX11_putOrStrike 21 = .ok (.invokevirtual 142, 3) := by decide +kernel
theorem dX11_putOrStrike_24 : decode cX11_putOrStrike 24 = .ok (.ireturn, 1) := by decide +kernel
theorem dX11_putOrStrike_25 : decode cX11_putOrStrike 25 = .ok (.aload_n 0, 1) := by decide +kernel
theorem dX11_putOrStrike_26 : decode cX11_putOrStrike 26 = .ok (.aload_n 0, 1) := by decide +kernel
theorem dX11_putOrStrike_27 : decode cX11_putOrStrike 27 = .ok (.getfield 25, 3) := by decide +kernel
theorem dX11_putOrStrike_30 : decode cX11_putOrStrike 30 = .ok (.iload_n 1, 1) := by decide +kernel
theorem dX11_putOrStrike_31 : decode cX11_putOrStrike 31 = .ok (.iload_n 2, 1) := by decide +kernel
theorem dX11_putOrStrike_32 : decode cX11_putOrStrike 32 = .ok (.iload_n 3, 1) := by decide +kernel
theorem dX11_putOrStrike_33 : decode cX11_putOrStrike 33 = .ok (.iload 4, 2) := by decide +kernel
theorem dX11_putOrStrike_35 : decode cX11_putOrStrike 35 = .ok (.invokevirtual 414, 3) := by decide +kernel
theorem dX11_putOrStrike_38 : decode cX11_putOrStrike 38 = .ok (.invokevirtual 263, 3) := by decide +kernel
theorem dX11_putOrStrike_41 : decode cX11_putOrStrike 41 = .ok (.ireturn, 1) := by decide +kernel
theorem dX11_answerTold_0 : decode cX11_answerTold 0 = .ok (.iload_n 1, 1) := by decide +kernel
theorem dX11_answerTold_1 : decode cX11_answerTold 1 = .ok (.iconst (-1), 1) := by decide +kernel
theorem dX11_answerTold_2 : decode cX11_answerTold 2 = .ok (.if_icmp .ne 10, 3) := by decide +kernel
theorem dX11_answerTold_5 : decode cX11_answerTold 5 = .ok (.aload_n 0, 1) := by decide +kernel
theorem dX11_answerTold_6 : decode cX11_answerTold 6 = .ok (.bipush 7, 2) := by decide +kernel
theorem dX11_answerTold_8 : decode cX11_answerTold 8 = .ok (.invokevirtual 142, 3) := by decide +kernel
theorem dX11_answerTold_11 : decode cX11_answerTold 11 = .ok (.ireturn, 1) := by decide +kernel
theorem dX11_answerTold_12 : decode cX11_answerTold 12 = .ok (.aload_n 0, 1) := by decide +kernel
theorem dX11_answerTold_13 : decode cX11_answerTold 13 = .ok (.iload_n 1, 1) := by decide +kernel
theorem dX11_answerTold_14 : decode cX11_answerTold 14 = .ok (.aload_n 0, 1) := by decide +kernel
theorem dX11_answerTold_15 : decode cX11_answerTold 15 = .ok (.getfield 25, 3) := by decide +kernel
theorem dX11_answerTold_18 : decode cX11_answerTold 18 = .ok (.getfield 40, 3) := by decide +kernel
theorem dX11_answerTold_21 : decode cX11_answerTold 21 = .ok (.getfield 217, 3) := by decide +kernel
theorem dX11_answerTold_24 : decode cX11_answerTold 24 = .ok (.if_icmp .lt 7, 3) := by decide +kernel
theorem dX11_answerTold_27 : decode cX11_answerTold 27 = .ok (.iconst 1, 1) := by decide +kernel
theorem dX11_answerTold_28 : decode cX11_answerTold 28 = .ok (.goto 4, 3) := by decide +kernel
theorem dX11_answerTold_31 : decode cX11_answerTold 31 = .ok (.iconst 0, 1) := by decide +kernel
theorem dX11_answerTold_32 : decode cX11_answerTold 32 = .ok (.putfield 115, 3) := by decide +kernel
theorem dX11_answerTold_35 : decode cX11_answerTold 35 = .ok (.aload_n 0, 1) := by decide +kernel
theorem dX11_answerTold_36 : decode cX11_answerTold 36 = .ok (.iload_n 1, 1) := by decide +kernel
theorem dX11_answerTold_37 : decode cX11_answerTold 37 = .ok (.invokevirtual 187, 3) := by decide +kernel
theorem dX11_answerTold_40 : decode cX11_answerTold 40 = .ok (.ireturn, 1) := by decide +kernel
theorem dX11_holderSet_0 : decode cX11_holderSet 0 = .ok (.aload_n 0, 1) := by decide +kernel
theorem dX11_holderSet_1 : decode cX11_holderSet 1 = .ok (.getfield 25, 3) := by decide +kernel
theorem dX11_holderSet_4 : decode cX11_holderSet 4 = .ok (.iload_n 1, 1) := by decide +kernel
theorem dX11_holderSet_5 : decode cX11_holderSet 5 = .ok (.aload_n 0, 1) := by decide +kernel
theorem dX11_holderSet_6 : decode cX11_holderSet 6 = .ok (.getfield 95, 3) := by decide +kernel
theorem dX11_holderSet_9 : decode cX11_holderSet 9 = .ok (.invokevirtual 378, 3) := by decide +kernel
theorem dX11_holderSet_12 : decode cX11_holderSet 12 = .ok (.aload_n 0, 1) := by decide +kernel
theorem dX11_holderSet_13 : decode cX11_holderSet 13 = .ok (.getfield 95, 3) := by decide +kernel
theorem dX11_holderSet_16 : decode cX11_holderSet 16 = .ok (.iload_n 2, 1) := by decide +kernel
theorem dX11_holderSet_17 : decode cX11_holderSet 17 = .ok (.iaload, 1) := by decide +kernel
theorem dX11_holderSet_18 : decode cX11_holderSet 18 = .ok (.ireturn, 1) := by decide +kernel
theorem dX11_setFraction_0 : decode cX11_setFraction 0 = .ok (.aload_n 0, 1) := by decide +kernel
theorem dX11_setFraction_1 : decode cX11_setFraction 1 = .ok (.iload_n 1, 1) := by decide +kernel
theorem dX11_setFraction_2 : decode cX11_setFraction 2 = .ok (.i2l, 1) := by decide +kernel
theorem dX11_setFraction_3 : decode cX11_setFraction 3 = .ok (.putfield 102, 3) := by decide +kernel
theorem dX11_setFraction_6 : decode cX11_setFraction 6 = .ok (.aload_n 0, 1) := by decide +kernel
theorem dX11_setFraction_7 : decode cX11_setFraction 7 = .ok (.iload_n 2, 1) := by decide +kernel
theorem dX11_setFraction_8 : decode cX11_setFraction 8 = .ok (.i2l, 1) := by decide +kernel
theorem dX11_setFraction_9 : decode cX11_setFraction 9 = .ok (.putfield 106, 3) := by decide +kernel
theorem dX11_setFraction_12 : decode cX11_setFraction 12 = .ok (.iload_n 2, 1) := by decide +kernel
theorem dX11_setFraction_13 : decode cX11_setFraction 13 = .ok (.istore_n 3, 1) := by decide +kernel
theorem dX11_setFraction_14 : decode cX11_setFraction 14 = .ok (.iload_n 3, 1) := by decide +kernel
theorem dX11_setFraction_15 : decode cX11_setFraction 15 = .ok (.iconst 1, 1) := by decide +kernel
theorem dX11_setFraction_16 : decode cX11_setFraction 16 = .ok (.if_icmp .le 55, 3) := by decide +kernel
theorem dX11_setFraction_19 : decode cX11_setFraction 19 = .ok (.aload_n 0, 1) := by decide +kernel
theorem dX11_setFraction_20 : decode cX11_setFraction 20 = .ok (.getfield 102, 3) := by decide +kernel
theorem dX11_setFraction_23 : decode cX11_setFraction 23 = .ok (.iload_n 3, 1) := by decide +kernel
theorem dX11_setFraction_24 : decode cX11_setFraction 24 = .ok (.i2l, 1) := by decide +kernel
theorem dX11_setFraction_25 : decode cX11_setFraction 25 = .ok (.lrem, 1) := by decide +kernel
theorem dX11_setFraction_26 : decode cX11_setFraction 26 = .ok (.lconst 0, 1) := by decide +kernel
theorem dX11_setFraction_27 : decode cX11_setFraction 27 = .ok (.lcmp, 1) := by decide +kernel
theorem dX11_setFraction_28 : decode cX11_setFraction 28 = .ok (.ifCond .ne 37, 3) := by decide +kernel
theorem dX11_setFraction_31 : decode cX11_setFraction 31 = .ok (.aload_n 0, 1) := by decide +kernel
theorem dX11_setFraction_32 : decode cX11_setFraction 32 = .ok (.getfield 106, 3) := by decide +kernel
theorem dX11_setFraction_35 : decode cX11_setFraction 35 = .ok (.iload_n 3, 1) := by decide +kernel
theorem dX11_setFraction_36 : decode cX11_setFraction 36 = .ok (.i2l, 1) := by decide +kernel
theorem dX11_setFraction_37 : decode cX11_setFraction 37 = .ok (.lrem, 1) := by decide +kernel
theorem dX11_setFraction_38 : decode cX11_setFraction 38 = .ok (.lconst 0, 1) := by decide +kernel
theorem dX11_setFraction_39 : decode cX11_setFraction 39 = .ok (.lcmp, 1) := by decide +kernel
theorem dX11_setFraction_40 : decode cX11_setFraction 40 = .ok (.ifCond .ne 25, 3) := by decide +kernel
theorem dX11_setFraction_43 : decode cX11_setFraction 43 = .ok (.aload_n 0, 1) := by decide +kernel
theorem dX11_setFraction_44 : decode cX11_setFraction 44 = .ok (.dup, 1) := by decide +kernel
theorem dX11_setFraction_45 : decode cX11_setFraction 45 = .ok (.getfield 102, 3) := by decide +kernel
theorem dX11_setFraction_48 : decode cX11_setFraction 48 = .ok (.iload_n 3, 1) := by decide +kernel
theorem dX11_setFraction_49 : decode cX11_setFraction 49 = .ok (.i2l, 1) := by decide +kernel
theorem dX11_setFraction_50 : decode cX11_setFraction 50 = .ok (.ldiv, 1) := by decide +kernel
theorem dX11_setFraction_51 : decode cX11_setFraction 51 = .ok (.putfield 102, 3) := by decide +kernel
theorem dX11_setFraction_54 : decode cX11_setFraction 54 = .ok (.aload_n 0, 1) := by decide +kernel
theorem dX11_setFraction_55 : decode cX11_setFraction 55 = .ok (.dup, 1) := by decide +kernel
theorem dX11_setFraction_56 : decode cX11_setFraction 56 = .ok (.getfield 106, 3) := by decide +kernel
theorem dX11_setFraction_59 : decode cX11_setFraction 59 = .ok (.iload_n 3, 1) := by decide +kernel
theorem dX11_setFraction_60 : decode cX11_setFraction 60 = .ok (.i2l, 1) := by decide +kernel
theorem dX11_setFraction_61 : decode cX11_setFraction 61 = .ok (.ldiv, 1) := by decide +kernel
theorem dX11_setFraction_62 : decode cX11_setFraction 62 = .ok (.putfield 106, 3) := by decide +kernel
theorem dX11_setFraction_65 : decode cX11_setFraction 65 = .ok (.iinc 3 (-1), 3) := by decide +kernel
theorem dX11_setFraction_68 : decode cX11_setFraction 68 = .ok (.goto (-54), 3) := by decide +kernel
theorem dX11_setFraction_71 : decode cX11_setFraction 71 = .ok (.return_, 1) := by decide +kernel
