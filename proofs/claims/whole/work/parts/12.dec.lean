theorem dX6_worthOf_53 : decode cX6_worthOf 53 = .ok (.aload 4, 2) := by decide +kernel
theorem dX6_worthOf_55 : decode cX6_worthOf 55 = .ok (.iload_n 2, 1) := by decide +kernel
theorem dX6_worthOf_56 : decode cX6_worthOf 56 = .ok (.aload_n 0, 1) := by decide +kernel
theorem dX6_worthOf_57 : decode cX6_worthOf 57 = .ok (.aload_n 1, 1) := by decide +kernel
theorem dX6_worthOf_58 : decode cX6_worthOf 58 = .ok (.iload_n 2, 1) := by decide +kernel
theorem dX6_worthOf_59 : decode cX6_worthOf 59 = .ok (.iload_n 3, 1) := by decide +kernel
theorem dX6_worthOf_60 : decode cX6_worthOf 60 = .ok (.invokevirtual 31, 3) := by decide +kernel
theorem dX6_worthOf_63 : decode cX6_worthOf 63 = .ok (.lastore, 1) := by decide +kernel
theorem dX6_worthOf_64 : decode cX6_worthOf 64 = .ok (.aload 4, 2) := by decide +kernel
theorem dX6_worthOf_66 : decode cX6_worthOf 66 = .ok (.iload_n 2, 1) := by decide +kernel
theorem dX6_worthOf_67 : decode cX6_worthOf 67 = .ok (.laload, 1) := by decide +kernel
theorem dX6_worthOf_68 : decode cX6_worthOf 68 = .ok (.lreturn, 1) := by decide +kernel
theorem dX6_refresh_0 : decode cX6_refresh 0 = .ok (.aload_n 1, 1) := by decide +kernel
theorem dX6_refresh_1 : decode cX6_refresh 1 = .ok (.getfield 55, 3) := by decide +kernel
theorem dX6_refresh_4 : decode cX6_refresh 4 = .ok (.aload_n 0, 1) := by decide +kernel
theorem dX6_refresh_5 : decode cX6_refresh 5 = .ok (.getfield 7, 3) := by decide +kernel
theorem dX6_refresh_8 : decode cX6_refresh 8 = .ok (.if_icmp .ne 18, 3) := by decide +kernel
theorem dX6_refresh_11 : decode cX6_refresh 11 = .ok (.aload_n 1, 1) := by decide +kernel
theorem dX6_refresh_12 : decode cX6_refresh 12 = .ok (.getfield 47, 3) := by decide +kernel
theorem dX6_refresh_15 : decode cX6_refresh 15 = .ok (.ifnull 11, 3) := by decide +kernel
theorem dX6_refresh_18 : decode cX6_refresh 18 = .ok (.aload_n 1, 1) := by decide +kernel
theorem dX6_refresh_19 : decode cX6_refresh 19 = .ok (.getfield 58, 3) := by decide +kernel
theorem dX6_refresh_22 : decode cX6_refresh 22 = .ok (.ifnull 4, 3) := by decide +kernel
theorem dX6_refresh_25 : decode cX6_refresh 25 = .ok (.return_, 1) := by decide +kernel
theorem dX6_refresh_26 : decode cX6_refresh 26 = .ok (.aload_n 1, 1) := by decide +kernel
theorem dX6_refresh_27 : decode cX6_refresh 27 = .ok (.getfield 47, 3) := by decide +kernel
theorem dX6_refresh_30 : decode cX6_refresh 30 = .ok (.ifnull 25, 3) := by decide +kernel
theorem dX6_refresh_33 : decode cX6_refresh 33 = .ok (.aload_n 1, 1) := by decide +kernel
theorem dX6_refresh_34 : decode cX6_refresh 34 = .ok (.getfield 58, 3) := by decide +kernel
theorem dX6_refresh_37 : decode cX6_refresh 37 = .ok (.ifnull 18, 3) := by decide +kernel
theorem dX6_refresh_40 : decode cX6_refresh 40 = .ok (.aload_n 1, 1) := by decide +kernel
theorem dX6_refresh_41 : decode cX6_refresh 41 = .ok (.getfield 47, 3) := by decide +kernel
theorem dX6_refresh_44 : decode cX6_refresh 44 = .ok (.arraylength, 1) := by decide +kernel
theorem dX6_refresh_45 : decode cX6_refresh 45 = .ok (.aload_n 0, 1) := by decide +kernel
theorem dX6_refresh_46 : decode cX6_refresh 46 = .ok (.getfield 13, 3) := by decide +kernel
theorem dX6_refresh_49 : decode cX6_refresh 49 = .ok (.getfield 61, 3) := by decide +kernel
theorem dX6_refresh_52 : decode cX6_refresh 52 = .ok (.if_icmp .eq 29, 3) := by decide +kernel
theorem dX6_refresh_55 : decode cX6_refresh 55 = .ok (.aload_n 1, 1) := by decide +kernel
theorem dX6_refresh_56 : decode cX6_refresh 56 = .ok (.aload_n 0, 1) := by decide +kernel
theorem dX6_refresh_57 : decode cX6_refresh 57 = .ok (.getfield 13, 3) := by decide +kernel
theorem dX6_refresh_60 : decode cX6_refresh 60 = .ok (.getfield 61, 3) := by decide +kernel
theorem dX6_refresh_63 : decode cX6_refresh 63 = .ok (.newarray .long, 2) := by decide +kernel
theorem dX6_refresh_65 : decode cX6_refresh 65 = .ok (.putfield 47, 3) := by decide +kernel
theorem dX6_refresh_68 : decode cX6_refresh 68 = .ok (.aload_n 1, 1) := by decide +kernel
theorem dX6_refresh_69 : decode cX6_refresh 69 = .ok (.aload_n 0, 1) := by decide +kernel
theorem dX6_refresh_70 : decode cX6_refresh 70 = .ok (.getfield 13, 3) := by decide +kernel
theorem dX6_refresh_73 : decode cX6_refresh 73 = .ok (.getfield 61, 3) := by decide +kernel
theorem dX6_refresh_76 : decode cX6_refresh 76 = .ok (.newarray .long, 2) := by decide +kernel
theorem dX6_refresh_78 : decode cX6_refresh 78 = .ok (.putfield 58, 3) := by decide +kernel
theorem dX6_refresh_81 : decode cX6_refresh 81 = .ok (.aload_n 1, 1) := by decide +kernel
theorem dX6_refresh_82 : decode cX6_refresh 82 = .ok (.getfield 47, 3) := by decide +kernel
theorem dX6_refresh_85 : decode cX6_refresh 85 = .ok (.ldc2_w 53, 3) := by decide +kernel
theorem dX6_refresh_88 : decode cX6_refresh 88 = .ok (.invokestatic 64, 3) := by decide +kernel
theorem dX6_refresh_91 : decode cX6_refresh 91 = .ok (.aload_n 1, 1) := by decide +kernel
theorem dX6_refresh_92 : decode cX6_refresh 92 = .ok (.getfield 58, 3) := by decide +kernel
theorem dX6_refresh_95 : decode cX6_refresh 95 = .ok (.ldc2_w 53, 3) := by decide +kernel
theorem dX6_refresh_98 : decode cX6_refresh 98 = .ok (.invokestatic 64, 3) := by decide +kernel
theorem dX6_refresh_101 : decode cX6_refresh 101 = .ok (.aload_n 1, 1) := by decide +kernel
theorem dX6_refresh_102 : decode cX6_refresh 102 = .ok (.aload_n 0, 1) := by decide +kernel
theorem dX6_refresh_103 : decode cX6_refresh 103 = .ok (.getfield 7, 3) := by decide +kernel
theorem dX6_refresh_106 : decode cX6_refresh 106 = .ok (.putfield 55, 3) := by decide +kernel
theorem dX6_refresh_109 : decode cX6_refresh 109 = .ok (.return_, 1) := by decide +kernel
theorem dX6_searchBest_0 : decode cX6_searchBest 0 = .ok (.aload_n 0, 1) := by decide +kernel
theorem dX6_searchBest_1 : decode cX6_searchBest 1 = .ok (.getfield 13, 3) := by decide +kernel
theorem dX6_searchBest_4 : decode cX6_searchBest 4 = .ok (.getfield 70, 3) := by decide +kernel
theorem dX6_searchBest_7 : decode cX6_searchBest 7 = .ok (.iconst 0, 1) := by decide +kernel
theorem dX6_searchBest_8 : decode cX6_searchBest 8 = .ok (.aaload, 1) := by decide +kernel
theorem dX6_searchBest_9 : decode cX6_searchBest 9 = .ok (.astore 4, 2) := by decide +kernel
theorem dX6_searchBest_11 : decode cX6_searchBest 11 = .ok (.aload_n 0, 1) := by decide +kernel
theorem dX6_searchBest_12 : decode cX6_searchBest 12 = .ok (.getfield 13, 3) := by decide +kernel
theorem dX6_searchBest_15 : decode cX6_searchBest 15 = .ok (.getfield 70, 3) := by decide +kernel
theorem dX6_searchBest_18 : decode cX6_searchBest 18 = .ok (.iconst 1, 1) := by decide +kernel
theorem dX6_searchBest_19 : decode cX6_searchBest 19 = .ok (.aaload, 1) := by decide +kernel
theorem dX6_searchBest_20 : decode cX6_searchBest 20 = .ok (.astore 5, 2) := by decide +kernel
theorem dX6_searchBest_22 : decode cX6_searchBest 22 = .ok (.aload_n 0, 1) := by decide +kernel
theorem dX6_searchBest_23 : decode cX6_searchBest 23 = .ok (.getfield 13, 3) := by decide +kernel
theorem dX6_searchBest_26 : decode cX6_searchBest 26 = .ok (.getfield 70, 3) := by decide +kernel
theorem dX6_searchBest_29 : decode cX6_searchBest 29 = .ok (.iconst 2, 1) := by decide +kernel
theorem dX6_searchBest_30 : decode cX6_searchBest 30 = .ok (.aaload, 1) := by decide +kernel
theorem dX6_searchBest_31 : decode cX6_searchBest 31 = .ok (.astore 6, 2) := by decide +kernel
theorem dX6_searchBest_33 : decode cX6_searchBest 33 = .ok (.aload_n 0, 1) := by decide +kernel
theorem dX6_searchBest_34 : decode cX6_searchBest 34 = .ok (.getfield 13, 3) := by decide +kernel
theorem dX6_searchBest_37 : decode cX6_searchBest 37 = .ok (.iload_n 2, 1) := by decide +kernel
theorem dX6_searchBest_38 : decode cX6_searchBest 38 = .ok (.iconst 0, 1) := by decide +kernel
theorem dX6_searchBest_39 : decode cX6_searchBest 39 = .ok (.invokevirtual 74, 3) := by decide +kernel
theorem dX6_searchBest_42 : decode cX6_searchBest 42 = .ok (.istore 7, 2) := by decide +kernel
theorem dX6_searchBest_44 : decode cX6_searchBest 44 = .ok (.aload_n 0, 1) := by decide +kernel
theorem dX6_searchBest_45 : decode cX6_searchBest 45 = .ok (.getfield 13, 3) := by decide +kernel
theorem dX6_searchBest_48 : decode cX6_searchBest 48 = .ok (.iload_n 2, 1) := by decide +kernel
theorem dX6_searchBest_49 : decode cX6_searchBest 49 = .ok (.iconst 1, 1) := by decide +kernel
theorem dX6_searchBest_50 : decode cX6_searchBest 50 = .ok (.invokevirtual 74, 3) := by decide +kernel
theorem dX6_searchBest_53 : decode cX6_searchBest 53 = .ok (.istore 8, 2) := by decide +kernel
theorem dX6_searchBest_55 : decode cX6_searchBest 55 = .ok (.aload_n 0, 1) := by decide +kernel
theorem dX6_searchBest_56 : decode cX6_searchBest 56 = .ok (.getfield 13, 3) := by decide +kernel
theorem dX6_searchBest_59 : decode cX6_searchBest 59 = .ok (.iload_n 2, 1) := by decide +kernel
theorem dX6_searchBest_60 : decode cX6_searchBest 60 = .ok (.iconst 2, 1) := by decide +kernel
theorem dX6_searchBest_61 : decode cX6_searchBest 61 = .ok (.invokevirtual 74, 3) := by decide +kernel
theorem dX6_searchBest_64 : decode cX6_searchBest 64 = .ok (.istore 9, 2) := by decide +kernel
theorem dX6_searchBest_66 : decode cX6_searchBest 66 = .ok (.aload_n 0, 1) := by decide +kernel
theorem dX6_searchBest_67 : decode cX6_searchBest 67 = .ok (.getfield 17, 3) := by decide +kernel
theorem dX6_searchBest_70 : decode cX6_searchBest 70 = .ok (.iload_n 3, 1) := by decide +kernel
theorem dX6_searchBest_71 : decode cX6_searchBest 71 = .ok (.invokevirtual 78, 3) := by decide +kernel
theorem dX6_searchBest_74 : decode cX6_searchBest 74 = .ok (.aload_n 0, 1) := by decide +kernel
theorem dX6_searchBest_75 : decode cX6_searchBest 75 = .ok (.getfield 17, 3) := by decide +kernel
theorem dX6_searchBest_78 : decode cX6_searchBest 78 = .ok (.aload_n 1, 1) := by decide +kernel
theorem dX6_searchBest_79 : decode cX6_searchBest 79 = .ok (.invokevirtual 81, 3) := by decide +kernel
theorem dX6_searchBest_82 : decode cX6_searchBest 82 = .ok (.i2l, 1) := by decide +kernel
theorem dX6_searchBest_83 : decode cX6_searchBest 83 = .ok (.lmul, 1) := by decide +kernel
theorem dX6_searchBest_84 : decode cX6_searchBest 84 = .ok (.lstore 10, 2) := by decide +kernel
theorem dX6_searchBest_86 : decode cX6_searchBest 86 = .ok (.lload 10, 2) := by decide +kernel
theorem dX6_searchBest_88 : decode cX6_searchBest 88 = .ok (.aload 4, 2) := by decide +kernel
theorem dX6_searchBest_90 : decode cX6_searchBest 90 = .ok (.iload 7, 2) := by decide +kernel
theorem dX6_searchBest_92 : decode cX6_searchBest 92 = .ok (.invokevirtual 84, 3) := by decide +kernel
theorem dX6_searchBest_95 : decode cX6_searchBest 95 = .ok (.i2l, 1) := by decide +kernel
theorem dX6_searchBest_96 : decode cX6_searchBest 96 = .ok (.lmul, 1) := by decide +kernel
theorem dX6_searchBest_97 : decode cX6_searchBest 97 = .ok (.lstore 12, 2) := by decide +kernel
theorem dX6_searchBest_99 : decode cX6_searchBest 99 = .ok (.lload 10, 2) := by decide +kernel
theorem dX6_searchBest_101 : decode cX6_searchBest 101 = .ok (.aload 5, 2) := by decide +kernel
theorem dX6_searchBest_103 : decode cX6_searchBest 103 = .ok (.iload 8, 2) := by decide +kernel
theorem dX6_searchBest_105 : decode cX6_searchBest 105 = .ok (.invokevirtual 84, 3) := by decide +kernel
theorem dX6_searchBest_108 : decode cX6_searchBest 108 = .ok (.i2l, 1) := by decide +kernel
theorem dX6_searchBest_109 : decode cX6_searchBest 109 = .ok (.lmul, 1) := by decide +kernel
theorem dX6_searchBest_110 : decode cX6_searchBest 110 = .ok (.lstore 14, 2) := by decide +kernel
theorem dX6_searchBest_112 : decode cX6_searchBest 112 = .ok (.lload 10, 2) := by decide +kernel
theorem dX6_searchBest_114 : decode cX6_searchBest 114 = .ok (.aload 6, 2) := by decide +kernel
theorem dX6_searchBest_116 : decode cX6_searchBest 116 = .ok (.iload 9, 2) := by decide +kernel
theorem dX6_searchBest_118 : decode cX6_searchBest 118 = .ok (.invokevirtual 84, 3) := by decide +kernel
theorem dX6_searchBest_121 : decode cX6_searchBest 121 = .ok (.i2l, 1) := by decide +kernel
theorem dX6_searchBest_122 : decode cX6_searchBest 122 = .ok (.lmul, 1) := by decide +kernel
theorem dX6_searchBest_123 : decode cX6_searchBest 123 = .ok (.lstore 16, 2) := by decide +kernel
theorem dX6_searchBest_125 : decode cX6_searchBest 125 = .ok (.aload 4, 2) := by decide +kernel
theorem dX6_searchBest_127 : decode cX6_searchBest 127 = .ok (.iload 7, 2) := by decide +kernel
theorem dX6_searchBest_129 : decode cX6_searchBest 129 = .ok (.invokevirtual 90, 3) := by decide +kernel
theorem dX6_searchBest_132 : decode cX6_searchBest 132 = .ok (.istore 18, 2) := by decide +kernel
theorem dX6_searchBest_134 : decode cX6_searchBest 134 = .ok (.aload 5, 2) := by decide +kernel
theorem dX6_searchBest_136 : decode cX6_searchBest 136 = .ok (.iload 8, 2) := by decide +kernel
theorem dX6_searchBest_138 : decode cX6_searchBest 138 = .ok (.invokevirtual 90, 3) := by decide +kernel
theorem dX6_searchBest_141 : decode cX6_searchBest 141 = .ok (.istore 19, 2) := by decide +kernel
theorem dX6_searchBest_143 : decode cX6_searchBest 143 = .ok (.aload 6, 2) := by decide +kernel
theorem dX6_searchBest_145 : decode cX6_searchBest 145 = .ok (.iload 9, 2) := by decide +kernel
theorem dX6_searchBest_147 : decode cX6_searchBest 147 = .ok (.invokevirtual 90, 3) := by decide +kernel
theorem dX6_searchBest_150 : decode cX6_searchBest 150 = .ok (.istore 20, 2) := by decide +kernel
theorem dX6_searchBest_152 : decode cX6_searchBest 152 = .ok (.aload 5, 2) := by decide +kernel
theorem dX6_searchBest_154 : decode cX6_searchBest 154 = .ok (.iload 8, 2) := by decide +kernel
theorem dX6_searchBest_156 : decode cX6_searchBest 156 = .ok (.invokevirtual 93, 3) := by decide +kernel
theorem dX6_searchBest_159 : decode cX6_searchBest 159 = .ok (.istore 21, 2) := by decide +kernel
theorem dX6_searchBest_161 : decode cX6_searchBest 161 = .ok (.aload 6, 2) := by decide +kernel
theorem dX6_searchBest_163 : decode cX6_searchBest 163 = .ok (.iload 9, 2) := by decide +kernel
theorem dX6_searchBest_165 : decode cX6_searchBest 165 = .ok (.invokevirtual 93, 3) := by decide +kernel
theorem dX6_searchBest_168 : decode cX6_searchBest 168 = .ok (.istore 22, 2) := by decide +kernel
theorem dX6_searchBest_170 : decode cX6_searchBest 170 = .ok (.ldc2_w 53, 3) := by decide +kernel
theorem dX6_searchBest_173 : decode cX6_searchBest 173 = .ok (.lstore 23, 2) := by decide +kernel
theorem dX6_searchBest_175 : decode cX6_searchBest 175 = .ok (.iconst 0, 1) := by decide +kernel
theorem dX6_searchBest_176 : decode cX6_searchBest 176 = .ok (.istore 25, 2) := by decide +kernel
theorem dX6_searchBest_178 : decode cX6_searchBest 178 = .ok (.aload 4, 2) := by decide +kernel
theorem dX6_searchBest_180 : decode cX6_searchBest 180 = .ok (.iload 7, 2) := by decide +kernel
theorem dX6_searchBest_182 : decode cX6_searchBest 182 = .ok (.invokevirtual 93, 3) := by decide +kernel
theorem dX6_searchBest_185 : decode cX6_searchBest 185 = .ok (.istore 26, 2) := by decide +kernel
theorem dX6_searchBest_187 : decode cX6_searchBest 187 = .ok (.iload 26, 2) := by decide +kernel
theorem dX6_searchBest_189 : decode cX6_searchBest 189 = .ok (.iload 18, 2) := by decide +kernel
theorem dX6_searchBest_191 : decode cX6_searchBest 191 = .ok (.if_icmp .gt 182, 3) := by decide +kernel
theorem dX6_searchBest_194 : decode cX6_searchBest 194 = .ok (.iload 21, 2) := by decide +kernel
theorem dX6_searchBest_196 : decode cX6_searchBest 196 = .ok (.istore 27, 2) := by decide +kernel
theorem dX6_searchBest_198 : decode cX6_searchBest 198 = .ok (.iload 27, 2) := by decide +kernel
theorem dX6_searchBest_200 : decode cX6_searchBest 200 = .ok (.iload 19, 2) := by decide +kernel
theorem dX6_searchBest_202 : decode cX6_searchBest 202 = .ok (.if_icmp .gt 165, 3) := by decide +kernel
theorem dX6_searchBest_205 : decode cX6_searchBest 205 = .ok (.iload 8, 2) := by decide +kernel
theorem dX6_searchBest_207 : decode cX6_searchBest 207 = .ok (.iload 27, 2) := by decide +kernel
theorem dX6_searchBest_209 : decode cX6_searchBest 209 = .ok (.isub, 1) := by decide +kernel
theorem dX6_searchBest_210 : decode cX6_searchBest 210 = .ok (.iload 26, 2) := by decide +kernel
theorem dX6_searchBest_212 : decode cX6_searchBest 212 = .ok (.iadd, 1) := by decide +kernel
theorem dX6_searchBest_213 : decode cX6_searchBest 213 = .ok (.aload 5, 2) := by decide +kernel
theorem dX6_searchBest_215 : decode cX6_searchBest 215 = .ok (.getfield 96, 3) := by decide +kernel
theorem dX6_searchBest_218 : decode cX6_searchBest 218 = .ok (.invokestatic 99, 3) := by decide +kernel
theorem dX6_searchBest_221 : decode cX6_searchBest 221 = .ok (.istore 28, 2) := by decide +kernel
theorem dX6_searchBest_223 : decode cX6_searchBest 223 = .ok (.iload 8, 2) := by decide +kernel
theorem dX6_searchBest_225 : decode cX6_searchBest 225 = .ok (.iload 27, 2) := by decide +kernel
theorem dX6_searchBest_227 : decode cX6_searchBest 227 = .ok (.isub, 1) := by decide +kernel
theorem dX6_searchBest_228 : decode cX6_searchBest 228 = .ok (.iload 26, 2) := by decide +kernel
theorem dX6_searchBest_230 : decode cX6_searchBest 230 = .ok (.iadd, 1) := by decide +kernel
theorem dX6_searchBest_231 : decode cX6_searchBest 231 = .ok (.iload 28, 2) := by decide +kernel
theorem dX6_searchBest_233 : decode cX6_searchBest 233 = .ok (.isub, 1) := by decide +kernel
theorem dX6_searchBest_234 : decode cX6_searchBest 234 = .ok (.istore 29, 2) := by decide +kernel
theorem dX6_searchBest_236 : decode cX6_searchBest 236 = .ok (.iload 7, 2) := by decide +kernel
theorem dX6_searchBest_238 : decode cX6_searchBest 238 = .ok (.iload 26, 2) := by decide +kernel
theorem dX6_searchBest_240 : decode cX6_searchBest 240 = .ok (.isub, 1) := by decide +kernel
theorem dX6_searchBest_241 : decode cX6_searchBest 241 = .ok (.aload 4, 2) := by decide +kernel
theorem dX6_searchBest_243 : decode cX6_searchBest 243 = .ok (.getfield 104, 3) := by decide +kernel
theorem dX6_searchBest_246 : decode cX6_searchBest 246 = .ok (.imul, 1) := by decide +kernel
theorem dX6_searchBest_247 : decode cX6_searchBest 247 = .ok (.iload 28, 2) := by decide +kernel
theorem dX6_searchBest_249 : decode cX6_searchBest 249 = .ok (.aload 5, 2) := by decide +kernel
theorem dX6_searchBest_251 : decode cX6_searchBest 251 = .ok (.getfield 104, 3) := by decide +kernel
theorem dX6_searchBest_254 : decode cX6_searchBest 254 = .ok (.imul, 1) := by decide +kernel
theorem dX6_searchBest_255 : decode cX6_searchBest 255 = .ok (.iadd, 1) := by decide +kernel
theorem dX6_searchBest_256 : decode cX6_searchBest 256 = .ok (.istore 30, 2) := by decide +kernel
theorem dX6_searchBest_258 : decode cX6_searchBest 258 = .ok (.lload 12, 2) := by decide +kernel
theorem dX6_searchBest_260 : decode cX6_searchBest 260 = .ok (.iload 26, 2) := by decide +kernel
theorem dX6_searchBest_262 : decode cX6_searchBest 262 = .ok (.i2l, 1) := by decide +kernel
theorem dX6_searchBest_263 : decode cX6_searchBest 263 = .ok (.lmul, 1) := by decide +kernel
theorem dX6_searchBest_264 : decode cX6_searchBest 264 = .ok (.lload 14, 2) := by decide +kernel
theorem dX6_searchBest_266 : decode cX6_searchBest 266 = .ok (.iload 27, 2) := by decide +kernel
theorem dX6_searchBest_268 : decode cX6_searchBest 268 = .ok (.i2l, 1) := by decide +kernel
theorem dX6_searchBest_269 : decode cX6_searchBest 269 = .ok (.lmul, 1) := by decide +kernel
theorem dX6_searchBest_270 : decode cX6_searchBest 270 = .ok (.ladd, 1) := by decide +kernel
theorem dX6_searchBest_271 : decode cX6_searchBest 271 = .ok (.lstore 31, 2) := by decide +kernel
theorem dX6_searchBest_273 : decode cX6_searchBest 273 = .ok (.iload 22, 2) := by decide +kernel
theorem dX6_searchBest_275 : decode cX6_searchBest 275 = .ok (.istore 33, 2) := by decide +kernel
theorem dX6_searchBest_277 : decode cX6_searchBest 277 = .ok (.iload 33, 2) := by decide +kernel
theorem dX6_searchBest_279 : decode cX6_searchBest 279 = .ok (.iload 20, 2) := by decide +kernel
theorem dX6_searchBest_281 : decode cX6_searchBest 281 = .ok (.if_icmp .gt 80, 3) := by decide +kernel
theorem dX6_searchBest_284 : decode cX6_searchBest 284 = .ok (.iload 9, 2) := by decide +kernel
theorem dX6_searchBest_286 : decode cX6_searchBest 286 = .ok (.iload 33, 2) := by decide +kernel
theorem dX6_searchBest_288 : decode cX6_searchBest 288 = .ok (.isub, 1) := by decide +kernel
theorem dX6_searchBest_289 : decode cX6_searchBest 289 = .ok (.iload 27, 2) := by decide +kernel
theorem dX6_searchBest_291 : decode cX6_searchBest 291 = .ok (.iadd, 1) := by decide +kernel
theorem dX6_searchBest_292 : decode cX6_searchBest 292 = .ok (.iload 29, 2) := by decide +kernel
theorem dX6_searchBest_294 : decode cX6_searchBest 294 = .ok (.iadd, 1) := by decide +kernel
theorem dX6_searchBest_295 : decode cX6_searchBest 295 = .ok (.aload 6, 2) := by decide +kernel
theorem dX6_searchBest_297 : decode cX6_searchBest 297 = .ok (.getfield 96, 3) := by decide +kernel
theorem dX6_searchBest_300 : decode cX6_searchBest 300 = .ok (.invokestatic 99, 3) := by decide +kernel
theorem dX6_searchBest_303 : decode cX6_searchBest 303 = .ok (.istore 34, 2) := by decide +kernel
theorem dX6_searchBest_305 : decode cX6_searchBest 305 = .ok (.lload 31, 2) := by decide +kernel
theorem dX6_searchBest_307 : decode cX6_searchBest 307 = .ok (.lload 16, 2) := by decide +kernel
theorem dX6_searchBest_309 : decode cX6_searchBest 309 = .ok (.iload 33, 2) := by decide +kernel
theorem dX6_searchBest_311 : decode cX6_searchBest 311 = .ok (.i2l, 1) := by decide +kernel
theorem dX6_searchBest_312 : decode cX6_searchBest 312 = .ok (.lmul, 1) := by decide +kernel
theorem dX6_searchBest_313 : decode cX6_searchBest 313 = .ok (.ladd, 1) := by decide +kernel
theorem dX6_searchBest_314 : decode cX6_searchBest 314 = .ok (.aload_n 0, 1) := by decide +kernel
theorem dX6_searchBest_315 : decode cX6_searchBest 315 = .ok (.aload_n 1, 1) := by decide +kernel
theorem dX6_searchBest_316 : decode cX6_searchBest 316 = .ok (.iload 30, 2) := by decide +kernel
theorem dX6_searchBest_318 : decode cX6_searchBest 318 = .ok (.iload 34, 2) := by decide +kernel
theorem dX6_searchBest_320 : decode cX6_searchBest 320 = .ok (.iadd, 1) := by decide +kernel
theorem dX6_searchBest_321 : decode cX6_searchBest 321 = .ok (.iload_n 3, 1) := by decide +kernel
theorem dX6_searchBest_322 : decode cX6_searchBest 322 = .ok (.invokevirtual 107, 3) := by decide +kernel
theorem dX6_searchBest_325 : decode cX6_searchBest 325 = .ok (.ladd, 1) := by decide +kernel
theorem dX6_searchBest_326 : decode cX6_searchBest 326 = .ok (.lstore 35, 2) := by decide +kernel
theorem dX6_searchBest_328 : decode cX6_searchBest 328 = .ok (.lload 35, 2) := by decide +kernel
theorem dX6_searchBest_330 : decode cX6_searchBest 330 = .ok (.lload 23, 2) := by decide +kernel
theorem dX6_searchBest_332 : decode cX6_searchBest 332 = .ok (.lcmp, 1) := by decide +kernel
theorem dX6_searchBest_333 : decode cX6_searchBest 333 = .ok (.ifCond .le 22, 3) := by decide +kernel
theorem dX6_searchBest_336 : decode cX6_searchBest 336 = .ok (.lload 35, 2) := by decide +kernel
theorem dX6_searchBest_338 : decode cX6_searchBest 338 = .ok (.lstore 23, 2) := by decide +kernel
theorem dX6_searchBest_340 : decode cX6_searchBest 340 = .ok (.iload 26, 2) := by decide +kernel
theorem dX6_searchBest_342 : decode cX6_searchBest 342 = .ok (.bipush 8, 2) := by decide +kernel
theorem dX6_searchBest_344 : decode cX6_searchBest 344 = .ok (.ishl, 1) := by decide +kernel
theorem dX6_searchBest_345 : decode cX6_searchBest 345 = .ok (.iload 27, 2) := by decide +kernel
theorem dX6_searchBest_347 : decode cX6_searchBest 347 = .ok (.iconst 4, 1) := by decide +kernel
theorem dX6_searchBest_348 : decode cX6_searchBest 348 = .ok (.ishl, 1) := by decide +kernel
theorem dX6_searchBest_349 : decode cX6_searchBest 349 = .ok (.ior, 1) := by decide +kernel
theorem dX6_searchBest_350 : decode cX6_searchBest 350 = .ok (.iload 33, 2) := by decide +kernel
theorem dX6_searchBest_352 : decode cX6_searchBest 352 = .ok (.ior, 1) := by decide +kernel
theorem dX6_searchBest_353 : decode cX6_searchBest 353 = .ok (.istore 25, 2) := by decide +kernel
theorem dX6_searchBest_355 : decode cX6_searchBest 355 = .ok (.iinc 33 1, 3) := by decide +kernel
theorem dX6_searchBest_358 : decode cX6_searchBest 358 = .ok (.goto (-81), 3) := by decide +kernel
theorem dX6_searchBest_361 : decode cX6_searchBest 361 = .ok (.iinc 27 1, 3) := by decide +kernel
theorem dX6_searchBest_364 : decode cX6_searchBest 364 = .ok (.goto (-166), 3) := by decide +kernel
theorem dX6_searchBest_367 : decode cX6_searchBest 367 = .ok (.iinc 26 1, 3) := by decide +kernel
theorem dX6_searchBest_370 : decode cX6_searchBest 370 = .ok (.goto (-183), 3) := by decide +kernel
theorem dX6_searchBest_373 : decode cX6_searchBest 373 = .ok (.aload_n 0, 1) := by decide +kernel
theorem dX6_searchBest_374 : decode cX6_searchBest 374 = .ok (.iload 25, 2) := by decide +kernel
theorem dX6_searchBest_376 : decode cX6_searchBest 376 = .ok (.putfield 35, 3) := by decide +kernel
theorem dX6_searchBest_379 : decode cX6_searchBest 379 = .ok (.lload 23, 2) := by decide +kernel
theorem dX6_searchBest_381 : decode cX6_searchBest 381 = .ok (.lreturn, 1) := by decide +kernel
theorem dX6_meanFrom_0 : decode cX6_meanFrom 0 = .ok (.aload_n 1, 1) := by decide +kernel
theorem dX6_meanFrom_1 : decode cX6_meanFrom 1 = .ok (.getfield 58, 3) := by decide +kernel
theorem dX6_meanFrom_4 : decode cX6_meanFrom 4 = .ok (.astore 4, 2) := by decide +kernel
theorem dX6_meanFrom_6 : decode cX6_meanFrom 6 = .ok (.aload 4, 2) := by decide +kernel
theorem dX6_meanFrom_8 : decode cX6_meanFrom 8 = .ok (.ifnull 14, 3) := by decide +kernel
theorem dX6_meanFrom_11 : decode cX6_meanFrom 11 = .ok (.iload_n 2, 1) := by decide +kernel
theorem dX6_meanFrom_12 : decode cX6_meanFrom 12 = .ok (.ifCond .lt 10, 3) := by decide +kernel
theorem dX6_meanFrom_15 : decode cX6_meanFrom 15 = .ok (.iload_n 2, 1) := by decide +kernel
theorem dX6_meanFrom_16 : decode cX6_meanFrom 16 = .ok (.aload 4, 2) := by decide +kernel
theorem dX6_meanFrom_18 : decode cX6_meanFrom 18 = .ok (.arraylength, 1) := by decide +kernel
theorem dX6_meanFrom_19 : decode cX6_meanFrom 19 = .ok (.if_icmp .lt 5, 3) := by decide +kernel
theorem dX6_meanFrom_22 : decode cX6_meanFrom 22 = .ok (.lconst 0, 1) := by decide +kernel
theorem dX6_meanFrom_23 : decode cX6_meanFrom 23 = .ok (.lreturn, 1) := by decide +kernel
theorem dX6_meanFrom_24 : decode cX6_meanFrom 24 = .ok (.aload 4, 2) := by decide +kernel
theorem dX6_meanFrom_26 : decode cX6_meanFrom 26 = .ok (.iload_n 2, 1) := by decide +kernel
theorem dX6_meanFrom_27 : decode cX6_meanFrom 27 = .ok (.laload, 1) := by decide +kernel
theorem dX6_meanFrom_28 : decode cX6_meanFrom 28 = .ok (.ldc2_w 53, 3) := by decide +kernel
theorem dX6_meanFrom_31 : decode cX6_meanFrom 31 = .ok (.lcmp, 1) := by decide +kernel
theorem dX6_meanFrom_32 : decode cX6_meanFrom 32 = .ok (.ifCond .ne 14, 3) := by decide +kernel
theorem dX6_meanFrom_35 : decode cX6_meanFrom 35 = .ok (.aload 4, 2) := by decide +kernel
theorem dX6_meanFrom_37 : decode cX6_meanFrom 37 = .ok (.iload_n 2, 1) := by decide +kernel
theorem dX6_meanFrom_38 : decode cX6_meanFrom 38 = .ok (.aload_n 0, 1) := by decide +kernel
theorem dX6_meanFrom_39 : decode cX6_meanFrom 39 = .ok (.aload_n 1, 1) := by decide +kernel
theorem dX6_meanFrom_40 : decode cX6_meanFrom 40 = .ok (.iload_n 2, 1) := by decide +kernel
theorem dX6_meanFrom_41 : decode cX6_meanFrom 41 = .ok (.iload_n 3, 1) := by decide +kernel
theorem dX6_meanFrom_42 : decode cX6_meanFrom 42 = .ok (.invokevirtual 110, 3) := by decide +kernel
theorem dX6_meanFrom_45 : decode cX6_meanFrom 45 = .ok (.lastore, 1) := by decide +kernel
theorem dX6_meanFrom_46 : decode cX6_meanFrom 46 = .ok (.aload 4, 2) := by decide +kernel
theorem dX6_meanFrom_48 : decode cX6_meanFrom 48 = .ok (.iload_n 2, 1) := by decide +kernel
theorem dX6_meanFrom_49 : decode cX6_meanFrom 49 = .ok (.laload, 1) := by decide +kernel
theorem dX6_meanFrom_50 : decode cX6_meanFrom 50 = .ok (.lreturn, 1) := by decide +kernel
theorem dX6_meanOfChildren_0 : decode cX6_meanOfChildren 0 = .ok (.lconst 0, 1) := by decide +kernel
theorem dX6_meanOfChildren_1 : decode cX6_meanOfChildren 1 = .ok (.lstore 4, 2) := by decide +kernel
theorem dX6_meanOfChildren_3 : decode cX6_meanOfChildren 3 = .ok (.iconst 0, 1) := by decide +kernel
theorem dX6_meanOfChildren_4 : decode cX6_meanOfChildren 4 = .ok (.istore 6, 2) := by decide +kernel
theorem dX6_meanOfChildren_6 : decode cX6_meanOfChildren 6 = .ok (.iload 6, 2) := by decide +kernel
theorem dX6_meanOfChildren_8 : decode cX6_meanOfChildren 8 = .ok (.aload_n 1, 1) := by decide +kernel
theorem dX6_meanOfChildren_9 : decode cX6_meanOfChildren 9 = .ok (.getfield 113, 3) := by decide +kernel
theorem dX6_meanOfChildren_12 : decode cX6_meanOfChildren 12 = .ok (.if_icmp .ge 60, 3) := by decide +kernel
theorem dX6_meanOfChildren_15 : decode cX6_meanOfChildren 15 = .ok (.aload_n 1, 1) := by decide +kernel
theorem dX6_meanOfChildren_16 : decode cX6_meanOfChildren 16 = .ok (.iload 6, 2) := by decide +kernel
theorem dX6_meanOfChildren_18 : decode cX6_meanOfChildren 18 = .ok (.invokevirtual 116, 3) := by decide +kernel
theorem dX6_meanOfChildren_21 : decode cX6_meanOfChildren 21 = .ok (.astore 7, 2) := by decide +kernel
theorem dX6_meanOfChildren_23 : decode cX6_meanOfChildren 23 = .ok (.aload 7, 2) := by decide +kernel
theorem dX6_meanOfChildren_25 : decode cX6_meanOfChildren 25 = .ok (.ifnonnull 6, 3) := by decide +kernel
theorem dX6_meanOfChildren_28 : decode cX6_meanOfChildren 28 = .ok (.goto 38, 3) := by decide +kernel
theorem dX6_meanOfChildren_31 : decode cX6_meanOfChildren 31 = .ok (.lload 4, 2) := by decide +kernel
theorem dX6_meanOfChildren_33 : decode cX6_meanOfChildren 33 = .ok (.aload 7, 2) := by decide +kernel
theorem dX6_meanOfChildren_35 : decode cX6_meanOfChildren 35 = .ok (.getfield 120, 3) := by decide +kernel
theorem dX6_meanOfChildren_38 : decode cX6_meanOfChildren 38 = .ok (.i2l, 1) := by decide +kernel
theorem dX6_meanOfChildren_39 : decode cX6_meanOfChildren 39 = .ok (.aload_n 0, 1) := by decide +kernel
theorem dX6_meanOfChildren_40 : decode cX6_meanOfChildren 40 = .ok (.aload 7, 2) := by decide +kernel
theorem dX6_meanOfChildren_42 : decode cX6_meanOfChildren 42 = .ok (.aload_n 0, 1) := by decide +kernel
theorem dX6_meanOfChildren_43 : decode cX6_meanOfChildren 43 = .ok (.getfield 13, 3) := by decide +kernel
theorem dX6_meanOfChildren_46 : decode cX6_meanOfChildren 46 = .ok (.iload_n 2, 1) := by decide +kernel
theorem dX6_meanOfChildren_47 : decode cX6_meanOfChildren 47 = .ok (.iconst 0, 1) := by decide +kernel
theorem dX6_meanOfChildren_48 : decode cX6_meanOfChildren 48 = .ok (.aload 7, 2) := by decide +kernel
theorem dX6_meanOfChildren_50 : decode cX6_meanOfChildren 50 = .ok (.getfield 123, 3) := by decide +kernel
theorem dX6_meanOfChildren_53 : decode cX6_meanOfChildren 53 = .ok (.invokevirtual 127, 3) := by decide +kernel
theorem dX6_meanOfChildren_56 : decode cX6_meanOfChildren 56 = .ok (.iload_n 3, 1) := by decide +kernel
theorem dX6_meanOfChildren_57 : decode cX6_meanOfChildren 57 = .ok (.iconst 1, 1) := by decide +kernel
theorem dX6_meanOfChildren_58 : decode cX6_meanOfChildren 58 = .ok (.isub, 1) := by decide +kernel
theorem dX6_meanOfChildren_59 : decode cX6_meanOfChildren 59 = .ok (.invokevirtual 38, 3) := by decide +kernel
theorem dX6_meanOfChildren_62 : decode cX6_meanOfChildren 62 = .ok (.lmul, 1) := by decide +kernel
theorem dX6_meanOfChildren_63 : decode cX6_meanOfChildren 63 = .ok (.ladd, 1) := by decide +kernel
theorem dX6_meanOfChildren_64 : decode cX6_meanOfChildren 64 = .ok (.lstore 4, 2) := by decide +kernel
theorem dX6_meanOfChildren_66 : decode cX6_meanOfChildren 66 = .ok (.iinc 6 1, 3) := by decide +kernel
theorem dX6_meanOfChildren_69 : decode cX6_meanOfChildren 69 = .ok (.goto (-63), 3) := by decide +kernel
theorem dX6_meanOfChildren_72 : decode cX6_meanOfChildren 72 = .ok (.lload 4, 2) := by decide +kernel
theorem dX6_meanOfChildren_74 : decode cX6_meanOfChildren 74 = .ok (.lreturn, 1) := by decide +kernel
theorem dX7_init_0 : decode cX7_init 0 = .ok (.aload_n 0, 1) := by decide +kernel
theorem dX7_init_1 : decode cX7_init 1 = .ok (.invokespecial 1, 3) := by decide +kernel
theorem dX7_init_4 : decode cX7_init 4 = .ok (.aload_n 0, 1) := by decide +kernel
theorem dX7_init_5 : decode cX7_init 5 = .ok (.new 7, 3) := by decide +kernel
theorem dX7_init_8 : decode cX7_init 8 = .ok (.dup, 1) := by decide +kernel
theorem dX7_init_9 : decode cX7_init 9 = .ok (.invokespecial 9, 3) := by decide +kernel
theorem dX7_init_12 : decode cX7_init 12 = .ok (.putfield 10, 3) := by decide +kernel
theorem dX7_init_15 : decode cX7_init 15 = .ok (.aload_n 0, 1) := by decide +kernel
theorem dX7_init_16 : decode cX7_init 16 = .ok (.new 16, 3) := by decide +kernel
theorem dX7_init_19 : decode cX7_init 19 = .ok (.dup, 1) := by decide +kernel
theorem dX7_init_20 : decode cX7_init 20 = .ok (.invokespecial 18, 3) := by decide +kernel
theorem dX7_init_23 : decode cX7_init 23 = .ok (.putfield 19, 3) := by decide +kernel
theorem dX7_init_26 : decode cX7_init 26 = .ok (.aload_n 0, 1) := by decide +kernel
theorem dX7_init_27 : decode cX7_init 27 = .ok (.new 23, 3) := by decide +kernel
theorem dX7_init_30 : decode cX7_init 30 = .ok (.dup, 1) := by decide +kernel
theorem dX7_init_31 : decode cX7_init 31 = .ok (.aload_n 0, 1) := by decide +kernel
theorem dX7_init_32 : decode cX7_init 32 = .ok (.getfield 10, 3) := by decide +kernel
theorem dX7_init_35 : decode cX7_init 35 = .ok (.aload_n 0, 1) := by decide +kernel
theorem dX7_init_36 : decode cX7_init 36 = .ok (.getfield 19, 3) := by decide +kernel
theorem dX7_init_39 : decode cX7_init 39 = .ok (.invokespecial 25, 3) := by decide +kernel
theorem dX7_init_42 : decode cX7_init 42 = .ok (.putfield 28, 3) := by decide +kernel
theorem dX7_init_45 : decode cX7_init 45 = .ok (.aload_n 0, 1) := by decide +kernel
theorem dX7_init_46 : decode cX7_init 46 = .ok (.new 32, 3) := by decide +kernel
theorem dX7_init_49 : decode cX7_init 49 = .ok (.dup, 1) := by decide +kernel
theorem dX7_init_50 : decode cX7_init 50 = .ok (.aload_n 0, 1) := by decide +kernel
theorem dX7_init_51 : decode cX7_init 51 = .ok (.getfield 10, 3) := by decide +kernel
theorem dX7_init_54 : decode cX7_init 54 = .ok (.aload_n 0, 1) := by decide +kernel
theorem dX7_init_55 : decode cX7_init 55 = .ok (.getfield 19, 3) := by decide +kernel
theorem dX7_init_58 : decode cX7_init 58 = .ok (.invokespecial 34, 3) := by decide +kernel
theorem dX7_init_61 : decode cX7_init 61 = .ok (.putfield 35, 3) := by decide +kernel
theorem dX7_init_64 : decode cX7_init 64 = .ok (.aload_n 0, 1) := by decide +kernel
theorem dX7_init_65 : decode cX7_init 65 = .ok (.new 39, 3) := by decide +kernel
theorem dX7_init_68 : decode cX7_init 68 = .ok (.dup, 1) := by decide +kernel
theorem dX7_init_69 : decode cX7_init 69 = .ok (.invokespecial 41, 3) := by decide +kernel
theorem dX7_init_72 : decode cX7_init 72 = .ok (.putfield 42, 3) := by decide +kernel
theorem dX7_init_75 : decode cX7_init 75 = .ok (.return_, 1) := by decide +kernel
theorem dX7_lake_0 : decode cX7_lake 0 = .ok (.iload_n 2, 1) := by decide +kernel
theorem dX7_lake_1 : decode cX7_lake 1 = .ok (.bipush 30, 2) := by decide +kernel
theorem dX7_lake_3 : decode cX7_lake 3 = .ok (.invokestatic 46, 3) := by decide +kernel
theorem dX7_lake_6 : decode cX7_lake 6 = .ok (.ifCond .eq 11, 3) := by decide +kernel
theorem dX7_lake_9 : decode cX7_lake 9 = .ok (.iload_n 1, 1) := by decide +kernel
theorem dX7_lake_10 : decode cX7_lake 10 = .ok (.iload_n 2, 1) := by decide +kernel
theorem dX7_lake_11 : decode cX7_lake 11 = .ok (.invokestatic 46, 3) := by decide +kernel
theorem dX7_lake_14 : decode cX7_lake 14 = .ok (.ifCond .ne 5, 3) := by decide +kernel
theorem dX7_lake_17 : decode cX7_lake 17 = .ok (.iconst (-1), 1) := by decide +kernel
theorem dX7_lake_18 : decode cX7_lake 18 = .ok (.ireturn, 1) := by decide +kernel
theorem dX7_lake_19 : decode cX7_lake 19 = .ok (.iload_n 3, 1) := by decide +kernel
theorem dX7_lake_20 : decode cX7_lake 20 = .ok (.bipush 10, 2) := by decide +kernel
theorem dX7_lake_22 : decode cX7_lake 22 = .ok (.invokestatic 46, 3) := by decide +kernel
theorem dX7_lake_25 : decode cX7_lake 25 = .ok (.ifCond .eq 12, 3) := by decide +kernel
theorem dX7_lake_28 : decode cX7_lake 28 = .ok (.iload 4, 2) := by decide +kernel
theorem dX7_lake_30 : decode cX7_lake 30 = .ok (.iconst 5, 1) := by decide +kernel
theorem dX7_lake_31 : decode cX7_lake 31 = .ok (.invokestatic 46, 3) := by decide +kernel
theorem dX7_lake_34 : decode cX7_lake 34 = .ok (.ifCond .ne 5, 3) := by decide +kernel
theorem dX7_lake_37 : decode cX7_lake 37 = .ok (.iconst (-1), 1) := by decide +kernel
theorem dX7_lake_38 : decode cX7_lake 38 = .ok (.ireturn, 1) := by decide +kernel
theorem dX7_lake_39 : decode cX7_lake 39 = .ok (.aload_n 0, 1) := by decide +kernel
theorem dX7_lake_40 : decode cX7_lake 40 = .ok (.getfield 10, 3) := by decide +kernel
theorem dX7_lake_43 : decode cX7_lake 43 = .ok (.getfield 50, 3) := by decide +kernel
theorem dX7_lake_46 : decode cX7_lake 46 = .ok (.iconst 3, 1) := by decide +kernel
theorem dX7_lake_47 : decode cX7_lake 47 = .ok (.if_icmp .lt 7, 3) := by decide +kernel
theorem dX7_lake_50 : decode cX7_lake 50 = .ok (.iconst 1, 1) := by decide +kernel
theorem dX7_lake_51 : decode cX7_lake 51 = .ok (.goto 4, 3) := by decide +kernel
theorem dX7_lake_54 : decode cX7_lake 54 = .ok (.iconst 0, 1) := by decide +kernel
theorem dX7_lake_55 : decode cX7_lake 55 = .ok (.istore 5, 2) := by decide +kernel
theorem dX7_lake_57 : decode cX7_lake 57 = .ok (.iload 5, 2) := by decide +kernel
theorem dX7_lake_59 : decode cX7_lake 59 = .ok (.ifCond .ne 22, 3) := by decide +kernel
theorem dX7_lake_62 : decode cX7_lake 62 = .ok (.aload_n 0, 1) := by decide +kernel
theorem dX7_lake_63 : decode cX7_lake 63 = .ok (.getfield 10, 3) := by decide +kernel
theorem dX7_lake_66 : decode cX7_lake 66 = .ok (.getfield 54, 3) := by decide +kernel
theorem dX7_lake_69 : decode cX7_lake 69 = .ok (.iload_n 2, 1) := by decide +kernel
theorem dX7_lake_70 : decode cX7_lake 70 = .ok (.iconst 1, 1) := by decide +kernel
theorem dX7_lake_71 : decode cX7_lake 71 = .ok (.iadd, 1) := by decide +kernel
theorem dX7_lake_72 : decode cX7_lake 72 = .ok (.imul, 1) := by decide +kernel
theorem dX7_lake_73 : decode cX7_lake 73 = .ok (.sipush 1000, 3) := by decide +kernel
theorem dX7_lake_76 : decode cX7_lake 76 = .ok (.if_icmp .le 5, 3) := by decide +kernel
theorem dX7_lake_79 : decode cX7_lake 79 = .ok (.iconst (-1), 1) := by decide +kernel
theorem dX7_lake_80 : decode cX7_lake 80 = .ok (.ireturn, 1) := by decide +kernel
theorem dX7_lake_81 : decode cX7_lake 81 = .ok (.aload_n 0, 1) := by decide +kernel
theorem dX7_lake_82 : decode cX7_lake 82 = .ok (.getfield 42, 3) := by decide +kernel
theorem dX7_lake_85 : decode cX7_lake 85 = .ok (.getfield 57, 3) := by decide +kernel
theorem dX7_lake_88 : decode cX7_lake 88 = .ok (.ifCond .eq 6, 3) := by decide +kernel
theorem dX7_lake_91 : decode cX7_lake 91 = .ok (.bipush (-2), 2) := by decide +kernel
theorem dX7_lake_93 : decode cX7_lake 93 = .ok (.ireturn, 1) := by decide +kernel
theorem dX7_lake_94 : decode cX7_lake 94 = .ok (.iload 5, 2) := by decide +kernel
theorem dX7_lake_96 : decode cX7_lake 96 = .ok (.ifCond .ne 14, 3) := by decide +kernel
theorem dX7_lake_99 : decode cX7_lake 99 = .ok (.aload_n 0, 1) := by decide +kernel
theorem dX7_lake_100 : decode cX7_lake 100 = .ok (.getfield 19, 3) := by decide +kernel
theorem dX7_lake_103 : decode cX7_lake 103 = .ok (.getfield 61, 3) := by decide +kernel
theorem dX7_lake_106 : decode cX7_lake 106 = .ok (.iconst 1, 1) := by decide +kernel
theorem dX7_lake_107 : decode cX7_lake 107 = .ok (.if_icmp .le 6, 3) := by decide +kernel
theorem dX7_lake_110 : decode cX7_lake 110 = .ok (.bipush (-5), 2) := by decide +kernel
theorem dX7_lake_112 : decode cX7_lake 112 = .ok (.ireturn, 1) := by decide +kernel
theorem dX7_lake_113 : decode cX7_lake 113 = .ok (.aload_n 0, 1) := by decide +kernel
theorem dX7_lake_114 : decode cX7_lake 114 = .ok (.getfield 28, 3) := by decide +kernel
theorem dX7_lake_117 : decode cX7_lake 117 = .ok (.invokevirtual 62, 3) := by decide +kernel
theorem dX7_lake_120 : decode cX7_lake 120 = .ok (.aload_n 0, 1) := by decide +kernel
theorem dX7_lake_121 : decode cX7_lake 121 = .ok (.getfield 10, 3) := by decide +kernel
theorem dX7_lake_124 : decode cX7_lake 124 = .ok (.iload_n 1, 1) := by decide +kernel
theorem dX7_lake_125 : decode cX7_lake 125 = .ok (.iload_n 2, 1) := by decide +kernel
theorem dX7_lake_126 : decode cX7_lake 126 = .ok (.iload_n 3, 1) := by decide +kernel
theorem dX7_lake_127 : decode cX7_lake 127 = .ok (.iload 4, 2) := by decide +kernel
theorem dX7_lake_129 : decode cX7_lake 129 = .ok (.invokevirtual 65, 3) := by decide +kernel
theorem dX7_lake_132 : decode cX7_lake 132 = .ok (.ireturn, 1) := by decide +kernel
theorem dX7_head_0 : decode cX7_head 0 = .ok (.aload_n 0, 1) := by decide +kernel
theorem dX7_head_1 : decode cX7_head 1 = .ok (.getfield 10, 3) := by decide +kernel
theorem dX7_head_4 : decode cX7_head 4 = .ok (.iload_n 1, 1) := by decide +kernel
theorem dX7_head_5 : decode cX7_head 5 = .ok (.invokevirtual 69, 3) := by decide +kernel
theorem dX7_head_8 : decode cX7_head 8 = .ok (.astore 4, 2) := by decide +kernel
theorem dX7_head_10 : decode cX7_head 10 = .ok (.aload 4, 2) := by decide +kernel
theorem dX7_head_12 : decode cX7_head 12 = .ok (.ifnull 24, 3) := by decide +kernel
theorem dX7_head_15 : decode cX7_head 15 = .ok (.iload_n 2, 1) := by decide +kernel
theorem dX7_head_16 : decode cX7_head 16 = .ok (.aload 4, 2) := by decide +kernel
theorem dX7_head_18 : decode cX7_head 18 = .ok (.getfield 73, 3) := by decide +kernel
theorem dX7_head_21 : decode cX7_head 21 = .ok (.invokestatic 46, 3) := by decide +kernel
theorem dX7_head_24 : decode cX7_head 24 = .ok (.ifCond .eq 12, 3) := by decide +kernel
theorem dX7_head_27 : decode cX7_head 27 = .ok (.iload_n 3, 1) := by decide +kernel
theorem dX7_head_28 : decode cX7_head 28 = .ok (.bipush 9, 2) := by decide +kernel
theorem dX7_head_30 : decode cX7_head 30 = .ok (.invokestatic 46, 3) := by decide +kernel
theorem dX7_head_33 : decode cX7_head 33 = .ok (.ifCond .ne 5, 3) := by decide +kernel
theorem dX7_head_36 : decode cX7_head 36 = .ok (.iconst (-1), 1) := by decide +kernel
theorem dX7_head_37 : decode cX7_head 37 = .ok (.ireturn, 1) := by decide +kernel
theorem dX7_head_38 : decode cX7_head 38 = .ok (.aload 4, 2) := by decide +kernel
theorem dX7_head_40 : decode cX7_head 40 = .ok (.iload_n 2, 1) := by decide +kernel
theorem dX7_head_41 : decode cX7_head 41 = .ok (.iload_n 3, 1) := by decide +kernel
theorem dX7_head_42 : decode cX7_head 42 = .ok (.invokevirtual 78, 3) := by decide +kernel
theorem dX7_head_45 : decode cX7_head 45 = .ok (.ifCond .ne 5, 3) := by decide +kernel
theorem dX7_head_48 : decode cX7_head 48 = .ok (.iconst (-1), 1) := by decide +kernel
theorem dX7_head_49 : decode cX7_head 49 = .ok (.ireturn, 1) := by decide +kernel
theorem dX7_head_50 : decode cX7_head 50 = .ok (.aload_n 0, 1) := by decide +kernel
theorem dX7_head_51 : decode cX7_head 51 = .ok (.getfield 42, 3) := by decide +kernel
theorem dX7_head_54 : decode cX7_head 54 = .ok (.getfield 57, 3) := by decide +kernel
theorem dX7_head_57 : decode cX7_head 57 = .ok (.ifCond .eq 6, 3) := by decide +kernel
theorem dX7_head_60 : decode cX7_head 60 = .ok (.bipush (-2), 2) := by decide +kernel
theorem dX7_head_62 : decode cX7_head 62 = .ok (.ireturn, 1) := by decide +kernel
theorem dX7_head_63 : decode cX7_head 63 = .ok (.aload 4, 2) := by decide +kernel
theorem dX7_head_65 : decode cX7_head 65 = .ok (.iload_n 2, 1) := by decide +kernel
theorem dX7_head_66 : decode cX7_head 66 = .ok (.invokevirtual 81, 3) := by decide +kernel
theorem dX7_head_69 : decode cX7_head 69 = .ok (.istore 5, 2) := by decide +kernel
theorem dX7_head_71 : decode cX7_head 71 = .ok (.aload 4, 2) := by decide +kernel
theorem dX7_head_73 : decode cX7_head 73 = .ok (.getfield 85, 3) := by decide +kernel
theorem dX7_head_76 : decode cX7_head 76 = .ok (.iload_n 2, 1) := by decide +kernel
theorem dX7_head_77 : decode cX7_head 77 = .ok (.iload_n 3, 1) := by decide +kernel
theorem dX7_head_78 : decode cX7_head 78 = .ok (.iastore, 1) := by decide +kernel
theorem dX7_head_79 : decode cX7_head 79 = .ok (.aload_n 0, 1) := by decide +kernel
theorem dX7_head_80 : decode cX7_head 80 = .ok (.getfield 28, 3) := by decide +kernel
theorem dX7_head_83 : decode cX7_head 83 = .ok (.invokevirtual 62, 3) := by decide +kernel
theorem dX7_head_86 : decode cX7_head 86 = .ok (.iload 5, 2) := by decide +kernel
theorem dX7_head_88 : decode cX7_head 88 = .ok (.ireturn, 1) := by decide +kernel
theorem dX7_end_0 : decode cX7_end 0 = .ok (.aload_n 0, 1) := by decide +kernel
theorem dX7_end_1 : decode cX7_end 1 = .ok (.getfield 10, 3) := by decide +kernel
theorem dX7_end_4 : decode cX7_end 4 = .ok (.iload_n 1, 1) := by decide +kernel
theorem dX7_end_5 : decode cX7_end 5 = .ok (.invokevirtual 69, 3) := by decide +kernel
theorem dX7_end_8 : decode cX7_end 8 = .ok (.astore_n 3, 1) := by decide +kernel
theorem dX7_end_9 : decode cX7_end 9 = .ok (.aload_n 3, 1) := by decide +kernel
theorem dX7_end_10 : decode cX7_end 10 = .ok (.ifnull 12, 3) := by decide +kernel
theorem dX7_end_13 : decode cX7_end 13 = .ok (.iload_n 2, 1) := by decide +kernel
theorem dX7_end_14 : decode cX7_end 14 = .ok (.bipush 99, 2) := by decide +kernel
theorem dX7_end_16 : decode cX7_end 16 = .ok (.invokestatic 46, 3) := by decide +kernel
theorem dX7_end_19 : decode cX7_end 19 = .ok (.ifCond .ne 5, 3) := by decide +kernel
theorem dX7_end_22 : decode cX7_end 22 = .ok (.iconst (-1), 1) := by decide +kernel
theorem dX7_end_23 : decode cX7_end 23 = .ok (.ireturn, 1) := by decide +kernel
theorem dX7_end_24 : decode cX7_end 24 = .ok (.aload_n 0, 1) := by decide +kernel
theorem dX7_end_25 : decode cX7_end 25 = .ok (.getfield 42, 3) := by decide +kernel
theorem dX7_end_28 : decode cX7_end 28 = .ok (.getfield 57, 3) := by decide +kernel
theorem dX7_end_31 : decode cX7_end 31 = .ok (.ifCond .eq 6, 3) := by decide +kernel
theorem dX7_end_34 : decode cX7_end 34 = .ok (.bipush (-2), 2) := by decide +kernel
theorem dX7_end_36 : decode cX7_end 36 = .ok (.ireturn, 1) := by decide +kernel
theorem dX7_end_37 : decode cX7_end 37 = .ok (.aload_n 3, 1) := by decide +kernel
theorem dX7_end_38 : decode cX7_end 38 = .ok (.getfield 89, 3) := by decide +kernel
theorem dX7_end_41 : decode cX7_end 41 = .ok (.istore 4, 2) := by decide +kernel
theorem dX7_end_43 : decode cX7_end 43 = .ok (.aload_n 3, 1) := by decide +kernel
theorem dX7_end_44 : decode cX7_end 44 = .ok (.iload_n 2, 1) := by decide +kernel
theorem dX7_end_45 : decode cX7_end 45 = .ok (.putfield 89, 3) := by decide +kernel
theorem dX7_end_48 : decode cX7_end 48 = .ok (.aload_n 0, 1) := by decide +kernel
theorem dX7_end_49 : decode cX7_end 49 = .ok (.getfield 28, 3) := by decide +kernel
theorem dX7_end_52 : decode cX7_end 52 = .ok (.invokevirtual 62, 3) := by decide +kernel
theorem dX7_end_55 : decode cX7_end 55 = .ok (.iload 4, 2) := by decide +kernel
theorem dX7_end_57 : decode cX7_end 57 = .ok (.ireturn, 1) := by decide +kernel
theorem dX7_weeks_0 : decode cX7_weeks 0 = .ok (.iload_n 1, 1) := by decide +kernel
theorem dX7_weeks_1 : decode cX7_weeks 1 = .ok (.iconst 1, 1) := by decide +kernel
theorem dX7_weeks_2 : decode cX7_weeks 2 = .ok (.if_icmp .lt 20, 3) := by decide +kernel
theorem dX7_weeks_5 : decode cX7_weeks 5 = .ok (.iload_n 1, 1) := by decide +kernel
theorem dX7_weeks_6 : decode cX7_weeks 6 = .ok (.bipush 10, 2) := by decide +kernel
theorem dX7_weeks_8 : decode cX7_weeks 8 = .ok (.if_icmp .gt 14, 3) := by decide +kernel
theorem dX7_weeks_11 : decode cX7_weeks 11 = .ok (.iload_n 2, 1) := by decide +kernel
theorem dX7_weeks_12 : decode cX7_weeks 12 = .ok (.iconst 1, 1) := by decide +kernel
theorem dX7_weeks_13 : decode cX7_weeks 13 = .ok (.if_icmp .lt 9, 3) := by decide +kernel
theorem dX7_weeks_16 : decode cX7_weeks 16 = .ok (.iload_n 2, 1) := by decide +kernel
theorem dX7_weeks_17 : decode cX7_weeks 17 = .ok (.bipush 6, 2) := by decide +kernel
theorem dX7_weeks_19 : decode cX7_weeks 19 = .ok (.if_icmp .le 5, 3) := by decide +kernel
theorem dX7_weeks_22 : decode cX7_weeks 22 = .ok (.iconst (-1), 1) := by decide +kernel
theorem dX7_weeks_23 : decode cX7_weeks 23 = .ok (.ireturn, 1) := by decide +kernel
theorem dX7_weeks_24 : decode cX7_weeks 24 = .ok (.aload_n 0, 1) := by decide +kernel
theorem dX7_weeks_25 : decode cX7_weeks 25 = .ok (.getfield 42, 3) := by decide +kernel
theorem dX7_weeks_28 : decode cX7_weeks 28 = .ok (.getfield 57, 3) := by decide +kernel
theorem dX7_weeks_31 : decode cX7_weeks 31 = .ok (.ifCond .eq 6, 3) := by decide +kernel
theorem dX7_weeks_34 : decode cX7_weeks 34 = .ok (.bipush (-2), 2) := by decide +kernel
theorem dX7_weeks_36 : decode cX7_weeks 36 = .ok (.ireturn, 1) := by decide +kernel
theorem dX7_weeks_37 : decode cX7_weeks 37 = .ok (.aload_n 0, 1) := by decide +kernel
theorem dX7_weeks_38 : decode cX7_weeks 38 = .ok (.getfield 19, 3) := by decide +kernel
theorem dX7_weeks_41 : decode cX7_weeks 41 = .ok (.iload_n 1, 1) := by decide +kernel
theorem dX7_weeks_42 : decode cX7_weeks 42 = .ok (.iload_n 2, 1) := by decide +kernel
theorem dX7_weeks_43 : decode cX7_weeks 43 = .ok (.invokevirtual 92, 3) := by decide +kernel
theorem dX7_weeks_46 : decode cX7_weeks 46 = .ok (.aload_n 0, 1) := by decide +kernel
theorem dX7_weeks_47 : decode cX7_weeks 47 = .ok (.getfield 28, 3) := by decide +kernel
theorem dX7_weeks_50 : decode cX7_weeks 50 = .ok (.invokevirtual 62, 3) := by decide +kernel
theorem dX7_weeks_53 : decode cX7_weeks 53 = .ok (.iconst 1, 1) := by decide +kernel
theorem dX7_weeks_54 : decode cX7_weeks 54 = .ok (.ireturn, 1) := by decide +kernel
theorem dX7_price_0 : decode cX7_price 0 = .ok (.iload_n 1, 1) := by decide +kernel
theorem dX7_price_1 : decode cX7_price 1 = .ok (.bipush 9, 2) := by decide +kernel
theorem dX7_price_3 : decode cX7_price 3 = .ok (.invokestatic 46, 3) := by decide +kernel
theorem dX7_price_6 : decode cX7_price 6 = .ok (.ifCond .eq 12, 3) := by decide +kernel
theorem dX7_price_9 : decode cX7_price 9 = .ok (.iload_n 2, 1) := by decide +kernel
theorem dX7_price_10 : decode cX7_price 10 = .ok (.bipush 20, 2) := by decide +kernel
theorem dX7_price_12 : decode cX7_price 12 = .ok (.invokestatic 46, 3) := by decide +kernel
theorem dX7_price_15 : decode cX7_price 15 = .ok (.ifCond .ne 5, 3) := by decide +kernel
theorem dX7_price_18 : decode cX7_price 18 = .ok (.iconst (-1), 1) := by decide +kernel
theorem dX7_price_19 : decode cX7_price 19 = .ok (.ireturn, 1) := by decide +kernel
theorem dX7_price_20 : decode cX7_price 20 = .ok (.aload_n 0, 1) := by decide +kernel
theorem dX7_price_21 : decode cX7_price 21 = .ok (.getfield 42, 3) := by decide +kernel
theorem dX7_price_24 : decode cX7_price 24 = .ok (.getfield 57, 3) := by decide +kernel
theorem dX7_price_27 : decode cX7_price 27 = .ok (.ifCond .eq 6, 3) := by decide +kernel
theorem dX7_price_30 : decode cX7_price 30 = .ok (.bipush (-2), 2) := by decide +kernel
theorem dX7_price_32 : decode cX7_price 32 = .ok (.ireturn, 1) := by decide +kernel
theorem dX7_price_33 : decode cX7_price 33 = .ok (.aload_n 0, 1) := by decide +kernel
theorem dX7_price_34 : decode cX7_price 34 = .ok (.getfield 19, 3) := by decide +kernel
theorem dX7_price_37 : decode cX7_price 37 = .ok (.getfield 96, 3) := by decide +kernel
theorem dX7_price_40 : decode cX7_price 40 = .ok (.iload_n 1, 1) := by decide +kernel
theorem dX7_price_41 : decode cX7_price 41 = .ok (.iaload, 1) := by decide +kernel
theorem dX7_price_42 : decode cX7_price 42 = .ok (.istore_n 3, 1) := by decide +kernel
theorem dX7_price_43 : decode cX7_price 43 = .ok (.aload_n 0, 1) := by decide +kernel
theorem dX7_price_44 : decode cX7_price 44 = .ok (.getfield 19, 3) := by decide +kernel
theorem dX7_price_47 : decode cX7_price 47 = .ok (.getfield 96, 3) := by decide +kernel
theorem dX7_price_50 : decode cX7_price 50 = .ok (.iload_n 1, 1) := by decide +kernel
theorem dX7_price_51 : decode cX7_price 51 = .ok (.iload_n 2, 1) := by decide +kernel
theorem dX7_price_52 : decode cX7_price 52 = .ok (.iastore, 1) := by decide +kernel
theorem dX7_price_53 : decode cX7_price 53 = .ok (.aload_n 0, 1) := by decide +kernel
theorem dX7_price_54 : decode cX7_price 54 = .ok (.getfield 28, 3) := by decide +kernel
theorem dX7_price_57 : decode cX7_price 57 = .ok (.invokevirtual 62, 3) := by decide +kernel
theorem dX7_price_60 : decode cX7_price 60 = .ok (.iload_n 3, 1) := by decide +kernel
theorem dX7_price_61 : decode cX7_price 61 = .ok (.ireturn, 1) := by decide +kernel
theorem dX7_node_0 : decode cX7_node 0 = .ok (.aload_n 0, 1) := by decide +kernel
theorem dX7_node_1 : decode cX7_node 1 = .ok (.getfield 19, 3) := by decide +kernel
theorem dX7_node_4 : decode cX7_node 4 = .ok (.iload_n 1, 1) := by decide +kernel
theorem dX7_node_5 : decode cX7_node 5 = .ok (.invokevirtual 99, 3) := by decide +kernel
theorem dX7_node_8 : decode cX7_node 8 = .ok (.astore 4, 2) := by decide +kernel
theorem dX7_node_10 : decode cX7_node 10 = .ok (.aload 4, 2) := by decide +kernel
theorem dX7_node_12 : decode cX7_node 12 = .ok (.ifnull 15, 3) := by decide +kernel
theorem dX7_node_15 : decode cX7_node 15 = .ok (.aload_n 0, 1) := by decide +kernel
theorem dX7_node_16 : decode cX7_node 16 = .ok (.getfield 19, 3) := by decide +kernel
theorem dX7_node_19 : decode cX7_node 19 = .ok (.aload 4, 2) := by decide +kernel
theorem dX7_node_21 : decode cX7_node 21 = .ok (.invokevirtual 103, 3) := by decide +kernel
theorem dX7_node_24 : decode cX7_node 24 = .ok (.ifCond .eq 5, 3) := by decide +kernel
theorem dX7_node_27 : decode cX7_node 27 = .ok (.iconst (-1), 1) := by decide +kernel
theorem dX7_node_28 : decode cX7_node 28 = .ok (.ireturn, 1) := by decide +kernel
theorem dX7_node_29 : decode cX7_node 29 = .ok (.iload_n 2, 1) := by decide +kernel
theorem dX7_node_30 : decode cX7_node 30 = .ok (.iconst 1, 1) := by decide +kernel
theorem dX7_node_31 : decode cX7_node 31 = .ok (.if_icmp .lt 20, 3) := by decide +kernel
theorem dX7_node_34 : decode cX7_node 34 = .ok (.iload_n 2, 1) := by decide +kernel
theorem dX7_node_35 : decode cX7_node 35 = .ok (.aload_n 0, 1) := by decide +kernel
theorem dX7_node_36 : decode cX7_node 36 = .ok (.getfield 19, 3) := by decide +kernel
theorem dX7_node_39 : decode cX7_node 39 = .ok (.getfield 107, 3) := by decide +kernel
theorem dX7_node_42 : decode cX7_node 42 = .ok (.aload 4, 2) := by decide +kernel
theorem dX7_node_44 : decode cX7_node 44 = .ok (.getfield 110, 3) := by decide +kernel
theorem dX7_node_47 : decode cX7_node 47 = .ok (.isub, 1) := by decide +kernel
theorem dX7_node_48 : decode cX7_node 48 = .ok (.if_icmp .le 5, 3) := by decide +kernel
theorem dX7_node_51 : decode cX7_node 51 = .ok (.iconst (-1), 1) := by decide +kernel
theorem dX7_node_52 : decode cX7_node 52 = .ok (.ireturn, 1) := by decide +kernel
theorem dX7_node_53 : decode cX7_node 53 = .ok (.iload_n 3, 1) := by decide +kernel
theorem dX7_node_54 : decode cX7_node 54 = .ok (.aload_n 0, 1) := by decide +kernel
theorem dX7_node_55 : decode cX7_node 55 = .ok (.getfield 10, 3) := by decide +kernel
theorem dX7_node_58 : decode cX7_node 58 = .ok (.invokevirtual 115, 3) := by decide +kernel
theorem dX7_node_61 : decode cX7_node 61 = .ok (.invokestatic 46, 3) := by decide +kernel
theorem dX7_node_64 : decode cX7_node 64 = .ok (.ifCond .ne 5, 3) := by decide +kernel
theorem dX7_node_67 : decode cX7_node 67 = .ok (.iconst (-1), 1) := by decide +kernel
theorem dX7_node_68 : decode cX7_node 68 = .ok (.ireturn, 1) := by decide +kernel
theorem dX7_node_69 : decode cX7_node 69 = .ok (.aload_n 0, 1) := by decide +kernel
theorem dX7_node_70 : decode cX7_node 70 = .ok (.getfield 42, 3) := by decide +kernel
theorem dX7_node_73 : decode cX7_node 73 = .ok (.getfield 57, 3) := by decide +kernel
theorem dX7_node_76 : decode cX7_node 76 = .ok (.ifCond .eq 6, 3) := by decide +kernel
theorem dX7_node_79 : decode cX7_node 79 = .ok (.bipush (-2), 2) := by decide +kernel
theorem dX7_node_81 : decode cX7_node 81 = .ok (.ireturn, 1) := by decide +kernel
theorem dX7_node_82 : decode cX7_node 82 = .ok (.aload_n 0, 1) := by decide +kernel
theorem dX7_node_83 : decode cX7_node 83 = .ok (.getfield 19, 3) := by decide +kernel
theorem dX7_node_86 : decode cX7_node 86 = .ok (.aload 4, 2) := by decide +kernel
theorem dX7_node_88 : decode cX7_node 88 = .ok (.iload_n 2, 1) := by decide +kernel
theorem dX7_node_89 : decode cX7_node 89 = .ok (.invokevirtual 119, 3) := by decide +kernel
theorem dX7_node_92 : decode cX7_node 92 = .ok (.astore 5, 2) := by decide +kernel
theorem dX7_node_94 : decode cX7_node 94 = .ok (.aload 5, 2) := by decide +kernel
theorem dX7_node_96 : decode cX7_node 96 = .ok (.ifnonnull 6, 3) := by decide +kernel
theorem dX7_node_99 : decode cX7_node 99 = .ok (.bipush (-5), 2) := by decide +kernel
theorem dX7_node_101 : decode cX7_node 101 = .ok (.ireturn, 1) := by decide +kernel
theorem dX7_node_102 : decode cX7_node 102 = .ok (.aload_n 0, 1) := by decide +kernel
theorem dX7_node_103 : decode cX7_node 103 = .ok (.getfield 10, 3) := by decide +kernel
theorem dX7_node_106 : decode cX7_node 106 = .ok (.iload_n 3, 1) := by decide +kernel
theorem dX7_node_107 : decode cX7_node 107 = .ok (.aload 5, 2) := by decide +kernel
theorem dX7_node_109 : decode cX7_node 109 = .ok (.getfield 123, 3) := by decide +kernel
theorem dX7_node_112 : decode cX7_node 112 = .ok (.invokevirtual 126, 3) := by decide +kernel
theorem dX7_node_115 : decode cX7_node 115 = .ok (.aload_n 0, 1) := by decide +kernel
theorem dX7_node_116 : decode cX7_node 116 = .ok (.getfield 28, 3) := by decide +kernel
theorem dX7_node_119 : decode cX7_node 119 = .ok (.invokevirtual 62, 3) := by decide +kernel
theorem dX7_node_122 : decode cX7_node 122 = .ok (.aload 5, 2) := by decide +kernel
theorem dX7_node_124 : decode cX7_node 124 = .ok (.getfield 130, 3) := by decide +kernel
theorem dX7_node_127 : decode cX7_node 127 = .ok (.ireturn, 1) := by decide +kernel
theorem dX7_about_0 : decode cX7_about 0 = .ok (.aload_n 0, 1) := by decide +kernel
theorem dX7_about_1 : decode cX7_about 1 = .ok (.getfield 19, 3) := by decide +kernel
theorem dX7_about_4 : decode cX7_about 4 = .ok (.iload_n 1, 1) := by decide +kernel
theorem dX7_about_5 : decode cX7_about 5 = .ok (.invokevirtual 99, 3) := by decide +kernel
theorem dX7_about_8 : decode cX7_about 8 = .ok (.astore_n 3, 1) := by decide +kernel
theorem dX7_about_9 : decode cX7_about 9 = .ok (.aload_n 3, 1) := by decide +kernel
theorem dX7_about_10 : decode cX7_about 10 = .ok (.ifnonnull 6, 3) := by decide +kernel
theorem dX7_about_13 : decode cX7_about 13 = .ok (.bipush (-2), 2) := by decide +kernel
theorem dX7_about_15 : decode cX7_about 15 = .ok (.ireturn, 1) := by decide +kernel
theorem dX7_about_16 : decode cX7_about 16 = .ok (.iload_n 2, 1) := by decide +kernel
theorem dX7_about_17 : decode cX7_about 17 = .ok (.tableswitch 130 0 7 #[47, 66, 88, 93, 98, 103, 103, 103], 47) := by decide +kernel
theorem dX7_about_64 : decode cX7_about 64 = .ok (.aload_n 3, 1) := by decide +kernel
theorem dX7_about_65 : decode cX7_about 65 = .ok (.getfield 133, 3) := by decide +kernel
theorem dX7_about_68 : decode cX7_about 68 = .ok (.ifnonnull 7, 3) := by decide +kernel
theorem dX7_about_71 : decode cX7_about 71 = .ok (.iconst (-1), 1) := by decide +kernel
theorem dX7_about_72 : decode cX7_about 72 = .ok (.goto 10, 3) := by decide +kernel
theorem dX7_about_75 : decode cX7_about 75 = .ok (.aload_n 3, 1) := by decide +kernel
theorem dX7_about_76 : decode cX7_about 76 = .ok (.getfield 133, 3) := by decide +kernel
theorem dX7_about_79 : decode cX7_about 79 = .ok (.getfield 130, 3) := by decide +kernel
theorem dX7_about_82 : decode cX7_about 82 = .ok (.ireturn, 1) := by decide +kernel
theorem dX7_about_83 : decode cX7_about 83 = .ok (.aload_n 3, 1) := by decide +kernel
theorem dX7_about_84 : decode cX7_about 84 = .ok (.getfield 133, 3) := by decide +kernel
theorem dX7_about_87 : decode cX7_about 87 = .ok (.ifnonnull 13, 3) := by decide +kernel
theorem dX7_about_90 : decode cX7_about 90 = .ok (.aload_n 0, 1) := by decide +kernel
theorem dX7_about_91 : decode cX7_about 91 = .ok (.getfield 19, 3) := by decide +kernel
theorem dX7_about_94 : decode cX7_about 94 = .ok (.getfield 107, 3) := by decide +kernel
theorem dX7_about_97 : decode cX7_about 97 = .ok (.goto 7, 3) := by decide +kernel
theorem dX7_about_100 : decode cX7_about 100 = .ok (.aload_n 3, 1) := by decide +kernel
theorem dX7_about_101 : decode cX7_about 101 = .ok (.getfield 137, 3) := by decide +kernel
theorem dX7_about_104 : decode cX7_about 104 = .ok (.ireturn, 1) := by decide +kernel
theorem dX7_about_105 : decode cX7_about 105 = .ok (.aload_n 3, 1) := by decide +kernel
theorem dX7_about_106 : decode cX7_about 106 = .ok (.getfield 140, 3) := by decide +kernel
theorem dX7_about_109 : decode cX7_about 109 = .ok (.ireturn, 1) := by decide +kernel
theorem dX7_about_110 : decode cX7_about 110 = .ok (.aload_n 3, 1) := by decide +kernel
theorem dX7_about_111 : decode cX7_about 111 = .ok (.getfield 143, 3) := by decide +kernel
theorem dX7_about_114 : decode cX7_about 114 = .ok (.ireturn, 1) := by decide +kernel
theorem dX7_about_115 : decode cX7_about 115 = .ok (.aload_n 3, 1) := by decide +kernel
theorem dX7_about_116 : decode cX7_about 116 = .ok (.getfield 110, 3) := by decide +kernel
theorem dX7_about_119 : decode cX7_about 119 = .ok (.ireturn, 1) := by decide +kernel
theorem dX7_about_120 : decode cX7_about 120 = .ok (.aload_n 0, 1) := by decide +kernel
theorem dX7_about_121 : decode cX7_about 121 = .ok (.getfield 10, 3) := by decide +kernel
theorem dX7_about_124 : decode cX7_about 124 = .ok (.iload_n 2, 1) := by decide +kernel
theorem dX7_about_125 : decode cX7_about 125 = .ok (.iconst 5, 1) := by decide +kernel
theorem dX7_about_126 : decode cX7_about 126 = .ok (.isub, 1) := by decide +kernel
theorem dX7_about_127 : decode cX7_about 127 = .ok (.invokevirtual 69, 3) := by decide +kernel
theorem dX7_about_130 : decode cX7_about 130 = .ok (.ifnonnull 8, 3) := by decide +kernel
theorem dX7_about_133 : decode cX7_about 133 = .ok (.bipush (-2), 2) := by decide +kernel
theorem dX7_about_135 : decode cX7_about 135 = .ok (.goto 11, 3) := by decide +kernel
theorem dX7_about_138 : decode cX7_about 138 = .ok (.aload_n 3, 1) := by decide +kernel
theorem dX7_about_139 : decode cX7_about 139 = .ok (.getfield 123, 3) := by decide +kernel
theorem dX7_about_142 : decode cX7_about 142 = .ok (.iload_n 2, 1) := by decide +kernel
theorem dX7_about_143 : decode cX7_about 143 = .ok (.iconst 5, 1) := by decide +kernel
theorem dX7_about_144 : decode cX7_about 144 = .ok (.isub, 1) := by decide +kernel
theorem dX7_about_145 : decode cX7_about 145 = .ok (.iaload, 1) := by decide +kernel
theorem dX7_about_146 : decode cX7_about 146 = .ok (.ireturn, 1) := by decide +kernel
theorem dX7_about_147 : decode cX7_about 147 = .ok (.bipush (-2), 2) := by decide +kernel
theorem dX7_about_149 : decode cX7_about 149 = .ok (.ireturn, 1) := by decide +kernel
theorem dX7_count_0 : decode cX7_count 0 = .ok (.iload_n 1, 1) := by decide +kernel
theorem dX7_count_1 : decode cX7_count 1 = .ok (.tableswitch 112 0 6 #[43, 51, 59, 67, 83, 91, 99], 43) := by decide +kernel
theorem dX7_count_44 : decode cX7_count 44 = .ok (.aload_n 0, 1) := by decide +kernel
theorem dX7_count_45 : decode cX7_count 45 = .ok (.getfield 10, 3) := by decide +kernel
theorem dX7_count_48 : decode cX7_count 48 = .ok (.getfield 50, 3) := by decide +kernel
