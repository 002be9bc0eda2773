theorem dX8_init_12 : decode cX8_init 12 = .ok (.iconst 3, 1) := by decide +kernel
theorem dX8_init_13 : decode cX8_init 13 = .ok (.newarray .int, 2) := by decide +kernel
theorem dX8_init_15 : decode cX8_init 15 = .ok (.putfield 17, 3) := by decide +kernel
theorem dX8_init_18 : decode cX8_init 18 = .ok (.aload_n 0, 1) := by decide +kernel
theorem dX8_init_19 : decode cX8_init 19 = .ok (.iconst 3, 1) := by decide +kernel
theorem dX8_init_20 : decode cX8_init 20 = .ok (.newarray .int, 2) := by decide +kernel
theorem dX8_init_22 : decode cX8_init 22 = .ok (.putfield 20, 3) := by decide +kernel
theorem dX8_init_25 : decode cX8_init 25 = .ok (.aload_n 0, 1) := by decide +kernel
theorem dX8_init_26 : decode cX8_init 26 = .ok (.iconst 3, 1) := by decide +kernel
theorem dX8_init_27 : decode cX8_init 27 = .ok (.newarray .int, 2) := by decide +kernel
theorem dX8_init_29 : decode cX8_init 29 = .ok (.putfield 23, 3) := by decide +kernel
theorem dX8_init_32 : decode cX8_init 32 = .ok (.aload_n 0, 1) := by decide +kernel
theorem dX8_init_33 : decode cX8_init 33 = .ok (.bipush 93, 2) := by decide +kernel
theorem dX8_init_35 : decode cX8_init 35 = .ok (.newarray .int, 2) := by decide +kernel
theorem dX8_init_37 : decode cX8_init 37 = .ok (.putfield 26, 3) := by decide +kernel
theorem dX8_init_40 : decode cX8_init 40 = .ok (.aload_n 0, 1) := by decide +kernel
theorem dX8_init_41 : decode cX8_init 41 = .ok (.iconst 3, 1) := by decide +kernel
theorem dX8_init_42 : decode cX8_init 42 = .ok (.newarray .int, 2) := by decide +kernel
theorem dX8_init_44 : decode cX8_init 44 = .ok (.putfield 29, 3) := by decide +kernel
theorem dX8_init_47 : decode cX8_init 47 = .ok (.aload_n 0, 1) := by decide +kernel
theorem dX8_init_48 : decode cX8_init 48 = .ok (.iconst 1, 1) := by decide +kernel
theorem dX8_init_49 : decode cX8_init 49 = .ok (.putfield 32, 3) := by decide +kernel
theorem dX8_init_52 : decode cX8_init 52 = .ok (.aload_n 0, 1) := by decide +kernel
theorem dX8_init_53 : decode cX8_init 53 = .ok (.iconst 1, 1) := by decide +kernel
theorem dX8_init_54 : decode cX8_init 54 = .ok (.putfield 35, 3) := by decide +kernel
theorem dX8_init_57 : decode cX8_init 57 = .ok (.aload_n 0, 1) := by decide +kernel
theorem dX8_init_58 : decode cX8_init 58 = .ok (.bipush 10, 2) := by decide +kernel
theorem dX8_init_60 : decode cX8_init 60 = .ok (.newarray .int, 2) := by decide +kernel
theorem dX8_init_62 : decode cX8_init 62 = .ok (.dup, 1) := by decide +kernel
theorem dX8_init_63 : decode cX8_init 63 = .ok (.iconst 0, 1) := by decide +kernel
theorem dX8_init_64 : decode cX8_init 64 = .ok (.iconst 1, 1) := by decide +kernel
theorem dX8_init_65 : decode cX8_init 65 = .ok (.iastore, 1) := by decide +kernel
theorem dX8_init_66 : decode cX8_init 66 = .ok (.dup, 1) := by decide +kernel
theorem dX8_init_67 : decode cX8_init 67 = .ok (.iconst 1, 1) := by decide +kernel
theorem dX8_init_68 : decode cX8_init 68 = .ok (.iconst 1, 1) := by decide +kernel
theorem dX8_init_69 : decode cX8_init 69 = .ok (.iastore, 1) := by decide +kernel
theorem dX8_init_70 : decode cX8_init 70 = .ok (.dup, 1) := by decide +kernel
theorem dX8_init_71 : decode cX8_init 71 = .ok (.iconst 2, 1) := by decide +kernel
theorem dX8_init_72 : decode cX8_init 72 = .ok (.iconst 1, 1) := by decide +kernel
theorem dX8_init_73 : decode cX8_init 73 = .ok (.iastore, 1) := by decide +kernel
theorem dX8_init_74 : decode cX8_init 74 = .ok (.dup, 1) := by decide +kernel
theorem dX8_init_75 : decode cX8_init 75 = .ok (.iconst 3, 1) := by decide +kernel
theorem dX8_init_76 : decode cX8_init 76 = .ok (.iconst 1, 1) := by decide +kernel
theorem dX8_init_77 : decode cX8_init 77 = .ok (.iastore, 1) := by decide +kernel
theorem dX8_init_78 : decode cX8_init 78 = .ok (.dup, 1) := by decide +kernel
theorem dX8_init_79 : decode cX8_init 79 = .ok (.iconst 4, 1) := by decide +kernel
theorem dX8_init_80 : decode cX8_init 80 = .ok (.iconst 1, 1) := by decide +kernel
theorem dX8_init_81 : decode cX8_init 81 = .ok (.iastore, 1) := by decide +kernel
theorem dX8_init_82 : decode cX8_init 82 = .ok (.dup, 1) := by decide +kernel
theorem dX8_init_83 : decode cX8_init 83 = .ok (.iconst 5, 1) := by decide +kernel
theorem dX8_init_84 : decode cX8_init 84 = .ok (.iconst 1, 1) := by decide +kernel
theorem dX8_init_85 : decode cX8_init 85 = .ok (.iastore, 1) := by decide +kernel
theorem dX8_init_86 : decode cX8_init 86 = .ok (.dup, 1) := by decide +kernel
theorem dX8_init_87 : decode cX8_init 87 = .ok (.bipush 6, 2) := by decide +kernel
theorem dX8_init_89 : decode cX8_init 89 = .ok (.iconst 1, 1) := by decide +kernel
theorem dX8_init_90 : decode cX8_init 90 = .ok (.iastore, 1) := by decide +kernel
theorem dX8_init_91 : decode cX8_init 91 = .ok (.dup, 1) := by decide +kernel
theorem dX8_init_92 : decode cX8_init 92 = .ok (.bipush 7, 2) := by decide +kernel
theorem dX8_init_94 : decode cX8_init 94 = .ok (.iconst 1, 1) := by decide +kernel
theorem dX8_init_95 : decode cX8_init 95 = .ok (.iastore, 1) := by decide +kernel
theorem dX8_init_96 : decode cX8_init 96 = .ok (.dup, 1) := by decide +kernel
theorem dX8_init_97 : decode cX8_init 97 = .ok (.bipush 8, 2) := by decide +kernel
theorem dX8_init_99 : decode cX8_init 99 = .ok (.iconst 1, 1) := by decide +kernel
theorem dX8_init_100 : decode cX8_init 100 = .ok (.iastore, 1) := by decide +kernel
theorem dX8_init_101 : decode cX8_init 101 = .ok (.dup, 1) := by decide +kernel
theorem dX8_init_102 : decode cX8_init 102 = .ok (.bipush 9, 2) := by decide +kernel
theorem dX8_init_104 : decode cX8_init 104 = .ok (.iconst 1, 1) := by decide +kernel
theorem dX8_init_105 : decode cX8_init 105 = .ok (.iastore, 1) := by decide +kernel
theorem dX8_init_106 : decode cX8_init 106 = .ok (.putfield 38, 3) := by decide +kernel
theorem dX8_init_109 : decode cX8_init 109 = .ok (.aload_n 0, 1) := by decide +kernel
theorem dX8_init_110 : decode cX8_init 110 = .ok (.iconst 1, 1) := by decide +kernel
theorem dX8_init_111 : decode cX8_init 111 = .ok (.putfield 41, 3) := by decide +kernel
theorem dX8_init_114 : decode cX8_init 114 = .ok (.aload_n 0, 1) := by decide +kernel
theorem dX8_init_115 : decode cX8_init 115 = .ok (.bipush 81, 2) := by decide +kernel
theorem dX8_init_117 : decode cX8_init 117 = .ok (.newarray .int, 2) := by decide +kernel
theorem dX8_init_119 : decode cX8_init 119 = .ok (.putfield 44, 3) := by decide +kernel
theorem dX8_init_122 : decode cX8_init 122 = .ok (.aload_n 0, 1) := by decide +kernel
theorem dX8_init_123 : decode cX8_init 123 = .ok (.bipush 81, 2) := by decide +kernel
theorem dX8_init_125 : decode cX8_init 125 = .ok (.newarray .int, 2) := by decide +kernel
theorem dX8_init_127 : decode cX8_init 127 = .ok (.putfield 47, 3) := by decide +kernel
theorem dX8_init_130 : decode cX8_init 130 = .ok (.aload_n 0, 1) := by decide +kernel
theorem dX8_init_131 : decode cX8_init 131 = .ok (.bipush 81, 2) := by decide +kernel
theorem dX8_init_133 : decode cX8_init 133 = .ok (.newarray .int, 2) := by decide +kernel
theorem dX8_init_135 : decode cX8_init 135 = .ok (.putfield 50, 3) := by decide +kernel
theorem dX8_init_138 : decode cX8_init 138 = .ok (.aload_n 0, 1) := by decide +kernel
theorem dX8_init_139 : decode cX8_init 139 = .ok (.sipush 243, 3) := by decide +kernel
theorem dX8_init_142 : decode cX8_init 142 = .ok (.newarray .int, 2) := by decide +kernel
theorem dX8_init_144 : decode cX8_init 144 = .ok (.putfield 53, 3) := by decide +kernel
theorem dX8_init_147 : decode cX8_init 147 = .ok (.aload_n 0, 1) := by decide +kernel
theorem dX8_init_148 : decode cX8_init 148 = .ok (.iconst 3, 1) := by decide +kernel
theorem dX8_init_149 : decode cX8_init 149 = .ok (.newarray .int, 2) := by decide +kernel
theorem dX8_init_151 : decode cX8_init 151 = .ok (.putfield 56, 3) := by decide +kernel
theorem dX8_init_154 : decode cX8_init 154 = .ok (.aload_n 0, 1) := by decide +kernel
theorem dX8_init_155 : decode cX8_init 155 = .ok (.iconst 3, 1) := by decide +kernel
theorem dX8_init_156 : decode cX8_init 156 = .ok (.newarray .int, 2) := by decide +kernel
theorem dX8_init_158 : decode cX8_init 158 = .ok (.putfield 59, 3) := by decide +kernel
theorem dX8_init_161 : decode cX8_init 161 = .ok (.aload_n 0, 1) := by decide +kernel
theorem dX8_init_162 : decode cX8_init 162 = .ok (.ldc 62, 2) := by decide +kernel
theorem dX8_init_164 : decode cX8_init 164 = .ok (.newarray .boolean, 2) := by decide +kernel
theorem dX8_init_166 : decode cX8_init 166 = .ok (.putfield 63, 3) := by decide +kernel
theorem dX8_init_169 : decode cX8_init 169 = .ok (.aload_n 0, 1) := by decide +kernel
theorem dX8_init_170 : decode cX8_init 170 = .ok (.ldc 62, 2) := by decide +kernel
theorem dX8_init_172 : decode cX8_init 172 = .ok (.newarray .boolean, 2) := by decide +kernel
theorem dX8_init_174 : decode cX8_init 174 = .ok (.putfield 67, 3) := by decide +kernel
theorem dX8_init_177 : decode cX8_init 177 = .ok (.aload_n 0, 1) := by decide +kernel
theorem dX8_init_178 : decode cX8_init 178 = .ok (.ldc 62, 2) := by decide +kernel
theorem dX8_init_180 : decode cX8_init 180 = .ok (.newarray .long, 2) := by decide +kernel
theorem dX8_init_182 : decode cX8_init 182 = .ok (.putfield 70, 3) := by decide +kernel
theorem dX8_init_185 : decode cX8_init 185 = .ok (.aload_n 0, 1) := by decide +kernel
theorem dX8_init_186 : decode cX8_init 186 = .ok (.ldc 62, 2) := by decide +kernel
theorem dX8_init_188 : decode cX8_init 188 = .ok (.newarray .int, 2) := by decide +kernel
theorem dX8_init_190 : decode cX8_init 190 = .ok (.putfield 74, 3) := by decide +kernel
theorem dX8_init_193 : decode cX8_init 193 = .ok (.aload_n 0, 1) := by decide +kernel
theorem dX8_init_194 : decode cX8_init 194 = .ok (.iconst 3, 1) := by decide +kernel
theorem dX8_init_195 : decode cX8_init 195 = .ok (.newarray .int, 2) := by decide +kernel
theorem dX8_init_197 : decode cX8_init 197 = .ok (.putfield 77, 3) := by decide +kernel
theorem dX8_init_200 : decode cX8_init 200 = .ok (.aload_n 0, 1) := by decide +kernel
theorem dX8_init_201 : decode cX8_init 201 = .ok (.iconst 3, 1) := by decide +kernel
theorem dX8_init_202 : decode cX8_init 202 = .ok (.newarray .int, 2) := by decide +kernel
theorem dX8_init_204 : decode cX8_init 204 = .ok (.putfield 80, 3) := by decide +kernel
theorem dX8_init_207 : decode cX8_init 207 = .ok (.aload_n 0, 1) := by decide +kernel
theorem dX8_init_208 : decode cX8_init 208 = .ok (.bipush 81, 2) := by decide +kernel
theorem dX8_init_210 : decode cX8_init 210 = .ok (.newarray .boolean, 2) := by decide +kernel
theorem dX8_init_212 : decode cX8_init 212 = .ok (.putfield 83, 3) := by decide +kernel
theorem dX8_init_215 : decode cX8_init 215 = .ok (.aload_n 0, 1) := by decide +kernel
theorem dX8_init_216 : decode cX8_init 216 = .ok (.bipush 81, 2) := by decide +kernel
theorem dX8_init_218 : decode cX8_init 218 = .ok (.newarray .int, 2) := by decide +kernel
theorem dX8_init_220 : decode cX8_init 220 = .ok (.putfield 86, 3) := by decide +kernel
theorem dX8_init_223 : decode cX8_init 223 = .ok (.aload_n 0, 1) := by decide +kernel
theorem dX8_init_224 : decode cX8_init 224 = .ok (.bipush 81, 2) := by decide +kernel
theorem dX8_init_226 : decode cX8_init 226 = .ok (.newarray .int, 2) := by decide +kernel
theorem dX8_init_228 : decode cX8_init 228 = .ok (.putfield 89, 3) := by decide +kernel
theorem dX8_init_231 : decode cX8_init 231 = .ok (.aload_n 0, 1) := by decide +kernel
theorem dX8_init_232 : decode cX8_init 232 = .ok (.bipush 81, 2) := by decide +kernel
theorem dX8_init_234 : decode cX8_init 234 = .ok (.newarray .boolean, 2) := by decide +kernel
theorem dX8_init_236 : decode cX8_init 236 = .ok (.putfield 92, 3) := by decide +kernel
theorem dX8_init_239 : decode cX8_init 239 = .ok (.aload_n 0, 1) := by decide +kernel
theorem dX8_init_240 : decode cX8_init 240 = .ok (.bipush 81, 2) := by decide +kernel
theorem dX8_init_242 : decode cX8_init 242 = .ok (.newarray .long, 2) := by decide +kernel
theorem dX8_init_244 : decode cX8_init 244 = .ok (.putfield 95, 3) := by decide +kernel
theorem dX8_init_247 : decode cX8_init 247 = .ok (.aload_n 0, 1) := by decide +kernel
theorem dX8_init_248 : decode cX8_init 248 = .ok (.bipush 81, 2) := by decide +kernel
theorem dX8_init_250 : decode cX8_init 250 = .ok (.newarray .int, 2) := by decide +kernel
theorem dX8_init_252 : decode cX8_init 252 = .ok (.putfield 98, 3) := by decide +kernel
theorem dX8_init_255 : decode cX8_init 255 = .ok (.aload_n 0, 1) := by decide +kernel
theorem dX8_init_256 : decode cX8_init 256 = .ok (.bipush 11, 2) := by decide +kernel
theorem dX8_init_258 : decode cX8_init 258 = .ok (.newarray .int, 2) := by decide +kernel
theorem dX8_init_260 : decode cX8_init 260 = .ok (.putfield 101, 3) := by decide +kernel
theorem dX8_init_263 : decode cX8_init 263 = .ok (.aload_n 0, 1) := by decide +kernel
theorem dX8_init_264 : decode cX8_init 264 = .ok (.bipush 11, 2) := by decide +kernel
theorem dX8_init_266 : decode cX8_init 266 = .ok (.newarray .int, 2) := by decide +kernel
theorem dX8_init_268 : decode cX8_init 268 = .ok (.putfield 104, 3) := by decide +kernel
theorem dX8_init_271 : decode cX8_init 271 = .ok (.aload_n 0, 1) := by decide +kernel
theorem dX8_init_272 : decode cX8_init 272 = .ok (.bipush 11, 2) := by decide +kernel
theorem dX8_init_274 : decode cX8_init 274 = .ok (.newarray .int, 2) := by decide +kernel
theorem dX8_init_276 : decode cX8_init 276 = .ok (.putfield 107, 3) := by decide +kernel
theorem dX8_init_279 : decode cX8_init 279 = .ok (.aload_n 0, 1) := by decide +kernel
theorem dX8_init_280 : decode cX8_init 280 = .ok (.bipush 11, 2) := by decide +kernel
theorem dX8_init_282 : decode cX8_init 282 = .ok (.newarray .int, 2) := by decide +kernel
theorem dX8_init_284 : decode cX8_init 284 = .ok (.putfield 110, 3) := by decide +kernel
theorem dX8_init_287 : decode cX8_init 287 = .ok (.aload_n 0, 1) := by decide +kernel
theorem dX8_init_288 : decode cX8_init 288 = .ok (.bipush 11, 2) := by decide +kernel
theorem dX8_init_290 : decode cX8_init 290 = .ok (.newarray .int, 2) := by decide +kernel
theorem dX8_init_292 : decode cX8_init 292 = .ok (.putfield 113, 3) := by decide +kernel
theorem dX8_init_295 : decode cX8_init 295 = .ok (.aload_n 0, 1) := by decide +kernel
theorem dX8_init_296 : decode cX8_init 296 = .ok (.bipush 11, 2) := by decide +kernel
theorem dX8_init_298 : decode cX8_init 298 = .ok (.newarray .int, 2) := by decide +kernel
theorem dX8_init_300 : decode cX8_init 300 = .ok (.putfield 116, 3) := by decide +kernel
theorem dX8_init_303 : decode cX8_init 303 = .ok (.aload_n 0, 1) := by decide +kernel
theorem dX8_init_304 : decode cX8_init 304 = .ok (.getfield 44, 3) := by decide +kernel
theorem dX8_init_307 : decode cX8_init 307 = .ok (.iconst 0, 1) := by decide +kernel
theorem dX8_init_308 : decode cX8_init 308 = .ok (.iconst (-1), 1) := by decide +kernel
theorem dX8_init_309 : decode cX8_init 309 = .ok (.iastore, 1) := by decide +kernel
theorem dX8_init_310 : decode cX8_init 310 = .ok (.aload_n 0, 1) := by decide +kernel
theorem dX8_init_311 : decode cX8_init 311 = .ok (.getfield 50, 3) := by decide +kernel
theorem dX8_init_314 : decode cX8_init 314 = .ok (.iconst 0, 1) := by decide +kernel
theorem dX8_init_315 : decode cX8_init 315 = .ok (.iconst (-1), 1) := by decide +kernel
theorem dX8_init_316 : decode cX8_init 316 = .ok (.iastore, 1) := by decide +kernel
theorem dX8_init_317 : decode cX8_init 317 = .ok (.return_, 1) := by decide +kernel
theorem dX8_states_0 : decode cX8_states 0 = .ok (.iconst 1, 1) := by decide +kernel
theorem dX8_states_1 : decode cX8_states 1 = .ok (.istore_n 1, 1) := by decide +kernel
theorem dX8_states_2 : decode cX8_states 2 = .ok (.iconst 0, 1) := by decide +kernel
theorem dX8_states_3 : decode cX8_states 3 = .ok (.istore_n 2, 1) := by decide +kernel
theorem dX8_states_4 : decode cX8_states 4 = .ok (.iload_n 2, 1) := by decide +kernel
theorem dX8_states_5 : decode cX8_states 5 = .ok (.aload_n 0, 1) := by decide +kernel
theorem dX8_states_6 : decode cX8_states 6 = .ok (.getfield 119, 3) := by decide +kernel
theorem dX8_states_9 : decode cX8_states 9 = .ok (.if_icmp .ge 20, 3) := by decide +kernel
theorem dX8_states_12 : decode cX8_states 12 = .ok (.iload_n 1, 1) := by decide +kernel
theorem dX8_states_13 : decode cX8_states 13 = .ok (.aload_n 0, 1) := by decide +kernel
theorem dX8_states_14 : decode cX8_states 14 = .ok (.getfield 17, 3) := by decide +kernel
theorem dX8_states_17 : decode cX8_states 17 = .ok (.iload_n 2, 1) := by decide +kernel
theorem dX8_states_18 : decode cX8_states 18 = .ok (.iaload, 1) := by decide +kernel
theorem dX8_states_19 : decode cX8_states 19 = .ok (.iconst 1, 1) := by decide +kernel
theorem dX8_states_20 : decode cX8_states 20 = .ok (.iadd, 1) := by decide +kernel
theorem dX8_states_21 : decode cX8_states 21 = .ok (.imul, 1) := by decide +kernel
theorem dX8_states_22 : decode cX8_states 22 = .ok (.istore_n 1, 1) := by decide +kernel
theorem dX8_states_23 : decode cX8_states 23 = .ok (.iinc 2 1, 3) := by decide +kernel
theorem dX8_states_26 : decode cX8_states 26 = .ok (.goto (-22), 3) := by decide +kernel
theorem dX8_states_29 : decode cX8_states 29 = .ok (.iload_n 1, 1) := by decide +kernel
theorem dX8_states_30 : decode cX8_states 30 = .ok (.ireturn, 1) := by decide +kernel
theorem dX8_isLake_0 : decode cX8_isLake 0 = .ok (.iload_n 1, 1) := by decide +kernel
theorem dX8_isLake_1 : decode cX8_isLake 1 = .ok (.iconst 0, 1) := by decide +kernel
theorem dX8_isLake_2 : decode cX8_isLake 2 = .ok (.aload_n 0, 1) := by decide +kernel
theorem dX8_isLake_3 : decode cX8_isLake 3 = .ok (.getfield 119, 3) := by decide +kernel
theorem dX8_isLake_6 : decode cX8_isLake 6 = .ok (.iconst 1, 1) := by decide +kernel
theorem dX8_isLake_7 : decode cX8_isLake 7 = .ok (.isub, 1) := by decide +kernel
theorem dX8_isLake_8 : decode cX8_isLake 8 = .ok (.invokestatic 122, 3) := by decide +kernel
theorem dX8_isLake_11 : decode cX8_isLake 11 = .ok (.ireturn, 1) := by decide +kernel
theorem dX8_isNode_0 : decode cX8_isNode 0 = .ok (.iload_n 1, 1) := by decide +kernel
theorem dX8_isNode_1 : decode cX8_isNode 1 = .ok (.iconst 0, 1) := by decide +kernel
theorem dX8_isNode_2 : decode cX8_isNode 2 = .ok (.aload_n 0, 1) := by decide +kernel
theorem dX8_isNode_3 : decode cX8_isNode 3 = .ok (.getfield 41, 3) := by decide +kernel
theorem dX8_isNode_6 : decode cX8_isNode 6 = .ok (.iconst 1, 1) := by decide +kernel
theorem dX8_isNode_7 : decode cX8_isNode 7 = .ok (.isub, 1) := by decide +kernel
theorem dX8_isNode_8 : decode cX8_isNode 8 = .ok (.invokestatic 122, 3) := by decide +kernel
theorem dX8_isNode_11 : decode cX8_isNode 11 = .ok (.ireturn, 1) := by decide +kernel
theorem dX8_isState_0 : decode cX8_isState 0 = .ok (.iload_n 1, 1) := by decide +kernel
theorem dX8_isState_1 : decode cX8_isState 1 = .ok (.iconst 0, 1) := by decide +kernel
theorem dX8_isState_2 : decode cX8_isState 2 = .ok (.aload_n 0, 1) := by decide +kernel
theorem dX8_isState_3 : decode cX8_isState 3 = .ok (.invokevirtual 126, 3) := by decide +kernel
theorem dX8_isState_6 : decode cX8_isState 6 = .ok (.iconst 1, 1) := by decide +kernel
theorem dX8_isState_7 : decode cX8_isState 7 = .ok (.isub, 1) := by decide +kernel
theorem dX8_isState_8 : decode cX8_isState 8 = .ok (.invokestatic 122, 3) := by decide +kernel
theorem dX8_isState_11 : decode cX8_isState 11 = .ok (.ireturn, 1) := by decide +kernel
theorem dX8_forget_0 : decode cX8_forget 0 = .ok (.aload_n 0, 1) := by decide +kernel
theorem dX8_forget_1 : decode cX8_forget 1 = .ok (.iconst 0, 1) := by decide +kernel
theorem dX8_forget_2 : decode cX8_forget 2 = .ok (.putfield 130, 3) := by decide +kernel
theorem dX8_forget_5 : decode cX8_forget 5 = .ok (.return_, 1) := by decide +kernel
theorem dX8_lake_0 : decode cX8_lake 0 = .ok (.iload_n 2, 1) := by decide +kernel
theorem dX8_lake_1 : decode cX8_lake 1 = .ok (.iconst 0, 1) := by decide +kernel
theorem dX8_lake_2 : decode cX8_lake 2 = .ok (.bipush 30, 2) := by decide +kernel
theorem dX8_lake_4 : decode cX8_lake 4 = .ok (.invokestatic 122, 3) := by decide +kernel
theorem dX8_lake_7 : decode cX8_lake 7 = .ok (.ifCond .eq 54, 3) := by decide +kernel
theorem dX8_lake_10 : decode cX8_lake 10 = .ok (.iload_n 1, 1) := by decide +kernel
theorem dX8_lake_11 : decode cX8_lake 11 = .ok (.iconst 0, 1) := by decide +kernel
theorem dX8_lake_12 : decode cX8_lake 12 = .ok (.iload_n 2, 1) := by decide +kernel
theorem dX8_lake_13 : decode cX8_lake 13 = .ok (.invokestatic 122, 3) := by decide +kernel
theorem dX8_lake_16 : decode cX8_lake 16 = .ok (.ifCond .eq 45, 3) := by decide +kernel
theorem dX8_lake_19 : decode cX8_lake 19 = .ok (.iload_n 3, 1) := by decide +kernel
theorem dX8_lake_20 : decode cX8_lake 20 = .ok (.iconst 0, 1) := by decide +kernel
theorem dX8_lake_21 : decode cX8_lake 21 = .ok (.bipush 10, 2) := by decide +kernel
theorem dX8_lake_23 : decode cX8_lake 23 = .ok (.invokestatic 122, 3) := by decide +kernel
theorem dX8_lake_26 : decode cX8_lake 26 = .ok (.ifCond .eq 35, 3) := by decide +kernel
theorem dX8_lake_29 : decode cX8_lake 29 = .ok (.iload 4, 2) := by decide +kernel
theorem dX8_lake_31 : decode cX8_lake 31 = .ok (.iconst 0, 1) := by decide +kernel
theorem dX8_lake_32 : decode cX8_lake 32 = .ok (.iconst 5, 1) := by decide +kernel
theorem dX8_lake_33 : decode cX8_lake 33 = .ok (.invokestatic 122, 3) := by decide +kernel
theorem dX8_lake_36 : decode cX8_lake 36 = .ok (.ifCond .eq 25, 3) := by decide +kernel
theorem dX8_lake_39 : decode cX8_lake 39 = .ok (.aload_n 0, 1) := by decide +kernel
theorem dX8_lake_40 : decode cX8_lake 40 = .ok (.getfield 119, 3) := by decide +kernel
theorem dX8_lake_43 : decode cX8_lake 43 = .ok (.iconst 3, 1) := by decide +kernel
theorem dX8_lake_44 : decode cX8_lake 44 = .ok (.if_icmp .ge 19, 3) := by decide +kernel
theorem dX8_lake_47 : decode cX8_lake 47 = .ok (.aload_n 0, 1) := by decide +kernel
theorem dX8_lake_48 : decode cX8_lake 48 = .ok (.invokevirtual 126, 3) := by decide +kernel
theorem dX8_lake_51 : decode cX8_lake 51 = .ok (.iload_n 2, 1) := by decide +kernel
theorem dX8_lake_52 : decode cX8_lake 52 = .ok (.iconst 1, 1) := by decide +kernel
theorem dX8_lake_53 : decode cX8_lake 53 = .ok (.iadd, 1) := by decide +kernel
theorem dX8_lake_54 : decode cX8_lake 54 = .ok (.imul, 1) := by decide +kernel
theorem dX8_lake_55 : decode cX8_lake 55 = .ok (.sipush 1000, 3) := by decide +kernel
theorem dX8_lake_58 : decode cX8_lake 58 = .ok (.if_icmp .le 5, 3) := by decide +kernel
theorem dX8_lake_61 : decode cX8_lake 61 = .ok (.iconst (-1), 1) := by decide +kernel
theorem dX8_lake_62 : decode cX8_lake 62 = .ok (.ireturn, 1) := by decide +kernel
theorem dX8_lake_63 : decode cX8_lake 63 = .ok (.aload_n 0, 1) := by decide +kernel
theorem dX8_lake_64 : decode cX8_lake 64 = .ok (.getfield 134, 3) := by decide +kernel
theorem dX8_lake_67 : decode cX8_lake 67 = .ok (.ifCond .eq 6, 3) := by decide +kernel
theorem dX8_lake_70 : decode cX8_lake 70 = .ok (.bipush (-2), 2) := by decide +kernel
theorem dX8_lake_72 : decode cX8_lake 72 = .ok (.ireturn, 1) := by decide +kernel
theorem dX8_lake_73 : decode cX8_lake 73 = .ok (.aload_n 0, 1) := by decide +kernel
theorem dX8_lake_74 : decode cX8_lake 74 = .ok (.getfield 119, 3) := by decide +kernel
theorem dX8_lake_77 : decode cX8_lake 77 = .ok (.iconst 3, 1) := by decide +kernel
theorem dX8_lake_78 : decode cX8_lake 78 = .ok (.if_icmp .eq 11, 3) := by decide +kernel
theorem dX8_lake_81 : decode cX8_lake 81 = .ok (.aload_n 0, 1) := by decide +kernel
theorem dX8_lake_82 : decode cX8_lake 82 = .ok (.getfield 41, 3) := by decide +kernel
theorem dX8_lake_85 : decode cX8_lake 85 = .ok (.iconst 1, 1) := by decide +kernel
theorem dX8_lake_86 : decode cX8_lake 86 = .ok (.if_icmp .le 6, 3) := by decide +kernel
theorem dX8_lake_89 : decode cX8_lake 89 = .ok (.bipush (-5), 2) := by decide +kernel
theorem dX8_lake_91 : decode cX8_lake 91 = .ok (.ireturn, 1) := by decide +kernel
theorem dX8_lake_92 : decode cX8_lake 92 = .ok (.aload_n 0, 1) := by decide +kernel
theorem dX8_lake_93 : decode cX8_lake 93 = .ok (.getfield 119, 3) := by decide +kernel
theorem dX8_lake_96 : decode cX8_lake 96 = .ok (.istore 5, 2) := by decide +kernel
theorem dX8_lake_98 : decode cX8_lake 98 = .ok (.aload_n 0, 1) := by decide +kernel
theorem dX8_lake_99 : decode cX8_lake 99 = .ok (.getfield 13, 3) := by decide +kernel
theorem dX8_lake_102 : decode cX8_lake 102 = .ok (.iload 5, 2) := by decide +kernel
theorem dX8_lake_104 : decode cX8_lake 104 = .ok (.iload_n 1, 1) := by decide +kernel
theorem dX8_lake_105 : decode cX8_lake 105 = .ok (.iastore, 1) := by decide +kernel
theorem dX8_lake_106 : decode cX8_lake 106 = .ok (.aload_n 0, 1) := by decide +kernel
theorem dX8_lake_107 : decode cX8_lake 107 = .ok (.getfield 17, 3) := by decide +kernel
theorem dX8_lake_110 : decode cX8_lake 110 = .ok (.iload 5, 2) := by decide +kernel
theorem dX8_lake_112 : decode cX8_lake 112 = .ok (.iload_n 2, 1) := by decide +kernel
theorem dX8_lake_113 : decode cX8_lake 113 = .ok (.iastore, 1) := by decide +kernel
theorem dX8_lake_114 : decode cX8_lake 114 = .ok (.aload_n 0, 1) := by decide +kernel
theorem dX8_lake_115 : decode cX8_lake 115 = .ok (.getfield 20, 3) := by decide +kernel
theorem dX8_lake_118 : decode cX8_lake 118 = .ok (.iload 5, 2) := by decide +kernel
theorem dX8_lake_120 : decode cX8_lake 120 = .ok (.iload_n 3, 1) := by decide +kernel
theorem dX8_lake_121 : decode cX8_lake 121 = .ok (.iastore, 1) := by decide +kernel
theorem dX8_lake_122 : decode cX8_lake 122 = .ok (.aload_n 0, 1) := by decide +kernel
theorem dX8_lake_123 : decode cX8_lake 123 = .ok (.getfield 23, 3) := by decide +kernel
theorem dX8_lake_126 : decode cX8_lake 126 = .ok (.iload 5, 2) := by decide +kernel
theorem dX8_lake_128 : decode cX8_lake 128 = .ok (.iload 4, 2) := by decide +kernel
theorem dX8_lake_130 : decode cX8_lake 130 = .ok (.iastore, 1) := by decide +kernel
theorem dX8_lake_131 : decode cX8_lake 131 = .ok (.iconst 0, 1) := by decide +kernel
theorem dX8_lake_132 : decode cX8_lake 132 = .ok (.istore 6, 2) := by decide +kernel
theorem dX8_lake_134 : decode cX8_lake 134 = .ok (.iload 6, 2) := by decide +kernel
theorem dX8_lake_136 : decode cX8_lake 136 = .ok (.iload_n 2, 1) := by decide +kernel
theorem dX8_lake_137 : decode cX8_lake 137 = .ok (.if_icmp .gt 23, 3) := by decide +kernel
theorem dX8_lake_140 : decode cX8_lake 140 = .ok (.aload_n 0, 1) := by decide +kernel
theorem dX8_lake_141 : decode cX8_lake 141 = .ok (.getfield 26, 3) := by decide +kernel
theorem dX8_lake_144 : decode cX8_lake 144 = .ok (.bipush 31, 2) := by decide +kernel
theorem dX8_lake_146 : decode cX8_lake 146 = .ok (.iload 5, 2) := by decide +kernel
theorem dX8_lake_148 : decode cX8_lake 148 = .ok (.imul, 1) := by decide +kernel
theorem dX8_lake_149 : decode cX8_lake 149 = .ok (.iload 6, 2) := by decide +kernel
theorem dX8_lake_151 : decode cX8_lake 151 = .ok (.iadd, 1) := by decide +kernel
theorem dX8_lake_152 : decode cX8_lake 152 = .ok (.iconst 1, 1) := by decide +kernel
theorem dX8_lake_153 : decode cX8_lake 153 = .ok (.iastore, 1) := by decide +kernel
theorem dX8_lake_154 : decode cX8_lake 154 = .ok (.iinc 6 1, 3) := by decide +kernel
theorem dX8_lake_157 : decode cX8_lake 157 = .ok (.goto (-23), 3) := by decide +kernel
theorem dX8_lake_160 : decode cX8_lake 160 = .ok (.aload_n 0, 1) := by decide +kernel
theorem dX8_lake_161 : decode cX8_lake 161 = .ok (.getfield 29, 3) := by decide +kernel
theorem dX8_lake_164 : decode cX8_lake 164 = .ok (.iload 5, 2) := by decide +kernel
theorem dX8_lake_166 : decode cX8_lake 166 = .ok (.iconst 0, 1) := by decide +kernel
theorem dX8_lake_167 : decode cX8_lake 167 = .ok (.iastore, 1) := by decide +kernel
theorem dX8_lake_168 : decode cX8_lake 168 = .ok (.aload_n 0, 1) := by decide +kernel
theorem dX8_lake_169 : decode cX8_lake 169 = .ok (.getfield 77, 3) := by decide +kernel
theorem dX8_lake_172 : decode cX8_lake 172 = .ok (.iload 5, 2) := by decide +kernel
theorem dX8_lake_174 : decode cX8_lake 174 = .ok (.iconst 0, 1) := by decide +kernel
theorem dX8_lake_175 : decode cX8_lake 175 = .ok (.iastore, 1) := by decide +kernel
theorem dX8_lake_176 : decode cX8_lake 176 = .ok (.aload_n 0, 1) := by decide +kernel
theorem dX8_lake_177 : decode cX8_lake 177 = .ok (.getfield 80, 3) := by decide +kernel
theorem dX8_lake_180 : decode cX8_lake 180 = .ok (.iload 5, 2) := by decide +kernel
theorem dX8_lake_182 : decode cX8_lake 182 = .ok (.bipush 30, 2) := by decide +kernel
theorem dX8_lake_184 : decode cX8_lake 184 = .ok (.iastore, 1) := by decide +kernel
theorem dX8_lake_185 : decode cX8_lake 185 = .ok (.aload_n 0, 1) := by decide +kernel
theorem dX8_lake_186 : decode cX8_lake 186 = .ok (.dup, 1) := by decide +kernel
theorem dX8_lake_187 : decode cX8_lake 187 = .ok (.getfield 119, 3) := by decide +kernel
theorem dX8_lake_190 : decode cX8_lake 190 = .ok (.iconst 1, 1) := by decide +kernel
theorem dX8_lake_191 : decode cX8_lake 191 = .ok (.iadd, 1) := by decide +kernel
theorem dX8_lake_192 : decode cX8_lake 192 = .ok (.putfield 119, 3) := by decide +kernel
theorem dX8_lake_195 : decode cX8_lake 195 = .ok (.aload_n 0, 1) := by decide +kernel
theorem dX8_lake_196 : decode cX8_lake 196 = .ok (.invokevirtual 137, 3) := by decide +kernel
theorem dX8_lake_199 : decode cX8_lake 199 = .ok (.iload 5, 2) := by decide +kernel
theorem dX8_lake_201 : decode cX8_lake 201 = .ok (.ireturn, 1) := by decide +kernel
theorem dX8_head_0 : decode cX8_head 0 = .ok (.aload_n 0, 1) := by decide +kernel
theorem dX8_head_1 : decode cX8_head 1 = .ok (.iload_n 1, 1) := by decide +kernel
theorem dX8_head_2 : decode cX8_head 2 = .ok (.invokevirtual 140, 3) := by decide +kernel
theorem dX8_head_5 : decode cX8_head 5 = .ok (.ifCond .eq 27, 3) := by decide +kernel
theorem dX8_head_8 : decode cX8_head 8 = .ok (.iload_n 2, 1) := by decide +kernel
theorem dX8_head_9 : decode cX8_head 9 = .ok (.iconst 0, 1) := by decide +kernel
theorem dX8_head_10 : decode cX8_head 10 = .ok (.aload_n 0, 1) := by decide +kernel
theorem dX8_head_11 : decode cX8_head 11 = .ok (.getfield 17, 3) := by decide +kernel
theorem dX8_head_14 : decode cX8_head 14 = .ok (.iload_n 1, 1) := by decide +kernel
theorem dX8_head_15 : decode cX8_head 15 = .ok (.iaload, 1) := by decide +kernel
theorem dX8_head_16 : decode cX8_head 16 = .ok (.invokestatic 122, 3) := by decide +kernel
theorem dX8_head_19 : decode cX8_head 19 = .ok (.ifCond .eq 13, 3) := by decide +kernel
theorem dX8_head_22 : decode cX8_head 22 = .ok (.iload_n 3, 1) := by decide +kernel
theorem dX8_head_23 : decode cX8_head 23 = .ok (.iconst 0, 1) := by decide +kernel
theorem dX8_head_24 : decode cX8_head 24 = .ok (.bipush 9, 2) := by decide +kernel
theorem dX8_head_26 : decode cX8_head 26 = .ok (.invokestatic 122, 3) := by decide +kernel
theorem dX8_head_29 : decode cX8_head 29 = .ok (.ifCond .ne 5, 3) := by decide +kernel
theorem dX8_head_32 : decode cX8_head 32 = .ok (.iconst (-1), 1) := by decide +kernel
theorem dX8_head_33 : decode cX8_head 33 = .ok (.ireturn, 1) := by decide +kernel
theorem dX8_head_34 : decode cX8_head 34 = .ok (.iconst 0, 1) := by decide +kernel
theorem dX8_head_35 : decode cX8_head 35 = .ok (.istore 4, 2) := by decide +kernel
theorem dX8_head_37 : decode cX8_head 37 = .ok (.iload 4, 2) := by decide +kernel
theorem dX8_head_39 : decode cX8_head 39 = .ok (.aload_n 0, 1) := by decide +kernel
theorem dX8_head_40 : decode cX8_head 40 = .ok (.getfield 17, 3) := by decide +kernel
theorem dX8_head_43 : decode cX8_head 43 = .ok (.iload_n 1, 1) := by decide +kernel
theorem dX8_head_44 : decode cX8_head 44 = .ok (.iaload, 1) := by decide +kernel
theorem dX8_head_45 : decode cX8_head 45 = .ok (.if_icmp .gt 55, 3) := by decide +kernel
theorem dX8_head_48 : decode cX8_head 48 = .ok (.iload 4, 2) := by decide +kernel
theorem dX8_head_50 : decode cX8_head 50 = .ok (.iload_n 2, 1) := by decide +kernel
theorem dX8_head_51 : decode cX8_head 51 = .ok (.if_icmp .ge 19, 3) := by decide +kernel
theorem dX8_head_54 : decode cX8_head 54 = .ok (.aload_n 0, 1) := by decide +kernel
theorem dX8_head_55 : decode cX8_head 55 = .ok (.getfield 26, 3) := by decide +kernel
theorem dX8_head_58 : decode cX8_head 58 = .ok (.bipush 31, 2) := by decide +kernel
theorem dX8_head_60 : decode cX8_head 60 = .ok (.iload_n 1, 1) := by decide +kernel
theorem dX8_head_61 : decode cX8_head 61 = .ok (.imul, 1) := by decide +kernel
theorem dX8_head_62 : decode cX8_head 62 = .ok (.iload 4, 2) := by decide +kernel
theorem dX8_head_64 : decode cX8_head 64 = .ok (.iadd, 1) := by decide +kernel
theorem dX8_head_65 : decode cX8_head 65 = .ok (.iaload, 1) := by decide +kernel
theorem dX8_head_66 : decode cX8_head 66 = .ok (.iload_n 3, 1) := by decide +kernel
theorem dX8_head_67 : decode cX8_head 67 = .ok (.if_icmp .gt 25, 3) := by decide +kernel
theorem dX8_head_70 : decode cX8_head 70 = .ok (.iload 4, 2) := by decide +kernel
theorem dX8_head_72 : decode cX8_head 72 = .ok (.iload_n 2, 1) := by decide +kernel
theorem dX8_head_73 : decode cX8_head 73 = .ok (.if_icmp .le 21, 3) := by decide +kernel
theorem dX8_head_76 : decode cX8_head 76 = .ok (.aload_n 0, 1) := by decide +kernel
theorem dX8_head_77 : decode cX8_head 77 = .ok (.getfield 26, 3) := by decide +kernel
theorem dX8_head_80 : decode cX8_head 80 = .ok (.bipush 31, 2) := by decide +kernel
theorem dX8_head_82 : decode cX8_head 82 = .ok (.iload_n 1, 1) := by decide +kernel
theorem dX8_head_83 : decode cX8_head 83 = .ok (.imul, 1) := by decide +kernel
theorem dX8_head_84 : decode cX8_head 84 = .ok (.iload 4, 2) := by decide +kernel
theorem dX8_head_86 : decode cX8_head 86 = .ok (.iadd, 1) := by decide +kernel
theorem dX8_head_87 : decode cX8_head 87 = .ok (.iaload, 1) := by decide +kernel
theorem dX8_head_88 : decode cX8_head 88 = .ok (.iload_n 3, 1) := by decide +kernel
theorem dX8_head_89 : decode cX8_head 89 = .ok (.if_icmp .ge 5, 3) := by decide +kernel
theorem dX8_head_92 : decode cX8_head 92 = .ok (.iconst (-1), 1) := by decide +kernel
theorem dX8_head_93 : decode cX8_head 93 = .ok (.ireturn, 1) := by decide +kernel
theorem dX8_head_94 : decode cX8_head 94 = .ok (.iinc 4 1, 3) := by decide +kernel
theorem dX8_head_97 : decode cX8_head 97 = .ok (.goto (-60), 3) := by decide +kernel
theorem dX8_head_100 : decode cX8_head 100 = .ok (.aload_n 0, 1) := by decide +kernel
theorem dX8_head_101 : decode cX8_head 101 = .ok (.getfield 134, 3) := by decide +kernel
theorem dX8_head_104 : decode cX8_head 104 = .ok (.ifCond .eq 6, 3) := by decide +kernel
theorem dX8_head_107 : decode cX8_head 107 = .ok (.bipush (-2), 2) := by decide +kernel
theorem dX8_head_109 : decode cX8_head 109 = .ok (.ireturn, 1) := by decide +kernel
theorem dX8_head_110 : decode cX8_head 110 = .ok (.aload_n 0, 1) := by decide +kernel
theorem dX8_head_111 : decode cX8_head 111 = .ok (.getfield 26, 3) := by decide +kernel
theorem dX8_head_114 : decode cX8_head 114 = .ok (.bipush 31, 2) := by decide +kernel
theorem dX8_head_116 : decode cX8_head 116 = .ok (.iload_n 1, 1) := by decide +kernel
theorem dX8_head_117 : decode cX8_head 117 = .ok (.imul, 1) := by decide +kernel
theorem dX8_head_118 : decode cX8_head 118 = .ok (.iload_n 2, 1) := by decide +kernel
theorem dX8_head_119 : decode cX8_head 119 = .ok (.iadd, 1) := by decide +kernel
theorem dX8_head_120 : decode cX8_head 120 = .ok (.iaload, 1) := by decide +kernel
theorem dX8_head_121 : decode cX8_head 121 = .ok (.istore 4, 2) := by decide +kernel
theorem dX8_head_123 : decode cX8_head 123 = .ok (.aload_n 0, 1) := by decide +kernel
theorem dX8_head_124 : decode cX8_head 124 = .ok (.getfield 26, 3) := by decide +kernel
theorem dX8_head_127 : decode cX8_head 127 = .ok (.bipush 31, 2) := by decide +kernel
theorem dX8_head_129 : decode cX8_head 129 = .ok (.iload_n 1, 1) := by decide +kernel
theorem dX8_head_130 : decode cX8_head 130 = .ok (.imul, 1) := by decide +kernel
theorem dX8_head_131 : decode cX8_head 131 = .ok (.iload_n 2, 1) := by decide +kernel
theorem dX8_head_132 : decode cX8_head 132 = .ok (.iadd, 1) := by decide +kernel
theorem dX8_head_133 : decode cX8_head 133 = .ok (.iload_n 3, 1) := by decide +kernel
theorem dX8_head_134 : decode cX8_head 134 = .ok (.iastore, 1) := by decide +kernel
theorem dX8_head_135 : decode cX8_head 135 = .ok (.aload_n 0, 1) := by decide +kernel
theorem dX8_head_136 : decode cX8_head 136 = .ok (.invokevirtual 137, 3) := by decide +kernel
theorem dX8_head_139 : decode cX8_head 139 = .ok (.iload 4, 2) := by decide +kernel
theorem dX8_head_141 : decode cX8_head 141 = .ok (.ireturn, 1) := by decide +kernel
theorem dX8_end_0 : decode cX8_end 0 = .ok (.aload_n 0, 1) := by decide +kernel
theorem dX8_end_1 : decode cX8_end 1 = .ok (.iload_n 1, 1) := by decide +kernel
theorem dX8_end_2 : decode cX8_end 2 = .ok (.invokevirtual 140, 3) := by decide +kernel
theorem dX8_end_5 : decode cX8_end 5 = .ok (.ifCond .eq 13, 3) := by decide +kernel
theorem dX8_end_8 : decode cX8_end 8 = .ok (.iload_n 2, 1) := by decide +kernel
theorem dX8_end_9 : decode cX8_end 9 = .ok (.iconst 0, 1) := by decide +kernel
theorem dX8_end_10 : decode cX8_end 10 = .ok (.bipush 99, 2) := by decide +kernel
theorem dX8_end_12 : decode cX8_end 12 = .ok (.invokestatic 122, 3) := by decide +kernel
theorem dX8_end_15 : decode cX8_end 15 = .ok (.ifCond .ne 5, 3) := by decide +kernel
theorem dX8_end_18 : decode cX8_end 18 = .ok (.iconst (-1), 1) := by decide +kernel
theorem dX8_end_19 : decode cX8_end 19 = .ok (.ireturn, 1) := by decide +kernel
theorem dX8_end_20 : decode cX8_end 20 = .ok (.aload_n 0, 1) := by decide +kernel
theorem dX8_end_21 : decode cX8_end 21 = .ok (.getfield 134, 3) := by decide +kernel
theorem dX8_end_24 : decode cX8_end 24 = .ok (.ifCond .eq 6, 3) := by decide +kernel
theorem dX8_end_27 : decode cX8_end 27 = .ok (.bipush (-2), 2) := by decide +kernel
theorem dX8_end_29 : decode cX8_end 29 = .ok (.ireturn, 1) := by decide +kernel
theorem dX8_end_30 : decode cX8_end 30 = .ok (.aload_n 0, 1) := by decide +kernel
theorem dX8_end_31 : decode cX8_end 31 = .ok (.getfield 29, 3) := by decide +kernel
theorem dX8_end_34 : decode cX8_end 34 = .ok (.iload_n 1, 1) := by decide +kernel
theorem dX8_end_35 : decode cX8_end 35 = .ok (.iaload, 1) := by decide +kernel
theorem dX8_end_36 : decode cX8_end 36 = .ok (.istore_n 3, 1) := by decide +kernel
theorem dX8_end_37 : decode cX8_end 37 = .ok (.aload_n 0, 1) := by decide +kernel
theorem dX8_end_38 : decode cX8_end 38 = .ok (.getfield 29, 3) := by decide +kernel
theorem dX8_end_41 : decode cX8_end 41 = .ok (.iload_n 1, 1) := by decide +kernel
theorem dX8_end_42 : decode cX8_end 42 = .ok (.iload_n 2, 1) := by decide +kernel
theorem dX8_end_43 : decode cX8_end 43 = .ok (.iastore, 1) := by decide +kernel
theorem dX8_end_44 : decode cX8_end 44 = .ok (.aload_n 0, 1) := by decide +kernel
theorem dX8_end_45 : decode cX8_end 45 = .ok (.invokevirtual 137, 3) := by decide +kernel
theorem dX8_end_48 : decode cX8_end 48 = .ok (.iload_n 3, 1) := by decide +kernel
theorem dX8_end_49 : decode cX8_end 49 = .ok (.ireturn, 1) := by decide +kernel
theorem dX8_weeks_0 : decode cX8_weeks 0 = .ok (.iload_n 1, 1) := by decide +kernel
theorem dX8_weeks_1 : decode cX8_weeks 1 = .ok (.iconst 1, 1) := by decide +kernel
theorem dX8_weeks_2 : decode cX8_weeks 2 = .ok (.bipush 10, 2) := by decide +kernel
theorem dX8_weeks_4 : decode cX8_weeks 4 = .ok (.invokestatic 122, 3) := by decide +kernel
theorem dX8_weeks_7 : decode cX8_weeks 7 = .ok (.ifCond .eq 13, 3) := by decide +kernel
theorem dX8_weeks_10 : decode cX8_weeks 10 = .ok (.iload_n 2, 1) := by decide +kernel
theorem dX8_weeks_11 : decode cX8_weeks 11 = .ok (.iconst 1, 1) := by decide +kernel
theorem dX8_weeks_12 : decode cX8_weeks 12 = .ok (.bipush 6, 2) := by decide +kernel
theorem dX8_weeks_14 : decode cX8_weeks 14 = .ok (.invokestatic 122, 3) := by decide +kernel
theorem dX8_weeks_17 : decode cX8_weeks 17 = .ok (.ifCond .ne 5, 3) := by decide +kernel
theorem dX8_weeks_20 : decode cX8_weeks 20 = .ok (.iconst (-1), 1) := by decide +kernel
theorem dX8_weeks_21 : decode cX8_weeks 21 = .ok (.ireturn, 1) := by decide +kernel
theorem dX8_weeks_22 : decode cX8_weeks 22 = .ok (.aload_n 0, 1) := by decide +kernel
theorem dX8_weeks_23 : decode cX8_weeks 23 = .ok (.getfield 134, 3) := by decide +kernel
theorem dX8_weeks_26 : decode cX8_weeks 26 = .ok (.ifCond .eq 6, 3) := by decide +kernel
theorem dX8_weeks_29 : decode cX8_weeks 29 = .ok (.bipush (-2), 2) := by decide +kernel
theorem dX8_weeks_31 : decode cX8_weeks 31 = .ok (.ireturn, 1) := by decide +kernel
theorem dX8_weeks_32 : decode cX8_weeks 32 = .ok (.aload_n 0, 1) := by decide +kernel
theorem dX8_weeks_33 : decode cX8_weeks 33 = .ok (.iload_n 1, 1) := by decide +kernel
theorem dX8_weeks_34 : decode cX8_weeks 34 = .ok (.putfield 32, 3) := by decide +kernel
theorem dX8_weeks_37 : decode cX8_weeks 37 = .ok (.aload_n 0, 1) := by decide +kernel
theorem dX8_weeks_38 : decode cX8_weeks 38 = .ok (.iload_n 2, 1) := by decide +kernel
theorem dX8_weeks_39 : decode cX8_weeks 39 = .ok (.putfield 35, 3) := by decide +kernel
theorem dX8_weeks_42 : decode cX8_weeks 42 = .ok (.aload_n 0, 1) := by decide +kernel
theorem dX8_weeks_43 : decode cX8_weeks 43 = .ok (.iconst 1, 1) := by decide +kernel
theorem dX8_weeks_44 : decode cX8_weeks 44 = .ok (.putfield 41, 3) := by decide +kernel
theorem dX8_weeks_47 : decode cX8_weeks 47 = .ok (.aload_n 0, 1) := by decide +kernel
theorem dX8_weeks_48 : decode cX8_weeks 48 = .ok (.invokevirtual 137, 3) := by decide +kernel
theorem dX8_weeks_51 : decode cX8_weeks 51 = .ok (.iconst 1, 1) := by decide +kernel
theorem dX8_weeks_52 : decode cX8_weeks 52 = .ok (.ireturn, 1) := by decide +kernel
theorem dX8_price_0 : decode cX8_price 0 = .ok (.iload_n 1, 1) := by decide +kernel
theorem dX8_price_1 : decode cX8_price 1 = .ok (.iconst 0, 1) := by decide +kernel
theorem dX8_price_2 : decode cX8_price 2 = .ok (.bipush 9, 2) := by decide +kernel
theorem dX8_price_4 : decode cX8_price 4 = .ok (.invokestatic 122, 3) := by decide +kernel
theorem dX8_price_7 : decode cX8_price 7 = .ok (.ifCond .eq 13, 3) := by decide +kernel
theorem dX8_price_10 : decode cX8_price 10 = .ok (.iload_n 2, 1) := by decide +kernel
theorem dX8_price_11 : decode cX8_price 11 = .ok (.iconst 0, 1) := by decide +kernel
theorem dX8_price_12 : decode cX8_price 12 = .ok (.bipush 20, 2) := by decide +kernel
theorem dX8_price_14 : decode cX8_price 14 = .ok (.invokestatic 122, 3) := by decide +kernel
theorem dX8_price_17 : decode cX8_price 17 = .ok (.ifCond .ne 5, 3) := by decide +kernel
theorem dX8_price_20 : decode cX8_price 20 = .ok (.iconst (-1), 1) := by decide +kernel
theorem dX8_price_21 : decode cX8_price 21 = .ok (.ireturn, 1) := by decide +kernel
theorem dX8_price_22 : decode cX8_price 22 = .ok (.aload_n 0, 1) := by decide +kernel
theorem dX8_price_23 : decode cX8_price 23 = .ok (.getfield 134, 3) := by decide +kernel
theorem dX8_price_26 : decode cX8_price 26 = .ok (.ifCond .eq 6, 3) := by decide +kernel
theorem dX8_price_29 : decode cX8_price 29 = .ok (.bipush (-2), 2) := by decide +kernel
theorem dX8_price_31 : decode cX8_price 31 = .ok (.ireturn, 1) := by decide +kernel
theorem dX8_price_32 : decode cX8_price 32 = .ok (.aload_n 0, 1) := by decide +kernel
theorem dX8_price_33 : decode cX8_price 33 = .ok (.getfield 38, 3) := by decide +kernel
theorem dX8_price_36 : decode cX8_price 36 = .ok (.iload_n 1, 1) := by decide +kernel
theorem dX8_price_37 : decode cX8_price 37 = .ok (.iaload, 1) := by decide +kernel
theorem dX8_price_38 : decode cX8_price 38 = .ok (.istore_n 3, 1) := by decide +kernel
theorem dX8_price_39 : decode cX8_price 39 = .ok (.aload_n 0, 1) := by decide +kernel
theorem dX8_price_40 : decode cX8_price 40 = .ok (.getfield 38, 3) := by decide +kernel
theorem dX8_price_43 : decode cX8_price 43 = .ok (.iload_n 1, 1) := by decide +kernel
theorem dX8_price_44 : decode cX8_price 44 = .ok (.iload_n 2, 1) := by decide +kernel
theorem dX8_price_45 : decode cX8_price 45 = .ok (.iastore, 1) := by decide +kernel
theorem dX8_price_46 : decode cX8_price 46 = .ok (.aload_n 0, 1) := by decide +kernel
theorem dX8_price_47 : decode cX8_price 47 = .ok (.invokevirtual 137, 3) := by decide +kernel
theorem dX8_price_50 : decode cX8_price 50 = .ok (.iload_n 3, 1) := by decide +kernel
theorem dX8_price_51 : decode cX8_price 51 = .ok (.ireturn, 1) := by decide +kernel
theorem dX8_weightsOf_0 : decode cX8_weightsOf 0 = .ok (.iconst 0, 1) := by decide +kernel
theorem dX8_weightsOf_1 : decode cX8_weightsOf 1 = .ok (.istore_n 2, 1) := by decide +kernel
theorem dX8_weightsOf_2 : decode cX8_weightsOf 2 = .ok (.iconst 1, 1) := by decide +kernel
theorem dX8_weightsOf_3 : decode cX8_weightsOf 3 = .ok (.istore_n 3, 1) := by decide +kernel
theorem dX8_weightsOf_4 : decode cX8_weightsOf 4 = .ok (.iload_n 3, 1) := by decide +kernel
theorem dX8_weightsOf_5 : decode cX8_weightsOf 5 = .ok (.aload_n 0, 1) := by decide +kernel
theorem dX8_weightsOf_6 : decode cX8_weightsOf 6 = .ok (.getfield 41, 3) := by decide +kernel
theorem dX8_weightsOf_9 : decode cX8_weightsOf 9 = .ok (.if_icmp .ge 32, 3) := by decide +kernel
theorem dX8_weightsOf_12 : decode cX8_weightsOf 12 = .ok (.iload_n 2, 1) := by decide +kernel
theorem dX8_weightsOf_13 : decode cX8_weightsOf 13 = .ok (.aload_n 0, 1) := by decide +kernel
theorem dX8_weightsOf_14 : decode cX8_weightsOf 14 = .ok (.getfield 44, 3) := by decide +kernel
theorem dX8_weightsOf_17 : decode cX8_weightsOf 17 = .ok (.iload_n 3, 1) := by decide +kernel
theorem dX8_weightsOf_18 : decode cX8_weightsOf 18 = .ok (.iaload, 1) := by decide +kernel
theorem dX8_weightsOf_19 : decode cX8_weightsOf 19 = .ok (.iload_n 1, 1) := by decide +kernel
theorem dX8_weightsOf_20 : decode cX8_weightsOf 20 = .ok (.if_icmp .ne 12, 3) := by decide +kernel
theorem dX8_weightsOf_23 : decode cX8_weightsOf 23 = .ok (.aload_n 0, 1) := by decide +kernel
theorem dX8_weightsOf_24 : decode cX8_weightsOf 24 = .ok (.getfield 47, 3) := by decide +kernel
theorem dX8_weightsOf_27 : decode cX8_weightsOf 27 = .ok (.iload_n 3, 1) := by decide +kernel
theorem dX8_weightsOf_28 : decode cX8_weightsOf 28 = .ok (.iaload, 1) := by decide +kernel
theorem dX8_weightsOf_29 : decode cX8_weightsOf 29 = .ok (.goto 4, 3) := by decide +kernel
theorem dX8_weightsOf_32 : decode cX8_weightsOf 32 = .ok (.iconst 0, 1) := by decide +kernel
theorem dX8_weightsOf_33 : decode cX8_weightsOf 33 = .ok (.iadd, 1) := by decide +kernel
theorem dX8_weightsOf_34 : decode cX8_weightsOf 34 = .ok (.istore_n 2, 1) := by decide +kernel
theorem dX8_weightsOf_35 : decode cX8_weightsOf 35 = .ok (.iinc 3 1, 3) := by decide +kernel
theorem dX8_weightsOf_38 : decode cX8_weightsOf 38 = .ok (.goto (-34), 3) := by decide +kernel
theorem dX8_weightsOf_41 : decode cX8_weightsOf 41 = .ok (.iload_n 2, 1) := by decide +kernel
theorem dX8_weightsOf_42 : decode cX8_weightsOf 42 = .ok (.ireturn, 1) := by decide +kernel
theorem dX8_node_0 : decode cX8_node 0 = .ok (.iconst 1, 1) := by decide +kernel
theorem dX8_node_1 : decode cX8_node 1 = .ok (.istore 4, 2) := by decide +kernel
theorem dX8_node_3 : decode cX8_node 3 = .ok (.iconst 0, 1) := by decide +kernel
theorem dX8_node_4 : decode cX8_node 4 = .ok (.istore 5, 2) := by decide +kernel
theorem dX8_node_6 : decode cX8_node 6 = .ok (.iload 5, 2) := by decide +kernel
theorem dX8_node_8 : decode cX8_node 8 = .ok (.aload_n 0, 1) := by decide +kernel
theorem dX8_node_9 : decode cX8_node 9 = .ok (.getfield 119, 3) := by decide +kernel
theorem dX8_node_12 : decode cX8_node 12 = .ok (.if_icmp .ge 16, 3) := by decide +kernel
theorem dX8_node_15 : decode cX8_node 15 = .ok (.iload 4, 2) := by decide +kernel
theorem dX8_node_17 : decode cX8_node 17 = .ok (.bipush 10, 2) := by decide +kernel
theorem dX8_node_19 : decode cX8_node 19 = .ok (.imul, 1) := by decide +kernel
theorem dX8_node_20 : decode cX8_node 20 = .ok (.istore 4, 2) := by decide +kernel
theorem dX8_node_22 : decode cX8_node 22 = .ok (.iinc 5 1, 3) := by decide +kernel
theorem dX8_node_25 : decode cX8_node 25 = .ok (.goto (-19), 3) := by decide +kernel
theorem dX8_node_28 : decode cX8_node 28 = .ok (.aload_n 0, 1) := by decide +kernel
theorem dX8_node_29 : decode cX8_node 29 = .ok (.iload_n 1, 1) := by decide +kernel
theorem dX8_node_30 : decode cX8_node 30 = .ok (.invokevirtual 144, 3) := by decide +kernel
theorem dX8_node_33 : decode cX8_node 33 = .ok (.ifCond .eq 56, 3) := by decide +kernel
theorem dX8_node_36 : decode cX8_node 36 = .ok (.aload_n 0, 1) := by decide +kernel
theorem dX8_node_37 : decode cX8_node 37 = .ok (.getfield 50, 3) := by decide +kernel
theorem dX8_node_40 : decode cX8_node 40 = .ok (.iload_n 1, 1) := by decide +kernel
theorem dX8_node_41 : decode cX8_node 41 = .ok (.iaload, 1) := by decide +kernel
theorem dX8_node_42 : decode cX8_node 42 = .ok (.aload_n 0, 1) := by decide +kernel
theorem dX8_node_43 : decode cX8_node 43 = .ok (.getfield 32, 3) := by decide +kernel
theorem dX8_node_46 : decode cX8_node 46 = .ok (.iconst 1, 1) := by decide +kernel
theorem dX8_node_47 : decode cX8_node 47 = .ok (.isub, 1) := by decide +kernel
theorem dX8_node_48 : decode cX8_node 48 = .ok (.if_icmp .eq 41, 3) := by decide +kernel
theorem dX8_node_51 : decode cX8_node 51 = .ok (.iload_n 2, 1) := by decide +kernel
theorem dX8_node_52 : decode cX8_node 52 = .ok (.iconst 1, 1) := by decide +kernel
theorem dX8_node_53 : decode cX8_node 53 = .ok (.aload_n 0, 1) := by decide +kernel
theorem dX8_node_54 : decode cX8_node 54 = .ok (.getfield 35, 3) := by decide +kernel
theorem dX8_node_57 : decode cX8_node 57 = .ok (.invokestatic 122, 3) := by decide +kernel
theorem dX8_node_60 : decode cX8_node 60 = .ok (.ifCond .eq 29, 3) := by decide +kernel
theorem dX8_node_63 : decode cX8_node 63 = .ok (.aload_n 0, 1) := by decide +kernel
theorem dX8_node_64 : decode cX8_node 64 = .ok (.iload_n 1, 1) := by decide +kernel
theorem dX8_node_65 : decode cX8_node 65 = .ok (.invokevirtual 147, 3) := by decide +kernel
theorem dX8_node_68 : decode cX8_node 68 = .ok (.iload_n 2, 1) := by decide +kernel
theorem dX8_node_69 : decode cX8_node 69 = .ok (.iadd, 1) := by decide +kernel
theorem dX8_node_70 : decode cX8_node 70 = .ok (.aload_n 0, 1) := by decide +kernel
theorem dX8_node_71 : decode cX8_node 71 = .ok (.getfield 35, 3) := by decide +kernel
theorem dX8_node_74 : decode cX8_node 74 = .ok (.if_icmp .gt 15, 3) := by decide +kernel
theorem dX8_node_77 : decode cX8_node 77 = .ok (.iload_n 3, 1) := by decide +kernel
theorem dX8_node_78 : decode cX8_node 78 = .ok (.iconst 0, 1) := by decide +kernel
theorem dX8_node_79 : decode cX8_node 79 = .ok (.iload 4, 2) := by decide +kernel
theorem dX8_node_81 : decode cX8_node 81 = .ok (.iconst 1, 1) := by decide +kernel
theorem dX8_node_82 : decode cX8_node 82 = .ok (.isub, 1) := by decide +kernel
theorem dX8_node_83 : decode cX8_node 83 = .ok (.invokestatic 122, 3) := by decide +kernel
theorem dX8_node_86 : decode cX8_node 86 = .ok (.ifCond .ne 5, 3) := by decide +kernel
theorem dX8_node_89 : decode cX8_node 89 = .ok (.iconst (-1), 1) := by decide +kernel
theorem dX8_node_90 : decode cX8_node 90 = .ok (.ireturn, 1) := by decide +kernel
theorem dX8_node_91 : decode cX8_node 91 = .ok (.aload_n 0, 1) := by decide +kernel
theorem dX8_node_92 : decode cX8_node 92 = .ok (.getfield 134, 3) := by decide +kernel
theorem dX8_node_95 : decode cX8_node 95 = .ok (.ifCond .eq 6, 3) := by decide +kernel
theorem dX8_node_98 : decode cX8_node 98 = .ok (.bipush (-2), 2) := by decide +kernel
theorem dX8_node_100 : decode cX8_node 100 = .ok (.ireturn, 1) := by decide +kernel
theorem dX8_node_101 : decode cX8_node 101 = .ok (.aload_n 0, 1) := by decide +kernel
theorem dX8_node_102 : decode cX8_node 102 = .ok (.getfield 41, 3) := by decide +kernel
theorem dX8_node_105 : decode cX8_node 105 = .ok (.bipush 81, 2) := by decide +kernel
theorem dX8_node_107 : decode cX8_node 107 = .ok (.if_icmp .ne 6, 3) := by decide +kernel
theorem dX8_node_110 : decode cX8_node 110 = .ok (.bipush (-5), 2) := by decide +kernel
theorem dX8_node_112 : decode cX8_node 112 = .ok (.ireturn, 1) := by decide +kernel
theorem dX8_node_113 : decode cX8_node 113 = .ok (.aload_n 0, 1) := by decide +kernel
theorem dX8_node_114 : decode cX8_node 114 = .ok (.getfield 41, 3) := by decide +kernel
theorem dX8_node_117 : decode cX8_node 117 = .ok (.istore 5, 2) := by decide +kernel
theorem dX8_node_119 : decode cX8_node 119 = .ok (.aload_n 0, 1) := by decide +kernel
theorem dX8_node_120 : decode cX8_node 120 = .ok (.getfield 44, 3) := by decide +kernel
theorem dX8_node_123 : decode cX8_node 123 = .ok (.iload 5, 2) := by decide +kernel
theorem dX8_node_125 : decode cX8_node 125 = .ok (.iload_n 1, 1) := by decide +kernel
theorem dX8_node_126 : decode cX8_node 126 = .ok (.iastore, 1) := by decide +kernel
theorem dX8_node_127 : decode cX8_node 127 = .ok (.aload_n 0, 1) := by decide +kernel
theorem dX8_node_128 : decode cX8_node 128 = .ok (.getfield 47, 3) := by decide +kernel
theorem dX8_node_131 : decode cX8_node 131 = .ok (.iload 5, 2) := by decide +kernel
theorem dX8_node_133 : decode cX8_node 133 = .ok (.iload_n 2, 1) := by decide +kernel
theorem dX8_node_134 : decode cX8_node 134 = .ok (.iastore, 1) := by decide +kernel
theorem dX8_node_135 : decode cX8_node 135 = .ok (.aload_n 0, 1) := by decide +kernel
theorem dX8_node_136 : decode cX8_node 136 = .ok (.getfield 50, 3) := by decide +kernel
theorem dX8_node_139 : decode cX8_node 139 = .ok (.iload 5, 2) := by decide +kernel
theorem dX8_node_141 : decode cX8_node 141 = .ok (.aload_n 0, 1) := by decide +kernel
theorem dX8_node_142 : decode cX8_node 142 = .ok (.getfield 50, 3) := by decide +kernel
theorem dX8_node_145 : decode cX8_node 145 = .ok (.iload_n 1, 1) := by decide +kernel
theorem dX8_node_146 : decode cX8_node 146 = .ok (.iaload, 1) := by decide +kernel
theorem dX8_node_147 : decode cX8_node 147 = .ok (.iconst 1, 1) := by decide +kernel
theorem dX8_node_148 : decode cX8_node 148 = .ok (.iadd, 1) := by decide +kernel
theorem dX8_node_149 : decode cX8_node 149 = .ok (.iastore, 1) := by decide +kernel
theorem dX8_node_150 : decode cX8_node 150 = .ok (.iload_n 3, 1) := by decide +kernel
theorem dX8_node_151 : decode cX8_node 151 = .ok (.istore 6, 2) := by decide +kernel
theorem dX8_node_153 : decode cX8_node 153 = .ok (.aload_n 0, 1) := by decide +kernel
theorem dX8_node_154 : decode cX8_node 154 = .ok (.getfield 119, 3) := by decide +kernel
theorem dX8_node_157 : decode cX8_node 157 = .ok (.iconst 1, 1) := by decide +kernel
theorem dX8_node_158 : decode cX8_node 158 = .ok (.isub, 1) := by decide +kernel
theorem dX8_node_159 : decode cX8_node 159 = .ok (.istore 7, 2) := by decide +kernel
theorem dX8_node_161 : decode cX8_node 161 = .ok (.iload 7, 2) := by decide +kernel
theorem dX8_node_163 : decode cX8_node 163 = .ok (.ifCond .lt 33, 3) := by decide +kernel
theorem dX8_node_166 : decode cX8_node 166 = .ok (.aload_n 0, 1) := by decide +kernel
theorem dX8_node_167 : decode cX8_node 167 = .ok (.getfield 53, 3) := by decide +kernel
theorem dX8_node_170 : decode cX8_node 170 = .ok (.iconst 3, 1) := by decide +kernel
theorem dX8_node_171 : decode cX8_node 171 = .ok (.iload 5, 2) := by decide +kernel
theorem dX8_node_173 : decode cX8_node 173 = .ok (.imul, 1) := by decide +kernel
theorem dX8_node_174 : decode cX8_node 174 = .ok (.iload 7, 2) := by decide +kernel
theorem dX8_node_176 : decode cX8_node 176 = .ok (.iadd, 1) := by decide +kernel
theorem dX8_node_177 : decode cX8_node 177 = .ok (.iload 6, 2) := by decide +kernel
theorem dX8_node_179 : decode cX8_node 179 = .ok (.bipush 10, 2) := by decide +kernel
theorem dX8_node_181 : decode cX8_node 181 = .ok (.irem, 1) := by decide +kernel
theorem dX8_node_182 : decode cX8_node 182 = .ok (.iastore, 1) := by decide +kernel
theorem dX8_node_183 : decode cX8_node 183 = .ok (.iload 6, 2) := by decide +kernel
theorem dX8_node_185 : decode cX8_node 185 = .ok (.bipush 10, 2) := by decide +kernel
theorem dX8_node_187 : decode cX8_node 187 = .ok (.idiv, 1) := by decide +kernel
theorem dX8_node_188 : decode cX8_node 188 = .ok (.istore 6, 2) := by decide +kernel
theorem dX8_node_190 : decode cX8_node 190 = .ok (.iinc 7 (-1), 3) := by decide +kernel
theorem dX8_node_193 : decode cX8_node 193 = .ok (.goto (-32), 3) := by decide +kernel
theorem dX8_node_196 : decode cX8_node 196 = .ok (.aload_n 0, 1) := by decide +kernel
theorem dX8_node_197 : decode cX8_node 197 = .ok (.dup, 1) := by decide +kernel
theorem dX8_node_198 : decode cX8_node 198 = .ok (.getfield 41, 3) := by decide +kernel
theorem dX8_node_201 : decode cX8_node 201 = .ok (.iconst 1, 1) := by decide +kernel
theorem dX8_node_202 : decode cX8_node 202 = .ok (.iadd, 1) := by decide +kernel
theorem dX8_node_203 : decode cX8_node 203 = .ok (.putfield 41, 3) := by decide +kernel
theorem dX8_node_206 : decode cX8_node 206 = .ok (.aload_n 0, 1) := by decide +kernel
theorem dX8_node_207 : decode cX8_node 207 = .ok (.invokevirtual 137, 3) := by decide +kernel
theorem dX8_node_210 : decode cX8_node 210 = .ok (.iload 5, 2) := by decide +kernel
theorem dX8_node_212 : decode cX8_node 212 = .ok (.ireturn, 1) := by decide +kernel
theorem dX8_about_0 : decode cX8_about 0 = .ok (.aload_n 0, 1) := by decide +kernel
theorem dX8_about_1 : decode cX8_about 1 = .ok (.iload_n 1, 1) := by decide +kernel
theorem dX8_about_2 : decode cX8_about 2 = .ok (.invokevirtual 144, 3) := by decide +kernel
theorem dX8_about_5 : decode cX8_about 5 = .ok (.ifCond .eq 28, 3) := by decide +kernel
theorem dX8_about_8 : decode cX8_about 8 = .ok (.iload_n 2, 1) := by decide +kernel
theorem dX8_about_9 : decode cX8_about 9 = .ok (.iconst 0, 1) := by decide +kernel
theorem dX8_about_10 : decode cX8_about 10 = .ok (.bipush 7, 2) := by decide +kernel
theorem dX8_about_12 : decode cX8_about 12 = .ok (.invokestatic 122, 3) := by decide +kernel
theorem dX8_about_15 : decode cX8_about 15 = .ok (.ifCond .eq 18, 3) := by decide +kernel
theorem dX8_about_18 : decode cX8_about 18 = .ok (.iload_n 2, 1) := by decide +kernel
theorem dX8_about_19 : decode cX8_about 19 = .ok (.iconst 4, 1) := by decide +kernel
theorem dX8_about_20 : decode cX8_about 20 = .ok (.if_icmp .le 16, 3) := by decide +kernel
theorem dX8_about_23 : decode cX8_about 23 = .ok (.aload_n 0, 1) := by decide +kernel
theorem dX8_about_24 : decode cX8_about 24 = .ok (.iload_n 2, 1) := by decide +kernel
theorem dX8_about_25 : decode cX8_about 25 = .ok (.iconst 5, 1) := by decide +kernel
theorem dX8_about_26 : decode cX8_about 26 = .ok (.isub, 1) := by decide +kernel
theorem dX8_about_27 : decode cX8_about 27 = .ok (.invokevirtual 140, 3) := by decide +kernel
theorem dX8_about_30 : decode cX8_about 30 = .ok (.ifCond .ne 6, 3) := by decide +kernel
theorem dX8_about_33 : decode cX8_about 33 = .ok (.bipush (-2), 2) := by decide +kernel
theorem dX8_about_35 : decode cX8_about 35 = .ok (.ireturn, 1) := by decide +kernel
theorem dX8_about_36 : decode cX8_about 36 = .ok (.iconst 0, 1) := by decide +kernel
theorem dX8_about_37 : decode cX8_about 37 = .ok (.istore_n 3, 1) := by decide +kernel
theorem dX8_about_38 : decode cX8_about 38 = .ok (.iload_n 2, 1) := by decide +kernel
theorem dX8_about_39 : decode cX8_about 39 = .ok (.tableswitch 110 0 4 #[33, 40, 58, 65, 104], 33) := by decide +kernel
theorem dX8_about_72 : decode cX8_about 72 = .ok (.aload_n 0, 1) := by decide +kernel
theorem dX8_about_73 : decode cX8_about 73 = .ok (.getfield 44, 3) := by decide +kernel
theorem dX8_about_76 : decode cX8_about 76 = .ok (.iload_n 1, 1) := by decide +kernel
theorem dX8_about_77 : decode cX8_about 77 = .ok (.iaload, 1) := by decide +kernel
theorem dX8_about_78 : decode cX8_about 78 = .ok (.ireturn, 1) := by decide +kernel
theorem dX8_about_79 : decode cX8_about 79 = .ok (.iload_n 1, 1) := by decide +kernel
theorem dX8_about_80 : decode cX8_about 80 = .ok (.ifCond .ne 10, 3) := by decide +kernel
theorem dX8_about_83 : decode cX8_about 83 = .ok (.aload_n 0, 1) := by decide +kernel
theorem dX8_about_84 : decode cX8_about 84 = .ok (.getfield 35, 3) := by decide +kernel
theorem dX8_about_87 : decode cX8_about 87 = .ok (.goto 9, 3) := by decide +kernel
theorem dX8_about_90 : decode cX8_about 90 = .ok (.aload_n 0, 1) := by decide +kernel
theorem dX8_about_91 : decode cX8_about 91 = .ok (.getfield 47, 3) := by decide +kernel
theorem dX8_about_94 : decode cX8_about 94 = .ok (.iload_n 1, 1) := by decide +kernel
