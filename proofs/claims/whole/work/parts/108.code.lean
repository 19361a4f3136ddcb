/-! IslandOfficeModel$World.eat()V -/
abbrev zy_W_eat : MethodName := ⟨"IslandOfficeModel$World", "eat", "()V"⟩
abbrev zb_W_eat : ByteArray := prog_15_method_44_code
abbrev zm_W_eat : Room := { frames := 394, cells := 0, slots := 0, locals := 8539 }
theorem zq_W_eat : zMy zy_W_eat zb_W_eat 6 (none) 0 := ⟨zk_1936, zk_1935, zs_83, zk_15, by decide, by decide, by decide +kernel⟩
theorem zd_W_eat_0 : decode zb_W_eat 0 = .ok (.iconst 0, 1) := by decide +kernel
theorem zd_W_eat_1 : decode zb_W_eat 1 = .ok (.istore_n 1, 1) := by decide +kernel
theorem zd_W_eat_2 : decode zb_W_eat 2 = .ok (.iconst 0, 1) := by decide +kernel
theorem zd_W_eat_3 : decode zb_W_eat 3 = .ok (.istore_n 2, 1) := by decide +kernel
theorem zd_W_eat_4 : decode zb_W_eat 4 = .ok (.iload_n 2, 1) := by decide +kernel
theorem zd_W_eat_5 : decode zb_W_eat 5 = .ok (.aload_n 0, 1) := by decide +kernel
theorem zd_W_eat_6 : decode zb_W_eat 6 = .ok (.getfield 158, 3) := by decide +kernel
theorem zd_W_eat_9 : decode zb_W_eat 9 = .ok (.if_icmp .ge 43, 3) := by decide +kernel
theorem zd_W_eat_12 : decode zb_W_eat 12 = .ok (.iload_n 1, 1) := by decide +kernel
theorem zd_W_eat_13 : decode zb_W_eat 13 = .ok (.aload_n 0, 1) := by decide +kernel
theorem zd_W_eat_14 : decode zb_W_eat 14 = .ok (.iload_n 2, 1) := by decide +kernel
theorem zd_W_eat_15 : decode zb_W_eat 15 = .ok (.invokevirtual 203, 3) := by decide +kernel
theorem zd_W_eat_18 : decode zb_W_eat 18 = .ok (.ifCond .eq 11, 3) := by decide +kernel
theorem zd_W_eat_21 : decode zb_W_eat 21 = .ok (.aload_n 0, 1) := by decide +kernel
theorem zd_W_eat_22 : decode zb_W_eat 22 = .ok (.iload_n 2, 1) := by decide +kernel
theorem zd_W_eat_23 : decode zb_W_eat 23 = .ok (.invokevirtual 334, 3) := by decide +kernel
theorem zd_W_eat_26 : decode zb_W_eat 26 = .ok (.goto 4, 3) := by decide +kernel
theorem zd_W_eat_29 : decode zb_W_eat 29 = .ok (.iconst 0, 1) := by decide +kernel
theorem zd_W_eat_30 : decode zb_W_eat 30 = .ok (.iadd, 1) := by decide +kernel
theorem zd_W_eat_31 : decode zb_W_eat 31 = .ok (.istore_n 1, 1) := by decide +kernel
theorem zd_W_eat_32 : decode zb_W_eat 32 = .ok (.aload_n 0, 1) := by decide +kernel
theorem zd_W_eat_33 : decode zb_W_eat 33 = .ok (.getfield 36, 3) := by decide +kernel
theorem zd_W_eat_36 : decode zb_W_eat 36 = .ok (.iload_n 2, 1) := by decide +kernel
theorem zd_W_eat_37 : decode zb_W_eat 37 = .ok (.iconst 0, 1) := by decide +kernel
theorem zd_W_eat_38 : decode zb_W_eat 38 = .ok (.iastore, 1) := by decide +kernel
theorem zd_W_eat_39 : decode zb_W_eat 39 = .ok (.aload_n 0, 1) := by decide +kernel
theorem zd_W_eat_40 : decode zb_W_eat 40 = .ok (.getfield 149, 3) := by decide +kernel
theorem zd_W_eat_43 : decode zb_W_eat 43 = .ok (.iload_n 2, 1) := by decide +kernel
theorem zd_W_eat_44 : decode zb_W_eat 44 = .ok (.iconst 0, 1) := by decide +kernel
theorem zd_W_eat_45 : decode zb_W_eat 45 = .ok (.iastore, 1) := by decide +kernel
theorem zd_W_eat_46 : decode zb_W_eat 46 = .ok (.iinc 2 1, 3) := by decide +kernel
theorem zd_W_eat_49 : decode zb_W_eat 49 = .ok (.goto (-45), 3) := by decide +kernel
theorem zd_W_eat_52 : decode zb_W_eat 52 = .ok (.aload_n 0, 1) := by decide +kernel
theorem zd_W_eat_53 : decode zb_W_eat 53 = .ok (.getfield 129, 3) := by decide +kernel
theorem zd_W_eat_56 : decode zb_W_eat 56 = .ok (.iconst 0, 1) := by decide +kernel
theorem zd_W_eat_57 : decode zb_W_eat 57 = .ok (.aload_n 0, 1) := by decide +kernel
theorem zd_W_eat_58 : decode zb_W_eat 58 = .ok (.getfield 93, 3) := by decide +kernel
theorem zd_W_eat_61 : decode zb_W_eat 61 = .ok (.iconst 0, 1) := by decide +kernel
theorem zd_W_eat_62 : decode zb_W_eat 62 = .ok (.iaload, 1) := by decide +kernel
theorem zd_W_eat_63 : decode zb_W_eat 63 = .ok (.iload_n 1, 1) := by decide +kernel
theorem zd_W_eat_64 : decode zb_W_eat 64 = .ok (.if_icmp .ge 7, 3) := by decide +kernel
theorem zd_W_eat_67 : decode zb_W_eat 67 = .ok (.iconst 1, 1) := by decide +kernel
theorem zd_W_eat_68 : decode zb_W_eat 68 = .ok (.goto 4, 3) := by decide +kernel
theorem zd_W_eat_71 : decode zb_W_eat 71 = .ok (.iconst 0, 1) := by decide +kernel
theorem zd_W_eat_72 : decode zb_W_eat 72 = .ok (.iastore, 1) := by decide +kernel
theorem zd_W_eat_73 : decode zb_W_eat 73 = .ok (.aload_n 0, 1) := by decide +kernel
theorem zd_W_eat_74 : decode zb_W_eat 74 = .ok (.getfield 129, 3) := by decide +kernel
theorem zd_W_eat_77 : decode zb_W_eat 77 = .ok (.iconst 0, 1) := by decide +kernel
theorem zd_W_eat_78 : decode zb_W_eat 78 = .ok (.iaload, 1) := by decide +kernel
theorem zd_W_eat_79 : decode zb_W_eat 79 = .ok (.ifCond .ne 14, 3) := by decide +kernel
theorem zd_W_eat_82 : decode zb_W_eat 82 = .ok (.aload_n 0, 1) := by decide +kernel
theorem zd_W_eat_83 : decode zb_W_eat 83 = .ok (.getfield 93, 3) := by decide +kernel
theorem zd_W_eat_86 : decode zb_W_eat 86 = .ok (.iconst 0, 1) := by decide +kernel
theorem zd_W_eat_87 : decode zb_W_eat 87 = .ok (.dup2, 1) := by decide +kernel
theorem zd_W_eat_88 : decode zb_W_eat 88 = .ok (.iaload, 1) := by decide +kernel
theorem zd_W_eat_89 : decode zb_W_eat 89 = .ok (.iload_n 1, 1) := by decide +kernel
theorem zd_W_eat_90 : decode zb_W_eat 90 = .ok (.isub, 1) := by decide +kernel
theorem zd_W_eat_91 : decode zb_W_eat 91 = .ok (.iastore, 1) := by decide +kernel
theorem zd_W_eat_92 : decode zb_W_eat 92 = .ok (.return_, 1) := by decide +kernel
theorem zd_W_eat_93 : decode zb_W_eat 93 = .ok (.iconst 0, 1) := by decide +kernel
theorem zd_W_eat_94 : decode zb_W_eat 94 = .ok (.istore_n 2, 1) := by decide +kernel
theorem zd_W_eat_95 : decode zb_W_eat 95 = .ok (.iconst 0, 1) := by decide +kernel
theorem zd_W_eat_96 : decode zb_W_eat 96 = .ok (.istore_n 3, 1) := by decide +kernel
theorem zd_W_eat_97 : decode zb_W_eat 97 = .ok (.iload_n 3, 1) := by decide +kernel
theorem zd_W_eat_98 : decode zb_W_eat 98 = .ok (.aload_n 0, 1) := by decide +kernel
theorem zd_W_eat_99 : decode zb_W_eat 99 = .ok (.getfield 158, 3) := by decide +kernel
theorem zd_W_eat_102 : decode zb_W_eat 102 = .ok (.if_icmp .ge 62, 3) := by decide +kernel
theorem zd_W_eat_105 : decode zb_W_eat 105 = .ok (.aload_n 0, 1) := by decide +kernel
theorem zd_W_eat_106 : decode zb_W_eat 106 = .ok (.getfield 152, 3) := by decide +kernel
theorem zd_W_eat_109 : decode zb_W_eat 109 = .ok (.iload_n 3, 1) := by decide +kernel
theorem zd_W_eat_110 : decode zb_W_eat 110 = .ok (.aload_n 0, 1) := by decide +kernel
theorem zd_W_eat_111 : decode zb_W_eat 111 = .ok (.iload_n 3, 1) := by decide +kernel
theorem zd_W_eat_112 : decode zb_W_eat 112 = .ok (.invokevirtual 203, 3) := by decide +kernel
theorem zd_W_eat_115 : decode zb_W_eat 115 = .ok (.ifCond .eq 16, 3) := by decide +kernel
theorem zd_W_eat_118 : decode zb_W_eat 118 = .ok (.aload_n 0, 1) := by decide +kernel
theorem zd_W_eat_119 : decode zb_W_eat 119 = .ok (.iload_n 3, 1) := by decide +kernel
theorem zd_W_eat_120 : decode zb_W_eat 120 = .ok (.iconst 2, 1) := by decide +kernel
theorem zd_W_eat_121 : decode zb_W_eat 121 = .ok (.invokevirtual 255, 3) := by decide +kernel
theorem zd_W_eat_124 : decode zb_W_eat 124 = .ok (.ifCond .eq 7, 3) := by decide +kernel
theorem zd_W_eat_127 : decode zb_W_eat 127 = .ok (.iconst 1, 1) := by decide +kernel
theorem zd_W_eat_128 : decode zb_W_eat 128 = .ok (.goto 4, 3) := by decide +kernel
theorem zd_W_eat_131 : decode zb_W_eat 131 = .ok (.iconst 0, 1) := by decide +kernel
theorem zd_W_eat_132 : decode zb_W_eat 132 = .ok (.iastore, 1) := by decide +kernel
theorem zd_W_eat_133 : decode zb_W_eat 133 = .ok (.iload_n 2, 1) := by decide +kernel
theorem zd_W_eat_134 : decode zb_W_eat 134 = .ok (.aload_n 0, 1) := by decide +kernel
theorem zd_W_eat_135 : decode zb_W_eat 135 = .ok (.iload_n 3, 1) := by decide +kernel
theorem zd_W_eat_136 : decode zb_W_eat 136 = .ok (.invokevirtual 203, 3) := by decide +kernel
theorem zd_W_eat_139 : decode zb_W_eat 139 = .ok (.ifCond .eq 16, 3) := by decide +kernel
theorem zd_W_eat_142 : decode zb_W_eat 142 = .ok (.aload_n 0, 1) := by decide +kernel
theorem zd_W_eat_143 : decode zb_W_eat 143 = .ok (.getfield 152, 3) := by decide +kernel
theorem zd_W_eat_146 : decode zb_W_eat 146 = .ok (.iload_n 3, 1) := by decide +kernel
theorem zd_W_eat_147 : decode zb_W_eat 147 = .ok (.iaload, 1) := by decide +kernel
theorem zd_W_eat_148 : decode zb_W_eat 148 = .ok (.ifCond .ne 7, 3) := by decide +kernel
theorem zd_W_eat_151 : decode zb_W_eat 151 = .ok (.iconst 1, 1) := by decide +kernel
theorem zd_W_eat_152 : decode zb_W_eat 152 = .ok (.goto 4, 3) := by decide +kernel
theorem zd_W_eat_155 : decode zb_W_eat 155 = .ok (.iconst 0, 1) := by decide +kernel
theorem zd_W_eat_156 : decode zb_W_eat 156 = .ok (.iadd, 1) := by decide +kernel
theorem zd_W_eat_157 : decode zb_W_eat 157 = .ok (.istore_n 2, 1) := by decide +kernel
theorem zd_W_eat_158 : decode zb_W_eat 158 = .ok (.iinc 3 1, 3) := by decide +kernel
theorem zd_W_eat_161 : decode zb_W_eat 161 = .ok (.goto (-64), 3) := by decide +kernel
theorem zd_W_eat_164 : decode zb_W_eat 164 = .ok (.aload_n 0, 1) := by decide +kernel
theorem zd_W_eat_165 : decode zb_W_eat 165 = .ok (.getfield 93, 3) := by decide +kernel
theorem zd_W_eat_168 : decode zb_W_eat 168 = .ok (.iconst 0, 1) := by decide +kernel
theorem zd_W_eat_169 : decode zb_W_eat 169 = .ok (.iaload, 1) := by decide +kernel
theorem zd_W_eat_170 : decode zb_W_eat 170 = .ok (.istore_n 3, 1) := by decide +kernel
theorem zd_W_eat_171 : decode zb_W_eat 171 = .ok (.iconst 0, 1) := by decide +kernel
theorem zd_W_eat_172 : decode zb_W_eat 172 = .ok (.istore 4, 2) := by decide +kernel
theorem zd_W_eat_174 : decode zb_W_eat 174 = .ok (.iload 4, 2) := by decide +kernel
theorem zd_W_eat_176 : decode zb_W_eat 176 = .ok (.aload_n 0, 1) := by decide +kernel
theorem zd_W_eat_177 : decode zb_W_eat 177 = .ok (.getfield 158, 3) := by decide +kernel
theorem zd_W_eat_180 : decode zb_W_eat 180 = .ok (.if_icmp .ge 47, 3) := by decide +kernel
theorem zd_W_eat_183 : decode zb_W_eat 183 = .ok (.aload_n 0, 1) := by decide +kernel
theorem zd_W_eat_184 : decode zb_W_eat 184 = .ok (.getfield 152, 3) := by decide +kernel
theorem zd_W_eat_187 : decode zb_W_eat 187 = .ok (.iload 4, 2) := by decide +kernel
theorem zd_W_eat_189 : decode zb_W_eat 189 = .ok (.iaload, 1) := by decide +kernel
theorem zd_W_eat_190 : decode zb_W_eat 190 = .ok (.iconst 1, 1) := by decide +kernel
theorem zd_W_eat_191 : decode zb_W_eat 191 = .ok (.if_icmp .ne 30, 3) := by decide +kernel
theorem zd_W_eat_194 : decode zb_W_eat 194 = .ok (.aload_n 0, 1) := by decide +kernel
theorem zd_W_eat_195 : decode zb_W_eat 195 = .ok (.getfield 149, 3) := by decide +kernel
theorem zd_W_eat_198 : decode zb_W_eat 198 = .ok (.iload 4, 2) := by decide +kernel
theorem zd_W_eat_200 : decode zb_W_eat 200 = .ok (.iload_n 3, 1) := by decide +kernel
theorem zd_W_eat_201 : decode zb_W_eat 201 = .ok (.aload_n 0, 1) := by decide +kernel
theorem zd_W_eat_202 : decode zb_W_eat 202 = .ok (.iload 4, 2) := by decide +kernel
theorem zd_W_eat_204 : decode zb_W_eat 204 = .ok (.invokevirtual 334, 3) := by decide +kernel
theorem zd_W_eat_207 : decode zb_W_eat 207 = .ok (.invokestatic 314, 3) := by decide +kernel
theorem zd_W_eat_210 : decode zb_W_eat 210 = .ok (.iastore, 1) := by decide +kernel
theorem zd_W_eat_211 : decode zb_W_eat 211 = .ok (.iload_n 3, 1) := by decide +kernel
theorem zd_W_eat_212 : decode zb_W_eat 212 = .ok (.aload_n 0, 1) := by decide +kernel
theorem zd_W_eat_213 : decode zb_W_eat 213 = .ok (.getfield 149, 3) := by decide +kernel
theorem zd_W_eat_216 : decode zb_W_eat 216 = .ok (.iload 4, 2) := by decide +kernel
theorem zd_W_eat_218 : decode zb_W_eat 218 = .ok (.iaload, 1) := by decide +kernel
theorem zd_W_eat_219 : decode zb_W_eat 219 = .ok (.isub, 1) := by decide +kernel
theorem zd_W_eat_220 : decode zb_W_eat 220 = .ok (.istore_n 3, 1) := by decide +kernel
theorem zd_W_eat_221 : decode zb_W_eat 221 = .ok (.iinc 4 1, 3) := by decide +kernel
theorem zd_W_eat_224 : decode zb_W_eat 224 = .ok (.goto (-50), 3) := by decide +kernel
theorem zd_W_eat_227 : decode zb_W_eat 227 = .ok (.iload_n 2, 1) := by decide +kernel
theorem zd_W_eat_228 : decode zb_W_eat 228 = .ok (.ifCond .ne 7, 3) := by decide +kernel
theorem zd_W_eat_231 : decode zb_W_eat 231 = .ok (.iconst 0, 1) := by decide +kernel
theorem zd_W_eat_232 : decode zb_W_eat 232 = .ok (.goto 6, 3) := by decide +kernel
theorem zd_W_eat_235 : decode zb_W_eat 235 = .ok (.iload_n 3, 1) := by decide +kernel
theorem zd_W_eat_236 : decode zb_W_eat 236 = .ok (.iload_n 2, 1) := by decide +kernel
theorem zd_W_eat_237 : decode zb_W_eat 237 = .ok (.idiv, 1) := by decide +kernel
theorem zd_W_eat_238 : decode zb_W_eat 238 = .ok (.istore 4, 2) := by decide +kernel
theorem zd_W_eat_240 : decode zb_W_eat 240 = .ok (.iconst 0, 1) := by decide +kernel
theorem zd_W_eat_241 : decode zb_W_eat 241 = .ok (.istore 5, 2) := by decide +kernel
theorem zd_W_eat_243 : decode zb_W_eat 243 = .ok (.iload 5, 2) := by decide +kernel
theorem zd_W_eat_245 : decode zb_W_eat 245 = .ok (.aload_n 0, 1) := by decide +kernel
theorem zd_W_eat_246 : decode zb_W_eat 246 = .ok (.getfield 158, 3) := by decide +kernel
theorem zd_W_eat_249 : decode zb_W_eat 249 = .ok (.if_icmp .ge 56, 3) := by decide +kernel
theorem zd_W_eat_252 : decode zb_W_eat 252 = .ok (.aload_n 0, 1) := by decide +kernel
theorem zd_W_eat_253 : decode zb_W_eat 253 = .ok (.iload 5, 2) := by decide +kernel
theorem zd_W_eat_255 : decode zb_W_eat 255 = .ok (.invokevirtual 203, 3) := by decide +kernel
theorem zd_W_eat_258 : decode zb_W_eat 258 = .ok (.ifCond .eq 41, 3) := by decide +kernel
theorem zd_W_eat_261 : decode zb_W_eat 261 = .ok (.aload_n 0, 1) := by decide +kernel
theorem zd_W_eat_262 : decode zb_W_eat 262 = .ok (.getfield 152, 3) := by decide +kernel
theorem zd_W_eat_265 : decode zb_W_eat 265 = .ok (.iload 5, 2) := by decide +kernel
theorem zd_W_eat_267 : decode zb_W_eat 267 = .ok (.iaload, 1) := by decide +kernel
theorem zd_W_eat_268 : decode zb_W_eat 268 = .ok (.ifCond .ne 31, 3) := by decide +kernel
theorem zd_W_eat_271 : decode zb_W_eat 271 = .ok (.aload_n 0, 1) := by decide +kernel
theorem zd_W_eat_272 : decode zb_W_eat 272 = .ok (.getfield 149, 3) := by decide +kernel
theorem zd_W_eat_275 : decode zb_W_eat 275 = .ok (.iload 5, 2) := by decide +kernel
theorem zd_W_eat_277 : decode zb_W_eat 277 = .ok (.iload 4, 2) := by decide +kernel
theorem zd_W_eat_279 : decode zb_W_eat 279 = .ok (.aload_n 0, 1) := by decide +kernel
theorem zd_W_eat_280 : decode zb_W_eat 280 = .ok (.iload 5, 2) := by decide +kernel
theorem zd_W_eat_282 : decode zb_W_eat 282 = .ok (.invokevirtual 334, 3) := by decide +kernel
theorem zd_W_eat_285 : decode zb_W_eat 285 = .ok (.invokestatic 314, 3) := by decide +kernel
theorem zd_W_eat_288 : decode zb_W_eat 288 = .ok (.iastore, 1) := by decide +kernel
theorem zd_W_eat_289 : decode zb_W_eat 289 = .ok (.iload_n 3, 1) := by decide +kernel
theorem zd_W_eat_290 : decode zb_W_eat 290 = .ok (.aload_n 0, 1) := by decide +kernel
theorem zd_W_eat_291 : decode zb_W_eat 291 = .ok (.getfield 149, 3) := by decide +kernel
theorem zd_W_eat_294 : decode zb_W_eat 294 = .ok (.iload 5, 2) := by decide +kernel
theorem zd_W_eat_296 : decode zb_W_eat 296 = .ok (.iaload, 1) := by decide +kernel
theorem zd_W_eat_297 : decode zb_W_eat 297 = .ok (.isub, 1) := by decide +kernel
theorem zd_W_eat_298 : decode zb_W_eat 298 = .ok (.istore_n 3, 1) := by decide +kernel
theorem zd_W_eat_299 : decode zb_W_eat 299 = .ok (.iinc 5 1, 3) := by decide +kernel
theorem zd_W_eat_302 : decode zb_W_eat 302 = .ok (.goto (-59), 3) := by decide +kernel
theorem zd_W_eat_305 : decode zb_W_eat 305 = .ok (.iconst 0, 1) := by decide +kernel
theorem zd_W_eat_306 : decode zb_W_eat 306 = .ok (.istore 5, 2) := by decide +kernel
theorem zd_W_eat_308 : decode zb_W_eat 308 = .ok (.iload 5, 2) := by decide +kernel
theorem zd_W_eat_310 : decode zb_W_eat 310 = .ok (.aload_n 0, 1) := by decide +kernel
theorem zd_W_eat_311 : decode zb_W_eat 311 = .ok (.getfield 158, 3) := by decide +kernel
theorem zd_W_eat_314 : decode zb_W_eat 314 = .ok (.if_icmp .ge 62, 3) := by decide +kernel
theorem zd_W_eat_317 : decode zb_W_eat 317 = .ok (.aload_n 0, 1) := by decide +kernel
theorem zd_W_eat_318 : decode zb_W_eat 318 = .ok (.iload 5, 2) := by decide +kernel
theorem zd_W_eat_320 : decode zb_W_eat 320 = .ok (.invokevirtual 203, 3) := by decide +kernel
theorem zd_W_eat_323 : decode zb_W_eat 323 = .ok (.ifCond .eq 47, 3) := by decide +kernel
theorem zd_W_eat_326 : decode zb_W_eat 326 = .ok (.aload_n 0, 1) := by decide +kernel
theorem zd_W_eat_327 : decode zb_W_eat 327 = .ok (.getfield 152, 3) := by decide +kernel
theorem zd_W_eat_330 : decode zb_W_eat 330 = .ok (.iload 5, 2) := by decide +kernel
theorem zd_W_eat_332 : decode zb_W_eat 332 = .ok (.iaload, 1) := by decide +kernel
theorem zd_W_eat_333 : decode zb_W_eat 333 = .ok (.ifCond .ne 37, 3) := by decide +kernel
theorem zd_W_eat_336 : decode zb_W_eat 336 = .ok (.iload_n 3, 1) := by decide +kernel
theorem zd_W_eat_337 : decode zb_W_eat 337 = .ok (.ifCond .le 33, 3) := by decide +kernel
theorem zd_W_eat_340 : decode zb_W_eat 340 = .ok (.aload_n 0, 1) := by decide +kernel
theorem zd_W_eat_341 : decode zb_W_eat 341 = .ok (.getfield 149, 3) := by decide +kernel
theorem zd_W_eat_344 : decode zb_W_eat 344 = .ok (.iload 5, 2) := by decide +kernel
theorem zd_W_eat_346 : decode zb_W_eat 346 = .ok (.iaload, 1) := by decide +kernel
theorem zd_W_eat_347 : decode zb_W_eat 347 = .ok (.aload_n 0, 1) := by decide +kernel
theorem zd_W_eat_348 : decode zb_W_eat 348 = .ok (.iload 5, 2) := by decide +kernel
theorem zd_W_eat_350 : decode zb_W_eat 350 = .ok (.invokevirtual 334, 3) := by decide +kernel
theorem zd_W_eat_353 : decode zb_W_eat 353 = .ok (.if_icmp .ge 17, 3) := by decide +kernel
theorem zd_W_eat_356 : decode zb_W_eat 356 = .ok (.aload_n 0, 1) := by decide +kernel
theorem zd_W_eat_357 : decode zb_W_eat 357 = .ok (.getfield 149, 3) := by decide +kernel
theorem zd_W_eat_360 : decode zb_W_eat 360 = .ok (.iload 5, 2) := by decide +kernel
theorem zd_W_eat_362 : decode zb_W_eat 362 = .ok (.dup2, 1) := by decide +kernel
theorem zd_W_eat_363 : decode zb_W_eat 363 = .ok (.iaload, 1) := by decide +kernel
theorem zd_W_eat_364 : decode zb_W_eat 364 = .ok (.iconst 1, 1) := by decide +kernel
theorem zd_W_eat_365 : decode zb_W_eat 365 = .ok (.iadd, 1) := by decide +kernel
theorem zd_W_eat_366 : decode zb_W_eat 366 = .ok (.iastore, 1) := by decide +kernel
theorem zd_W_eat_367 : decode zb_W_eat 367 = .ok (.iinc 3 (-1), 3) := by decide +kernel
theorem zd_W_eat_370 : decode zb_W_eat 370 = .ok (.iinc 5 1, 3) := by decide +kernel
theorem zd_W_eat_373 : decode zb_W_eat 373 = .ok (.goto (-65), 3) := by decide +kernel
theorem zd_W_eat_376 : decode zb_W_eat 376 = .ok (.aload_n 0, 1) := by decide +kernel
theorem zd_W_eat_377 : decode zb_W_eat 377 = .ok (.getfield 93, 3) := by decide +kernel
theorem zd_W_eat_380 : decode zb_W_eat 380 = .ok (.iconst 0, 1) := by decide +kernel
theorem zd_W_eat_381 : decode zb_W_eat 381 = .ok (.iload_n 3, 1) := by decide +kernel
theorem zd_W_eat_382 : decode zb_W_eat 382 = .ok (.iastore, 1) := by decide +kernel
theorem zd_W_eat_383 : decode zb_W_eat 383 = .ok (.iconst 0, 1) := by decide +kernel
theorem zd_W_eat_384 : decode zb_W_eat 384 = .ok (.istore 5, 2) := by decide +kernel
theorem zd_W_eat_386 : decode zb_W_eat 386 = .ok (.iload 5, 2) := by decide +kernel
theorem zd_W_eat_388 : decode zb_W_eat 388 = .ok (.aload_n 0, 1) := by decide +kernel
theorem zd_W_eat_389 : decode zb_W_eat 389 = .ok (.getfield 158, 3) := by decide +kernel
theorem zd_W_eat_392 : decode zb_W_eat 392 = .ok (.if_icmp .ge 46, 3) := by decide +kernel
theorem zd_W_eat_395 : decode zb_W_eat 395 = .ok (.aload_n 0, 1) := by decide +kernel
theorem zd_W_eat_396 : decode zb_W_eat 396 = .ok (.getfield 36, 3) := by decide +kernel
theorem zd_W_eat_399 : decode zb_W_eat 399 = .ok (.iload 5, 2) := by decide +kernel
theorem zd_W_eat_401 : decode zb_W_eat 401 = .ok (.aload_n 0, 1) := by decide +kernel
theorem zd_W_eat_402 : decode zb_W_eat 402 = .ok (.iload 5, 2) := by decide +kernel
theorem zd_W_eat_404 : decode zb_W_eat 404 = .ok (.invokevirtual 203, 3) := by decide +kernel
theorem zd_W_eat_407 : decode zb_W_eat 407 = .ok (.ifCond .eq 23, 3) := by decide +kernel
theorem zd_W_eat_410 : decode zb_W_eat 410 = .ok (.aload_n 0, 1) := by decide +kernel
theorem zd_W_eat_411 : decode zb_W_eat 411 = .ok (.getfield 149, 3) := by decide +kernel
theorem zd_W_eat_414 : decode zb_W_eat 414 = .ok (.iload 5, 2) := by decide +kernel
theorem zd_W_eat_416 : decode zb_W_eat 416 = .ok (.iaload, 1) := by decide +kernel
theorem zd_W_eat_417 : decode zb_W_eat 417 = .ok (.aload_n 0, 1) := by decide +kernel
theorem zd_W_eat_418 : decode zb_W_eat 418 = .ok (.iload 5, 2) := by decide +kernel
theorem zd_W_eat_420 : decode zb_W_eat 420 = .ok (.invokevirtual 334, 3) := by decide +kernel
theorem zd_W_eat_423 : decode zb_W_eat 423 = .ok (.if_icmp .ge 7, 3) := by decide +kernel
theorem zd_W_eat_426 : decode zb_W_eat 426 = .ok (.iconst 1, 1) := by decide +kernel
theorem zd_W_eat_427 : decode zb_W_eat 427 = .ok (.goto 4, 3) := by decide +kernel
theorem zd_W_eat_430 : decode zb_W_eat 430 = .ok (.iconst 0, 1) := by decide +kernel
theorem zd_W_eat_431 : decode zb_W_eat 431 = .ok (.iastore, 1) := by decide +kernel
theorem zd_W_eat_432 : decode zb_W_eat 432 = .ok (.iinc 5 1, 3) := by decide +kernel
theorem zd_W_eat_435 : decode zb_W_eat 435 = .ok (.goto (-49), 3) := by decide +kernel
theorem zd_W_eat_438 : decode zb_W_eat 438 = .ok (.return_, 1) := by decide +kernel

def zf_W_eat_431 (r0 : Int) (q386 : Int → Sg → Option (Int × Sg)) (x5 : Int) (xt1 : Int) (xt2 : Int) (S : Sg) : Option (Int × Sg) :=
    zck (0 ≤ xt1 ∧ xt1 < 40) <| zlt (zu S 5 r0 9 xt1 xt2) fun S2 => zlt (zw (x5 + 1)) fun v3 => q386 (v3) S2
set_option maxHeartbeats 4000000 in
set_option maxRecDepth 100000 in
theorem zw_W_eat_431 {p : Program} {l : Launch} {e : Env} {s : State} {m : MethodId} {args : Array Value} {below : List Frame} {meth : Method} {c : Code} {B : zB} (C : CallFix p m c zb_W_eat 6 s args zT "IslandOfficeModel$World") (hr : meth.sig.returnType = none) (hlk : meth.locks = false) (hK : zK B s) (hSt : zSt B s) (hap : zAp B) (r0 : Int) (hr0 : 0 ≤ r0 ∧ r0 < 3) {res : Int} {S9 : Sg} (q386 : Int → Sg → Option (Int × Sg)) (hq386 : ∀ (x5 : Int) (S : Sg) (nx5 : zn x5), q386 x5 S = some (res, S9) → ∀ (H : Heap) (locs : List Loc) (ls : Array Slot), zW B S H → va_S B.2.2.2 s.heap H locs → lv_has ls 6 [(0, .ref (B.2.1 5 (r0) (0))), (5, .int (zI (x5)))] → W p l e zm_W_eat s m args below meth c H locs 0 0 (MQ below (zQv B S9) args s 0 0 B.2.2.2) (F0 m 386 ls [])) : ∀ (x5 : Int) (xt1 : Int) (xt2 : Int) (S : Sg) (nx5 : zn x5) (nxt1 : zn xt1) (nxt2 : zn xt2), zf_W_eat_431 r0 q386 x5 xt1 xt2 S = some (res, S9) → ∀ (H : Heap) (locs : List Loc) (ls : Array Slot), zW B S H → va_S B.2.2.2 s.heap H locs → lv_has ls 6 [(0, .ref (B.2.1 5 (r0) (0))), (5, .int (zI (x5)))] → W p l e zm_W_eat s m args below meth c H locs 0 0 (MQ below (zQv B S9) args s 0 0 B.2.2.2) (F0 m 431 ls [.int (zI (xt2)), .int (zI (xt1)), .ref (B.2.1 5 (r0) (9))]) := by
  intro x5 xt1 xt2 S nx5 nxt1 nxt2 hf H locs ls hW hS hl
  unfold zf_W_eat_431 at hf
  obtain ⟨h1, hf⟩ := zck_some hf
  obtain ⟨S2, eS2, hf⟩ := zlt_some hf
  refine ziast C hK hap hW hS (zvd_5 hr0 (by decide)) (fun f => ze_5_9 B f (r0)) (by decide) rfl nxt2 h1 zd_W_eat_431 (fun H locs hW hS => ?_)
  rw [eS2] at hW
  obtain ⟨v3, ev3, hf⟩ := zlt_some hf
  have nv3 : zn v3 := by rw [← ev3]; exact zn_w _
  refine lv_iinc (v := zI v3) (lv' := [(5, .int (zI (v3))), (0, .ref (B.2.1 5 (r0) (0)))]) C.1 C.2.1 zd_W_eat_432 hl (k := 1) rfl (by rw [← ev3, ← zI_add]; rfl) (by decide) rfl (fun ls hl => ?_)
  refine lv_goto (tgt := 386) C.1 C.2.1 zd_W_eat_435 (by decide) ?_
  exact hq386 (v3) S2 nv3 hf _ _ _ hW hS (lv_sub hl [1, 0] rfl)

def zf_W_eat_430 (r0 : Int) (q386 : Int → Sg → Option (Int × Sg)) (x5 : Int) (xt1 : Int) (S : Sg) : Option (Int × Sg) :=
    zf_W_eat_431 r0 q386 (x5) (xt1) (0) S
set_option maxHeartbeats 4000000 in
set_option maxRecDepth 100000 in
theorem zw_W_eat_430 {p : Program} {l : Launch} {e : Env} {s : State} {m : MethodId} {args : Array Value} {below : List Frame} {meth : Method} {c : Code} {B : zB} (C : CallFix p m c zb_W_eat 6 s args zT "IslandOfficeModel$World") (hr : meth.sig.returnType = none) (hlk : meth.locks = false) (hK : zK B s) (hSt : zSt B s) (hap : zAp B) (r0 : Int) (hr0 : 0 ≤ r0 ∧ r0 < 3) {res : Int} {S9 : Sg} (q386 : Int → Sg → Option (Int × Sg)) (hq386 : ∀ (x5 : Int) (S : Sg) (nx5 : zn x5), q386 x5 S = some (res, S9) → ∀ (H : Heap) (locs : List Loc) (ls : Array Slot), zW B S H → va_S B.2.2.2 s.heap H locs → lv_has ls 6 [(0, .ref (B.2.1 5 (r0) (0))), (5, .int (zI (x5)))] → W p l e zm_W_eat s m args below meth c H locs 0 0 (MQ below (zQv B S9) args s 0 0 B.2.2.2) (F0 m 386 ls [])) : ∀ (x5 : Int) (xt1 : Int) (S : Sg) (nx5 : zn x5) (nxt1 : zn xt1), zf_W_eat_430 r0 q386 x5 xt1 S = some (res, S9) → ∀ (H : Heap) (locs : List Loc) (ls : Array Slot), zW B S H → va_S B.2.2.2 s.heap H locs → lv_has ls 6 [(0, .ref (B.2.1 5 (r0) (0))), (5, .int (zI (x5)))] → W p l e zm_W_eat s m args below meth c H locs 0 0 (MQ below (zQv B S9) args s 0 0 B.2.2.2) (F0 m 430 ls [.int (zI (xt1)), .ref (B.2.1 5 (r0) (9))]) := by
  intro x5 xt1 S nx5 nxt1 hf H locs ls hW hS hl
  unfold zf_W_eat_430 at hf
  refine zr_iconst C zd_W_eat_430 ?_
  exact zw_W_eat_431 C hr hlk hK hSt hap r0 hr0 q386 hq386 (x5) (xt1) (0) S nx5 nxt1 (znb rfl) hf _ _ _ hW hS (lv_sub hl [0, 1] rfl)

def zf_W_eat_386 (r0 : Int) : Nat → Int → Sg → Option (Int × Sg)
  | 0, _, _ => none
  | n + 1, x5, S =>
    if (S 5 r0 0 1) ≤ x5 then (some (0, S)) else (zbd (zf_W_here (r0) x5 S) fun a2 S3 => if a2 = 0 then (zf_W_eat_430 r0 (zf_W_eat_386 r0 n) (x5) (x5) S3) else (zck (0 ≤ x5 ∧ x5 < 40) <| zbd (zf_W_needOf (r0) x5 S3) fun a6 S7 => if a6 ≤ (S3 5 r0 39 x5) then (zf_W_eat_430 r0 (zf_W_eat_386 r0 n) (x5) (x5) S7) else (zf_W_eat_431 r0 (zf_W_eat_386 r0 n) (x5) (x5) (1) S7)))
set_option maxHeartbeats 4000000 in
set_option maxRecDepth 100000 in
theorem zw_W_eat_386 {p : Program} {l : Launch} {e : Env} {s : State} {m : MethodId} {args : Array Value} {below : List Frame} {meth : Method} {c : Code} {B : zB} (C : CallFix p m c zb_W_eat 6 s args zT "IslandOfficeModel$World") (hr : meth.sig.returnType = none) (hlk : meth.locks = false) (hK : zK B s) (hSt : zSt B s) (hap : zAp B) (r0 : Int) (hr0 : 0 ≤ r0 ∧ r0 < 3) {res : Int} {S9 : Sg} : ∀ n : Nat, ∀ (x5 : Int) (S : Sg) (nx5 : zn x5), zf_W_eat_386 r0 n x5 S = some (res, S9) → ∀ (H : Heap) (locs : List Loc) (ls : Array Slot), zW B S H → va_S B.2.2.2 s.heap H locs → lv_has ls 6 [(0, .ref (B.2.1 5 (r0) (0))), (5, .int (zI (x5)))] → W p l e zm_W_eat s m args below meth c H locs 0 0 (MQ below (zQv B S9) args s 0 0 B.2.2.2) (F0 m 386 ls []) := by
  intro n
  induction n with
  | zero =>
    intro x5 S nx5 hf H locs ls hW hS hl
    cases hf
  | succ n ih =>
    intro x5 S nx5 hf H locs ls hW hS hl
    rw [zf_W_eat_386] at hf
    refine lv_iload C.1 C.2.1 zd_W_eat_386 (lv_at hl 1 rfl) ?_
    refine lv_aload_n C.1 C.2.1 zd_W_eat_388 rfl (lv_at hl 0 rfl) ?_
    refine zg_W_people (r := r0) C hK hW (zvd_5 hr0 (by decide)) zk_1277 zd_W_eat_389 ?_
    refine zr_icmp_ge (tgt := 438) C nx5 (zWn hW _ _ _ _ rfl) zd_W_eat_392 (by decide) (fun c1 => ?_) (fun c1 => ?_)
    · rw [if_pos c1] at hf
      cases hf
      exact zre_v C hr hlk hK hW hS zd_W_eat_438
    · rw [if_neg c1] at hf
      refine lv_aload_n C.1 C.2.1 zd_W_eat_395 rfl (lv_at hl 0 rfl) ?_
      refine zg_W_hungry (r := r0) C hK hW (zvd_5 hr0 (by decide)) zk_1295 zd_W_eat_396 ?_
      refine lv_iload C.1 C.2.1 zd_W_eat_399 (lv_at hl 1 rfl) ?_
      refine lv_aload_n C.1 C.2.1 zd_W_eat_401 rfl (lv_at hl 0 rfl) ?_
      refine lv_iload C.1 C.2.1 zd_W_eat_402 (lv_at hl 1 rfl) ?_
      obtain ⟨a2, S3, ea2, hf⟩ := zbd_some hf
      refine zcVi (As := [.int (zI (x5))]) (rest := [.int (zI (x5)), .ref (B.2.1 5 (r0) (9))]) C hK hSt hW hS (zc_W_here hap (r0) hr0 x5 S nx5 ea2) zq_W_here zk_1640 (zrecv hK hW (zvd_5 hr0 (by decide)) (ze_5_0 B _ (r0)) rfl) ⟨rfl, rfl, by decide, by decide⟩ ⟨Nat.zero_le _, Nat.zero_le _⟩ rfl hl.1 rfl (lv_room (Nat.le_of_ble_eq_true rfl)) zd_W_eat_404 (fun na2 H locs hW hS => ?_)
      refine zr_if_eq (tgt := 430) C na2 zd_W_eat_407 (by decide) (fun c4 => ?_) (fun c4 => ?_)
      · rw [if_pos c4] at hf
        exact zw_W_eat_430 C hr hlk hK hSt hap r0 hr0 (zf_W_eat_386 r0 n) (ih) (x5) (x5) S3 nx5 nx5 hf _ _ _ hW hS (lv_sub hl [0, 1] rfl)
      · rw [if_neg c4] at hf
        refine lv_aload_n C.1 C.2.1 zd_W_eat_410 rfl (lv_at hl 0 rfl) ?_
        refine zg_W_got (r := r0) C hK hW (zvd_5 hr0 (by decide)) zk_1379 zd_W_eat_411 ?_
        refine lv_iload C.1 C.2.1 zd_W_eat_414 (lv_at hl 1 rfl) ?_
        obtain ⟨h5, hf⟩ := zck_some hf
        refine ziald C hK hW (zvd_5 hr0 (by decide)) (fun f => ze_5_39 B f (r0)) (by decide) h5 zd_W_eat_416 ?_
        refine lv_aload_n C.1 C.2.1 zd_W_eat_417 rfl (lv_at hl 0 rfl) ?_
        refine lv_iload C.1 C.2.1 zd_W_eat_418 (lv_at hl 1 rfl) ?_
        have w8 : zn (S3 5 r0 39 x5) := (zWn hW _ _ _ _ rfl)
        obtain ⟨a6, S7, ea6, hf⟩ := zbd_some hf
        refine zcVi (As := [.int (zI (x5))]) (rest := [.int (zI (S3 5 r0 39 x5)), .int (zI (x5)), .ref (B.2.1 5 (r0) (9))]) C hK hSt hW hS (zc_W_needOf hap (r0) hr0 x5 S3 nx5 ea6) zq_W_needOf zk_1937 (zrecv hK hW (zvd_5 hr0 (by decide)) (ze_5_0 B _ (r0)) rfl) ⟨rfl, rfl, by decide, by decide⟩ ⟨Nat.zero_le _, Nat.zero_le _⟩ rfl hl.1 rfl (lv_room (Nat.le_of_ble_eq_true rfl)) zd_W_eat_420 (fun na6 H locs hW hS => ?_)
        refine zr_icmp_ge (tgt := 430) C w8 na6 zd_W_eat_423 (by decide) (fun c9 => ?_) (fun c9 => ?_)
        · rw [if_pos c9] at hf
          exact zw_W_eat_430 C hr hlk hK hSt hap r0 hr0 (zf_W_eat_386 r0 n) (ih) (x5) (x5) S7 nx5 nx5 hf _ _ _ hW hS (lv_sub hl [0, 1] rfl)
        · rw [if_neg c9] at hf
          refine zr_iconst C zd_W_eat_426 ?_
          refine lv_goto (tgt := 431) C.1 C.2.1 zd_W_eat_427 (by decide) ?_
          exact zw_W_eat_431 C hr hlk hK hSt hap r0 hr0 (zf_W_eat_386 r0 n) (ih) (x5) (x5) (1) S7 nx5 nx5 (znb rfl) hf _ _ _ hW hS (lv_sub hl [0, 1] rfl)

def zf_W_eat_370 (r0 : Int) (q308 : Int → Int → Sg → Option (Int × Sg)) (x3 : Int) (x5 : Int) (S : Sg) : Option (Int × Sg) :=
    zlt (zw (x5 + 1)) fun v1 => q308 (x3) (v1) S
set_option maxHeartbeats 4000000 in
set_option maxRecDepth 100000 in
theorem zw_W_eat_370 {p : Program} {l : Launch} {e : Env} {s : State} {m : MethodId} {args : Array Value} {below : List Frame} {meth : Method} {c : Code} {B : zB} (C : CallFix p m c zb_W_eat 6 s args zT "IslandOfficeModel$World") (hr : meth.sig.returnType = none) (hlk : meth.locks = false) (hK : zK B s) (hSt : zSt B s) (hap : zAp B) (r0 : Int) (hr0 : 0 ≤ r0 ∧ r0 < 3) {res : Int} {S9 : Sg} (q308 : Int → Int → Sg → Option (Int × Sg)) (hq308 : ∀ (x3 : Int) (x5 : Int) (S : Sg) (nx3 : zn x3) (nx5 : zn x5), q308 x3 x5 S = some (res, S9) → ∀ (H : Heap) (locs : List Loc) (ls : Array Slot), zW B S H → va_S B.2.2.2 s.heap H locs → lv_has ls 6 [(0, .ref (B.2.1 5 (r0) (0))), (3, .int (zI (x3))), (5, .int (zI (x5)))] → W p l e zm_W_eat s m args below meth c H locs 0 0 (MQ below (zQv B S9) args s 0 0 B.2.2.2) (F0 m 308 ls [])) : ∀ (x3 : Int) (x5 : Int) (S : Sg) (nx3 : zn x3) (nx5 : zn x5), zf_W_eat_370 r0 q308 x3 x5 S = some (res, S9) → ∀ (H : Heap) (locs : List Loc) (ls : Array Slot), zW B S H → va_S B.2.2.2 s.heap H locs → lv_has ls 6 [(0, .ref (B.2.1 5 (r0) (0))), (3, .int (zI (x3))), (5, .int (zI (x5)))] → W p l e zm_W_eat s m args below meth c H locs 0 0 (MQ below (zQv B S9) args s 0 0 B.2.2.2) (F0 m 370 ls []) := by
  intro x3 x5 S nx3 nx5 hf H locs ls hW hS hl
  unfold zf_W_eat_370 at hf
  obtain ⟨v1, ev1, hf⟩ := zlt_some hf
  have nv1 : zn v1 := by rw [← ev1]; exact zn_w _
  refine lv_iinc (v := zI v1) (lv' := [(5, .int (zI (v1))), (0, .ref (B.2.1 5 (r0) (0))), (3, .int (zI (x3)))]) C.1 C.2.1 zd_W_eat_370 hl (k := 2) rfl (by rw [← ev1, ← zI_add]; rfl) (by decide) rfl (fun ls hl => ?_)
  refine lv_goto (tgt := 308) C.1 C.2.1 zd_W_eat_373 (by decide) ?_
  exact hq308 (x3) (v1) S nx3 nv1 hf _ _ _ hW hS (lv_sub hl [1, 2, 0] rfl)

def zf_W_eat_308 (r0 : Int) : Nat → Int → Int → Sg → Option (Int × Sg)
  | 0, _, _, _ => none
  | n + 1, x3, x5, S =>
    if (S 5 r0 0 1) ≤ x5 then (zlt (zu S 5 r0 25 0 x3) fun S2 => zf_W_eat_386 r0 4096 (0) S2) else (zbd (zf_W_here (r0) x5 S) fun a3 S4 => if a3 = 0 then (zf_W_eat_370 r0 (zf_W_eat_308 r0 n) (x3) (x5) S4) else (zck (0 ≤ x5 ∧ x5 < 40) <| if (S4 5 r0 40 x5) = 0 then (if x3 ≤ 0 then (zf_W_eat_370 r0 (zf_W_eat_308 r0 n) (x3) (x5) S4) else (zbd (zf_W_needOf (r0) x5 S4) fun a9 S10 => if a9 ≤ (S4 5 r0 39 x5) then (zf_W_eat_370 r0 (zf_W_eat_308 r0 n) (x3) (x5) S10) else (zlt (zu S10 5 r0 39 x5 (zw ((S10 5 r0 39 x5) + 1))) fun S13 => zlt (zw (x3 + (-1))) fun v14 => zf_W_eat_370 r0 (zf_W_eat_308 r0 n) (v14) (x5) S13))) else (zf_W_eat_370 r0 (zf_W_eat_308 r0 n) (x3) (x5) S4)))
set_option maxHeartbeats 4000000 in
set_option maxRecDepth 100000 in
theorem zw_W_eat_308 {p : Program} {l : Launch} {e : Env} {s : State} {m : MethodId} {args : Array Value} {below : List Frame} {meth : Method} {c : Code} {B : zB} (C : CallFix p m c zb_W_eat 6 s args zT "IslandOfficeModel$World") (hr : meth.sig.returnType = none) (hlk : meth.locks = false) (hK : zK B s) (hSt : zSt B s) (hap : zAp B) (r0 : Int) (hr0 : 0 ≤ r0 ∧ r0 < 3) {res : Int} {S9 : Sg} : ∀ n : Nat, ∀ (x3 : Int) (x5 : Int) (S : Sg) (nx3 : zn x3) (nx5 : zn x5), zf_W_eat_308 r0 n x3 x5 S = some (res, S9) → ∀ (H : Heap) (locs : List Loc) (ls : Array Slot), zW B S H → va_S B.2.2.2 s.heap H locs → lv_has ls 6 [(0, .ref (B.2.1 5 (r0) (0))), (3, .int (zI (x3))), (5, .int (zI (x5)))] → W p l e zm_W_eat s m args below meth c H locs 0 0 (MQ below (zQv B S9) args s 0 0 B.2.2.2) (F0 m 308 ls []) := by
  intro n
  induction n with
  | zero =>
    intro x3 x5 S nx3 nx5 hf H locs ls hW hS hl
    cases hf
  | succ n ih =>
    intro x3 x5 S nx3 nx5 hf H locs ls hW hS hl
    rw [zf_W_eat_308] at hf
    refine lv_iload C.1 C.2.1 zd_W_eat_308 (lv_at hl 2 rfl) ?_
    refine lv_aload_n C.1 C.2.1 zd_W_eat_310 rfl (lv_at hl 0 rfl) ?_
    refine zg_W_people (r := r0) C hK hW (zvd_5 hr0 (by decide)) zk_1277 zd_W_eat_311 ?_
    refine zr_icmp_ge (tgt := 376) C nx5 (zWn hW _ _ _ _ rfl) zd_W_eat_314 (by decide) (fun c1 => ?_) (fun c1 => ?_)
    · rw [if_pos c1] at hf
      refine lv_aload_n C.1 C.2.1 zd_W_eat_376 rfl (lv_at hl 0 rfl) ?_
      refine zg_W_store (r := r0) C hK hW (zvd_5 hr0 (by decide)) zk_1335 zd_W_eat_377 ?_
      refine zr_iconst C zd_W_eat_380 ?_
      refine lv_iload_n C.1 C.2.1 zd_W_eat_381 rfl (lv_at hl 1 rfl) ?_
      obtain ⟨S2, eS2, hf⟩ := zlt_some hf
      refine ziast C hK hap hW hS (zvd_5 hr0 (by decide)) (fun f => ze_5_25 B f (r0)) (by decide) rfl nx3 (by decide) zd_W_eat_382 (fun H locs hW hS => ?_)
      rw [eS2] at hW
      refine zr_iconst C zd_W_eat_383 ?_
      refine lv_istore (lv' := [(5, .int (zI (0))), (0, .ref (B.2.1 5 (r0) (0))), (3, .int (zI (x3)))]) C.1 C.2.1 zd_W_eat_384 hl (by decide) rfl (fun ls hl => ?_)
      exact zw_W_eat_386 C hr hlk hK hSt hap r0 hr0 4096 (0) S2 (znb rfl) hf _ _ _ hW hS (lv_sub hl [1, 0] rfl)
    · rw [if_neg c1] at hf
      refine lv_aload_n C.1 C.2.1 zd_W_eat_317 rfl (lv_at hl 0 rfl) ?_
      refine lv_iload C.1 C.2.1 zd_W_eat_318 (lv_at hl 2 rfl) ?_
      obtain ⟨a3, S4, ea3, hf⟩ := zbd_some hf
      refine zcVi (As := [.int (zI (x5))]) (rest := []) C hK hSt hW hS (zc_W_here hap (r0) hr0 x5 S nx5 ea3) zq_W_here zk_1640 (zrecv hK hW (zvd_5 hr0 (by decide)) (ze_5_0 B _ (r0)) rfl) ⟨rfl, rfl, by decide, by decide⟩ ⟨Nat.zero_le _, Nat.zero_le _⟩ rfl hl.1 rfl (lv_room (Nat.le_of_ble_eq_true rfl)) zd_W_eat_320 (fun na3 H locs hW hS => ?_)
      refine zr_if_eq (tgt := 370) C na3 zd_W_eat_323 (by decide) (fun c5 => ?_) (fun c5 => ?_)
      · rw [if_pos c5] at hf
        exact zw_W_eat_370 C hr hlk hK hSt hap r0 hr0 (zf_W_eat_308 r0 n) (ih) (x3) (x5) S4 nx3 nx5 hf _ _ _ hW hS (lv_sub hl [0, 1, 2] rfl)
      · rw [if_neg c5] at hf
        refine lv_aload_n C.1 C.2.1 zd_W_eat_326 rfl (lv_at hl 0 rfl) ?_
        refine zg_W_first (r := r0) C hK hW (zvd_5 hr0 (by decide)) zk_1380 zd_W_eat_327 ?_
        refine lv_iload C.1 C.2.1 zd_W_eat_330 (lv_at hl 2 rfl) ?_
        obtain ⟨h6, hf⟩ := zck_some hf
        refine ziald C hK hW (zvd_5 hr0 (by decide)) (fun f => ze_5_40 B f (r0)) (by decide) h6 zd_W_eat_332 ?_
        refine zr_if_ne (tgt := 370) C (zWn hW _ _ _ _ rfl) zd_W_eat_333 (by decide) (fun c7 => ?_) (fun c7 => ?_)
        · rw [if_neg c7] at hf
          exact zw_W_eat_370 C hr hlk hK hSt hap r0 hr0 (zf_W_eat_308 r0 n) (ih) (x3) (x5) S4 nx3 nx5 hf _ _ _ hW hS (lv_sub hl [0, 1, 2] rfl)
        · rw [if_pos c7] at hf
          refine lv_iload_n C.1 C.2.1 zd_W_eat_336 rfl (lv_at hl 1 rfl) ?_
          refine zr_if_le (tgt := 370) C nx3 zd_W_eat_337 (by decide) (fun c8 => ?_) (fun c8 => ?_)
          · rw [if_pos c8] at hf
            exact zw_W_eat_370 C hr hlk hK hSt hap r0 hr0 (zf_W_eat_308 r0 n) (ih) (x3) (x5) S4 nx3 nx5 hf _ _ _ hW hS (lv_sub hl [0, 1, 2] rfl)
          · rw [if_neg c8] at hf
            refine lv_aload_n C.1 C.2.1 zd_W_eat_340 rfl (lv_at hl 0 rfl) ?_
            refine zg_W_got (r := r0) C hK hW (zvd_5 hr0 (by decide)) zk_1379 zd_W_eat_341 ?_
            refine lv_iload C.1 C.2.1 zd_W_eat_344 (lv_at hl 2 rfl) ?_
            refine ziald C hK hW (zvd_5 hr0 (by decide)) (fun f => ze_5_39 B f (r0)) (by decide) h6 zd_W_eat_346 ?_
            refine lv_aload_n C.1 C.2.1 zd_W_eat_347 rfl (lv_at hl 0 rfl) ?_
            refine lv_iload C.1 C.2.1 zd_W_eat_348 (lv_at hl 2 rfl) ?_
            have w11 : zn (S4 5 r0 39 x5) := (zWn hW _ _ _ _ rfl)
            obtain ⟨a9, S10, ea9, hf⟩ := zbd_some hf
            refine zcVi (As := [.int (zI (x5))]) (rest := [.int (zI (S4 5 r0 39 x5))]) C hK hSt hW hS (zc_W_needOf hap (r0) hr0 x5 S4 nx5 ea9) zq_W_needOf zk_1937 (zrecv hK hW (zvd_5 hr0 (by decide)) (ze_5_0 B _ (r0)) rfl) ⟨rfl, rfl, by decide, by decide⟩ ⟨Nat.zero_le _, Nat.zero_le _⟩ rfl hl.1 rfl (lv_room (Nat.le_of_ble_eq_true rfl)) zd_W_eat_350 (fun na9 H locs hW hS => ?_)
            refine zr_icmp_ge (tgt := 370) C w11 na9 zd_W_eat_353 (by decide) (fun c12 => ?_) (fun c12 => ?_)
            · rw [if_pos c12] at hf
              exact zw_W_eat_370 C hr hlk hK hSt hap r0 hr0 (zf_W_eat_308 r0 n) (ih) (x3) (x5) S10 nx3 nx5 hf _ _ _ hW hS (lv_sub hl [0, 1, 2] rfl)
            · rw [if_neg c12] at hf
              refine lv_aload_n C.1 C.2.1 zd_W_eat_356 rfl (lv_at hl 0 rfl) ?_
              refine zg_W_got (r := r0) C hK hW (zvd_5 hr0 (by decide)) zk_1379 zd_W_eat_357 ?_
              refine lv_iload C.1 C.2.1 zd_W_eat_360 (lv_at hl 2 rfl) ?_
              refine lv_dup2_11 C.1 C.2.1 zd_W_eat_362 rfl rfl ?_
              refine ziald C hK hW (zvd_5 hr0 (by decide)) (fun f => ze_5_39 B f (r0)) (by decide) h6 zd_W_eat_363 ?_
              refine zr_iconst C zd_W_eat_364 ?_
              refine zr_iadd C zd_W_eat_365 ?_
              obtain ⟨S13, eS13, hf⟩ := zlt_some hf
              refine ziast C hK hap hW hS (zvd_5 hr0 (by decide)) (fun f => ze_5_39 B f (r0)) (by decide) rfl (zn_w _) h6 zd_W_eat_366 (fun H locs hW hS => ?_)
              rw [eS13] at hW
              obtain ⟨v14, ev14, hf⟩ := zlt_some hf
              have nv14 : zn v14 := by rw [← ev14]; exact zn_w _
              refine lv_iinc (v := zI v14) (lv' := [(3, .int (zI (v14))), (0, .ref (B.2.1 5 (r0) (0))), (5, .int (zI (x5)))]) C.1 C.2.1 zd_W_eat_367 hl (k := 1) rfl (by rw [← ev14, ← zI_add]; rfl) (by decide) rfl (fun ls hl => ?_)
              exact zw_W_eat_370 C hr hlk hK hSt hap r0 hr0 (zf_W_eat_308 r0 n) (ih) (v14) (x5) S13 nv14 nx5 hf _ _ _ hW hS (lv_sub hl [1, 0, 2] rfl)

def zf_W_eat_299 (r0 : Int) (q243 : Int → Int → Int → Sg → Option (Int × Sg)) (x3 : Int) (x4 : Int) (x5 : Int) (S : Sg) : Option (Int × Sg) :=
    zlt (zw (x5 + 1)) fun v1 => q243 (x3) (x4) (v1) S
set_option maxHeartbeats 4000000 in
set_option maxRecDepth 100000 in
theorem zw_W_eat_299 {p : Program} {l : Launch} {e : Env} {s : State} {m : MethodId} {args : Array Value} {below : List Frame} {meth : Method} {c : Code} {B : zB} (C : CallFix p m c zb_W_eat 6 s args zT "IslandOfficeModel$World") (hr : meth.sig.returnType = none) (hlk : meth.locks = false) (hK : zK B s) (hSt : zSt B s) (hap : zAp B) (r0 : Int) (hr0 : 0 ≤ r0 ∧ r0 < 3) {res : Int} {S9 : Sg} (q243 : Int → Int → Int → Sg → Option (Int × Sg)) (hq243 : ∀ (x3 : Int) (x4 : Int) (x5 : Int) (S : Sg) (nx3 : zn x3) (nx4 : zn x4) (nx5 : zn x5), q243 x3 x4 x5 S = some (res, S9) → ∀ (H : Heap) (locs : List Loc) (ls : Array Slot), zW B S H → va_S B.2.2.2 s.heap H locs → lv_has ls 6 [(0, .ref (B.2.1 5 (r0) (0))), (3, .int (zI (x3))), (4, .int (zI (x4))), (5, .int (zI (x5)))] → W p l e zm_W_eat s m args below meth c H locs 0 0 (MQ below (zQv B S9) args s 0 0 B.2.2.2) (F0 m 243 ls [])) : ∀ (x3 : Int) (x4 : Int) (x5 : Int) (S : Sg) (nx3 : zn x3) (nx4 : zn x4) (nx5 : zn x5), zf_W_eat_299 r0 q243 x3 x4 x5 S = some (res, S9) → ∀ (H : Heap) (locs : List Loc) (ls : Array Slot), zW B S H → va_S B.2.2.2 s.heap H locs → lv_has ls 6 [(0, .ref (B.2.1 5 (r0) (0))), (3, .int (zI (x3))), (4, .int (zI (x4))), (5, .int (zI (x5)))] → W p l e zm_W_eat s m args below meth c H locs 0 0 (MQ below (zQv B S9) args s 0 0 B.2.2.2) (F0 m 299 ls []) := by
  intro x3 x4 x5 S nx3 nx4 nx5 hf H locs ls hW hS hl
  unfold zf_W_eat_299 at hf
  obtain ⟨v1, ev1, hf⟩ := zlt_some hf
  have nv1 : zn v1 := by rw [← ev1]; exact zn_w _
  refine lv_iinc (v := zI v1) (lv' := [(5, .int (zI (v1))), (0, .ref (B.2.1 5 (r0) (0))), (3, .int (zI (x3))), (4, .int (zI (x4)))]) C.1 C.2.1 zd_W_eat_299 hl (k := 3) rfl (by rw [← ev1, ← zI_add]; rfl) (by decide) rfl (fun ls hl => ?_)
  refine lv_goto (tgt := 243) C.1 C.2.1 zd_W_eat_302 (by decide) ?_
  exact hq243 (x3) (x4) (v1) S nx3 nx4 nv1 hf _ _ _ hW hS (lv_sub hl [1, 2, 3, 0] rfl)

def zf_W_eat_243 (r0 : Int) : Nat → Int → Int → Int → Sg → Option (Int × Sg)
  | 0, _, _, _, _ => none
  | n + 1, x3, x4, x5, S =>
    if (S 5 r0 0 1) ≤ x5 then (zf_W_eat_308 r0 4096 (x3) (0) S) else (zbd (zf_W_here (r0) x5 S) fun a2 S3 => if a2 = 0 then (zf_W_eat_299 r0 (zf_W_eat_243 r0 n) (x3) (x4) (x5) S3) else (zck (0 ≤ x5 ∧ x5 < 40) <| if (S3 5 r0 40 x5) = 0 then (zbd (zf_W_needOf (r0) x5 S3) fun a7 S8 => zlt (zu S8 5 r0 39 x5 (min x4 a7)) fun S9 => zlt (zw (x3 - (S9 5 r0 39 x5))) fun v10 => zf_W_eat_299 r0 (zf_W_eat_243 r0 n) (v10) (x4) (x5) S9) else (zf_W_eat_299 r0 (zf_W_eat_243 r0 n) (x3) (x4) (x5) S3)))
set_option maxHeartbeats 4000000 in
set_option maxRecDepth 100000 in
theorem zw_W_eat_243 {p : Program} {l : Launch} {e : Env} {s : State} {m : MethodId} {args : Array Value} {below : List Frame} {meth : Method} {c : Code} {B : zB} (C : CallFix p m c zb_W_eat 6 s args zT "IslandOfficeModel$World") (hr : meth.sig.returnType = none) (hlk : meth.locks = false) (hK : zK B s) (hSt : zSt B s) (hap : zAp B) (r0 : Int) (hr0 : 0 ≤ r0 ∧ r0 < 3) {res : Int} {S9 : Sg} : ∀ n : Nat, ∀ (x3 : Int) (x4 : Int) (x5 : Int) (S : Sg) (nx3 : zn x3) (nx4 : zn x4) (nx5 : zn x5), zf_W_eat_243 r0 n x3 x4 x5 S = some (res, S9) → ∀ (H : Heap) (locs : List Loc) (ls : Array Slot), zW B S H → va_S B.2.2.2 s.heap H locs → lv_has ls 6 [(0, .ref (B.2.1 5 (r0) (0))), (3, .int (zI (x3))), (4, .int (zI (x4))), (5, .int (zI (x5)))] → W p l e zm_W_eat s m args below meth c H locs 0 0 (MQ below (zQv B S9) args s 0 0 B.2.2.2) (F0 m 243 ls []) := by
  intro n
  induction n with
  | zero =>
    intro x3 x4 x5 S nx3 nx4 nx5 hf H locs ls hW hS hl
    cases hf
  | succ n ih =>
    intro x3 x4 x5 S nx3 nx4 nx5 hf H locs ls hW hS hl
    rw [zf_W_eat_243] at hf
    refine lv_iload C.1 C.2.1 zd_W_eat_243 (lv_at hl 3 rfl) ?_
    refine lv_aload_n C.1 C.2.1 zd_W_eat_245 rfl (lv_at hl 0 rfl) ?_
    refine zg_W_people (r := r0) C hK hW (zvd_5 hr0 (by decide)) zk_1277 zd_W_eat_246 ?_
    refine zr_icmp_ge (tgt := 305) C nx5 (zWn hW _ _ _ _ rfl) zd_W_eat_249 (by decide) (fun c1 => ?_) (fun c1 => ?_)
    · rw [if_pos c1] at hf
      refine zr_iconst C zd_W_eat_305 ?_
      refine lv_istore (lv' := [(5, .int (zI (0))), (0, .ref (B.2.1 5 (r0) (0))), (3, .int (zI (x3))), (4, .int (zI (x4)))]) C.1 C.2.1 zd_W_eat_306 hl (by decide) rfl (fun ls hl => ?_)
      exact zw_W_eat_308 C hr hlk hK hSt hap r0 hr0 4096 (x3) (0) S nx3 (znb rfl) hf _ _ _ hW hS (lv_sub hl [1, 2, 0] rfl)
    · rw [if_neg c1] at hf
      refine lv_aload_n C.1 C.2.1 zd_W_eat_252 rfl (lv_at hl 0 rfl) ?_
      refine lv_iload C.1 C.2.1 zd_W_eat_253 (lv_at hl 3 rfl) ?_
      obtain ⟨a2, S3, ea2, hf⟩ := zbd_some hf
      refine zcVi (As := [.int (zI (x5))]) (rest := []) C hK hSt hW hS (zc_W_here hap (r0) hr0 x5 S nx5 ea2) zq_W_here zk_1640 (zrecv hK hW (zvd_5 hr0 (by decide)) (ze_5_0 B _ (r0)) rfl) ⟨rfl, rfl, by decide, by decide⟩ ⟨Nat.zero_le _, Nat.zero_le _⟩ rfl hl.1 rfl (lv_room (Nat.le_of_ble_eq_true rfl)) zd_W_eat_255 (fun na2 H locs hW hS => ?_)
      refine zr_if_eq (tgt := 299) C na2 zd_W_eat_258 (by decide) (fun c4 => ?_) (fun c4 => ?_)
      · rw [if_pos c4] at hf
        exact zw_W_eat_299 C hr hlk hK hSt hap r0 hr0 (zf_W_eat_243 r0 n) (ih) (x3) (x4) (x5) S3 nx3 nx4 nx5 hf _ _ _ hW hS (lv_sub hl [0, 1, 2, 3] rfl)
      · rw [if_neg c4] at hf
        refine lv_aload_n C.1 C.2.1 zd_W_eat_261 rfl (lv_at hl 0 rfl) ?_
        refine zg_W_first (r := r0) C hK hW (zvd_5 hr0 (by decide)) zk_1380 zd_W_eat_262 ?_
        refine lv_iload C.1 C.2.1 zd_W_eat_265 (lv_at hl 3 rfl) ?_
        obtain ⟨h5, hf⟩ := zck_some hf
        refine ziald C hK hW (zvd_5 hr0 (by decide)) (fun f => ze_5_40 B f (r0)) (by decide) h5 zd_W_eat_267 ?_
        refine zr_if_ne (tgt := 299) C (zWn hW _ _ _ _ rfl) zd_W_eat_268 (by decide) (fun c6 => ?_) (fun c6 => ?_)
        · rw [if_neg c6] at hf
          exact zw_W_eat_299 C hr hlk hK hSt hap r0 hr0 (zf_W_eat_243 r0 n) (ih) (x3) (x4) (x5) S3 nx3 nx4 nx5 hf _ _ _ hW hS (lv_sub hl [0, 1, 2, 3] rfl)
        · rw [if_pos c6] at hf
          refine lv_aload_n C.1 C.2.1 zd_W_eat_271 rfl (lv_at hl 0 rfl) ?_
          refine zg_W_got (r := r0) C hK hW (zvd_5 hr0 (by decide)) zk_1379 zd_W_eat_272 ?_
          refine lv_iload C.1 C.2.1 zd_W_eat_275 (lv_at hl 3 rfl) ?_
          refine lv_iload C.1 C.2.1 zd_W_eat_277 (lv_at hl 2 rfl) ?_
          refine lv_aload_n C.1 C.2.1 zd_W_eat_279 rfl (lv_at hl 0 rfl) ?_
          refine lv_iload C.1 C.2.1 zd_W_eat_280 (lv_at hl 3 rfl) ?_
          obtain ⟨a7, S8, ea7, hf⟩ := zbd_some hf
          refine zcVi (As := [.int (zI (x5))]) (rest := [.int (zI (x4)), .int (zI (x5)), .ref (B.2.1 5 (r0) (39))]) C hK hSt hW hS (zc_W_needOf hap (r0) hr0 x5 S3 nx5 ea7) zq_W_needOf zk_1937 (zrecv hK hW (zvd_5 hr0 (by decide)) (ze_5_0 B _ (r0)) rfl) ⟨rfl, rfl, by decide, by decide⟩ ⟨Nat.zero_le _, Nat.zero_le _⟩ rfl hl.1 rfl (lv_room (Nat.le_of_ble_eq_true rfl)) zd_W_eat_282 (fun na7 H locs hW hS => ?_)
          refine zr_min C hl.1 nx4 na7 zk_1928 zk_909 zk_16 zk_910 (by decide) (Nat.le_of_ble_eq_true rfl) ⟨by decide, by decide⟩ zd_W_eat_285 ?_
          obtain ⟨S9, eS9, hf⟩ := zlt_some hf
          refine ziast C hK hap hW hS (zvd_5 hr0 (by decide)) (fun f => ze_5_39 B f (r0)) (by decide) rfl (zn_min nx4 na7) h5 zd_W_eat_288 (fun H locs hW hS => ?_)
          rw [eS9] at hW
          refine lv_iload_n C.1 C.2.1 zd_W_eat_289 rfl (lv_at hl 1 rfl) ?_
          refine lv_aload_n C.1 C.2.1 zd_W_eat_290 rfl (lv_at hl 0 rfl) ?_
          refine zg_W_got (r := r0) C hK hW (zvd_5 hr0 (by decide)) zk_1379 zd_W_eat_291 ?_
          refine lv_iload C.1 C.2.1 zd_W_eat_294 (lv_at hl 3 rfl) ?_
          refine ziald C hK hW (zvd_5 hr0 (by decide)) (fun f => ze_5_39 B f (r0)) (by decide) h5 zd_W_eat_296 ?_
          refine zr_isub C zd_W_eat_297 ?_
          obtain ⟨v10, ev10, hf⟩ := zlt_some hf
          have nv10 : zn v10 := by rw [← ev10]; exact (zn_w _)
          rw [ev10]
          refine lv_istore_n (lv' := [(3, .int (zI (v10))), (0, .ref (B.2.1 5 (r0) (0))), (4, .int (zI (x4))), (5, .int (zI (x5)))]) C.1 C.2.1 zd_W_eat_298 rfl hl (by decide) rfl (fun ls hl => ?_)
          exact zw_W_eat_299 C hr hlk hK hSt hap r0 hr0 (zf_W_eat_243 r0 n) (ih) (v10) (x4) (x5) S9 nv10 nx4 nx5 hf _ _ _ hW hS (lv_sub hl [1, 0, 2, 3] rfl)

def zf_W_eat_238 (r0 : Int) (x3 : Int) (xt0 : Int) (S : Sg) : Option (Int × Sg) :=
    zf_W_eat_243 r0 4096 (x3) (xt0) (0) S
set_option maxHeartbeats 4000000 in
set_option maxRecDepth 100000 in
theorem zw_W_eat_238 {p : Program} {l : Launch} {e : Env} {s : State} {m : MethodId} {args : Array Value} {below : List Frame} {meth : Method} {c : Code} {B : zB} (C : CallFix p m c zb_W_eat 6 s args zT "IslandOfficeModel$World") (hr : meth.sig.returnType = none) (hlk : meth.locks = false) (hK : zK B s) (hSt : zSt B s) (hap : zAp B) (r0 : Int) (hr0 : 0 ≤ r0 ∧ r0 < 3) {res : Int} {S9 : Sg} : ∀ (x3 : Int) (xt0 : Int) (S : Sg) (nx3 : zn x3) (nxt0 : zn xt0), zf_W_eat_238 r0 x3 xt0 S = some (res, S9) → ∀ (H : Heap) (locs : List Loc) (ls : Array Slot), zW B S H → va_S B.2.2.2 s.heap H locs → lv_has ls 6 [(0, .ref (B.2.1 5 (r0) (0))), (3, .int (zI (x3)))] → W p l e zm_W_eat s m args below meth c H locs 0 0 (MQ below (zQv B S9) args s 0 0 B.2.2.2) (F0 m 238 ls [.int (zI (xt0))]) := by
  intro x3 xt0 S nx3 nxt0 hf H locs ls hW hS hl
  unfold zf_W_eat_238 at hf
  refine lv_istore (lv' := [(4, .int (zI (xt0))), (0, .ref (B.2.1 5 (r0) (0))), (3, .int (zI (x3)))]) C.1 C.2.1 zd_W_eat_238 hl (by decide) rfl (fun ls hl => ?_)
  refine zr_iconst C zd_W_eat_240 ?_
  refine lv_istore (lv' := [(5, .int (zI (0))), (4, .int (zI (xt0))), (0, .ref (B.2.1 5 (r0) (0))), (3, .int (zI (x3)))]) C.1 C.2.1 zd_W_eat_241 hl (by decide) rfl (fun ls hl => ?_)
  exact zw_W_eat_243 C hr hlk hK hSt hap r0 hr0 4096 (x3) (xt0) (0) S nx3 nxt0 (znb rfl) hf _ _ _ hW hS (lv_sub hl [2, 3, 1, 0] rfl)

def zf_W_eat_221 (r0 : Int) (q174 : Int → Int → Int → Sg → Option (Int × Sg)) (x2 : Int) (x3 : Int) (x4 : Int) (S : Sg) : Option (Int × Sg) :=
    zlt (zw (x4 + 1)) fun v1 => q174 (x2) (x3) (v1) S
set_option maxHeartbeats 4000000 in
set_option maxRecDepth 100000 in
theorem zw_W_eat_221 {p : Program} {l : Launch} {e : Env} {s : State} {m : MethodId} {args : Array Value} {below : List Frame} {meth : Method} {c : Code} {B : zB} (C : CallFix p m c zb_W_eat 6 s args zT "IslandOfficeModel$World") (hr : meth.sig.returnType = none) (hlk : meth.locks = false) (hK : zK B s) (hSt : zSt B s) (hap : zAp B) (r0 : Int) (hr0 : 0 ≤ r0 ∧ r0 < 3) {res : Int} {S9 : Sg} (q174 : Int → Int → Int → Sg → Option (Int × Sg)) (hq174 : ∀ (x2 : Int) (x3 : Int) (x4 : Int) (S : Sg) (nx2 : zn x2) (nx3 : zn x3) (nx4 : zn x4), q174 x2 x3 x4 S = some (res, S9) → ∀ (H : Heap) (locs : List Loc) (ls : Array Slot), zW B S H → va_S B.2.2.2 s.heap H locs → lv_has ls 6 [(0, .ref (B.2.1 5 (r0) (0))), (2, .int (zI (x2))), (3, .int (zI (x3))), (4, .int (zI (x4)))] → W p l e zm_W_eat s m args below meth c H locs 0 0 (MQ below (zQv B S9) args s 0 0 B.2.2.2) (F0 m 174 ls [])) : ∀ (x2 : Int) (x3 : Int) (x4 : Int) (S : Sg) (nx2 : zn x2) (nx3 : zn x3) (nx4 : zn x4), zf_W_eat_221 r0 q174 x2 x3 x4 S = some (res, S9) → ∀ (H : Heap) (locs : List Loc) (ls : Array Slot), zW B S H → va_S B.2.2.2 s.heap H locs → lv_has ls 6 [(0, .ref (B.2.1 5 (r0) (0))), (2, .int (zI (x2))), (3, .int (zI (x3))), (4, .int (zI (x4)))] → W p l e zm_W_eat s m args below meth c H locs 0 0 (MQ below (zQv B S9) args s 0 0 B.2.2.2) (F0 m 221 ls []) := by
  intro x2 x3 x4 S nx2 nx3 nx4 hf H locs ls hW hS hl
  unfold zf_W_eat_221 at hf
  obtain ⟨v1, ev1, hf⟩ := zlt_some hf
  have nv1 : zn v1 := by rw [← ev1]; exact zn_w _
  refine lv_iinc (v := zI v1) (lv' := [(4, .int (zI (v1))), (0, .ref (B.2.1 5 (r0) (0))), (2, .int (zI (x2))), (3, .int (zI (x3)))]) C.1 C.2.1 zd_W_eat_221 hl (k := 3) rfl (by rw [← ev1, ← zI_add]; rfl) (by decide) rfl (fun ls hl => ?_)
  refine lv_goto (tgt := 174) C.1 C.2.1 zd_W_eat_224 (by decide) ?_
  exact hq174 (x2) (x3) (v1) S nx2 nx3 nv1 hf _ _ _ hW hS (lv_sub hl [1, 2, 3, 0] rfl)

def zf_W_eat_174 (r0 : Int) : Nat → Int → Int → Int → Sg → Option (Int × Sg)
  | 0, _, _, _, _ => none
  | n + 1, x2, x3, x4, S =>
    if (S 5 r0 0 1) ≤ x4 then (if x2 = 0 then (zf_W_eat_238 r0 (x3) (0) S) else (zck (¬ x2 = 0) <| zf_W_eat_238 r0 (x3) (zdiv x3 x2) S)) else (zck (0 ≤ x4 ∧ x4 < 40) <| if (S 5 r0 40 x4) = 1 then (zbd (zf_W_needOf (r0) x4 S) fun a6 S7 => zlt (zu S7 5 r0 39 x4 (min x3 a6)) fun S8 => zlt (zw (x3 - (S8 5 r0 39 x4))) fun v9 => zf_W_eat_221 r0 (zf_W_eat_174 r0 n) (x2) (v9) (x4) S8) else (zf_W_eat_221 r0 (zf_W_eat_174 r0 n) (x2) (x3) (x4) S))
set_option maxHeartbeats 4000000 in
set_option maxRecDepth 100000 in
theorem zw_W_eat_174 {p : Program} {l : Launch} {e : Env} {s : State} {m : MethodId} {args : Array Value} {below : List Frame} {meth : Method} {c : Code} {B : zB} (C : CallFix p m c zb_W_eat 6 s args zT "IslandOfficeModel$World") (hr : meth.sig.returnType = none) (hlk : meth.locks = false) (hK : zK B s) (hSt : zSt B s) (hap : zAp B) (r0 : Int) (hr0 : 0 ≤ r0 ∧ r0 < 3) {res : Int} {S9 : Sg} : ∀ n : Nat, ∀ (x2 : Int) (x3 : Int) (x4 : Int) (S : Sg) (nx2 : zn x2) (nx3 : zn x3) (nx4 : zn x4), zf_W_eat_174 r0 n x2 x3 x4 S = some (res, S9) → ∀ (H : Heap) (locs : List Loc) (ls : Array Slot), zW B S H → va_S B.2.2.2 s.heap H locs → lv_has ls 6 [(0, .ref (B.2.1 5 (r0) (0))), (2, .int (zI (x2))), (3, .int (zI (x3))), (4, .int (zI (x4)))] → W p l e zm_W_eat s m args below meth c H locs 0 0 (MQ below (zQv B S9) args s 0 0 B.2.2.2) (F0 m 174 ls []) := by
  intro n
  induction n with
  | zero =>
    intro x2 x3 x4 S nx2 nx3 nx4 hf H locs ls hW hS hl
    cases hf
  | succ n ih =>
    intro x2 x3 x4 S nx2 nx3 nx4 hf H locs ls hW hS hl
    rw [zf_W_eat_174] at hf
    refine lv_iload C.1 C.2.1 zd_W_eat_174 (lv_at hl 3 rfl) ?_
    refine lv_aload_n C.1 C.2.1 zd_W_eat_176 rfl (lv_at hl 0 rfl) ?_
    refine zg_W_people (r := r0) C hK hW (zvd_5 hr0 (by decide)) zk_1277 zd_W_eat_177 ?_
    refine zr_icmp_ge (tgt := 227) C nx4 (zWn hW _ _ _ _ rfl) zd_W_eat_180 (by decide) (fun c1 => ?_) (fun c1 => ?_)
    · rw [if_pos c1] at hf
      refine lv_iload_n C.1 C.2.1 zd_W_eat_227 rfl (lv_at hl 1 rfl) ?_
      refine zr_if_ne (tgt := 235) C nx2 zd_W_eat_228 (by decide) (fun c2 => ?_) (fun c2 => ?_)
      · rw [if_neg c2] at hf
        refine lv_iload_n C.1 C.2.1 zd_W_eat_235 rfl (lv_at hl 2 rfl) ?_
        refine lv_iload_n C.1 C.2.1 zd_W_eat_236 rfl (lv_at hl 1 rfl) ?_
        obtain ⟨h3, hf⟩ := zck_some hf
        refine zr_idiv C nx3 nx2 h3 zd_W_eat_237 ?_
        exact zw_W_eat_238 C hr hlk hK hSt hap r0 hr0 (x3) (zdiv x3 x2) S nx3 (zn_div _ _) hf _ _ _ hW hS (lv_sub hl [0, 2] rfl)
      · rw [if_pos c2] at hf
        refine zr_iconst C zd_W_eat_231 ?_
        refine lv_goto (tgt := 238) C.1 C.2.1 zd_W_eat_232 (by decide) ?_
        exact zw_W_eat_238 C hr hlk hK hSt hap r0 hr0 (x3) (0) S nx3 (znb rfl) hf _ _ _ hW hS (lv_sub hl [0, 2] rfl)
    · rw [if_neg c1] at hf
      refine lv_aload_n C.1 C.2.1 zd_W_eat_183 rfl (lv_at hl 0 rfl) ?_
      refine zg_W_first (r := r0) C hK hW (zvd_5 hr0 (by decide)) zk_1380 zd_W_eat_184 ?_
      refine lv_iload C.1 C.2.1 zd_W_eat_187 (lv_at hl 3 rfl) ?_
      obtain ⟨h4, hf⟩ := zck_some hf
      refine ziald C hK hW (zvd_5 hr0 (by decide)) (fun f => ze_5_40 B f (r0)) (by decide) h4 zd_W_eat_189 ?_
      refine zr_iconst C zd_W_eat_190 ?_
      refine zr_icmp_ne (tgt := 221) C (zWn hW _ _ _ _ rfl) (znb rfl) zd_W_eat_191 (by decide) (fun c5 => ?_) (fun c5 => ?_)
      · rw [if_neg c5] at hf
        exact zw_W_eat_221 C hr hlk hK hSt hap r0 hr0 (zf_W_eat_174 r0 n) (ih) (x2) (x3) (x4) S nx2 nx3 nx4 hf _ _ _ hW hS (lv_sub hl [0, 1, 2, 3] rfl)
      · rw [if_pos c5] at hf
        refine lv_aload_n C.1 C.2.1 zd_W_eat_194 rfl (lv_at hl 0 rfl) ?_
        refine zg_W_got (r := r0) C hK hW (zvd_5 hr0 (by decide)) zk_1379 zd_W_eat_195 ?_
        refine lv_iload C.1 C.2.1 zd_W_eat_198 (lv_at hl 3 rfl) ?_
        refine lv_iload_n C.1 C.2.1 zd_W_eat_200 rfl (lv_at hl 2 rfl) ?_
        refine lv_aload_n C.1 C.2.1 zd_W_eat_201 rfl (lv_at hl 0 rfl) ?_
        refine lv_iload C.1 C.2.1 zd_W_eat_202 (lv_at hl 3 rfl) ?_
        obtain ⟨a6, S7, ea6, hf⟩ := zbd_some hf
        refine zcVi (As := [.int (zI (x4))]) (rest := [.int (zI (x3)), .int (zI (x4)), .ref (B.2.1 5 (r0) (39))]) C hK hSt hW hS (zc_W_needOf hap (r0) hr0 x4 S nx4 ea6) zq_W_needOf zk_1937 (zrecv hK hW (zvd_5 hr0 (by decide)) (ze_5_0 B _ (r0)) rfl) ⟨rfl, rfl, by decide, by decide⟩ ⟨Nat.zero_le _, Nat.zero_le _⟩ rfl hl.1 rfl (lv_room (Nat.le_of_ble_eq_true rfl)) zd_W_eat_204 (fun na6 H locs hW hS => ?_)
        refine zr_min C hl.1 nx3 na6 zk_1928 zk_909 zk_16 zk_910 (by decide) (Nat.le_of_ble_eq_true rfl) ⟨by decide, by decide⟩ zd_W_eat_207 ?_
        obtain ⟨S8, eS8, hf⟩ := zlt_some hf
        refine ziast C hK hap hW hS (zvd_5 hr0 (by decide)) (fun f => ze_5_39 B f (r0)) (by decide) rfl (zn_min nx3 na6) h4 zd_W_eat_210 (fun H locs hW hS => ?_)
        rw [eS8] at hW
        refine lv_iload_n C.1 C.2.1 zd_W_eat_211 rfl (lv_at hl 2 rfl) ?_
        refine lv_aload_n C.1 C.2.1 zd_W_eat_212 rfl (lv_at hl 0 rfl) ?_
        refine zg_W_got (r := r0) C hK hW (zvd_5 hr0 (by decide)) zk_1379 zd_W_eat_213 ?_
        refine lv_iload C.1 C.2.1 zd_W_eat_216 (lv_at hl 3 rfl) ?_
        refine ziald C hK hW (zvd_5 hr0 (by decide)) (fun f => ze_5_39 B f (r0)) (by decide) h4 zd_W_eat_218 ?_
        refine zr_isub C zd_W_eat_219 ?_
        obtain ⟨v9, ev9, hf⟩ := zlt_some hf
        have nv9 : zn v9 := by rw [← ev9]; exact (zn_w _)
        rw [ev9]
        refine lv_istore_n (lv' := [(3, .int (zI (v9))), (0, .ref (B.2.1 5 (r0) (0))), (2, .int (zI (x2))), (4, .int (zI (x4)))]) C.1 C.2.1 zd_W_eat_220 rfl hl (by decide) rfl (fun ls hl => ?_)
        exact zw_W_eat_221 C hr hlk hK hSt hap r0 hr0 (zf_W_eat_174 r0 n) (ih) (x2) (v9) (x4) S8 nx2 nv9 nx4 hf _ _ _ hW hS (lv_sub hl [1, 2, 0, 3] rfl)

def zf_W_eat_156 (r0 : Int) (q97 : Int → Int → Sg → Option (Int × Sg)) (x3 : Int) (xt0 : Int) (xt1 : Int) (S : Sg) : Option (Int × Sg) :=
    zlt (zw (xt0 + xt1)) fun v1 => zlt (zw (x3 + 1)) fun v2 => q97 (v1) (v2) S
set_option maxHeartbeats 4000000 in
set_option maxRecDepth 100000 in
theorem zw_W_eat_156 {p : Program} {l : Launch} {e : Env} {s : State} {m : MethodId} {args : Array Value} {below : List Frame} {meth : Method} {c : Code} {B : zB} (C : CallFix p m c zb_W_eat 6 s args zT "IslandOfficeModel$World") (hr : meth.sig.returnType = none) (hlk : meth.locks = false) (hK : zK B s) (hSt : zSt B s) (hap : zAp B) (r0 : Int) (hr0 : 0 ≤ r0 ∧ r0 < 3) {res : Int} {S9 : Sg} (q97 : Int → Int → Sg → Option (Int × Sg)) (hq97 : ∀ (x2 : Int) (x3 : Int) (S : Sg) (nx2 : zn x2) (nx3 : zn x3), q97 x2 x3 S = some (res, S9) → ∀ (H : Heap) (locs : List Loc) (ls : Array Slot), zW B S H → va_S B.2.2.2 s.heap H locs → lv_has ls 6 [(0, .ref (B.2.1 5 (r0) (0))), (2, .int (zI (x2))), (3, .int (zI (x3)))] → W p l e zm_W_eat s m args below meth c H locs 0 0 (MQ below (zQv B S9) args s 0 0 B.2.2.2) (F0 m 97 ls [])) : ∀ (x3 : Int) (xt0 : Int) (xt1 : Int) (S : Sg) (nx3 : zn x3) (nxt0 : zn xt0) (nxt1 : zn xt1), zf_W_eat_156 r0 q97 x3 xt0 xt1 S = some (res, S9) → ∀ (H : Heap) (locs : List Loc) (ls : Array Slot), zW B S H → va_S B.2.2.2 s.heap H locs → lv_has ls 6 [(0, .ref (B.2.1 5 (r0) (0))), (3, .int (zI (x3)))] → W p l e zm_W_eat s m args below meth c H locs 0 0 (MQ below (zQv B S9) args s 0 0 B.2.2.2) (F0 m 156 ls [.int (zI (xt1)), .int (zI (xt0))]) := by
  intro x3 xt0 xt1 S nx3 nxt0 nxt1 hf H locs ls hW hS hl
  unfold zf_W_eat_156 at hf
  refine zr_iadd C zd_W_eat_156 ?_
  obtain ⟨v1, ev1, hf⟩ := zlt_some hf
  have nv1 : zn v1 := by rw [← ev1]; exact (zn_w _)
  rw [ev1]
  refine lv_istore_n (lv' := [(2, .int (zI (v1))), (0, .ref (B.2.1 5 (r0) (0))), (3, .int (zI (x3)))]) C.1 C.2.1 zd_W_eat_157 rfl hl (by decide) rfl (fun ls hl => ?_)
  obtain ⟨v2, ev2, hf⟩ := zlt_some hf
  have nv2 : zn v2 := by rw [← ev2]; exact zn_w _
  refine lv_iinc (v := zI v2) (lv' := [(3, .int (zI (v2))), (2, .int (zI (v1))), (0, .ref (B.2.1 5 (r0) (0)))]) C.1 C.2.1 zd_W_eat_158 hl (k := 2) rfl (by rw [← ev2, ← zI_add]; rfl) (by decide) rfl (fun ls hl => ?_)
  refine lv_goto (tgt := 97) C.1 C.2.1 zd_W_eat_161 (by decide) ?_
  exact hq97 (v1) (v2) S nv1 nv2 hf _ _ _ hW hS (lv_sub hl [2, 1, 0] rfl)

def zf_W_eat_155 (r0 : Int) (q97 : Int → Int → Sg → Option (Int × Sg)) (x3 : Int) (xt0 : Int) (S : Sg) : Option (Int × Sg) :=
    zf_W_eat_156 r0 q97 (x3) (xt0) (0) S
set_option maxHeartbeats 4000000 in
set_option maxRecDepth 100000 in
theorem zw_W_eat_155 {p : Program} {l : Launch} {e : Env} {s : State} {m : MethodId} {args : Array Value} {below : List Frame} {meth : Method} {c : Code} {B : zB} (C : CallFix p m c zb_W_eat 6 s args zT "IslandOfficeModel$World") (hr : meth.sig.returnType = none) (hlk : meth.locks = false) (hK : zK B s) (hSt : zSt B s) (hap : zAp B) (r0 : Int) (hr0 : 0 ≤ r0 ∧ r0 < 3) {res : Int} {S9 : Sg} (q97 : Int → Int → Sg → Option (Int × Sg)) (hq97 : ∀ (x2 : Int) (x3 : Int) (S : Sg) (nx2 : zn x2) (nx3 : zn x3), q97 x2 x3 S = some (res, S9) → ∀ (H : Heap) (locs : List Loc) (ls : Array Slot), zW B S H → va_S B.2.2.2 s.heap H locs → lv_has ls 6 [(0, .ref (B.2.1 5 (r0) (0))), (2, .int (zI (x2))), (3, .int (zI (x3)))] → W p l e zm_W_eat s m args below meth c H locs 0 0 (MQ below (zQv B S9) args s 0 0 B.2.2.2) (F0 m 97 ls [])) : ∀ (x3 : Int) (xt0 : Int) (S : Sg) (nx3 : zn x3) (nxt0 : zn xt0), zf_W_eat_155 r0 q97 x3 xt0 S = some (res, S9) → ∀ (H : Heap) (locs : List Loc) (ls : Array Slot), zW B S H → va_S B.2.2.2 s.heap H locs → lv_has ls 6 [(0, .ref (B.2.1 5 (r0) (0))), (3, .int (zI (x3)))] → W p l e zm_W_eat s m args below meth c H locs 0 0 (MQ below (zQv B S9) args s 0 0 B.2.2.2) (F0 m 155 ls [.int (zI (xt0))]) := by
  intro x3 xt0 S nx3 nxt0 hf H locs ls hW hS hl
  unfold zf_W_eat_155 at hf
  refine zr_iconst C zd_W_eat_155 ?_
  exact zw_W_eat_156 C hr hlk hK hSt hap r0 hr0 q97 hq97 (x3) (xt0) (0) S nx3 nxt0 (znb rfl) hf _ _ _ hW hS (lv_sub hl [0, 1] rfl)

def zf_W_eat_132 (r0 : Int) (q97 : Int → Int → Sg → Option (Int × Sg)) (x2 : Int) (x3 : Int) (xt1 : Int) (xt2 : Int) (S : Sg) : Option (Int × Sg) :=
    zck (0 ≤ xt1 ∧ xt1 < 40) <| zlt (zu S 5 r0 40 xt1 xt2) fun S2 => zbd (zf_W_here (r0) x3 S2) fun a3 S4 => if a3 = 0 then (zf_W_eat_155 r0 q97 (x3) (x2) S4) else (zck (0 ≤ x3 ∧ x3 < 40) <| if (S4 5 r0 40 x3) = 0 then (zf_W_eat_156 r0 q97 (x3) (x2) (1) S4) else (zf_W_eat_155 r0 q97 (x3) (x2) S4))
set_option maxHeartbeats 4000000 in
set_option maxRecDepth 100000 in
theorem zw_W_eat_132 {p : Program} {l : Launch} {e : Env} {s : State} {m : MethodId} {args : Array Value} {below : List Frame} {meth : Method} {c : Code} {B : zB} (C : CallFix p m c zb_W_eat 6 s args zT "IslandOfficeModel$World") (hr : meth.sig.returnType = none) (hlk : meth.locks = false) (hK : zK B s) (hSt : zSt B s) (hap : zAp B) (r0 : Int) (hr0 : 0 ≤ r0 ∧ r0 < 3) {res : Int} {S9 : Sg} (q97 : Int → Int → Sg → Option (Int × Sg)) (hq97 : ∀ (x2 : Int) (x3 : Int) (S : Sg) (nx2 : zn x2) (nx3 : zn x3), q97 x2 x3 S = some (res, S9) → ∀ (H : Heap) (locs : List Loc) (ls : Array Slot), zW B S H → va_S B.2.2.2 s.heap H locs → lv_has ls 6 [(0, .ref (B.2.1 5 (r0) (0))), (2, .int (zI (x2))), (3, .int (zI (x3)))] → W p l e zm_W_eat s m args below meth c H locs 0 0 (MQ below (zQv B S9) args s 0 0 B.2.2.2) (F0 m 97 ls [])) : ∀ (x2 : Int) (x3 : Int) (xt1 : Int) (xt2 : Int) (S : Sg) (nx2 : zn x2) (nx3 : zn x3) (nxt1 : zn xt1) (nxt2 : zn xt2), zf_W_eat_132 r0 q97 x2 x3 xt1 xt2 S = some (res, S9) → ∀ (H : Heap) (locs : List Loc) (ls : Array Slot), zW B S H → va_S B.2.2.2 s.heap H locs → lv_has ls 6 [(0, .ref (B.2.1 5 (r0) (0))), (2, .int (zI (x2))), (3, .int (zI (x3)))] → W p l e zm_W_eat s m args below meth c H locs 0 0 (MQ below (zQv B S9) args s 0 0 B.2.2.2) (F0 m 132 ls [.int (zI (xt2)), .int (zI (xt1)), .ref (B.2.1 5 (r0) (40))]) := by
  intro x2 x3 xt1 xt2 S nx2 nx3 nxt1 nxt2 hf H locs ls hW hS hl
  unfold zf_W_eat_132 at hf
  obtain ⟨h1, hf⟩ := zck_some hf
  obtain ⟨S2, eS2, hf⟩ := zlt_some hf
  refine ziast C hK hap hW hS (zvd_5 hr0 (by decide)) (fun f => ze_5_40 B f (r0)) (by decide) rfl nxt2 h1 zd_W_eat_132 (fun H locs hW hS => ?_)
  rw [eS2] at hW
  refine lv_iload_n C.1 C.2.1 zd_W_eat_133 rfl (lv_at hl 1 rfl) ?_
  refine lv_aload_n C.1 C.2.1 zd_W_eat_134 rfl (lv_at hl 0 rfl) ?_
  refine lv_iload_n C.1 C.2.1 zd_W_eat_135 rfl (lv_at hl 2 rfl) ?_
  obtain ⟨a3, S4, ea3, hf⟩ := zbd_some hf
  refine zcVi (As := [.int (zI (x3))]) (rest := [.int (zI (x2))]) C hK hSt hW hS (zc_W_here hap (r0) hr0 x3 S2 nx3 ea3) zq_W_here zk_1640 (zrecv hK hW (zvd_5 hr0 (by decide)) (ze_5_0 B _ (r0)) rfl) ⟨rfl, rfl, by decide, by decide⟩ ⟨Nat.zero_le _, Nat.zero_le _⟩ rfl hl.1 rfl (lv_room (Nat.le_of_ble_eq_true rfl)) zd_W_eat_136 (fun na3 H locs hW hS => ?_)
  refine zr_if_eq (tgt := 155) C na3 zd_W_eat_139 (by decide) (fun c5 => ?_) (fun c5 => ?_)
  · rw [if_pos c5] at hf
    exact zw_W_eat_155 C hr hlk hK hSt hap r0 hr0 q97 hq97 (x3) (x2) S4 nx3 nx2 hf _ _ _ hW hS (lv_sub hl [0, 2] rfl)
  · rw [if_neg c5] at hf
    refine lv_aload_n C.1 C.2.1 zd_W_eat_142 rfl (lv_at hl 0 rfl) ?_
    refine zg_W_first (r := r0) C hK hW (zvd_5 hr0 (by decide)) zk_1380 zd_W_eat_143 ?_
    refine lv_iload_n C.1 C.2.1 zd_W_eat_146 rfl (lv_at hl 2 rfl) ?_
    obtain ⟨h6, hf⟩ := zck_some hf
    refine ziald C hK hW (zvd_5 hr0 (by decide)) (fun f => ze_5_40 B f (r0)) (by decide) h6 zd_W_eat_147 ?_
    refine zr_if_ne (tgt := 155) C (zWn hW _ _ _ _ rfl) zd_W_eat_148 (by decide) (fun c7 => ?_) (fun c7 => ?_)
    · rw [if_neg c7] at hf
      exact zw_W_eat_155 C hr hlk hK hSt hap r0 hr0 q97 hq97 (x3) (x2) S4 nx3 nx2 hf _ _ _ hW hS (lv_sub hl [0, 2] rfl)
    · rw [if_pos c7] at hf
      refine zr_iconst C zd_W_eat_151 ?_
      refine lv_goto (tgt := 156) C.1 C.2.1 zd_W_eat_152 (by decide) ?_
      exact zw_W_eat_156 C hr hlk hK hSt hap r0 hr0 q97 hq97 (x3) (x2) (1) S4 nx3 nx2 (znb rfl) hf _ _ _ hW hS (lv_sub hl [0, 2] rfl)

def zf_W_eat_131 (r0 : Int) (q97 : Int → Int → Sg → Option (Int × Sg)) (x2 : Int) (x3 : Int) (xt1 : Int) (S : Sg) : Option (Int × Sg) :=
    zf_W_eat_132 r0 q97 (x2) (x3) (xt1) (0) S
set_option maxHeartbeats 4000000 in
set_option maxRecDepth 100000 in
theorem zw_W_eat_131 {p : Program} {l : Launch} {e : Env} {s : State} {m : MethodId} {args : Array Value} {below : List Frame} {meth : Method} {c : Code} {B : zB} (C : CallFix p m c zb_W_eat 6 s args zT "IslandOfficeModel$World") (hr : meth.sig.returnType = none) (hlk : meth.locks = false) (hK : zK B s) (hSt : zSt B s) (hap : zAp B) (r0 : Int) (hr0 : 0 ≤ r0 ∧ r0 < 3) {res : Int} {S9 : Sg} (q97 : Int → Int → Sg → Option (Int × Sg)) (hq97 : ∀ (x2 : Int) (x3 : Int) (S : Sg) (nx2 : zn x2) (nx3 : zn x3), q97 x2 x3 S = some (res, S9) → ∀ (H : Heap) (locs : List Loc) (ls : Array Slot), zW B S H → va_S B.2.2.2 s.heap H locs → lv_has ls 6 [(0, .ref (B.2.1 5 (r0) (0))), (2, .int (zI (x2))), (3, .int (zI (x3)))] → W p l e zm_W_eat s m args below meth c H locs 0 0 (MQ below (zQv B S9) args s 0 0 B.2.2.2) (F0 m 97 ls [])) : ∀ (x2 : Int) (x3 : Int) (xt1 : Int) (S : Sg) (nx2 : zn x2) (nx3 : zn x3) (nxt1 : zn xt1), zf_W_eat_131 r0 q97 x2 x3 xt1 S = some (res, S9) → ∀ (H : Heap) (locs : List Loc) (ls : Array Slot), zW B S H → va_S B.2.2.2 s.heap H locs → lv_has ls 6 [(0, .ref (B.2.1 5 (r0) (0))), (2, .int (zI (x2))), (3, .int (zI (x3)))] → W p l e zm_W_eat s m args below meth c H locs 0 0 (MQ below (zQv B S9) args s 0 0 B.2.2.2) (F0 m 131 ls [.int (zI (xt1)), .ref (B.2.1 5 (r0) (40))]) := by
  intro x2 x3 xt1 S nx2 nx3 nxt1 hf H locs ls hW hS hl
  unfold zf_W_eat_131 at hf
  refine zr_iconst C zd_W_eat_131 ?_
  exact zw_W_eat_132 C hr hlk hK hSt hap r0 hr0 q97 hq97 (x2) (x3) (xt1) (0) S nx2 nx3 nxt1 (znb rfl) hf _ _ _ hW hS (lv_sub hl [0, 1, 2] rfl)

def zf_W_eat_97 (r0 : Int) : Nat → Int → Int → Sg → Option (Int × Sg)
  | 0, _, _, _ => none
  | n + 1, x2, x3, S =>
    if (S 5 r0 0 1) ≤ x3 then (zlt (S 5 r0 25 0) fun v2 => zf_W_eat_174 r0 4096 (x2) (v2) (0) S) else (zbd (zf_W_here (r0) x3 S) fun a3 S4 => if a3 = 0 then (zf_W_eat_131 r0 (zf_W_eat_97 r0 n) (x2) (x3) (x3) S4) else (zbd (zf_W_may (r0) x3 2 S4) fun a6 S7 => if a6 = 0 then (zf_W_eat_131 r0 (zf_W_eat_97 r0 n) (x2) (x3) (x3) S7) else (zf_W_eat_132 r0 (zf_W_eat_97 r0 n) (x2) (x3) (x3) (1) S7)))
set_option maxHeartbeats 4000000 in
set_option maxRecDepth 100000 in
theorem zw_W_eat_97 {p : Program} {l : Launch} {e : Env} {s : State} {m : MethodId} {args : Array Value} {below : List Frame} {meth : Method} {c : Code} {B : zB} (C : CallFix p m c zb_W_eat 6 s args zT "IslandOfficeModel$World") (hr : meth.sig.returnType = none) (hlk : meth.locks = false) (hK : zK B s) (hSt : zSt B s) (hap : zAp B) (r0 : Int) (hr0 : 0 ≤ r0 ∧ r0 < 3) {res : Int} {S9 : Sg} : ∀ n : Nat, ∀ (x2 : Int) (x3 : Int) (S : Sg) (nx2 : zn x2) (nx3 : zn x3), zf_W_eat_97 r0 n x2 x3 S = some (res, S9) → ∀ (H : Heap) (locs : List Loc) (ls : Array Slot), zW B S H → va_S B.2.2.2 s.heap H locs → lv_has ls 6 [(0, .ref (B.2.1 5 (r0) (0))), (2, .int (zI (x2))), (3, .int (zI (x3)))] → W p l e zm_W_eat s m args below meth c H locs 0 0 (MQ below (zQv B S9) args s 0 0 B.2.2.2) (F0 m 97 ls []) := by
  intro n
  induction n with
  | zero =>
    intro x2 x3 S nx2 nx3 hf H locs ls hW hS hl
    cases hf
  | succ n ih =>
    intro x2 x3 S nx2 nx3 hf H locs ls hW hS hl
    rw [zf_W_eat_97] at hf
    refine lv_iload_n C.1 C.2.1 zd_W_eat_97 rfl (lv_at hl 2 rfl) ?_
    refine lv_aload_n C.1 C.2.1 zd_W_eat_98 rfl (lv_at hl 0 rfl) ?_
    refine zg_W_people (r := r0) C hK hW (zvd_5 hr0 (by decide)) zk_1277 zd_W_eat_99 ?_
    refine zr_icmp_ge (tgt := 164) C nx3 (zWn hW _ _ _ _ rfl) zd_W_eat_102 (by decide) (fun c1 => ?_) (fun c1 => ?_)
    · rw [if_pos c1] at hf
      refine lv_aload_n C.1 C.2.1 zd_W_eat_164 rfl (lv_at hl 0 rfl) ?_
      refine zg_W_store (r := r0) C hK hW (zvd_5 hr0 (by decide)) zk_1335 zd_W_eat_165 ?_
      refine zr_iconst C zd_W_eat_168 ?_
      refine ziald C hK hW (zvd_5 hr0 (by decide)) (fun f => ze_5_25 B f (r0)) (by decide) (by decide) zd_W_eat_169 ?_
      obtain ⟨v2, ev2, hf⟩ := zlt_some hf
      have nv2 : zn v2 := by rw [← ev2]; exact (zWn hW _ _ _ _ rfl)
      rw [ev2]
      refine lv_istore_n (lv' := [(3, .int (zI (v2))), (0, .ref (B.2.1 5 (r0) (0))), (2, .int (zI (x2)))]) C.1 C.2.1 zd_W_eat_170 rfl hl (by decide) rfl (fun ls hl => ?_)
      refine zr_iconst C zd_W_eat_171 ?_
      refine lv_istore (lv' := [(4, .int (zI (0))), (3, .int (zI (v2))), (0, .ref (B.2.1 5 (r0) (0))), (2, .int (zI (x2)))]) C.1 C.2.1 zd_W_eat_172 hl (by decide) rfl (fun ls hl => ?_)
      exact zw_W_eat_174 C hr hlk hK hSt hap r0 hr0 4096 (x2) (v2) (0) S nx2 nv2 (znb rfl) hf _ _ _ hW hS (lv_sub hl [2, 3, 1, 0] rfl)
    · rw [if_neg c1] at hf
      refine lv_aload_n C.1 C.2.1 zd_W_eat_105 rfl (lv_at hl 0 rfl) ?_
      refine zg_W_first (r := r0) C hK hW (zvd_5 hr0 (by decide)) zk_1380 zd_W_eat_106 ?_
      refine lv_iload_n C.1 C.2.1 zd_W_eat_109 rfl (lv_at hl 2 rfl) ?_
      refine lv_aload_n C.1 C.2.1 zd_W_eat_110 rfl (lv_at hl 0 rfl) ?_
      refine lv_iload_n C.1 C.2.1 zd_W_eat_111 rfl (lv_at hl 2 rfl) ?_
      obtain ⟨a3, S4, ea3, hf⟩ := zbd_some hf
      refine zcVi (As := [.int (zI (x3))]) (rest := [.int (zI (x3)), .ref (B.2.1 5 (r0) (40))]) C hK hSt hW hS (zc_W_here hap (r0) hr0 x3 S nx3 ea3) zq_W_here zk_1640 (zrecv hK hW (zvd_5 hr0 (by decide)) (ze_5_0 B _ (r0)) rfl) ⟨rfl, rfl, by decide, by decide⟩ ⟨Nat.zero_le _, Nat.zero_le _⟩ rfl hl.1 rfl (lv_room (Nat.le_of_ble_eq_true rfl)) zd_W_eat_112 (fun na3 H locs hW hS => ?_)
      refine zr_if_eq (tgt := 131) C na3 zd_W_eat_115 (by decide) (fun c5 => ?_) (fun c5 => ?_)
      · rw [if_pos c5] at hf
        exact zw_W_eat_131 C hr hlk hK hSt hap r0 hr0 (zf_W_eat_97 r0 n) (ih) (x2) (x3) (x3) S4 nx2 nx3 nx3 hf _ _ _ hW hS (lv_sub hl [0, 1, 2] rfl)
      · rw [if_neg c5] at hf
        refine lv_aload_n C.1 C.2.1 zd_W_eat_118 rfl (lv_at hl 0 rfl) ?_
        refine lv_iload_n C.1 C.2.1 zd_W_eat_119 rfl (lv_at hl 2 rfl) ?_
        refine zr_iconst C zd_W_eat_120 ?_
        obtain ⟨a6, S7, ea6, hf⟩ := zbd_some hf
        refine zcVi (As := [.int (zI (x3)), .int (zI (2))]) (rest := [.int (zI (x3)), .ref (B.2.1 5 (r0) (40))]) C hK hSt hW hS (zc_W_may hap (r0) hr0 x3 2 S4 nx3 (znb rfl) ea6) zq_W_may zk_1700 (zrecv hK hW (zvd_5 hr0 (by decide)) (ze_5_0 B _ (r0)) rfl) ⟨rfl, rfl, by decide, by decide⟩ ⟨Nat.zero_le _, Nat.zero_le _⟩ rfl hl.1 rfl (lv_room (Nat.le_of_ble_eq_true rfl)) zd_W_eat_121 (fun na6 H locs hW hS => ?_)
        refine zr_if_eq (tgt := 131) C na6 zd_W_eat_124 (by decide) (fun c8 => ?_) (fun c8 => ?_)
        · rw [if_pos c8] at hf
          exact zw_W_eat_131 C hr hlk hK hSt hap r0 hr0 (zf_W_eat_97 r0 n) (ih) (x2) (x3) (x3) S7 nx2 nx3 nx3 hf _ _ _ hW hS (lv_sub hl [0, 1, 2] rfl)
        · rw [if_neg c8] at hf
          refine zr_iconst C zd_W_eat_127 ?_
          refine lv_goto (tgt := 132) C.1 C.2.1 zd_W_eat_128 (by decide) ?_
          exact zw_W_eat_132 C hr hlk hK hSt hap r0 hr0 (zf_W_eat_97 r0 n) (ih) (x2) (x3) (x3) (1) S7 nx2 nx3 nx3 (znb rfl) hf _ _ _ hW hS (lv_sub hl [0, 1, 2] rfl)

def zf_W_eat_72 (r0 : Int) (x1 : Int) (xt1 : Int) (xt2 : Int) (S : Sg) : Option (Int × Sg) :=
    zck (0 ≤ xt1 ∧ xt1 < 4) <| zlt (zu S 5 r0 34 xt1 xt2) fun S2 => if (S2 5 r0 34 0) = 0 then (zlt (zu S2 5 r0 25 0 (zw ((S2 5 r0 25 0) - x1))) fun S4 => some (0, S4)) else (zf_W_eat_97 r0 4096 (0) (0) S2)
set_option maxHeartbeats 4000000 in
set_option maxRecDepth 100000 in
theorem zw_W_eat_72 {p : Program} {l : Launch} {e : Env} {s : State} {m : MethodId} {args : Array Value} {below : List Frame} {meth : Method} {c : Code} {B : zB} (C : CallFix p m c zb_W_eat 6 s args zT "IslandOfficeModel$World") (hr : meth.sig.returnType = none) (hlk : meth.locks = false) (hK : zK B s) (hSt : zSt B s) (hap : zAp B) (r0 : Int) (hr0 : 0 ≤ r0 ∧ r0 < 3) {res : Int} {S9 : Sg} : ∀ (x1 : Int) (xt1 : Int) (xt2 : Int) (S : Sg) (nx1 : zn x1) (nxt1 : zn xt1) (nxt2 : zn xt2), zf_W_eat_72 r0 x1 xt1 xt2 S = some (res, S9) → ∀ (H : Heap) (locs : List Loc) (ls : Array Slot), zW B S H → va_S B.2.2.2 s.heap H locs → lv_has ls 6 [(0, .ref (B.2.1 5 (r0) (0))), (1, .int (zI (x1)))] → W p l e zm_W_eat s m args below meth c H locs 0 0 (MQ below (zQv B S9) args s 0 0 B.2.2.2) (F0 m 72 ls [.int (zI (xt2)), .int (zI (xt1)), .ref (B.2.1 5 (r0) (34))]) := by
  intro x1 xt1 xt2 S nx1 nxt1 nxt2 hf H locs ls hW hS hl
  unfold zf_W_eat_72 at hf
  obtain ⟨h1, hf⟩ := zck_some hf
  obtain ⟨S2, eS2, hf⟩ := zlt_some hf
  refine ziast C hK hap hW hS (zvd_5 hr0 (by decide)) (fun f => ze_5_34 B f (r0)) (by decide) rfl nxt2 h1 zd_W_eat_72 (fun H locs hW hS => ?_)
  rw [eS2] at hW
  refine lv_aload_n C.1 C.2.1 zd_W_eat_73 rfl (lv_at hl 0 rfl) ?_
  refine zg_W_lacking (r := r0) C hK hW (zvd_5 hr0 (by decide)) zk_1367 zd_W_eat_74 ?_
  refine zr_iconst C zd_W_eat_77 ?_
  refine ziald C hK hW (zvd_5 hr0 (by decide)) (fun f => ze_5_34 B f (r0)) (by decide) (by decide) zd_W_eat_78 ?_
  refine zr_if_ne (tgt := 93) C (zWn hW _ _ _ _ rfl) zd_W_eat_79 (by decide) (fun c3 => ?_) (fun c3 => ?_)
  · rw [if_neg c3] at hf
    refine zr_iconst C zd_W_eat_93 ?_
    refine lv_istore_n (lv' := [(2, .int (zI (0))), (0, .ref (B.2.1 5 (r0) (0))), (1, .int (zI (x1)))]) C.1 C.2.1 zd_W_eat_94 rfl hl (by decide) rfl (fun ls hl => ?_)
    refine zr_iconst C zd_W_eat_95 ?_
    refine lv_istore_n (lv' := [(3, .int (zI (0))), (2, .int (zI (0))), (0, .ref (B.2.1 5 (r0) (0))), (1, .int (zI (x1)))]) C.1 C.2.1 zd_W_eat_96 rfl hl (by decide) rfl (fun ls hl => ?_)
    exact zw_W_eat_97 C hr hlk hK hSt hap r0 hr0 4096 (0) (0) S2 (znb rfl) (znb rfl) hf _ _ _ hW hS (lv_sub hl [2, 1, 0] rfl)
  · rw [if_pos c3] at hf
    refine lv_aload_n C.1 C.2.1 zd_W_eat_82 rfl (lv_at hl 0 rfl) ?_
    refine zg_W_store (r := r0) C hK hW (zvd_5 hr0 (by decide)) zk_1335 zd_W_eat_83 ?_
    refine zr_iconst C zd_W_eat_86 ?_
    refine lv_dup2_11 C.1 C.2.1 zd_W_eat_87 rfl rfl ?_
    refine ziald C hK hW (zvd_5 hr0 (by decide)) (fun f => ze_5_25 B f (r0)) (by decide) (by decide) zd_W_eat_88 ?_
    refine lv_iload_n C.1 C.2.1 zd_W_eat_89 rfl (lv_at hl 1 rfl) ?_
    refine zr_isub C zd_W_eat_90 ?_
    obtain ⟨S4, eS4, hf⟩ := zlt_some hf
    refine ziast C hK hap hW hS (zvd_5 hr0 (by decide)) (fun f => ze_5_25 B f (r0)) (by decide) rfl (zn_w _) (by decide) zd_W_eat_91 (fun H locs hW hS => ?_)
    rw [eS4] at hW
    cases hf
    exact zre_v C hr hlk hK hW hS zd_W_eat_92

def zf_W_eat_30 (r0 : Int) (q4 : Int → Int → Sg → Option (Int × Sg)) (x2 : Int) (xt0 : Int) (xt1 : Int) (S : Sg) : Option (Int × Sg) :=
    zlt (zw (xt0 + xt1)) fun v1 => zck (0 ≤ x2 ∧ x2 < 40) <| zlt (zu S 5 r0 9 x2 0) fun S3 => zlt (zu S3 5 r0 39 x2 0) fun S4 => zlt (zw (x2 + 1)) fun v5 => q4 (v1) (v5) S4
set_option maxHeartbeats 4000000 in
set_option maxRecDepth 100000 in
theorem zw_W_eat_30 {p : Program} {l : Launch} {e : Env} {s : State} {m : MethodId} {args : Array Value} {below : List Frame} {meth : Method} {c : Code} {B : zB} (C : CallFix p m c zb_W_eat 6 s args zT "IslandOfficeModel$World") (hr : meth.sig.returnType = none) (hlk : meth.locks = false) (hK : zK B s) (hSt : zSt B s) (hap : zAp B) (r0 : Int) (hr0 : 0 ≤ r0 ∧ r0 < 3) {res : Int} {S9 : Sg} (q4 : Int → Int → Sg → Option (Int × Sg)) (hq4 : ∀ (x1 : Int) (x2 : Int) (S : Sg) (nx1 : zn x1) (nx2 : zn x2), q4 x1 x2 S = some (res, S9) → ∀ (H : Heap) (locs : List Loc) (ls : Array Slot), zW B S H → va_S B.2.2.2 s.heap H locs → lv_has ls 6 [(0, .ref (B.2.1 5 (r0) (0))), (1, .int (zI (x1))), (2, .int (zI (x2)))] → W p l e zm_W_eat s m args below meth c H locs 0 0 (MQ below (zQv B S9) args s 0 0 B.2.2.2) (F0 m 4 ls [])) : ∀ (x2 : Int) (xt0 : Int) (xt1 : Int) (S : Sg) (nx2 : zn x2) (nxt0 : zn xt0) (nxt1 : zn xt1), zf_W_eat_30 r0 q4 x2 xt0 xt1 S = some (res, S9) → ∀ (H : Heap) (locs : List Loc) (ls : Array Slot), zW B S H → va_S B.2.2.2 s.heap H locs → lv_has ls 6 [(0, .ref (B.2.1 5 (r0) (0))), (2, .int (zI (x2)))] → W p l e zm_W_eat s m args below meth c H locs 0 0 (MQ below (zQv B S9) args s 0 0 B.2.2.2) (F0 m 30 ls [.int (zI (xt1)), .int (zI (xt0))]) := by
  intro x2 xt0 xt1 S nx2 nxt0 nxt1 hf H locs ls hW hS hl
  unfold zf_W_eat_30 at hf
  refine zr_iadd C zd_W_eat_30 ?_
  obtain ⟨v1, ev1, hf⟩ := zlt_some hf
  have nv1 : zn v1 := by rw [← ev1]; exact (zn_w _)
  rw [ev1]
  refine lv_istore_n (lv' := [(1, .int (zI (v1))), (0, .ref (B.2.1 5 (r0) (0))), (2, .int (zI (x2)))]) C.1 C.2.1 zd_W_eat_31 rfl hl (by decide) rfl (fun ls hl => ?_)
  refine lv_aload_n C.1 C.2.1 zd_W_eat_32 rfl (lv_at hl 1 rfl) ?_
  refine zg_W_hungry (r := r0) C hK hW (zvd_5 hr0 (by decide)) zk_1295 zd_W_eat_33 ?_
  refine lv_iload_n C.1 C.2.1 zd_W_eat_36 rfl (lv_at hl 2 rfl) ?_
  refine zr_iconst C zd_W_eat_37 ?_
  obtain ⟨h2, hf⟩ := zck_some hf
  obtain ⟨S3, eS3, hf⟩ := zlt_some hf
  refine ziast C hK hap hW hS (zvd_5 hr0 (by decide)) (fun f => ze_5_9 B f (r0)) (by decide) rfl (znb rfl) h2 zd_W_eat_38 (fun H locs hW hS => ?_)
  rw [eS3] at hW
  refine lv_aload_n C.1 C.2.1 zd_W_eat_39 rfl (lv_at hl 1 rfl) ?_
  refine zg_W_got (r := r0) C hK hW (zvd_5 hr0 (by decide)) zk_1379 zd_W_eat_40 ?_
  refine lv_iload_n C.1 C.2.1 zd_W_eat_43 rfl (lv_at hl 2 rfl) ?_
  refine zr_iconst C zd_W_eat_44 ?_
  obtain ⟨S4, eS4, hf⟩ := zlt_some hf
  refine ziast C hK hap hW hS (zvd_5 hr0 (by decide)) (fun f => ze_5_39 B f (r0)) (by decide) rfl (znb rfl) h2 zd_W_eat_45 (fun H locs hW hS => ?_)
  rw [eS4] at hW
  obtain ⟨v5, ev5, hf⟩ := zlt_some hf
  have nv5 : zn v5 := by rw [← ev5]; exact zn_w _
  refine lv_iinc (v := zI v5) (lv' := [(2, .int (zI (v5))), (1, .int (zI (v1))), (0, .ref (B.2.1 5 (r0) (0)))]) C.1 C.2.1 zd_W_eat_46 hl (k := 2) rfl (by rw [← ev5, ← zI_add]; rfl) (by decide) rfl (fun ls hl => ?_)
  refine lv_goto (tgt := 4) C.1 C.2.1 zd_W_eat_49 (by decide) ?_
  exact hq4 (v1) (v5) S4 nv1 nv5 hf _ _ _ hW hS (lv_sub hl [2, 1, 0] rfl)

def zf_W_eat_4 (r0 : Int) : Nat → Int → Int → Sg → Option (Int × Sg)
  | 0, _, _, _ => none
  | n + 1, x1, x2, S =>
    if (S 5 r0 0 1) ≤ x2 then (if x1 ≤ (S 5 r0 25 0) then (zf_W_eat_72 r0 (x1) (0) (0) S) else (zf_W_eat_72 r0 (x1) (0) (1) S)) else (zbd (zf_W_here (r0) x2 S) fun a3 S4 => if a3 = 0 then (zf_W_eat_30 r0 (zf_W_eat_4 r0 n) (x2) (x1) (0) S4) else (zbd (zf_W_needOf (r0) x2 S4) fun a6 S7 => zf_W_eat_30 r0 (zf_W_eat_4 r0 n) (x2) (x1) (a6) S7))
set_option maxHeartbeats 4000000 in
set_option maxRecDepth 100000 in
theorem zw_W_eat_4 {p : Program} {l : Launch} {e : Env} {s : State} {m : MethodId} {args : Array Value} {below : List Frame} {meth : Method} {c : Code} {B : zB} (C : CallFix p m c zb_W_eat 6 s args zT "IslandOfficeModel$World") (hr : meth.sig.returnType = none) (hlk : meth.locks = false) (hK : zK B s) (hSt : zSt B s) (hap : zAp B) (r0 : Int) (hr0 : 0 ≤ r0 ∧ r0 < 3) {res : Int} {S9 : Sg} : ∀ n : Nat, ∀ (x1 : Int) (x2 : Int) (S : Sg) (nx1 : zn x1) (nx2 : zn x2), zf_W_eat_4 r0 n x1 x2 S = some (res, S9) → ∀ (H : Heap) (locs : List Loc) (ls : Array Slot), zW B S H → va_S B.2.2.2 s.heap H locs → lv_has ls 6 [(0, .ref (B.2.1 5 (r0) (0))), (1, .int (zI (x1))), (2, .int (zI (x2)))] → W p l e zm_W_eat s m args below meth c H locs 0 0 (MQ below (zQv B S9) args s 0 0 B.2.2.2) (F0 m 4 ls []) := by
  intro n
  induction n with
  | zero =>
    intro x1 x2 S nx1 nx2 hf H locs ls hW hS hl
    cases hf
  | succ n ih =>
    intro x1 x2 S nx1 nx2 hf H locs ls hW hS hl
    rw [zf_W_eat_4] at hf
    refine lv_iload_n C.1 C.2.1 zd_W_eat_4 rfl (lv_at hl 2 rfl) ?_
    refine lv_aload_n C.1 C.2.1 zd_W_eat_5 rfl (lv_at hl 0 rfl) ?_
    refine zg_W_people (r := r0) C hK hW (zvd_5 hr0 (by decide)) zk_1277 zd_W_eat_6 ?_
    refine zr_icmp_ge (tgt := 52) C nx2 (zWn hW _ _ _ _ rfl) zd_W_eat_9 (by decide) (fun c1 => ?_) (fun c1 => ?_)
    · rw [if_pos c1] at hf
      refine lv_aload_n C.1 C.2.1 zd_W_eat_52 rfl (lv_at hl 0 rfl) ?_
      refine zg_W_lacking (r := r0) C hK hW (zvd_5 hr0 (by decide)) zk_1367 zd_W_eat_53 ?_
      refine zr_iconst C zd_W_eat_56 ?_
      refine lv_aload_n C.1 C.2.1 zd_W_eat_57 rfl (lv_at hl 0 rfl) ?_
      refine zg_W_store (r := r0) C hK hW (zvd_5 hr0 (by decide)) zk_1335 zd_W_eat_58 ?_
      refine zr_iconst C zd_W_eat_61 ?_
      refine ziald C hK hW (zvd_5 hr0 (by decide)) (fun f => ze_5_25 B f (r0)) (by decide) (by decide) zd_W_eat_62 ?_
      refine lv_iload_n C.1 C.2.1 zd_W_eat_63 rfl (lv_at hl 1 rfl) ?_
      refine zr_icmp_ge (tgt := 71) C (zWn hW _ _ _ _ rfl) nx1 zd_W_eat_64 (by decide) (fun c2 => ?_) (fun c2 => ?_)
      · rw [if_pos c2] at hf
        refine zr_iconst C zd_W_eat_71 ?_
        exact zw_W_eat_72 C hr hlk hK hSt hap r0 hr0 (x1) (0) (0) S nx1 (znb rfl) (znb rfl) hf _ _ _ hW hS (lv_sub hl [0, 1] rfl)
      · rw [if_neg c2] at hf
        refine zr_iconst C zd_W_eat_67 ?_
        refine lv_goto (tgt := 72) C.1 C.2.1 zd_W_eat_68 (by decide) ?_
        exact zw_W_eat_72 C hr hlk hK hSt hap r0 hr0 (x1) (0) (1) S nx1 (znb rfl) (znb rfl) hf _ _ _ hW hS (lv_sub hl [0, 1] rfl)
    · rw [if_neg c1] at hf
      refine lv_iload_n C.1 C.2.1 zd_W_eat_12 rfl (lv_at hl 1 rfl) ?_
      refine lv_aload_n C.1 C.2.1 zd_W_eat_13 rfl (lv_at hl 0 rfl) ?_
      refine lv_iload_n C.1 C.2.1 zd_W_eat_14 rfl (lv_at hl 2 rfl) ?_
      obtain ⟨a3, S4, ea3, hf⟩ := zbd_some hf
      refine zcVi (As := [.int (zI (x2))]) (rest := [.int (zI (x1))]) C hK hSt hW hS (zc_W_here hap (r0) hr0 x2 S nx2 ea3) zq_W_here zk_1640 (zrecv hK hW (zvd_5 hr0 (by decide)) (ze_5_0 B _ (r0)) rfl) ⟨rfl, rfl, by decide, by decide⟩ ⟨Nat.zero_le _, Nat.zero_le _⟩ rfl hl.1 rfl (lv_room (Nat.le_of_ble_eq_true rfl)) zd_W_eat_15 (fun na3 H locs hW hS => ?_)
      refine zr_if_eq (tgt := 29) C na3 zd_W_eat_18 (by decide) (fun c5 => ?_) (fun c5 => ?_)
      · rw [if_pos c5] at hf
        refine zr_iconst C zd_W_eat_29 ?_
        exact zw_W_eat_30 C hr hlk hK hSt hap r0 hr0 (zf_W_eat_4 r0 n) (ih) (x2) (x1) (0) S4 nx2 nx1 (znb rfl) hf _ _ _ hW hS (lv_sub hl [0, 2] rfl)
      · rw [if_neg c5] at hf
        refine lv_aload_n C.1 C.2.1 zd_W_eat_21 rfl (lv_at hl 0 rfl) ?_
        refine lv_iload_n C.1 C.2.1 zd_W_eat_22 rfl (lv_at hl 2 rfl) ?_
        obtain ⟨a6, S7, ea6, hf⟩ := zbd_some hf
        refine zcVi (As := [.int (zI (x2))]) (rest := [.int (zI (x1))]) C hK hSt hW hS (zc_W_needOf hap (r0) hr0 x2 S4 nx2 ea6) zq_W_needOf zk_1937 (zrecv hK hW (zvd_5 hr0 (by decide)) (ze_5_0 B _ (r0)) rfl) ⟨rfl, rfl, by decide, by decide⟩ ⟨Nat.zero_le _, Nat.zero_le _⟩ rfl hl.1 rfl (lv_room (Nat.le_of_ble_eq_true rfl)) zd_W_eat_23 (fun na6 H locs hW hS => ?_)
        refine lv_goto (tgt := 30) C.1 C.2.1 zd_W_eat_26 (by decide) ?_
        exact zw_W_eat_30 C hr hlk hK hSt hap r0 hr0 (zf_W_eat_4 r0 n) (ih) (x2) (x1) (a6) S7 nx2 nx1 na6 hf _ _ _ hW hS (lv_sub hl [0, 2] rfl)

def zf_W_eat (r0 : Int) (S : Sg) : Option (Int × Sg) :=
    zf_W_eat_4 r0 4096 (0) (0) S
set_option maxHeartbeats 4000000 in
set_option maxRecDepth 100000 in
theorem zw_W_eat {p : Program} {l : Launch} {e : Env} {s : State} {m : MethodId} {args : Array Value} {below : List Frame} {meth : Method} {c : Code} {B : zB} (C : CallFix p m c zb_W_eat 6 s args zT "IslandOfficeModel$World") (hr : meth.sig.returnType = none) (hlk : meth.locks = false) (hK : zK B s) (hSt : zSt B s) (hap : zAp B) (r0 : Int) (hr0 : 0 ≤ r0 ∧ r0 < 3) {res : Int} {S9 : Sg} : ∀  (S : Sg) , zf_W_eat r0  S = some (res, S9) → ∀ (H : Heap) (locs : List Loc) (ls : Array Slot), zW B S H → va_S B.2.2.2 s.heap H locs → lv_has ls 6 [(0, .ref (B.2.1 5 (r0) (0)))] → W p l e zm_W_eat s m args below meth c H locs 0 0 (MQ below (zQv B S9) args s 0 0 B.2.2.2) (F0 m 0 ls []) := by
  intro S hf H locs ls hW hS hl
  unfold zf_W_eat at hf
  refine zr_iconst C zd_W_eat_0 ?_
  refine lv_istore_n (lv' := [(1, .int (zI (0))), (0, .ref (B.2.1 5 (r0) (0)))]) C.1 C.2.1 zd_W_eat_1 rfl hl (by decide) rfl (fun ls hl => ?_)
  refine zr_iconst C zd_W_eat_2 ?_
  refine lv_istore_n (lv' := [(2, .int (zI (0))), (1, .int (zI (0))), (0, .ref (B.2.1 5 (r0) (0)))]) C.1 C.2.1 zd_W_eat_3 rfl hl (by decide) rfl (fun ls hl => ?_)
  exact zw_W_eat_4 C hr hlk hK hSt hap r0 hr0 4096 (0) (0) S (znb rfl) (znb rfl) hf _ _ _ hW hS (lv_sub hl [2, 1, 0] rfl)

theorem zc_W_eat {l : Launch} {B : zB} (hap : zAp B) (r0 : Int) (hr0 : 0 ≤ r0 ∧ r0 < 3) (S : Sg) {res : Int} {S9 : Sg} (hf : zf_W_eat r0 S = some (res, S9)) : Met l zy_W_eat (Cond.code zy_W_eat zb_W_eat 6 (none) :: zT) zm_W_eat (zP B S [.ref (B.2.1 5 (r0) (0))]) (zQv B S9) 0 0 B.2.2.2 :=
  zmet (by decide) (Nat.le_of_ble_eq_true rfl) (fun p e s m args below meth c C hr hlk hK hSt hW ls hl => zw_W_eat C hr hlk hK hSt hap r0 hr0  S  hf _ _ _ hW va_S.rf hl)
/-! IslandOfficeModel$World.graze()V -/
abbrev zy_W_graze : MethodName := ⟨"IslandOfficeModel$World", "graze", "()V"⟩
abbrev zb_W_graze : ByteArray := prog_15_method_41_code
abbrev zm_W_graze : Room := { frames := 0, cells := 0, slots := 0, locals := 0 }
theorem zq_W_graze : zMy zy_W_graze zb_W_graze 4 (none) 0 := ⟨zk_1918, zk_1917, zs_79, zk_15, by decide, by decide, by decide +kernel⟩
theorem zd_W_graze_0 : decode zb_W_graze 0 = .ok (.iconst 0, 1) := by decide +kernel
theorem zd_W_graze_1 : decode zb_W_graze 1 = .ok (.istore_n 1, 1) := by decide +kernel
theorem zd_W_graze_2 : decode zb_W_graze 2 = .ok (.iload_n 1, 1) := by decide +kernel
theorem zd_W_graze_3 : decode zb_W_graze 3 = .ok (.bipush 12, 2) := by decide +kernel
theorem zd_W_graze_5 : decode zb_W_graze 5 = .ok (.if_icmp .ge 84, 3) := by decide +kernel
theorem zd_W_graze_8 : decode zb_W_graze 8 = .ok (.iconst 0, 1) := by decide +kernel
theorem zd_W_graze_9 : decode zb_W_graze 9 = .ok (.istore_n 2, 1) := by decide +kernel
theorem zd_W_graze_10 : decode zb_W_graze 10 = .ok (.iconst 0, 1) := by decide +kernel
theorem zd_W_graze_11 : decode zb_W_graze 11 = .ok (.istore_n 3, 1) := by decide +kernel
theorem zd_W_graze_12 : decode zb_W_graze 12 = .ok (.iload_n 3, 1) := by decide +kernel
theorem zd_W_graze_13 : decode zb_W_graze 13 = .ok (.aload_n 0, 1) := by decide +kernel
theorem zd_W_graze_14 : decode zb_W_graze 14 = .ok (.getfield 39, 3) := by decide +kernel
theorem zd_W_graze_17 : decode zb_W_graze 17 = .ok (.iload_n 1, 1) := by decide +kernel
theorem zd_W_graze_18 : decode zb_W_graze 18 = .ok (.iaload, 1) := by decide +kernel
theorem zd_W_graze_19 : decode zb_W_graze 19 = .ok (.if_icmp .ge 54, 3) := by decide +kernel
theorem zd_W_graze_22 : decode zb_W_graze 22 = .ok (.aload_n 0, 1) := by decide +kernel
theorem zd_W_graze_23 : decode zb_W_graze 23 = .ok (.getfield 51, 3) := by decide +kernel
theorem zd_W_graze_26 : decode zb_W_graze 26 = .ok (.ifCond .le 16, 3) := by decide +kernel
theorem zd_W_graze_29 : decode zb_W_graze 29 = .ok (.aload_n 0, 1) := by decide +kernel
theorem zd_W_graze_30 : decode zb_W_graze 30 = .ok (.dup, 1) := by decide +kernel
theorem zd_W_graze_31 : decode zb_W_graze 31 = .ok (.getfield 51, 3) := by decide +kernel
theorem zd_W_graze_34 : decode zb_W_graze 34 = .ok (.iconst 1, 1) := by decide +kernel
theorem zd_W_graze_35 : decode zb_W_graze 35 = .ok (.isub, 1) := by decide +kernel
theorem zd_W_graze_36 : decode zb_W_graze 36 = .ok (.putfield 51, 3) := by decide +kernel
theorem zd_W_graze_39 : decode zb_W_graze 39 = .ok (.goto 28, 3) := by decide +kernel
theorem zd_W_graze_42 : decode zb_W_graze 42 = .ok (.aload_n 0, 1) := by decide +kernel
theorem zd_W_graze_43 : decode zb_W_graze 43 = .ok (.getfield 93, 3) := by decide +kernel
theorem zd_W_graze_46 : decode zb_W_graze 46 = .ok (.iconst 2, 1) := by decide +kernel
theorem zd_W_graze_47 : decode zb_W_graze 47 = .ok (.iaload, 1) := by decide +kernel
theorem zd_W_graze_48 : decode zb_W_graze 48 = .ok (.ifCond .le 16, 3) := by decide +kernel
theorem zd_W_graze_51 : decode zb_W_graze 51 = .ok (.aload_n 0, 1) := by decide +kernel
theorem zd_W_graze_52 : decode zb_W_graze 52 = .ok (.getfield 93, 3) := by decide +kernel
theorem zd_W_graze_55 : decode zb_W_graze 55 = .ok (.iconst 2, 1) := by decide +kernel
theorem zd_W_graze_56 : decode zb_W_graze 56 = .ok (.dup2, 1) := by decide +kernel
theorem zd_W_graze_57 : decode zb_W_graze 57 = .ok (.iaload, 1) := by decide +kernel
theorem zd_W_graze_58 : decode zb_W_graze 58 = .ok (.iconst 1, 1) := by decide +kernel
theorem zd_W_graze_59 : decode zb_W_graze 59 = .ok (.isub, 1) := by decide +kernel
theorem zd_W_graze_60 : decode zb_W_graze 60 = .ok (.iastore, 1) := by decide +kernel
theorem zd_W_graze_61 : decode zb_W_graze 61 = .ok (.goto 6, 3) := by decide +kernel
theorem zd_W_graze_64 : decode zb_W_graze 64 = .ok (.iinc 2 1, 3) := by decide +kernel
theorem zd_W_graze_67 : decode zb_W_graze 67 = .ok (.iinc 3 1, 3) := by decide +kernel
theorem zd_W_graze_70 : decode zb_W_graze 70 = .ok (.goto (-58), 3) := by decide +kernel
theorem zd_W_graze_73 : decode zb_W_graze 73 = .ok (.aload_n 0, 1) := by decide +kernel
theorem zd_W_graze_74 : decode zb_W_graze 74 = .ok (.getfield 39, 3) := by decide +kernel
theorem zd_W_graze_77 : decode zb_W_graze 77 = .ok (.iload_n 1, 1) := by decide +kernel
theorem zd_W_graze_78 : decode zb_W_graze 78 = .ok (.dup2, 1) := by decide +kernel
theorem zd_W_graze_79 : decode zb_W_graze 79 = .ok (.iaload, 1) := by decide +kernel
theorem zd_W_graze_80 : decode zb_W_graze 80 = .ok (.iload_n 2, 1) := by decide +kernel
theorem zd_W_graze_81 : decode zb_W_graze 81 = .ok (.isub, 1) := by decide +kernel
theorem zd_W_graze_82 : decode zb_W_graze 82 = .ok (.iastore, 1) := by decide +kernel
theorem zd_W_graze_83 : decode zb_W_graze 83 = .ok (.iinc 1 1, 3) := by decide +kernel
theorem zd_W_graze_86 : decode zb_W_graze 86 = .ok (.goto (-84), 3) := by decide +kernel
theorem zd_W_graze_89 : decode zb_W_graze 89 = .ok (.return_, 1) := by decide +kernel

def zf_W_graze_67 (r0 : Int) (q2 : Int → Sg → Option (Int × Sg)) (q12 : Int → Int → Int → Sg → Option (Int × Sg)) (x1 : Int) (x2 : Int) (x3 : Int) (S : Sg) : Option (Int × Sg) :=
    zlt (zw (x3 + 1)) fun v1 => q12 (x1) (x2) (v1) S
set_option maxHeartbeats 4000000 in
set_option maxRecDepth 100000 in
theorem zw_W_graze_67 {p : Program} {l : Launch} {e : Env} {s : State} {m : MethodId} {args : Array Value} {below : List Frame} {meth : Method} {c : Code} {B : zB} (C : CallFix p m c zb_W_graze 4 s args zT "IslandOfficeModel$World") (hr : meth.sig.returnType = none) (hlk : meth.locks = false) (hK : zK B s) (hSt : zSt B s) (hap : zAp B) (r0 : Int) (hr0 : 0 ≤ r0 ∧ r0 < 3) {res : Int} {S9 : Sg} (q2 : Int → Sg → Option (Int × Sg)) (hq2 : ∀ (x1 : Int) (S : Sg) (nx1 : zn x1), q2 x1 S = some (res, S9) → ∀ (H : Heap) (locs : List Loc) (ls : Array Slot), zW B S H → va_S B.2.2.2 s.heap H locs → lv_has ls 4 [(0, .ref (B.2.1 5 (r0) (0))), (1, .int (zI (x1)))] → W p l e zm_W_graze s m args below meth c H locs 0 0 (MQ below (zQv B S9) args s 0 0 B.2.2.2) (F0 m 2 ls [])) (q12 : Int → Int → Int → Sg → Option (Int × Sg)) (hq12 : ∀ (x1 : Int) (x2 : Int) (x3 : Int) (S : Sg) (nx1 : zn x1) (nx2 : zn x2) (nx3 : zn x3), q12 x1 x2 x3 S = some (res, S9) → ∀ (H : Heap) (locs : List Loc) (ls : Array Slot), zW B S H → va_S B.2.2.2 s.heap H locs → lv_has ls 4 [(0, .ref (B.2.1 5 (r0) (0))), (1, .int (zI (x1))), (2, .int (zI (x2))), (3, .int (zI (x3)))] → W p l e zm_W_graze s m args below meth c H locs 0 0 (MQ below (zQv B S9) args s 0 0 B.2.2.2) (F0 m 12 ls [])) : ∀ (x1 : Int) (x2 : Int) (x3 : Int) (S : Sg) (nx1 : zn x1) (nx2 : zn x2) (nx3 : zn x3), zf_W_graze_67 r0 q2 q12 x1 x2 x3 S = some (res, S9) → ∀ (H : Heap) (locs : List Loc) (ls : Array Slot), zW B S H → va_S B.2.2.2 s.heap H locs → lv_has ls 4 [(0, .ref (B.2.1 5 (r0) (0))), (1, .int (zI (x1))), (2, .int (zI (x2))), (3, .int (zI (x3)))] → W p l e zm_W_graze s m args below meth c H locs 0 0 (MQ below (zQv B S9) args s 0 0 B.2.2.2) (F0 m 67 ls []) := by
  intro x1 x2 x3 S nx1 nx2 nx3 hf H locs ls hW hS hl
  unfold zf_W_graze_67 at hf
  obtain ⟨v1, ev1, hf⟩ := zlt_some hf
  have nv1 : zn v1 := by rw [← ev1]; exact zn_w _
  refine lv_iinc (v := zI v1) (lv' := [(3, .int (zI (v1))), (0, .ref (B.2.1 5 (r0) (0))), (1, .int (zI (x1))), (2, .int (zI (x2)))]) C.1 C.2.1 zd_W_graze_67 hl (k := 3) rfl (by rw [← ev1, ← zI_add]; rfl) (by decide) rfl (fun ls hl => ?_)
  refine lv_goto (tgt := 12) C.1 C.2.1 zd_W_graze_70 (by decide) ?_
  exact hq12 (x1) (x2) (v1) S nx1 nx2 nv1 hf _ _ _ hW hS (lv_sub hl [1, 2, 3, 0] rfl)

def zf_W_graze_12 (r0 : Int) (q2 : Int → Sg → Option (Int × Sg)) : Nat → Int → Int → Int → Sg → Option (Int × Sg)
  | 0, _, _, _, _ => none
  | n + 1, x1, x2, x3, S =>
    zck (0 ≤ x1 ∧ x1 < 12) <| if (S 5 r0 10 x1) ≤ x3 then (zlt (zu S 5 r0 10 x1 (zw ((S 5 r0 10 x1) - x2))) fun S3 => zlt (zw (x1 + 1)) fun v4 => q2 (v4) S3) else (if (S 5 r0 0 15) ≤ 0 then (if (S 5 r0 25 2) ≤ 0 then (zlt (zw (x2 + 1)) fun v7 => zf_W_graze_67 r0 q2 (zf_W_graze_12 r0 q2 n) (x1) (v7) (x3) S) else (zlt (zu S 5 r0 25 2 (zw ((S 5 r0 25 2) - 1))) fun S8 => zf_W_graze_67 r0 q2 (zf_W_graze_12 r0 q2 n) (x1) (x2) (x3) S8)) else (zlt (zu S 5 r0 0 15 (zw ((S 5 r0 0 15) - 1))) fun S9 => zf_W_graze_67 r0 q2 (zf_W_graze_12 r0 q2 n) (x1) (x2) (x3) S9))
set_option maxHeartbeats 4000000 in
set_option maxRecDepth 100000 in
theorem zw_W_graze_12 {p : Program} {l : Launch} {e : Env} {s : State} {m : MethodId} {args : Array Value} {below : List Frame} {meth : Method} {c : Code} {B : zB} (C : CallFix p m c zb_W_graze 4 s args zT "IslandOfficeModel$World") (hr : meth.sig.returnType = none) (hlk : meth.locks = false) (hK : zK B s) (hSt : zSt B s) (hap : zAp B) (r0 : Int) (hr0 : 0 ≤ r0 ∧ r0 < 3) {res : Int} {S9 : Sg} (q2 : Int → Sg → Option (Int × Sg)) (hq2 : ∀ (x1 : Int) (S : Sg) (nx1 : zn x1), q2 x1 S = some (res, S9) → ∀ (H : Heap) (locs : List Loc) (ls : Array Slot), zW B S H → va_S B.2.2.2 s.heap H locs → lv_has ls 4 [(0, .ref (B.2.1 5 (r0) (0))), (1, .int (zI (x1)))] → W p l e zm_W_graze s m args below meth c H locs 0 0 (MQ below (zQv B S9) args s 0 0 B.2.2.2) (F0 m 2 ls [])) : ∀ n : Nat, ∀ (x1 : Int) (x2 : Int) (x3 : Int) (S : Sg) (nx1 : zn x1) (nx2 : zn x2) (nx3 : zn x3), zf_W_graze_12 r0 q2 n x1 x2 x3 S = some (res, S9) → ∀ (H : Heap) (locs : List Loc) (ls : Array Slot), zW B S H → va_S B.2.2.2 s.heap H locs → lv_has ls 4 [(0, .ref (B.2.1 5 (r0) (0))), (1, .int (zI (x1))), (2, .int (zI (x2))), (3, .int (zI (x3)))] → W p l e zm_W_graze s m args below meth c H locs 0 0 (MQ below (zQv B S9) args s 0 0 B.2.2.2) (F0 m 12 ls []) := by
  intro n
  induction n with
  | zero =>
    intro x1 x2 x3 S nx1 nx2 nx3 hf H locs ls hW hS hl
    cases hf
  | succ n ih =>
    intro x1 x2 x3 S nx1 nx2 nx3 hf H locs ls hW hS hl
    rw [zf_W_graze_12] at hf
    refine lv_iload_n C.1 C.2.1 zd_W_graze_12 rfl (lv_at hl 3 rfl) ?_
    refine lv_aload_n C.1 C.2.1 zd_W_graze_13 rfl (lv_at hl 0 rfl) ?_
    refine zg_W_cattle (r := r0) C hK hW (zvd_5 hr0 (by decide)) zk_1297 zd_W_graze_14 ?_
    refine lv_iload_n C.1 C.2.1 zd_W_graze_17 rfl (lv_at hl 1 rfl) ?_
    obtain ⟨h1, hf⟩ := zck_some hf
    refine ziald C hK hW (zvd_5 hr0 (by decide)) (fun f => ze_5_10 B f (r0)) (by decide) h1 zd_W_graze_18 ?_
    refine zr_icmp_ge (tgt := 73) C nx3 (zWn hW _ _ _ _ rfl) zd_W_graze_19 (by decide) (fun c2 => ?_) (fun c2 => ?_)
    · rw [if_pos c2] at hf
      refine lv_aload_n C.1 C.2.1 zd_W_graze_73 rfl (lv_at hl 0 rfl) ?_
      refine zg_W_cattle (r := r0) C hK hW (zvd_5 hr0 (by decide)) zk_1297 zd_W_graze_74 ?_
      refine lv_iload_n C.1 C.2.1 zd_W_graze_77 rfl (lv_at hl 1 rfl) ?_
      refine lv_dup2_11 C.1 C.2.1 zd_W_graze_78 rfl rfl ?_
      refine ziald C hK hW (zvd_5 hr0 (by decide)) (fun f => ze_5_10 B f (r0)) (by decide) h1 zd_W_graze_79 ?_
      refine lv_iload_n C.1 C.2.1 zd_W_graze_80 rfl (lv_at hl 2 rfl) ?_
      refine zr_isub C zd_W_graze_81 ?_
      obtain ⟨S3, eS3, hf⟩ := zlt_some hf
      refine ziast C hK hap hW hS (zvd_5 hr0 (by decide)) (fun f => ze_5_10 B f (r0)) (by decide) rfl (zn_w _) h1 zd_W_graze_82 (fun H locs hW hS => ?_)
      rw [eS3] at hW
      obtain ⟨v4, ev4, hf⟩ := zlt_some hf
      have nv4 : zn v4 := by rw [← ev4]; exact zn_w _
      refine lv_iinc (v := zI v4) (lv' := [(1, .int (zI (v4))), (0, .ref (B.2.1 5 (r0) (0))), (2, .int (zI (x2))), (3, .int (zI (x3)))]) C.1 C.2.1 zd_W_graze_83 hl (k := 1) rfl (by rw [← ev4, ← zI_add]; rfl) (by decide) rfl (fun ls hl => ?_)
      refine lv_goto (tgt := 2) C.1 C.2.1 zd_W_graze_86 (by decide) ?_
      exact hq2 (v4) S3 nv4 hf _ _ _ hW hS (lv_sub hl [1, 0] rfl)
    · rw [if_neg c2] at hf
      refine lv_aload_n C.1 C.2.1 zd_W_graze_22 rfl (lv_at hl 0 rfl) ?_
      refine zg_W_grass (r := r0) C hK hW (zvd_5 hr0 (by decide)) zk_1305 zd_W_graze_23 ?_
      refine zr_if_le (tgt := 42) C (zWn hW _ _ _ _ rfl) zd_W_graze_26 (by decide) (fun c5 => ?_) (fun c5 => ?_)
      · rw [if_pos c5] at hf
        refine lv_aload_n C.1 C.2.1 zd_W_graze_42 rfl (lv_at hl 0 rfl) ?_
        refine zg_W_store (r := r0) C hK hW (zvd_5 hr0 (by decide)) zk_1335 zd_W_graze_43 ?_
        refine zr_iconst C zd_W_graze_46 ?_
        refine ziald C hK hW (zvd_5 hr0 (by decide)) (fun f => ze_5_25 B f (r0)) (by decide) (by decide) zd_W_graze_47 ?_
        refine zr_if_le (tgt := 64) C (zWn hW _ _ _ _ rfl) zd_W_graze_48 (by decide) (fun c6 => ?_) (fun c6 => ?_)
        · rw [if_pos c6] at hf
          obtain ⟨v7, ev7, hf⟩ := zlt_some hf
          have nv7 : zn v7 := by rw [← ev7]; exact zn_w _
          refine lv_iinc (v := zI v7) (lv' := [(2, .int (zI (v7))), (0, .ref (B.2.1 5 (r0) (0))), (1, .int (zI (x1))), (3, .int (zI (x3)))]) C.1 C.2.1 zd_W_graze_64 hl (k := 2) rfl (by rw [← ev7, ← zI_add]; rfl) (by decide) rfl (fun ls hl => ?_)
          exact zw_W_graze_67 C hr hlk hK hSt hap r0 hr0 q2 hq2 (zf_W_graze_12 r0 q2 n) (ih) (x1) (v7) (x3) S nx1 nv7 nx3 hf _ _ _ hW hS (lv_sub hl [1, 2, 0, 3] rfl)
        · rw [if_neg c6] at hf
          refine lv_aload_n C.1 C.2.1 zd_W_graze_51 rfl (lv_at hl 0 rfl) ?_
          refine zg_W_store (r := r0) C hK hW (zvd_5 hr0 (by decide)) zk_1335 zd_W_graze_52 ?_
          refine zr_iconst C zd_W_graze_55 ?_
          refine lv_dup2_11 C.1 C.2.1 zd_W_graze_56 rfl rfl ?_
          refine ziald C hK hW (zvd_5 hr0 (by decide)) (fun f => ze_5_25 B f (r0)) (by decide) (by decide) zd_W_graze_57 ?_
          refine zr_iconst C zd_W_graze_58 ?_
          refine zr_isub C zd_W_graze_59 ?_
          obtain ⟨S8, eS8, hf⟩ := zlt_some hf
          refine ziast C hK hap hW hS (zvd_5 hr0 (by decide)) (fun f => ze_5_25 B f (r0)) (by decide) rfl (zn_w _) (by decide) zd_W_graze_60 (fun H locs hW hS => ?_)
          rw [eS8] at hW
          refine lv_goto (tgt := 67) C.1 C.2.1 zd_W_graze_61 (by decide) ?_
          exact zw_W_graze_67 C hr hlk hK hSt hap r0 hr0 q2 hq2 (zf_W_graze_12 r0 q2 n) (ih) (x1) (x2) (x3) S8 nx1 nx2 nx3 hf _ _ _ hW hS (lv_sub hl [0, 1, 2, 3] rfl)
      · rw [if_neg c5] at hf
        refine lv_aload_n C.1 C.2.1 zd_W_graze_29 rfl (lv_at hl 0 rfl) ?_
        refine lv_dup C.1 C.2.1 zd_W_graze_30 rfl ?_
        refine zg_W_grass (r := r0) C hK hW (zvd_5 hr0 (by decide)) zk_1305 zd_W_graze_31 ?_
        refine zr_iconst C zd_W_graze_34 ?_
        refine zr_isub C zd_W_graze_35 ?_
        obtain ⟨S9, eS9, hf⟩ := zlt_some hf
        refine zp_W_grass (r := r0) C hK hap hW hS (zvd_5 hr0 (by decide)) zk_1305 (zn_w _) zd_W_graze_36 (fun H locs hW hS => ?_)
        rw [eS9] at hW
        refine lv_goto (tgt := 67) C.1 C.2.1 zd_W_graze_39 (by decide) ?_
        exact zw_W_graze_67 C hr hlk hK hSt hap r0 hr0 q2 hq2 (zf_W_graze_12 r0 q2 n) (ih) (x1) (x2) (x3) S9 nx1 nx2 nx3 hf _ _ _ hW hS (lv_sub hl [0, 1, 2, 3] rfl)

def zf_W_graze_2 (r0 : Int) : Nat → Int → Sg → Option (Int × Sg)
  | 0, _, _ => none
  | n + 1, x1, S =>
    if 12 ≤ x1 then (some (0, S)) else (zf_W_graze_12 r0 (zf_W_graze_2 r0 n) 4096 (x1) (0) (0) S)
set_option maxHeartbeats 4000000 in
set_option maxRecDepth 100000 in
theorem zw_W_graze_2 {p : Program} {l : Launch} {e : Env} {s : State} {m : MethodId} {args : Array Value} {below : List Frame} {meth : Method} {c : Code} {B : zB} (C : CallFix p m c zb_W_graze 4 s args zT "IslandOfficeModel$World") (hr : meth.sig.returnType = none) (hlk : meth.locks = false) (hK : zK B s) (hSt : zSt B s) (hap : zAp B) (r0 : Int) (hr0 : 0 ≤ r0 ∧ r0 < 3) {res : Int} {S9 : Sg} : ∀ n : Nat, ∀ (x1 : Int) (S : Sg) (nx1 : zn x1), zf_W_graze_2 r0 n x1 S = some (res, S9) → ∀ (H : Heap) (locs : List Loc) (ls : Array Slot), zW B S H → va_S B.2.2.2 s.heap H locs → lv_has ls 4 [(0, .ref (B.2.1 5 (r0) (0))), (1, .int (zI (x1)))] → W p l e zm_W_graze s m args below meth c H locs 0 0 (MQ below (zQv B S9) args s 0 0 B.2.2.2) (F0 m 2 ls []) := by
  intro n
  induction n with
  | zero =>
    intro x1 S nx1 hf H locs ls hW hS hl
    cases hf
  | succ n ih =>
    intro x1 S nx1 hf H locs ls hW hS hl
    rw [zf_W_graze_2] at hf
    refine lv_iload_n C.1 C.2.1 zd_W_graze_2 rfl (lv_at hl 1 rfl) ?_
    refine zr_bipush C zd_W_graze_3 (by decide) ?_
    refine zr_icmp_ge (tgt := 89) C nx1 (znb rfl) zd_W_graze_5 (by decide) (fun c1 => ?_) (fun c1 => ?_)
    · rw [if_pos c1] at hf
      cases hf
      exact zre_v C hr hlk hK hW hS zd_W_graze_89
    · rw [if_neg c1] at hf
      refine zr_iconst C zd_W_graze_8 ?_
      refine lv_istore_n (lv' := [(2, .int (zI (0))), (0, .ref (B.2.1 5 (r0) (0))), (1, .int (zI (x1)))]) C.1 C.2.1 zd_W_graze_9 rfl hl (by decide) rfl (fun ls hl => ?_)
      refine zr_iconst C zd_W_graze_10 ?_
      refine lv_istore_n (lv' := [(3, .int (zI (0))), (2, .int (zI (0))), (0, .ref (B.2.1 5 (r0) (0))), (1, .int (zI (x1)))]) C.1 C.2.1 zd_W_graze_11 rfl hl (by decide) rfl (fun ls hl => ?_)
      exact zw_W_graze_12 C hr hlk hK hSt hap r0 hr0 (zf_W_graze_2 r0 n) (ih) 4096 (x1) (0) (0) S nx1 (znb rfl) (znb rfl) hf _ _ _ hW hS (lv_sub hl [2, 3, 1, 0] rfl)

def zf_W_graze (r0 : Int) (S : Sg) : Option (Int × Sg) :=
    zf_W_graze_2 r0 4096 (0) S
set_option maxHeartbeats 4000000 in
set_option maxRecDepth 100000 in
theorem zw_W_graze {p : Program} {l : Launch} {e : Env} {s : State} {m : MethodId} {args : Array Value} {below : List Frame} {meth : Method} {c : Code} {B : zB} (C : CallFix p m c zb_W_graze 4 s args zT "IslandOfficeModel$World") (hr : meth.sig.returnType = none) (hlk : meth.locks = false) (hK : zK B s) (hSt : zSt B s) (hap : zAp B) (r0 : Int) (hr0 : 0 ≤ r0 ∧ r0 < 3) {res : Int} {S9 : Sg} : ∀  (S : Sg) , zf_W_graze r0  S = some (res, S9) → ∀ (H : Heap) (locs : List Loc) (ls : Array Slot), zW B S H → va_S B.2.2.2 s.heap H locs → lv_has ls 4 [(0, .ref (B.2.1 5 (r0) (0)))] → W p l e zm_W_graze s m args below meth c H locs 0 0 (MQ below (zQv B S9) args s 0 0 B.2.2.2) (F0 m 0 ls []) := by
  intro S hf H locs ls hW hS hl
  unfold zf_W_graze at hf
  refine zr_iconst C zd_W_graze_0 ?_
  refine lv_istore_n (lv' := [(1, .int (zI (0))), (0, .ref (B.2.1 5 (r0) (0)))]) C.1 C.2.1 zd_W_graze_1 rfl hl (by decide) rfl (fun ls hl => ?_)
  exact zw_W_graze_2 C hr hlk hK hSt hap r0 hr0 4096 (0) S (znb rfl) hf _ _ _ hW hS (lv_sub hl [1, 0] rfl)

theorem zc_W_graze {l : Launch} {B : zB} (hap : zAp B) (r0 : Int) (hr0 : 0 ≤ r0 ∧ r0 < 3) (S : Sg) {res : Int} {S9 : Sg} (hf : zf_W_graze r0 S = some (res, S9)) : Met l zy_W_graze (Cond.code zy_W_graze zb_W_graze 4 (none) :: zT) zm_W_graze (zP B S [.ref (B.2.1 5 (r0) (0))]) (zQv B S9) 0 0 B.2.2.2 :=
  zmet (by decide) (Nat.le_of_ble_eq_true rfl) (fun p e s m args below meth c C hr hlk hK hSt hW ls hl => zw_W_graze C hr hlk hK hSt hap r0 hr0  S  hf _ _ _ hW va_S.rf hl)
/-! IslandOfficeModel$World.anyFilled(I)Z -/
abbrev zy_W_anyFilled : MethodName := ⟨"IslandOfficeModel$World", "anyFilled", "(I)Z"⟩
abbrev zb_W_anyFilled : ByteArray := prog_15_method_35_code
abbrev zm_W_anyFilled : Room := { frames := 0, cells := 0, slots := 0, locals := 0 }
theorem zq_W_anyFilled : zMy zy_W_anyFilled zb_W_anyFilled 3 (some .boolean) 1 := ⟨zk_1949, zk_1948, zs_86, zk_15, by decide, by decide, by decide +kernel⟩
theorem zd_W_anyFilled_0 : decode zb_W_anyFilled 0 = .ok (.iconst 0, 1) := by decide +kernel
theorem zd_W_anyFilled_1 : decode zb_W_anyFilled 1 = .ok (.istore_n 2, 1) := by decide +kernel
theorem zd_W_anyFilled_2 : decode zb_W_anyFilled 2 = .ok (.iload_n 2, 1) := by decide +kernel
theorem zd_W_anyFilled_3 : decode zb_W_anyFilled 3 = .ok (.aload_n 0, 1) := by decide +kernel
theorem zd_W_anyFilled_4 : decode zb_W_anyFilled 4 = .ok (.getfield 168, 3) := by decide +kernel
theorem zd_W_anyFilled_7 : decode zb_W_anyFilled 7 = .ok (.if_icmp .ge 30, 3) := by decide +kernel
theorem zd_W_anyFilled_10 : decode zb_W_anyFilled 10 = .ok (.aload_n 0, 1) := by decide +kernel
theorem zd_W_anyFilled_11 : decode zb_W_anyFilled 11 = .ok (.getfield 142, 3) := by decide +kernel
theorem zd_W_anyFilled_14 : decode zb_W_anyFilled 14 = .ok (.iload_n 2, 1) := by decide +kernel
theorem zd_W_anyFilled_15 : decode zb_W_anyFilled 15 = .ok (.baload, 1) := by decide +kernel
theorem zd_W_anyFilled_16 : decode zb_W_anyFilled 16 = .ok (.ifCond .eq 15, 3) := by decide +kernel
theorem zd_W_anyFilled_19 : decode zb_W_anyFilled 19 = .ok (.aload_n 0, 1) := by decide +kernel
theorem zd_W_anyFilled_20 : decode zb_W_anyFilled 20 = .ok (.getfield 87, 3) := by decide +kernel
theorem zd_W_anyFilled_23 : decode zb_W_anyFilled 23 = .ok (.iload_n 2, 1) := by decide +kernel
theorem zd_W_anyFilled_24 : decode zb_W_anyFilled 24 = .ok (.iaload, 1) := by decide +kernel
theorem zd_W_anyFilled_25 : decode zb_W_anyFilled 25 = .ok (.iload_n 1, 1) := by decide +kernel
theorem zd_W_anyFilled_26 : decode zb_W_anyFilled 26 = .ok (.if_icmp .ne 5, 3) := by decide +kernel
theorem zd_W_anyFilled_29 : decode zb_W_anyFilled 29 = .ok (.iconst 1, 1) := by decide +kernel
theorem zd_W_anyFilled_30 : decode zb_W_anyFilled 30 = .ok (.ireturn, 1) := by decide +kernel
theorem zd_W_anyFilled_31 : decode zb_W_anyFilled 31 = .ok (.iinc 2 1, 3) := by decide +kernel
theorem zd_W_anyFilled_34 : decode zb_W_anyFilled 34 = .ok (.goto (-32), 3) := by decide +kernel
theorem zd_W_anyFilled_37 : decode zb_W_anyFilled 37 = .ok (.iconst 0, 1) := by decide +kernel
theorem zd_W_anyFilled_38 : decode zb_W_anyFilled 38 = .ok (.ireturn, 1) := by decide +kernel

def zf_W_anyFilled_31 (r0 : Int) (q2 : Int → Int → Sg → Option (Int × Sg)) (x1 : Int) (x2 : Int) (S : Sg) : Option (Int × Sg) :=
    zlt (zw (x2 + 1)) fun v1 => q2 (x1) (v1) S
set_option maxHeartbeats 4000000 in
set_option maxRecDepth 100000 in
theorem zw_W_anyFilled_31 {p : Program} {l : Launch} {e : Env} {s : State} {m : MethodId} {args : Array Value} {below : List Frame} {meth : Method} {c : Code} {B : zB} (C : CallFix p m c zb_W_anyFilled 3 s args zT "IslandOfficeModel$World") (hr : meth.sig.returnType = some .boolean) (hlk : meth.locks = false) (hK : zK B s) (hSt : zSt B s) (hap : zAp B) (r0 : Int) (hr0 : 0 ≤ r0 ∧ r0 < 3) {res : Int} {S9 : Sg} (q2 : Int → Int → Sg → Option (Int × Sg)) (hq2 : ∀ (x1 : Int) (x2 : Int) (S : Sg) (nx1 : zn x1) (nx2 : zn x2), q2 x1 x2 S = some (res, S9) → ∀ (H : Heap) (locs : List Loc) (ls : Array Slot), zW B S H → va_S B.2.2.2 s.heap H locs → lv_has ls 3 [(0, .ref (B.2.1 5 (r0) (0))), (1, .int (zI (x1))), (2, .int (zI (x2)))] → W p l e zm_W_anyFilled s m args below meth c H locs 0 0 (MQ below (zQi B res S9) args s 0 0 B.2.2.2) (F0 m 2 ls [])) : ∀ (x1 : Int) (x2 : Int) (S : Sg) (nx1 : zn x1) (nx2 : zn x2), zf_W_anyFilled_31 r0 q2 x1 x2 S = some (res, S9) → ∀ (H : Heap) (locs : List Loc) (ls : Array Slot), zW B S H → va_S B.2.2.2 s.heap H locs → lv_has ls 3 [(0, .ref (B.2.1 5 (r0) (0))), (1, .int (zI (x1))), (2, .int (zI (x2)))] → W p l e zm_W_anyFilled s m args below meth c H locs 0 0 (MQ below (zQi B res S9) args s 0 0 B.2.2.2) (F0 m 31 ls []) := by
  intro x1 x2 S nx1 nx2 hf H locs ls hW hS hl
  unfold zf_W_anyFilled_31 at hf
  obtain ⟨v1, ev1, hf⟩ := zlt_some hf
  have nv1 : zn v1 := by rw [← ev1]; exact zn_w _
  refine lv_iinc (v := zI v1) (lv' := [(2, .int (zI (v1))), (0, .ref (B.2.1 5 (r0) (0))), (1, .int (zI (x1)))]) C.1 C.2.1 zd_W_anyFilled_31 hl (k := 2) rfl (by rw [← ev1, ← zI_add]; rfl) (by decide) rfl (fun ls hl => ?_)
  refine lv_goto (tgt := 2) C.1 C.2.1 zd_W_anyFilled_34 (by decide) ?_
  exact hq2 (x1) (v1) S nx1 nv1 hf _ _ _ hW hS (lv_sub hl [1, 2, 0] rfl)

def zf_W_anyFilled_2 (r0 : Int) : Nat → Int → Int → Sg → Option (Int × Sg)
  | 0, _, _, _ => none
  | n + 1, x1, x2, S =>
    if (S 5 r0 0 25) ≤ x2 then (some (0, S)) else (zck (0 ≤ x2 ∧ x2 < 8) <| if (S 5 r0 37 x2) = 0 then (zf_W_anyFilled_31 r0 (zf_W_anyFilled_2 r0 n) (x1) (x2) S) else (if (S 5 r0 23 x2) = x1 then (some (1, S)) else (zf_W_anyFilled_31 r0 (zf_W_anyFilled_2 r0 n) (x1) (x2) S)))
set_option maxHeartbeats 4000000 in
set_option maxRecDepth 100000 in
theorem zw_W_anyFilled_2 {p : Program} {l : Launch} {e : Env} {s : State} {m : MethodId} {args : Array Value} {below : List Frame} {meth : Method} {c : Code} {B : zB} (C : CallFix p m c zb_W_anyFilled 3 s args zT "IslandOfficeModel$World") (hr : meth.sig.returnType = some .boolean) (hlk : meth.locks = false) (hK : zK B s) (hSt : zSt B s) (hap : zAp B) (r0 : Int) (hr0 : 0 ≤ r0 ∧ r0 < 3) {res : Int} {S9 : Sg} : ∀ n : Nat, ∀ (x1 : Int) (x2 : Int) (S : Sg) (nx1 : zn x1) (nx2 : zn x2), zf_W_anyFilled_2 r0 n x1 x2 S = some (res, S9) → ∀ (H : Heap) (locs : List Loc) (ls : Array Slot), zW B S H → va_S B.2.2.2 s.heap H locs → lv_has ls 3 [(0, .ref (B.2.1 5 (r0) (0))), (1, .int (zI (x1))), (2, .int (zI (x2)))] → W p l e zm_W_anyFilled s m args below meth c H locs 0 0 (MQ below (zQi B res S9) args s 0 0 B.2.2.2) (F0 m 2 ls []) := by
  intro n
  induction n with
  | zero =>
    intro x1 x2 S nx1 nx2 hf H locs ls hW hS hl
    cases hf
  | succ n ih =>
    intro x1 x2 S nx1 nx2 hf H locs ls hW hS hl
    rw [zf_W_anyFilled_2] at hf
    refine lv_iload_n C.1 C.2.1 zd_W_anyFilled_2 rfl (lv_at hl 2 rfl) ?_
    refine lv_aload_n C.1 C.2.1 zd_W_anyFilled_3 rfl (lv_at hl 0 rfl) ?_
    refine zg_W_posts (r := r0) C hK hW (zvd_5 hr0 (by decide)) zk_1325 zd_W_anyFilled_4 ?_
    refine zr_icmp_ge (tgt := 37) C nx2 (zWn hW _ _ _ _ rfl) zd_W_anyFilled_7 (by decide) (fun c1 => ?_) (fun c1 => ?_)
    · rw [if_pos c1] at hf
      refine zr_iconst C zd_W_anyFilled_37 ?_
      cases hf
      exact zre_z C hr hlk hK hW hS (znb rfl) (zb01 (by decide)) zd_W_anyFilled_38
    · rw [if_neg c1] at hf
      refine lv_aload_n C.1 C.2.1 zd_W_anyFilled_10 rfl (lv_at hl 0 rfl) ?_
      refine zg_W_isFilled (r := r0) C hK hW (zvd_5 hr0 (by decide)) zk_1377 zd_W_anyFilled_11 ?_
      refine lv_iload_n C.1 C.2.1 zd_W_anyFilled_14 rfl (lv_at hl 2 rfl) ?_
      obtain ⟨h2, hf⟩ := zck_some hf
      refine zzald C hK hW (zvd_5 hr0 (by decide)) (fun f => ze_5_37 B f (r0)) (by decide) h2 zd_W_anyFilled_15 ?_
      refine zr_if_eq (tgt := 31) C (zWn hW _ _ _ _ rfl) zd_W_anyFilled_16 (by decide) (fun c3 => ?_) (fun c3 => ?_)
      · rw [if_pos c3] at hf
        exact zw_W_anyFilled_31 C hr hlk hK hSt hap r0 hr0 (zf_W_anyFilled_2 r0 n) (ih) (x1) (x2) S nx1 nx2 hf _ _ _ hW hS (lv_sub hl [0, 1, 2] rfl)
      · rw [if_neg c3] at hf
        refine lv_aload_n C.1 C.2.1 zd_W_anyFilled_19 rfl (lv_at hl 0 rfl) ?_
        refine zg_W_postSort (r := r0) C hK hW (zvd_5 hr0 (by decide)) zk_1331 zd_W_anyFilled_20 ?_
        refine lv_iload_n C.1 C.2.1 zd_W_anyFilled_23 rfl (lv_at hl 2 rfl) ?_
        refine ziald C hK hW (zvd_5 hr0 (by decide)) (fun f => ze_5_23 B f (r0)) (by decide) h2 zd_W_anyFilled_24 ?_
        refine lv_iload_n C.1 C.2.1 zd_W_anyFilled_25 rfl (lv_at hl 1 rfl) ?_
        refine zr_icmp_ne (tgt := 31) C (zWn hW _ _ _ _ rfl) nx1 zd_W_anyFilled_26 (by decide) (fun c4 => ?_) (fun c4 => ?_)
        · rw [if_neg c4] at hf
          exact zw_W_anyFilled_31 C hr hlk hK hSt hap r0 hr0 (zf_W_anyFilled_2 r0 n) (ih) (x1) (x2) S nx1 nx2 hf _ _ _ hW hS (lv_sub hl [0, 1, 2] rfl)
        · rw [if_pos c4] at hf
          refine zr_iconst C zd_W_anyFilled_29 ?_
          cases hf
          exact zre_z C hr hlk hK hW hS (znb rfl) (zb01 (by decide)) zd_W_anyFilled_30

def zf_W_anyFilled (r0 : Int) (x1 : Int) (S : Sg) : Option (Int × Sg) :=
    zf_W_anyFilled_2 r0 4096 (x1) (0) S
set_option maxHeartbeats 4000000 in
set_option maxRecDepth 100000 in
theorem zw_W_anyFilled {p : Program} {l : Launch} {e : Env} {s : State} {m : MethodId} {args : Array Value} {below : List Frame} {meth : Method} {c : Code} {B : zB} (C : CallFix p m c zb_W_anyFilled 3 s args zT "IslandOfficeModel$World") (hr : meth.sig.returnType = some .boolean) (hlk : meth.locks = false) (hK : zK B s) (hSt : zSt B s) (hap : zAp B) (r0 : Int) (hr0 : 0 ≤ r0 ∧ r0 < 3) {res : Int} {S9 : Sg} : ∀ (x1 : Int) (S : Sg) (nx1 : zn x1), zf_W_anyFilled r0 x1 S = some (res, S9) → ∀ (H : Heap) (locs : List Loc) (ls : Array Slot), zW B S H → va_S B.2.2.2 s.heap H locs → lv_has ls 3 [(0, .ref (B.2.1 5 (r0) (0))), (1, .int (zI (x1)))] → W p l e zm_W_anyFilled s m args below meth c H locs 0 0 (MQ below (zQi B res S9) args s 0 0 B.2.2.2) (F0 m 0 ls []) := by
  intro x1 S nx1 hf H locs ls hW hS hl
  unfold zf_W_anyFilled at hf
  refine zr_iconst C zd_W_anyFilled_0 ?_
  refine lv_istore_n (lv' := [(2, .int (zI (0))), (0, .ref (B.2.1 5 (r0) (0))), (1, .int (zI (x1)))]) C.1 C.2.1 zd_W_anyFilled_1 rfl hl (by decide) rfl (fun ls hl => ?_)
  exact zw_W_anyFilled_2 C hr hlk hK hSt hap r0 hr0 4096 (x1) (0) S nx1 (znb rfl) hf _ _ _ hW hS (lv_sub hl [1, 2, 0] rfl)

theorem zc_W_anyFilled {l : Launch} {B : zB} (hap : zAp B) (r0 : Int) (hr0 : 0 ≤ r0 ∧ r0 < 3) (x1 : Int) (S : Sg) (nx1 : zn x1) {res : Int} {S9 : Sg} (hf : zf_W_anyFilled r0 x1 S = some (res, S9)) : Met l zy_W_anyFilled (Cond.code zy_W_anyFilled zb_W_anyFilled 3 (some .boolean) :: zT) zm_W_anyFilled (zP B S [.ref (B.2.1 5 (r0) (0)), .int (zI (x1))]) (zQi B res S9) 0 0 B.2.2.2 :=
  zmet (by decide) (Nat.le_of_ble_eq_true rfl) (fun p e s m args below meth c C hr hlk hK hSt hW ls hl => zw_W_anyFilled C hr hlk hK hSt hap r0 hr0 x1 S nx1 hf _ _ _ hW va_S.rf hl)
/-! IslandOfficeModel$World.isMother(I)Z -/
abbrev zy_W_isMother : MethodName := ⟨"IslandOfficeModel$World", "isMother", "(I)Z"⟩
abbrev zb_W_isMother : ByteArray := prog_15_method_46_code
abbrev zm_W_isMother : Room := { frames := 2, cells := 0, slots := 0, locals := 42 }
theorem zq_W_isMother : zMy zy_W_isMother zb_W_isMother 3 (some .boolean) 1 := ⟨zk_1953, zk_1952, zs_87, zk_15, by decide, by decide, by decide +kernel⟩
theorem zd_W_isMother_0 : decode zb_W_isMother 0 = .ok (.iconst 0, 1) := by decide +kernel
theorem zd_W_isMother_1 : decode zb_W_isMother 1 = .ok (.istore_n 2, 1) := by decide +kernel
theorem zd_W_isMother_2 : decode zb_W_isMother 2 = .ok (.iload_n 2, 1) := by decide +kernel
theorem zd_W_isMother_3 : decode zb_W_isMother 3 = .ok (.aload_n 0, 1) := by decide +kernel
theorem zd_W_isMother_4 : decode zb_W_isMother 4 = .ok (.getfield 158, 3) := by decide +kernel
theorem zd_W_isMother_7 : decode zb_W_isMother 7 = .ok (.if_icmp .ge 30, 3) := by decide +kernel
theorem zd_W_isMother_10 : decode zb_W_isMother 10 = .ok (.aload_n 0, 1) := by decide +kernel
theorem zd_W_isMother_11 : decode zb_W_isMother 11 = .ok (.getfield 18, 3) := by decide +kernel
theorem zd_W_isMother_14 : decode zb_W_isMother 14 = .ok (.iload_n 2, 1) := by decide +kernel
theorem zd_W_isMother_15 : decode zb_W_isMother 15 = .ok (.iaload, 1) := by decide +kernel
theorem zd_W_isMother_16 : decode zb_W_isMother 16 = .ok (.iload_n 1, 1) := by decide +kernel
theorem zd_W_isMother_17 : decode zb_W_isMother 17 = .ok (.if_icmp .ne 14, 3) := by decide +kernel
theorem zd_W_isMother_20 : decode zb_W_isMother 20 = .ok (.aload_n 0, 1) := by decide +kernel
theorem zd_W_isMother_21 : decode zb_W_isMother 21 = .ok (.iload_n 2, 1) := by decide +kernel
theorem zd_W_isMother_22 : decode zb_W_isMother 22 = .ok (.invokevirtual 193, 3) := by decide +kernel
theorem zd_W_isMother_25 : decode zb_W_isMother 25 = .ok (.iconst 1, 1) := by decide +kernel
theorem zd_W_isMother_26 : decode zb_W_isMother 26 = .ok (.if_icmp .ne 5, 3) := by decide +kernel
theorem zd_W_isMother_29 : decode zb_W_isMother 29 = .ok (.iconst 1, 1) := by decide +kernel
theorem zd_W_isMother_30 : decode zb_W_isMother 30 = .ok (.ireturn, 1) := by decide +kernel
theorem zd_W_isMother_31 : decode zb_W_isMother 31 = .ok (.iinc 2 1, 3) := by decide +kernel
theorem zd_W_isMother_34 : decode zb_W_isMother 34 = .ok (.goto (-32), 3) := by decide +kernel
theorem zd_W_isMother_37 : decode zb_W_isMother 37 = .ok (.iconst 0, 1) := by decide +kernel
theorem zd_W_isMother_38 : decode zb_W_isMother 38 = .ok (.ireturn, 1) := by decide +kernel

def zf_W_isMother_31 (r0 : Int) (q2 : Int → Int → Sg → Option (Int × Sg)) (x1 : Int) (x2 : Int) (S : Sg) : Option (Int × Sg) :=
    zlt (zw (x2 + 1)) fun v1 => q2 (x1) (v1) S
set_option maxHeartbeats 4000000 in
set_option maxRecDepth 100000 in
theorem zw_W_isMother_31 {p : Program} {l : Launch} {e : Env} {s : State} {m : MethodId} {args : Array Value} {below : List Frame} {meth : Method} {c : Code} {B : zB} (C : CallFix p m c zb_W_isMother 3 s args zT "IslandOfficeModel$World") (hr : meth.sig.returnType = some .boolean) (hlk : meth.locks = false) (hK : zK B s) (hSt : zSt B s) (hap : zAp B) (r0 : Int) (hr0 : 0 ≤ r0 ∧ r0 < 3) {res : Int} {S9 : Sg} (q2 : Int → Int → Sg → Option (Int × Sg)) (hq2 : ∀ (x1 : Int) (x2 : Int) (S : Sg) (nx1 : zn x1) (nx2 : zn x2), q2 x1 x2 S = some (res, S9) → ∀ (H : Heap) (locs : List Loc) (ls : Array Slot), zW B S H → va_S B.2.2.2 s.heap H locs → lv_has ls 3 [(0, .ref (B.2.1 5 (r0) (0))), (1, .int (zI (x1))), (2, .int (zI (x2)))] → W p l e zm_W_isMother s m args below meth c H locs 0 0 (MQ below (zQi B res S9) args s 0 0 B.2.2.2) (F0 m 2 ls [])) : ∀ (x1 : Int) (x2 : Int) (S : Sg) (nx1 : zn x1) (nx2 : zn x2), zf_W_isMother_31 r0 q2 x1 x2 S = some (res, S9) → ∀ (H : Heap) (locs : List Loc) (ls : Array Slot), zW B S H → va_S B.2.2.2 s.heap H locs → lv_has ls 3 [(0, .ref (B.2.1 5 (r0) (0))), (1, .int (zI (x1))), (2, .int (zI (x2)))] → W p l e zm_W_isMother s m args below meth c H locs 0 0 (MQ below (zQi B res S9) args s 0 0 B.2.2.2) (F0 m 31 ls []) := by
  intro x1 x2 S nx1 nx2 hf H locs ls hW hS hl
  unfold zf_W_isMother_31 at hf
  obtain ⟨v1, ev1, hf⟩ := zlt_some hf
  have nv1 : zn v1 := by rw [← ev1]; exact zn_w _
  refine lv_iinc (v := zI v1) (lv' := [(2, .int (zI (v1))), (0, .ref (B.2.1 5 (r0) (0))), (1, .int (zI (x1)))]) C.1 C.2.1 zd_W_isMother_31 hl (k := 2) rfl (by rw [← ev1, ← zI_add]; rfl) (by decide) rfl (fun ls hl => ?_)
  refine lv_goto (tgt := 2) C.1 C.2.1 zd_W_isMother_34 (by decide) ?_
  exact hq2 (x1) (v1) S nx1 nv1 hf _ _ _ hW hS (lv_sub hl [1, 2, 0] rfl)

def zf_W_isMother_2 (r0 : Int) : Nat → Int → Int → Sg → Option (Int × Sg)
  | 0, _, _, _ => none
  | n + 1, x1, x2, S =>
    if (S 5 r0 0 1) ≤ x2 then (some (0, S)) else (zck (0 ≤ x2 ∧ x2 < 40) <| if (S 5 r0 3 x2) = x1 then (zbd (zf_W_kind (r0) x2 S) fun a4 S5 => if a4 = 1 then (some (1, S5)) else (zf_W_isMother_31 r0 (zf_W_isMother_2 r0 n) (x1) (x2) S5)) else (zf_W_isMother_31 r0 (zf_W_isMother_2 r0 n) (x1) (x2) S))
set_option maxHeartbeats 4000000 in
set_option maxRecDepth 100000 in
theorem zw_W_isMother_2 {p : Program} {l : Launch} {e : Env} {s : State} {m : MethodId} {args : Array Value} {below : List Frame} {meth : Method} {c : Code} {B : zB} (C : CallFix p m c zb_W_isMother 3 s args zT "IslandOfficeModel$World") (hr : meth.sig.returnType = some .boolean) (hlk : meth.locks = false) (hK : zK B s) (hSt : zSt B s) (hap : zAp B) (r0 : Int) (hr0 : 0 ≤ r0 ∧ r0 < 3) {res : Int} {S9 : Sg} : ∀ n : Nat, ∀ (x1 : Int) (x2 : Int) (S : Sg) (nx1 : zn x1) (nx2 : zn x2), zf_W_isMother_2 r0 n x1 x2 S = some (res, S9) → ∀ (H : Heap) (locs : List Loc) (ls : Array Slot), zW B S H → va_S B.2.2.2 s.heap H locs → lv_has ls 3 [(0, .ref (B.2.1 5 (r0) (0))), (1, .int (zI (x1))), (2, .int (zI (x2)))] → W p l e zm_W_isMother s m args below meth c H locs 0 0 (MQ below (zQi B res S9) args s 0 0 B.2.2.2) (F0 m 2 ls []) := by
  intro n
  induction n with
  | zero =>
    intro x1 x2 S nx1 nx2 hf H locs ls hW hS hl
    cases hf
  | succ n ih =>
    intro x1 x2 S nx1 nx2 hf H locs ls hW hS hl
    rw [zf_W_isMother_2] at hf
    refine lv_iload_n C.1 C.2.1 zd_W_isMother_2 rfl (lv_at hl 2 rfl) ?_
    refine lv_aload_n C.1 C.2.1 zd_W_isMother_3 rfl (lv_at hl 0 rfl) ?_
    refine zg_W_people (r := r0) C hK hW (zvd_5 hr0 (by decide)) zk_1277 zd_W_isMother_4 ?_
    refine zr_icmp_ge (tgt := 37) C nx2 (zWn hW _ _ _ _ rfl) zd_W_isMother_7 (by decide) (fun c1 => ?_) (fun c1 => ?_)
    · rw [if_pos c1] at hf
      refine zr_iconst C zd_W_isMother_37 ?_
      cases hf
      exact zre_z C hr hlk hK hW hS (znb rfl) (zb01 (by decide)) zd_W_isMother_38
    · rw [if_neg c1] at hf
      refine lv_aload_n C.1 C.2.1 zd_W_isMother_10 rfl (lv_at hl 0 rfl) ?_
      refine zg_W_mother (r := r0) C hK hW (zvd_5 hr0 (by decide)) zk_1283 zd_W_isMother_11 ?_
      refine lv_iload_n C.1 C.2.1 zd_W_isMother_14 rfl (lv_at hl 2 rfl) ?_
      obtain ⟨h2, hf⟩ := zck_some hf
      refine ziald C hK hW (zvd_5 hr0 (by decide)) (fun f => ze_5_3 B f (r0)) (by decide) h2 zd_W_isMother_15 ?_
      refine lv_iload_n C.1 C.2.1 zd_W_isMother_16 rfl (lv_at hl 1 rfl) ?_
      refine zr_icmp_ne (tgt := 31) C (zWn hW _ _ _ _ rfl) nx1 zd_W_isMother_17 (by decide) (fun c3 => ?_) (fun c3 => ?_)
      · rw [if_neg c3] at hf
        exact zw_W_isMother_31 C hr hlk hK hSt hap r0 hr0 (zf_W_isMother_2 r0 n) (ih) (x1) (x2) S nx1 nx2 hf _ _ _ hW hS (lv_sub hl [0, 1, 2] rfl)
      · rw [if_pos c3] at hf
        refine lv_aload_n C.1 C.2.1 zd_W_isMother_20 rfl (lv_at hl 0 rfl) ?_
        refine lv_iload_n C.1 C.2.1 zd_W_isMother_21 rfl (lv_at hl 2 rfl) ?_
        obtain ⟨a4, S5, ea4, hf⟩ := zbd_some hf
        refine zcVi (As := [.int (zI (x2))]) (rest := []) C hK hSt hW hS (zc_W_kind hap (r0) hr0 x2 S nx2 ea4) zq_W_kind zk_1621 (zrecv hK hW (zvd_5 hr0 (by decide)) (ze_5_0 B _ (r0)) rfl) ⟨rfl, rfl, by decide, by decide⟩ ⟨Nat.zero_le _, Nat.zero_le _⟩ rfl hl.1 rfl (lv_room (Nat.le_of_ble_eq_true rfl)) zd_W_isMother_22 (fun na4 H locs hW hS => ?_)
        refine zr_iconst C zd_W_isMother_25 ?_
        refine zr_icmp_ne (tgt := 31) C na4 (znb rfl) zd_W_isMother_26 (by decide) (fun c6 => ?_) (fun c6 => ?_)
        · rw [if_neg c6] at hf
          exact zw_W_isMother_31 C hr hlk hK hSt hap r0 hr0 (zf_W_isMother_2 r0 n) (ih) (x1) (x2) S5 nx1 nx2 hf _ _ _ hW hS (lv_sub hl [0, 1, 2] rfl)
        · rw [if_pos c6] at hf
          refine zr_iconst C zd_W_isMother_29 ?_
          cases hf
          exact zre_z C hr hlk hK hW hS (znb rfl) (zb01 (by decide)) zd_W_isMother_30

def zf_W_isMother (r0 : Int) (x1 : Int) (S : Sg) : Option (Int × Sg) :=
    zf_W_isMother_2 r0 4096 (x1) (0) S
set_option maxHeartbeats 4000000 in
set_option maxRecDepth 100000 in
theorem zw_W_isMother {p : Program} {l : Launch} {e : Env} {s : State} {m : MethodId} {args : Array Value} {below : List Frame} {meth : Method} {c : Code} {B : zB} (C : CallFix p m c zb_W_isMother 3 s args zT "IslandOfficeModel$World") (hr : meth.sig.returnType = some .boolean) (hlk : meth.locks = false) (hK : zK B s) (hSt : zSt B s) (hap : zAp B) (r0 : Int) (hr0 : 0 ≤ r0 ∧ r0 < 3) {res : Int} {S9 : Sg} : ∀ (x1 : Int) (S : Sg) (nx1 : zn x1), zf_W_isMother r0 x1 S = some (res, S9) → ∀ (H : Heap) (locs : List Loc) (ls : Array Slot), zW B S H → va_S B.2.2.2 s.heap H locs → lv_has ls 3 [(0, .ref (B.2.1 5 (r0) (0))), (1, .int (zI (x1)))] → W p l e zm_W_isMother s m args below meth c H locs 0 0 (MQ below (zQi B res S9) args s 0 0 B.2.2.2) (F0 m 0 ls []) := by
  intro x1 S nx1 hf H locs ls hW hS hl
  unfold zf_W_isMother at hf
  refine zr_iconst C zd_W_isMother_0 ?_
  refine lv_istore_n (lv' := [(2, .int (zI (0))), (0, .ref (B.2.1 5 (r0) (0))), (1, .int (zI (x1)))]) C.1 C.2.1 zd_W_isMother_1 rfl hl (by decide) rfl (fun ls hl => ?_)
  exact zw_W_isMother_2 C hr hlk hK hSt hap r0 hr0 4096 (x1) (0) S nx1 (znb rfl) hf _ _ _ hW hS (lv_sub hl [1, 2, 0] rfl)

theorem zc_W_isMother {l : Launch} {B : zB} (hap : zAp B) (r0 : Int) (hr0 : 0 ≤ r0 ∧ r0 < 3) (x1 : Int) (S : Sg) (nx1 : zn x1) {res : Int} {S9 : Sg} (hf : zf_W_isMother r0 x1 S = some (res, S9)) : Met l zy_W_isMother (Cond.code zy_W_isMother zb_W_isMother 3 (some .boolean) :: zT) zm_W_isMother (zP B S [.ref (B.2.1 5 (r0) (0)), .int (zI (x1))]) (zQi B res S9) 0 0 B.2.2.2 :=
  zmet (by decide) (Nat.le_of_ble_eq_true rfl) (fun p e s m args below meth c C hr hlk hK hSt hW ls hl => zw_W_isMother C hr hlk hK hSt hap r0 hr0 x1 S nx1 hf _ _ _ hW va_S.rf hl)
/-! IslandOfficeModel$World.oldIn(I)Z -/
abbrev zy_W_oldIn : MethodName := ⟨"IslandOfficeModel$World", "oldIn", "(I)Z"⟩
abbrev zb_W_oldIn : ByteArray := prog_15_method_47_code
abbrev zm_W_oldIn : Room := { frames := 2, cells := 0, slots := 0, locals := 42 }
theorem zq_W_oldIn : zMy zy_W_oldIn zb_W_oldIn 3 (some .boolean) 1 := ⟨zk_1957, zk_1956, zs_88, zk_15, by decide, by decide, by decide +kernel⟩
theorem zd_W_oldIn_0 : decode zb_W_oldIn 0 = .ok (.iconst 0, 1) := by decide +kernel
theorem zd_W_oldIn_1 : decode zb_W_oldIn 1 = .ok (.istore_n 2, 1) := by decide +kernel
theorem zd_W_oldIn_2 : decode zb_W_oldIn 2 = .ok (.iload_n 2, 1) := by decide +kernel
theorem zd_W_oldIn_3 : decode zb_W_oldIn 3 = .ok (.aload_n 0, 1) := by decide +kernel
theorem zd_W_oldIn_4 : decode zb_W_oldIn 4 = .ok (.getfield 158, 3) := by decide +kernel
theorem zd_W_oldIn_7 : decode zb_W_oldIn 7 = .ok (.if_icmp .ge 30, 3) := by decide +kernel
theorem zd_W_oldIn_10 : decode zb_W_oldIn 10 = .ok (.aload_n 0, 1) := by decide +kernel
theorem zd_W_oldIn_11 : decode zb_W_oldIn 11 = .ok (.iload_n 2, 1) := by decide +kernel
theorem zd_W_oldIn_12 : decode zb_W_oldIn 12 = .ok (.invokevirtual 193, 3) := by decide +kernel
theorem zd_W_oldIn_15 : decode zb_W_oldIn 15 = .ok (.iconst 4, 1) := by decide +kernel
theorem zd_W_oldIn_16 : decode zb_W_oldIn 16 = .ok (.if_icmp .ne 15, 3) := by decide +kernel
theorem zd_W_oldIn_19 : decode zb_W_oldIn 19 = .ok (.aload_n 0, 1) := by decide +kernel
theorem zd_W_oldIn_20 : decode zb_W_oldIn 20 = .ok (.getfield 15, 3) := by decide +kernel
theorem zd_W_oldIn_23 : decode zb_W_oldIn 23 = .ok (.iload_n 2, 1) := by decide +kernel
theorem zd_W_oldIn_24 : decode zb_W_oldIn 24 = .ok (.iaload, 1) := by decide +kernel
theorem zd_W_oldIn_25 : decode zb_W_oldIn 25 = .ok (.iload_n 1, 1) := by decide +kernel
theorem zd_W_oldIn_26 : decode zb_W_oldIn 26 = .ok (.if_icmp .ne 5, 3) := by decide +kernel
theorem zd_W_oldIn_29 : decode zb_W_oldIn 29 = .ok (.iconst 1, 1) := by decide +kernel
theorem zd_W_oldIn_30 : decode zb_W_oldIn 30 = .ok (.ireturn, 1) := by decide +kernel
theorem zd_W_oldIn_31 : decode zb_W_oldIn 31 = .ok (.iinc 2 1, 3) := by decide +kernel
theorem zd_W_oldIn_34 : decode zb_W_oldIn 34 = .ok (.goto (-32), 3) := by decide +kernel
theorem zd_W_oldIn_37 : decode zb_W_oldIn 37 = .ok (.iconst 0, 1) := by decide +kernel
theorem zd_W_oldIn_38 : decode zb_W_oldIn 38 = .ok (.ireturn, 1) := by decide +kernel

def zf_W_oldIn_31 (r0 : Int) (q2 : Int → Int → Sg → Option (Int × Sg)) (x1 : Int) (x2 : Int) (S : Sg) : Option (Int × Sg) :=
    zlt (zw (x2 + 1)) fun v1 => q2 (x1) (v1) S
set_option maxHeartbeats 4000000 in
set_option maxRecDepth 100000 in
theorem zw_W_oldIn_31 {p : Program} {l : Launch} {e : Env} {s : State} {m : MethodId} {args : Array Value} {below : List Frame} {meth : Method} {c : Code} {B : zB} (C : CallFix p m c zb_W_oldIn 3 s args zT "IslandOfficeModel$World") (hr : meth.sig.returnType = some .boolean) (hlk : meth.locks = false) (hK : zK B s) (hSt : zSt B s) (hap : zAp B) (r0 : Int) (hr0 : 0 ≤ r0 ∧ r0 < 3) {res : Int} {S9 : Sg} (q2 : Int → Int → Sg → Option (Int × Sg)) (hq2 : ∀ (x1 : Int) (x2 : Int) (S : Sg) (nx1 : zn x1) (nx2 : zn x2), q2 x1 x2 S = some (res, S9) → ∀ (H : Heap) (locs : List Loc) (ls : Array Slot), zW B S H → va_S B.2.2.2 s.heap H locs → lv_has ls 3 [(0, .ref (B.2.1 5 (r0) (0))), (1, .int (zI (x1))), (2, .int (zI (x2)))] → W p l e zm_W_oldIn s m args below meth c H locs 0 0 (MQ below (zQi B res S9) args s 0 0 B.2.2.2) (F0 m 2 ls [])) : ∀ (x1 : Int) (x2 : Int) (S : Sg) (nx1 : zn x1) (nx2 : zn x2), zf_W_oldIn_31 r0 q2 x1 x2 S = some (res, S9) → ∀ (H : Heap) (locs : List Loc) (ls : Array Slot), zW B S H → va_S B.2.2.2 s.heap H locs → lv_has ls 3 [(0, .ref (B.2.1 5 (r0) (0))), (1, .int (zI (x1))), (2, .int (zI (x2)))] → W p l e zm_W_oldIn s m args below meth c H locs 0 0 (MQ below (zQi B res S9) args s 0 0 B.2.2.2) (F0 m 31 ls []) := by
  intro x1 x2 S nx1 nx2 hf H locs ls hW hS hl
  unfold zf_W_oldIn_31 at hf
  obtain ⟨v1, ev1, hf⟩ := zlt_some hf
  have nv1 : zn v1 := by rw [← ev1]; exact zn_w _
  refine lv_iinc (v := zI v1) (lv' := [(2, .int (zI (v1))), (0, .ref (B.2.1 5 (r0) (0))), (1, .int (zI (x1)))]) C.1 C.2.1 zd_W_oldIn_31 hl (k := 2) rfl (by rw [← ev1, ← zI_add]; rfl) (by decide) rfl (fun ls hl => ?_)
  refine lv_goto (tgt := 2) C.1 C.2.1 zd_W_oldIn_34 (by decide) ?_
  exact hq2 (x1) (v1) S nx1 nv1 hf _ _ _ hW hS (lv_sub hl [1, 2, 0] rfl)

def zf_W_oldIn_2 (r0 : Int) : Nat → Int → Int → Sg → Option (Int × Sg)
  | 0, _, _, _ => none
  | n + 1, x1, x2, S =>
    if (S 5 r0 0 1) ≤ x2 then (some (0, S)) else (zbd (zf_W_kind (r0) x2 S) fun a2 S3 => if a2 = 4 then (zck (0 ≤ x2 ∧ x2 < 40) <| if (S3 5 r0 2 x2) = x1 then (some (1, S3)) else (zf_W_oldIn_31 r0 (zf_W_oldIn_2 r0 n) (x1) (x2) S3)) else (zf_W_oldIn_31 r0 (zf_W_oldIn_2 r0 n) (x1) (x2) S3))
set_option maxHeartbeats 4000000 in
set_option maxRecDepth 100000 in
theorem zw_W_oldIn_2 {p : Program} {l : Launch} {e : Env} {s : State} {m : MethodId} {args : Array Value} {below : List Frame} {meth : Method} {c : Code} {B : zB} (C : CallFix p m c zb_W_oldIn 3 s args zT "IslandOfficeModel$World") (hr : meth.sig.returnType = some .boolean) (hlk : meth.locks = false) (hK : zK B s) (hSt : zSt B s) (hap : zAp B) (r0 : Int) (hr0 : 0 ≤ r0 ∧ r0 < 3) {res : Int} {S9 : Sg} : ∀ n : Nat, ∀ (x1 : Int) (x2 : Int) (S : Sg) (nx1 : zn x1) (nx2 : zn x2), zf_W_oldIn_2 r0 n x1 x2 S = some (res, S9) → ∀ (H : Heap) (locs : List Loc) (ls : Array Slot), zW B S H → va_S B.2.2.2 s.heap H locs → lv_has ls 3 [(0, .ref (B.2.1 5 (r0) (0))), (1, .int (zI (x1))), (2, .int (zI (x2)))] → W p l e zm_W_oldIn s m args below meth c H locs 0 0 (MQ below (zQi B res S9) args s 0 0 B.2.2.2) (F0 m 2 ls []) := by
  intro n
  induction n with
  | zero =>
    intro x1 x2 S nx1 nx2 hf H locs ls hW hS hl
    cases hf
  | succ n ih =>
    intro x1 x2 S nx1 nx2 hf H locs ls hW hS hl
    rw [zf_W_oldIn_2] at hf
    refine lv_iload_n C.1 C.2.1 zd_W_oldIn_2 rfl (lv_at hl 2 rfl) ?_
    refine lv_aload_n C.1 C.2.1 zd_W_oldIn_3 rfl (lv_at hl 0 rfl) ?_
    refine zg_W_people (r := r0) C hK hW (zvd_5 hr0 (by decide)) zk_1277 zd_W_oldIn_4 ?_
    refine zr_icmp_ge (tgt := 37) C nx2 (zWn hW _ _ _ _ rfl) zd_W_oldIn_7 (by decide) (fun c1 => ?_) (fun c1 => ?_)
    · rw [if_pos c1] at hf
      refine zr_iconst C zd_W_oldIn_37 ?_
      cases hf
      exact zre_z C hr hlk hK hW hS (znb rfl) (zb01 (by decide)) zd_W_oldIn_38
    · rw [if_neg c1] at hf
      refine lv_aload_n C.1 C.2.1 zd_W_oldIn_10 rfl (lv_at hl 0 rfl) ?_
      refine lv_iload_n C.1 C.2.1 zd_W_oldIn_11 rfl (lv_at hl 2 rfl) ?_
      obtain ⟨a2, S3, ea2, hf⟩ := zbd_some hf
      refine zcVi (As := [.int (zI (x2))]) (rest := []) C hK hSt hW hS (zc_W_kind hap (r0) hr0 x2 S nx2 ea2) zq_W_kind zk_1621 (zrecv hK hW (zvd_5 hr0 (by decide)) (ze_5_0 B _ (r0)) rfl) ⟨rfl, rfl, by decide, by decide⟩ ⟨Nat.zero_le _, Nat.zero_le _⟩ rfl hl.1 rfl (lv_room (Nat.le_of_ble_eq_true rfl)) zd_W_oldIn_12 (fun na2 H locs hW hS => ?_)
      refine zr_iconst C zd_W_oldIn_15 ?_
      refine zr_icmp_ne (tgt := 31) C na2 (znb rfl) zd_W_oldIn_16 (by decide) (fun c4 => ?_) (fun c4 => ?_)
      · rw [if_neg c4] at hf
        exact zw_W_oldIn_31 C hr hlk hK hSt hap r0 hr0 (zf_W_oldIn_2 r0 n) (ih) (x1) (x2) S3 nx1 nx2 hf _ _ _ hW hS (lv_sub hl [0, 1, 2] rfl)
      · rw [if_pos c4] at hf
        refine lv_aload_n C.1 C.2.1 zd_W_oldIn_19 rfl (lv_at hl 0 rfl) ?_
        refine zg_W_house (r := r0) C hK hW (zvd_5 hr0 (by decide)) zk_1281 zd_W_oldIn_20 ?_
        refine lv_iload_n C.1 C.2.1 zd_W_oldIn_23 rfl (lv_at hl 2 rfl) ?_
        obtain ⟨h5, hf⟩ := zck_some hf
        refine ziald C hK hW (zvd_5 hr0 (by decide)) (fun f => ze_5_2 B f (r0)) (by decide) h5 zd_W_oldIn_24 ?_
        refine lv_iload_n C.1 C.2.1 zd_W_oldIn_25 rfl (lv_at hl 1 rfl) ?_
        refine zr_icmp_ne (tgt := 31) C (zWn hW _ _ _ _ rfl) nx1 zd_W_oldIn_26 (by decide) (fun c6 => ?_) (fun c6 => ?_)
        · rw [if_neg c6] at hf
          exact zw_W_oldIn_31 C hr hlk hK hSt hap r0 hr0 (zf_W_oldIn_2 r0 n) (ih) (x1) (x2) S3 nx1 nx2 hf _ _ _ hW hS (lv_sub hl [0, 1, 2] rfl)
        · rw [if_pos c6] at hf
          refine zr_iconst C zd_W_oldIn_29 ?_
          cases hf
          exact zre_z C hr hlk hK hW hS (znb rfl) (zb01 (by decide)) zd_W_oldIn_30

def zf_W_oldIn (r0 : Int) (x1 : Int) (S : Sg) : Option (Int × Sg) :=
    zf_W_oldIn_2 r0 4096 (x1) (0) S
set_option maxHeartbeats 4000000 in
set_option maxRecDepth 100000 in
theorem zw_W_oldIn {p : Program} {l : Launch} {e : Env} {s : State} {m : MethodId} {args : Array Value} {below : List Frame} {meth : Method} {c : Code} {B : zB} (C : CallFix p m c zb_W_oldIn 3 s args zT "IslandOfficeModel$World") (hr : meth.sig.returnType = some .boolean) (hlk : meth.locks = false) (hK : zK B s) (hSt : zSt B s) (hap : zAp B) (r0 : Int) (hr0 : 0 ≤ r0 ∧ r0 < 3) {res : Int} {S9 : Sg} : ∀ (x1 : Int) (S : Sg) (nx1 : zn x1), zf_W_oldIn r0 x1 S = some (res, S9) → ∀ (H : Heap) (locs : List Loc) (ls : Array Slot), zW B S H → va_S B.2.2.2 s.heap H locs → lv_has ls 3 [(0, .ref (B.2.1 5 (r0) (0))), (1, .int (zI (x1)))] → W p l e zm_W_oldIn s m args below meth c H locs 0 0 (MQ below (zQi B res S9) args s 0 0 B.2.2.2) (F0 m 0 ls []) := by
  intro x1 S nx1 hf H locs ls hW hS hl
  unfold zf_W_oldIn at hf
  refine zr_iconst C zd_W_oldIn_0 ?_
  refine lv_istore_n (lv' := [(2, .int (zI (0))), (0, .ref (B.2.1 5 (r0) (0))), (1, .int (zI (x1)))]) C.1 C.2.1 zd_W_oldIn_1 rfl hl (by decide) rfl (fun ls hl => ?_)
  exact zw_W_oldIn_2 C hr hlk hK hSt hap r0 hr0 4096 (x1) (0) S nx1 (znb rfl) hf _ _ _ hW hS (lv_sub hl [1, 2, 0] rfl)

theorem zc_W_oldIn {l : Launch} {B : zB} (hap : zAp B) (r0 : Int) (hr0 : 0 ≤ r0 ∧ r0 < 3) (x1 : Int) (S : Sg) (nx1 : zn x1) {res : Int} {S9 : Sg} (hf : zf_W_oldIn r0 x1 S = some (res, S9)) : Met l zy_W_oldIn (Cond.code zy_W_oldIn zb_W_oldIn 3 (some .boolean) :: zT) zm_W_oldIn (zP B S [.ref (B.2.1 5 (r0) (0)), .int (zI (x1))]) (zQi B res S9) 0 0 B.2.2.2 :=
  zmet (by decide) (Nat.le_of_ble_eq_true rfl) (fun p e s m args below meth c C hr hlk hK hSt hW ls hl => zw_W_oldIn C hr hlk hK hSt hap r0 hr0 x1 S nx1 hf _ _ _ hW va_S.rf hl)
/-! IslandOfficeModel$World.grumble()V -/
abbrev zy_W_grumble : MethodName := ⟨"IslandOfficeModel$World", "grumble", "()V"⟩
abbrev zb_W_grumble : ByteArray := prog_15_method_48_code
abbrev zm_W_grumble : Room := { frames := 3, cells := 0, slots := 0, locals := 64 }
theorem zq_W_grumble : zMy zy_W_grumble zb_W_grumble 5 (none) 0 := ⟨zk_1945, zk_1944, zs_85, zk_15, by decide, by decide, by decide +kernel⟩
theorem zd_W_grumble_0 : decode zb_W_grumble 0 = .ok (.aload_n 0, 1) := by decide +kernel
theorem zd_W_grumble_1 : decode zb_W_grumble 1 = .ok (.iconst 1, 1) := by decide +kernel
theorem zd_W_grumble_2 : decode zb_W_grumble 2 = .ok (.invokevirtual 337, 3) := by decide +kernel
theorem zd_W_grumble_5 : decode zb_W_grumble 5 = .ok (.istore_n 1, 1) := by decide +kernel
theorem zd_W_grumble_6 : decode zb_W_grumble 6 = .ok (.aload_n 0, 1) := by decide +kernel
theorem zd_W_grumble_7 : decode zb_W_grumble 7 = .ok (.iconst 2, 1) := by decide +kernel
theorem zd_W_grumble_8 : decode zb_W_grumble 8 = .ok (.invokevirtual 337, 3) := by decide +kernel
theorem zd_W_grumble_11 : decode zb_W_grumble 11 = .ok (.istore_n 2, 1) := by decide +kernel
theorem zd_W_grumble_12 : decode zb_W_grumble 12 = .ok (.iconst 0, 1) := by decide +kernel
theorem zd_W_grumble_13 : decode zb_W_grumble 13 = .ok (.istore_n 3, 1) := by decide +kernel
theorem zd_W_grumble_14 : decode zb_W_grumble 14 = .ok (.iload_n 3, 1) := by decide +kernel
theorem zd_W_grumble_15 : decode zb_W_grumble 15 = .ok (.aload_n 0, 1) := by decide +kernel
theorem zd_W_grumble_16 : decode zb_W_grumble 16 = .ok (.getfield 158, 3) := by decide +kernel
theorem zd_W_grumble_19 : decode zb_W_grumble 19 = .ok (.if_icmp .ge 131, 3) := by decide +kernel
theorem zd_W_grumble_22 : decode zb_W_grumble 22 = .ok (.aload_n 0, 1) := by decide +kernel
theorem zd_W_grumble_23 : decode zb_W_grumble 23 = .ok (.iload_n 3, 1) := by decide +kernel
theorem zd_W_grumble_24 : decode zb_W_grumble 24 = .ok (.invokevirtual 203, 3) := by decide +kernel
theorem zd_W_grumble_27 : decode zb_W_grumble 27 = .ok (.ifCond .ne 6, 3) := by decide +kernel
theorem zd_W_grumble_30 : decode zb_W_grumble 30 = .ok (.goto 114, 3) := by decide +kernel
theorem zd_W_grumble_33 : decode zb_W_grumble 33 = .ok (.iconst 2, 1) := by decide +kernel
theorem zd_W_grumble_34 : decode zb_W_grumble 34 = .ok (.aload_n 0, 1) := by decide +kernel
theorem zd_W_grumble_35 : decode zb_W_grumble 35 = .ok (.getfield 36, 3) := by decide +kernel
theorem zd_W_grumble_38 : decode zb_W_grumble 38 = .ok (.iload_n 3, 1) := by decide +kernel
theorem zd_W_grumble_39 : decode zb_W_grumble 39 = .ok (.iaload, 1) := by decide +kernel
theorem zd_W_grumble_40 : decode zb_W_grumble 40 = .ok (.imul, 1) := by decide +kernel
theorem zd_W_grumble_41 : decode zb_W_grumble 41 = .ok (.aload_n 0, 1) := by decide +kernel
theorem zd_W_grumble_42 : decode zb_W_grumble 42 = .ok (.getfield 48, 3) := by decide +kernel
theorem zd_W_grumble_45 : decode zb_W_grumble 45 = .ok (.aload_n 0, 1) := by decide +kernel
theorem zd_W_grumble_46 : decode zb_W_grumble 46 = .ok (.getfield 15, 3) := by decide +kernel
theorem zd_W_grumble_49 : decode zb_W_grumble 49 = .ok (.iload_n 3, 1) := by decide +kernel
theorem zd_W_grumble_50 : decode zb_W_grumble 50 = .ok (.iaload, 1) := by decide +kernel
theorem zd_W_grumble_51 : decode zb_W_grumble 51 = .ok (.iaload, 1) := by decide +kernel
theorem zd_W_grumble_52 : decode zb_W_grumble 52 = .ok (.iadd, 1) := by decide +kernel
theorem zd_W_grumble_53 : decode zb_W_grumble 53 = .ok (.aload_n 0, 1) := by decide +kernel
theorem zd_W_grumble_54 : decode zb_W_grumble 54 = .ok (.getfield 129, 3) := by decide +kernel
theorem zd_W_grumble_57 : decode zb_W_grumble 57 = .ok (.iconst 1, 1) := by decide +kernel
theorem zd_W_grumble_58 : decode zb_W_grumble 58 = .ok (.iaload, 1) := by decide +kernel
theorem zd_W_grumble_59 : decode zb_W_grumble 59 = .ok (.iadd, 1) := by decide +kernel
theorem zd_W_grumble_60 : decode zb_W_grumble 60 = .ok (.istore 4, 2) := by decide +kernel
theorem zd_W_grumble_62 : decode zb_W_grumble 62 = .ok (.iload 4, 2) := by decide +kernel
theorem zd_W_grumble_64 : decode zb_W_grumble 64 = .ok (.iload_n 1, 1) := by decide +kernel
theorem zd_W_grumble_65 : decode zb_W_grumble 65 = .ok (.ifCond .ne 15, 3) := by decide +kernel
theorem zd_W_grumble_68 : decode zb_W_grumble 68 = .ok (.aload_n 0, 1) := by decide +kernel
theorem zd_W_grumble_69 : decode zb_W_grumble 69 = .ok (.iload_n 3, 1) := by decide +kernel
theorem zd_W_grumble_70 : decode zb_W_grumble 70 = .ok (.invokevirtual 340, 3) := by decide +kernel
theorem zd_W_grumble_73 : decode zb_W_grumble 73 = .ok (.ifCond .eq 7, 3) := by decide +kernel
theorem zd_W_grumble_76 : decode zb_W_grumble 76 = .ok (.iconst 2, 1) := by decide +kernel
theorem zd_W_grumble_77 : decode zb_W_grumble 77 = .ok (.goto 4, 3) := by decide +kernel
theorem zd_W_grumble_80 : decode zb_W_grumble 80 = .ok (.iconst 0, 1) := by decide +kernel
theorem zd_W_grumble_81 : decode zb_W_grumble 81 = .ok (.iadd, 1) := by decide +kernel
theorem zd_W_grumble_82 : decode zb_W_grumble 82 = .ok (.istore 4, 2) := by decide +kernel
theorem zd_W_grumble_84 : decode zb_W_grumble 84 = .ok (.iload 4, 2) := by decide +kernel
theorem zd_W_grumble_86 : decode zb_W_grumble 86 = .ok (.iload_n 2, 1) := by decide +kernel
theorem zd_W_grumble_87 : decode zb_W_grumble 87 = .ok (.ifCond .ne 20, 3) := by decide +kernel
theorem zd_W_grumble_90 : decode zb_W_grumble 90 = .ok (.aload_n 0, 1) := by decide +kernel
theorem zd_W_grumble_91 : decode zb_W_grumble 91 = .ok (.aload_n 0, 1) := by decide +kernel
theorem zd_W_grumble_92 : decode zb_W_grumble 92 = .ok (.getfield 15, 3) := by decide +kernel
theorem zd_W_grumble_95 : decode zb_W_grumble 95 = .ok (.iload_n 3, 1) := by decide +kernel
theorem zd_W_grumble_96 : decode zb_W_grumble 96 = .ok (.iaload, 1) := by decide +kernel
theorem zd_W_grumble_97 : decode zb_W_grumble 97 = .ok (.invokevirtual 343, 3) := by decide +kernel
theorem zd_W_grumble_100 : decode zb_W_grumble 100 = .ok (.ifCond .eq 7, 3) := by decide +kernel
theorem zd_W_grumble_103 : decode zb_W_grumble 103 = .ok (.iconst 1, 1) := by decide +kernel
theorem zd_W_grumble_104 : decode zb_W_grumble 104 = .ok (.goto 4, 3) := by decide +kernel
theorem zd_W_grumble_107 : decode zb_W_grumble 107 = .ok (.iconst 0, 1) := by decide +kernel
theorem zd_W_grumble_108 : decode zb_W_grumble 108 = .ok (.iadd, 1) := by decide +kernel
theorem zd_W_grumble_109 : decode zb_W_grumble 109 = .ok (.istore 4, 2) := by decide +kernel
theorem zd_W_grumble_111 : decode zb_W_grumble 111 = .ok (.aload_n 0, 1) := by decide +kernel
theorem zd_W_grumble_112 : decode zb_W_grumble 112 = .ok (.getfield 30, 3) := by decide +kernel
theorem zd_W_grumble_115 : decode zb_W_grumble 115 = .ok (.iload_n 3, 1) := by decide +kernel
theorem zd_W_grumble_116 : decode zb_W_grumble 116 = .ok (.iconst 0, 1) := by decide +kernel
theorem zd_W_grumble_117 : decode zb_W_grumble 117 = .ok (.bipush 99, 2) := by decide +kernel
theorem zd_W_grumble_119 : decode zb_W_grumble 119 = .ok (.aload_n 0, 1) := by decide +kernel
theorem zd_W_grumble_120 : decode zb_W_grumble 120 = .ok (.getfield 30, 3) := by decide +kernel
theorem zd_W_grumble_123 : decode zb_W_grumble 123 = .ok (.iload_n 3, 1) := by decide +kernel
theorem zd_W_grumble_124 : decode zb_W_grumble 124 = .ok (.iaload, 1) := by decide +kernel
theorem zd_W_grumble_125 : decode zb_W_grumble 125 = .ok (.iload 4, 2) := by decide +kernel
theorem zd_W_grumble_127 : decode zb_W_grumble 127 = .ok (.ifCond .ne 7, 3) := by decide +kernel
theorem zd_W_grumble_130 : decode zb_W_grumble 130 = .ok (.iconst (-1), 1) := by decide +kernel
theorem zd_W_grumble_131 : decode zb_W_grumble 131 = .ok (.goto 5, 3) := by decide +kernel
theorem zd_W_grumble_134 : decode zb_W_grumble 134 = .ok (.iload 4, 2) := by decide +kernel
theorem zd_W_grumble_136 : decode zb_W_grumble 136 = .ok (.iadd, 1) := by decide +kernel
theorem zd_W_grumble_137 : decode zb_W_grumble 137 = .ok (.invokestatic 314, 3) := by decide +kernel
theorem zd_W_grumble_140 : decode zb_W_grumble 140 = .ok (.invokestatic 309, 3) := by decide +kernel
theorem zd_W_grumble_143 : decode zb_W_grumble 143 = .ok (.iastore, 1) := by decide +kernel
theorem zd_W_grumble_144 : decode zb_W_grumble 144 = .ok (.iinc 3 1, 3) := by decide +kernel
theorem zd_W_grumble_147 : decode zb_W_grumble 147 = .ok (.goto (-133), 3) := by decide +kernel
theorem zd_W_grumble_150 : decode zb_W_grumble 150 = .ok (.return_, 1) := by decide +kernel

def zf_W_grumble_144 (r0 : Int) (q14 : Int → Int → Int → Sg → Option (Int × Sg)) (x1 : Int) (x2 : Int) (x3 : Int) (S : Sg) : Option (Int × Sg) :=
    zlt (zw (x3 + 1)) fun v1 => q14 (x1) (x2) (v1) S
set_option maxHeartbeats 4000000 in
set_option maxRecDepth 100000 in
theorem zw_W_grumble_144 {p : Program} {l : Launch} {e : Env} {s : State} {m : MethodId} {args : Array Value} {below : List Frame} {meth : Method} {c : Code} {B : zB} (C : CallFix p m c zb_W_grumble 5 s args zT "IslandOfficeModel$World") (hr : meth.sig.returnType = none) (hlk : meth.locks = false) (hK : zK B s) (hSt : zSt B s) (hap : zAp B) (r0 : Int) (hr0 : 0 ≤ r0 ∧ r0 < 3) {res : Int} {S9 : Sg} (q14 : Int → Int → Int → Sg → Option (Int × Sg)) (hq14 : ∀ (x1 : Int) (x2 : Int) (x3 : Int) (S : Sg) (nx1 : zn x1) (nx2 : zn x2) (nx3 : zn x3), q14 x1 x2 x3 S = some (res, S9) → ∀ (H : Heap) (locs : List Loc) (ls : Array Slot), zW B S H → va_S B.2.2.2 s.heap H locs → lv_has ls 5 [(0, .ref (B.2.1 5 (r0) (0))), (1, .int (zI (x1))), (2, .int (zI (x2))), (3, .int (zI (x3)))] → W p l e zm_W_grumble s m args below meth c H locs 0 0 (MQ below (zQv B S9) args s 0 0 B.2.2.2) (F0 m 14 ls [])) : ∀ (x1 : Int) (x2 : Int) (x3 : Int) (S : Sg) (nx1 : zn x1) (nx2 : zn x2) (nx3 : zn x3), zf_W_grumble_144 r0 q14 x1 x2 x3 S = some (res, S9) → ∀ (H : Heap) (locs : List Loc) (ls : Array Slot), zW B S H → va_S B.2.2.2 s.heap H locs → lv_has ls 5 [(0, .ref (B.2.1 5 (r0) (0))), (1, .int (zI (x1))), (2, .int (zI (x2))), (3, .int (zI (x3)))] → W p l e zm_W_grumble s m args below meth c H locs 0 0 (MQ below (zQv B S9) args s 0 0 B.2.2.2) (F0 m 144 ls []) := by
  intro x1 x2 x3 S nx1 nx2 nx3 hf H locs ls hW hS hl
  unfold zf_W_grumble_144 at hf
  obtain ⟨v1, ev1, hf⟩ := zlt_some hf
  have nv1 : zn v1 := by rw [← ev1]; exact zn_w _
  refine lv_iinc (v := zI v1) (lv' := [(3, .int (zI (v1))), (0, .ref (B.2.1 5 (r0) (0))), (1, .int (zI (x1))), (2, .int (zI (x2)))]) C.1 C.2.1 zd_W_grumble_144 hl (k := 3) rfl (by rw [← ev1, ← zI_add]; rfl) (by decide) rfl (fun ls hl => ?_)
  refine lv_goto (tgt := 14) C.1 C.2.1 zd_W_grumble_147 (by decide) ?_
  exact hq14 (x1) (x2) (v1) S nx1 nx2 nv1 hf _ _ _ hW hS (lv_sub hl [1, 2, 3, 0] rfl)

def zf_W_grumble_136 (r0 : Int) (q14 : Int → Int → Int → Sg → Option (Int × Sg)) (x1 : Int) (x2 : Int) (x3 : Int) (xt1 : Int) (xt2 : Int) (xt3 : Int) (xt4 : Int) (xt5 : Int) (S : Sg) : Option (Int × Sg) :=
    zck (0 ≤ xt1 ∧ xt1 < 40) <| zlt (zu S 5 r0 7 xt1 (max xt2 (min xt3 (zw (xt4 + xt5))))) fun S2 => zf_W_grumble_144 r0 q14 (x1) (x2) (x3) S2
set_option maxHeartbeats 4000000 in
set_option maxRecDepth 100000 in
theorem zw_W_grumble_136 {p : Program} {l : Launch} {e : Env} {s : State} {m : MethodId} {args : Array Value} {below : List Frame} {meth : Method} {c : Code} {B : zB} (C : CallFix p m c zb_W_grumble 5 s args zT "IslandOfficeModel$World") (hr : meth.sig.returnType = none) (hlk : meth.locks = false) (hK : zK B s) (hSt : zSt B s) (hap : zAp B) (r0 : Int) (hr0 : 0 ≤ r0 ∧ r0 < 3) {res : Int} {S9 : Sg} (q14 : Int → Int → Int → Sg → Option (Int × Sg)) (hq14 : ∀ (x1 : Int) (x2 : Int) (x3 : Int) (S : Sg) (nx1 : zn x1) (nx2 : zn x2) (nx3 : zn x3), q14 x1 x2 x3 S = some (res, S9) → ∀ (H : Heap) (locs : List Loc) (ls : Array Slot), zW B S H → va_S B.2.2.2 s.heap H locs → lv_has ls 5 [(0, .ref (B.2.1 5 (r0) (0))), (1, .int (zI (x1))), (2, .int (zI (x2))), (3, .int (zI (x3)))] → W p l e zm_W_grumble s m args below meth c H locs 0 0 (MQ below (zQv B S9) args s 0 0 B.2.2.2) (F0 m 14 ls [])) : ∀ (x1 : Int) (x2 : Int) (x3 : Int) (xt1 : Int) (xt2 : Int) (xt3 : Int) (xt4 : Int) (xt5 : Int) (S : Sg) (nx1 : zn x1) (nx2 : zn x2) (nx3 : zn x3) (nxt1 : zn xt1) (nxt2 : zn xt2) (nxt3 : zn xt3) (nxt4 : zn xt4) (nxt5 : zn xt5), zf_W_grumble_136 r0 q14 x1 x2 x3 xt1 xt2 xt3 xt4 xt5 S = some (res, S9) → ∀ (H : Heap) (locs : List Loc) (ls : Array Slot), zW B S H → va_S B.2.2.2 s.heap H locs → lv_has ls 5 [(0, .ref (B.2.1 5 (r0) (0))), (1, .int (zI (x1))), (2, .int (zI (x2))), (3, .int (zI (x3)))] → W p l e zm_W_grumble s m args below meth c H locs 0 0 (MQ below (zQv B S9) args s 0 0 B.2.2.2) (F0 m 136 ls [.int (zI (xt5)), .int (zI (xt4)), .int (zI (xt3)), .int (zI (xt2)), .int (zI (xt1)), .ref (B.2.1 5 (r0) (7))]) := by
  intro x1 x2 x3 xt1 xt2 xt3 xt4 xt5 S nx1 nx2 nx3 nxt1 nxt2 nxt3 nxt4 nxt5 hf H locs ls hW hS hl
  unfold zf_W_grumble_136 at hf
  refine zr_iadd C zd_W_grumble_136 ?_
  refine zr_min C hl.1 nxt3 (zn_w _) zk_1928 zk_909 zk_16 zk_910 (by decide) (Nat.le_of_ble_eq_true rfl) ⟨by decide, by decide⟩ zd_W_grumble_137 ?_
  refine zr_max C hl.1 nxt2 (zn_min nxt3 (zn_w _)) zk_1898 zk_678 zk_16 zk_679 (by decide) (Nat.le_of_ble_eq_true rfl) ⟨by decide, by decide⟩ zd_W_grumble_140 ?_
  obtain ⟨h1, hf⟩ := zck_some hf
  obtain ⟨S2, eS2, hf⟩ := zlt_some hf
  refine ziast C hK hap hW hS (zvd_5 hr0 (by decide)) (fun f => ze_5_7 B f (r0)) (by decide) rfl (zn_max nxt2 (zn_min nxt3 (zn_w _))) h1 zd_W_grumble_143 (fun H locs hW hS => ?_)
  rw [eS2] at hW
  exact zw_W_grumble_144 C hr hlk hK hSt hap r0 hr0 q14 hq14 (x1) (x2) (x3) S2 nx1 nx2 nx3 hf _ _ _ hW hS (lv_sub hl [0, 1, 2, 3] rfl)

def zf_W_grumble_108 (r0 : Int) (q14 : Int → Int → Int → Sg → Option (Int × Sg)) (x1 : Int) (x2 : Int) (x3 : Int) (xt0 : Int) (xt1 : Int) (S : Sg) : Option (Int × Sg) :=
    zlt (zw (xt0 + xt1)) fun v1 => zck (0 ≤ x3 ∧ x3 < 40) <| if v1 = 0 then (zf_W_grumble_136 r0 q14 (x1) (x2) (x3) (x3) (0) (99) (S 5 r0 7 x3) (-1) S) else (zf_W_grumble_136 r0 q14 (x1) (x2) (x3) (x3) (0) (99) (S 5 r0 7 x3) (v1) S)
set_option maxHeartbeats 4000000 in
set_option maxRecDepth 100000 in
theorem zw_W_grumble_108 {p : Program} {l : Launch} {e : Env} {s : State} {m : MethodId} {args : Array Value} {below : List Frame} {meth : Method} {c : Code} {B : zB} (C : CallFix p m c zb_W_grumble 5 s args zT "IslandOfficeModel$World") (hr : meth.sig.returnType = none) (hlk : meth.locks = false) (hK : zK B s) (hSt : zSt B s) (hap : zAp B) (r0 : Int) (hr0 : 0 ≤ r0 ∧ r0 < 3) {res : Int} {S9 : Sg} (q14 : Int → Int → Int → Sg → Option (Int × Sg)) (hq14 : ∀ (x1 : Int) (x2 : Int) (x3 : Int) (S : Sg) (nx1 : zn x1) (nx2 : zn x2) (nx3 : zn x3), q14 x1 x2 x3 S = some (res, S9) → ∀ (H : Heap) (locs : List Loc) (ls : Array Slot), zW B S H → va_S B.2.2.2 s.heap H locs → lv_has ls 5 [(0, .ref (B.2.1 5 (r0) (0))), (1, .int (zI (x1))), (2, .int (zI (x2))), (3, .int (zI (x3)))] → W p l e zm_W_grumble s m args below meth c H locs 0 0 (MQ below (zQv B S9) args s 0 0 B.2.2.2) (F0 m 14 ls [])) : ∀ (x1 : Int) (x2 : Int) (x3 : Int) (xt0 : Int) (xt1 : Int) (S : Sg) (nx1 : zn x1) (nx2 : zn x2) (nx3 : zn x3) (nxt0 : zn xt0) (nxt1 : zn xt1), zf_W_grumble_108 r0 q14 x1 x2 x3 xt0 xt1 S = some (res, S9) → ∀ (H : Heap) (locs : List Loc) (ls : Array Slot), zW B S H → va_S B.2.2.2 s.heap H locs → lv_has ls 5 [(0, .ref (B.2.1 5 (r0) (0))), (1, .int (zI (x1))), (2, .int (zI (x2))), (3, .int (zI (x3)))] → W p l e zm_W_grumble s m args below meth c H locs 0 0 (MQ below (zQv B S9) args s 0 0 B.2.2.2) (F0 m 108 ls [.int (zI (xt1)), .int (zI (xt0))]) := by
  intro x1 x2 x3 xt0 xt1 S nx1 nx2 nx3 nxt0 nxt1 hf H locs ls hW hS hl
  unfold zf_W_grumble_108 at hf
  refine zr_iadd C zd_W_grumble_108 ?_
  obtain ⟨v1, ev1, hf⟩ := zlt_some hf
  have nv1 : zn v1 := by rw [← ev1]; exact (zn_w _)
  rw [ev1]
  refine lv_istore (lv' := [(4, .int (zI (v1))), (0, .ref (B.2.1 5 (r0) (0))), (1, .int (zI (x1))), (2, .int (zI (x2))), (3, .int (zI (x3)))]) C.1 C.2.1 zd_W_grumble_109 hl (by decide) rfl (fun ls hl => ?_)
  refine lv_aload_n C.1 C.2.1 zd_W_grumble_111 rfl (lv_at hl 1 rfl) ?_
  refine zg_W_discontent (r := r0) C hK hW (zvd_5 hr0 (by decide)) zk_1291 zd_W_grumble_112 ?_
  refine lv_iload_n C.1 C.2.1 zd_W_grumble_115 rfl (lv_at hl 4 rfl) ?_
  refine zr_iconst C zd_W_grumble_116 ?_
  refine zr_bipush C zd_W_grumble_117 (by decide) ?_
  refine lv_aload_n C.1 C.2.1 zd_W_grumble_119 rfl (lv_at hl 1 rfl) ?_
  refine zg_W_discontent (r := r0) C hK hW (zvd_5 hr0 (by decide)) zk_1291 zd_W_grumble_120 ?_
  refine lv_iload_n C.1 C.2.1 zd_W_grumble_123 rfl (lv_at hl 4 rfl) ?_
  obtain ⟨h2, hf⟩ := zck_some hf
  refine ziald C hK hW (zvd_5 hr0 (by decide)) (fun f => ze_5_7 B f (r0)) (by decide) h2 zd_W_grumble_124 ?_
  refine lv_iload C.1 C.2.1 zd_W_grumble_125 (lv_at hl 0 rfl) ?_
  refine zr_if_ne (tgt := 134) C nv1 zd_W_grumble_127 (by decide) (fun c3 => ?_) (fun c3 => ?_)
  · rw [if_neg c3] at hf
    refine lv_iload C.1 C.2.1 zd_W_grumble_134 (lv_at hl 0 rfl) ?_
    exact zw_W_grumble_136 C hr hlk hK hSt hap r0 hr0 q14 hq14 (x1) (x2) (x3) (x3) (0) (99) (S 5 r0 7 x3) (v1) S nx1 nx2 nx3 nx3 (znb rfl) (znb rfl) (zWn hW _ _ _ _ rfl) nv1 hf _ _ _ hW hS (lv_sub hl [1, 2, 3, 4] rfl)
  · rw [if_pos c3] at hf
    refine zr_iconst C zd_W_grumble_130 ?_
    refine lv_goto (tgt := 136) C.1 C.2.1 zd_W_grumble_131 (by decide) ?_
    exact zw_W_grumble_136 C hr hlk hK hSt hap r0 hr0 q14 hq14 (x1) (x2) (x3) (x3) (0) (99) (S 5 r0 7 x3) (-1) S nx1 nx2 nx3 nx3 (znb rfl) (znb rfl) (zWn hW _ _ _ _ rfl) (znb rfl) hf _ _ _ hW hS (lv_sub hl [1, 2, 3, 4] rfl)

def zf_W_grumble_107 (r0 : Int) (q14 : Int → Int → Int → Sg → Option (Int × Sg)) (x1 : Int) (x2 : Int) (x3 : Int) (xt0 : Int) (S : Sg) : Option (Int × Sg) :=
    zf_W_grumble_108 r0 q14 (x1) (x2) (x3) (xt0) (0) S
set_option maxHeartbeats 4000000 in
set_option maxRecDepth 100000 in
theorem zw_W_grumble_107 {p : Program} {l : Launch} {e : Env} {s : State} {m : MethodId} {args : Array Value} {below : List Frame} {meth : Method} {c : Code} {B : zB} (C : CallFix p m c zb_W_grumble 5 s args zT "IslandOfficeModel$World") (hr : meth.sig.returnType = none) (hlk : meth.locks = false) (hK : zK B s) (hSt : zSt B s) (hap : zAp B) (r0 : Int) (hr0 : 0 ≤ r0 ∧ r0 < 3) {res : Int} {S9 : Sg} (q14 : Int → Int → Int → Sg → Option (Int × Sg)) (hq14 : ∀ (x1 : Int) (x2 : Int) (x3 : Int) (S : Sg) (nx1 : zn x1) (nx2 : zn x2) (nx3 : zn x3), q14 x1 x2 x3 S = some (res, S9) → ∀ (H : Heap) (locs : List Loc) (ls : Array Slot), zW B S H → va_S B.2.2.2 s.heap H locs → lv_has ls 5 [(0, .ref (B.2.1 5 (r0) (0))), (1, .int (zI (x1))), (2, .int (zI (x2))), (3, .int (zI (x3)))] → W p l e zm_W_grumble s m args below meth c H locs 0 0 (MQ below (zQv B S9) args s 0 0 B.2.2.2) (F0 m 14 ls [])) : ∀ (x1 : Int) (x2 : Int) (x3 : Int) (xt0 : Int) (S : Sg) (nx1 : zn x1) (nx2 : zn x2) (nx3 : zn x3) (nxt0 : zn xt0), zf_W_grumble_107 r0 q14 x1 x2 x3 xt0 S = some (res, S9) → ∀ (H : Heap) (locs : List Loc) (ls : Array Slot), zW B S H → va_S B.2.2.2 s.heap H locs → lv_has ls 5 [(0, .ref (B.2.1 5 (r0) (0))), (1, .int (zI (x1))), (2, .int (zI (x2))), (3, .int (zI (x3)))] → W p l e zm_W_grumble s m args below meth c H locs 0 0 (MQ below (zQv B S9) args s 0 0 B.2.2.2) (F0 m 107 ls [.int (zI (xt0))]) := by
  intro x1 x2 x3 xt0 S nx1 nx2 nx3 nxt0 hf H locs ls hW hS hl
  unfold zf_W_grumble_107 at hf
  refine zr_iconst C zd_W_grumble_107 ?_
  exact zw_W_grumble_108 C hr hlk hK hSt hap r0 hr0 q14 hq14 (x1) (x2) (x3) (xt0) (0) S nx1 nx2 nx3 nxt0 (znb rfl) hf _ _ _ hW hS (lv_sub hl [0, 1, 2, 3] rfl)

def zf_W_grumble_81 (r0 : Int) (q14 : Int → Int → Int → Sg → Option (Int × Sg)) (x1 : Int) (x2 : Int) (x3 : Int) (xt0 : Int) (xt1 : Int) (S : Sg) : Option (Int × Sg) :=
    zlt (zw (xt0 + xt1)) fun v1 => if x2 = 0 then (zck (0 ≤ x3 ∧ x3 < 40) <| zbd (zf_W_oldIn (r0) (S 5 r0 2 x3) S) fun a4 S5 => if a4 = 0 then (zf_W_grumble_107 r0 q14 (x1) (x2) (x3) (v1) S5) else (zf_W_grumble_108 r0 q14 (x1) (x2) (x3) (v1) (1) S5)) else (zf_W_grumble_107 r0 q14 (x1) (x2) (x3) (v1) S)
set_option maxHeartbeats 4000000 in
set_option maxRecDepth 100000 in
theorem zw_W_grumble_81 {p : Program} {l : Launch} {e : Env} {s : State} {m : MethodId} {args : Array Value} {below : List Frame} {meth : Method} {c : Code} {B : zB} (C : CallFix p m c zb_W_grumble 5 s args zT "IslandOfficeModel$World") (hr : meth.sig.returnType = none) (hlk : meth.locks = false) (hK : zK B s) (hSt : zSt B s) (hap : zAp B) (r0 : Int) (hr0 : 0 ≤ r0 ∧ r0 < 3) {res : Int} {S9 : Sg} (q14 : Int → Int → Int → Sg → Option (Int × Sg)) (hq14 : ∀ (x1 : Int) (x2 : Int) (x3 : Int) (S : Sg) (nx1 : zn x1) (nx2 : zn x2) (nx3 : zn x3), q14 x1 x2 x3 S = some (res, S9) → ∀ (H : Heap) (locs : List Loc) (ls : Array Slot), zW B S H → va_S B.2.2.2 s.heap H locs → lv_has ls 5 [(0, .ref (B.2.1 5 (r0) (0))), (1, .int (zI (x1))), (2, .int (zI (x2))), (3, .int (zI (x3)))] → W p l e zm_W_grumble s m args below meth c H locs 0 0 (MQ below (zQv B S9) args s 0 0 B.2.2.2) (F0 m 14 ls [])) : ∀ (x1 : Int) (x2 : Int) (x3 : Int) (xt0 : Int) (xt1 : Int) (S : Sg) (nx1 : zn x1) (nx2 : zn x2) (nx3 : zn x3) (nxt0 : zn xt0) (nxt1 : zn xt1), zf_W_grumble_81 r0 q14 x1 x2 x3 xt0 xt1 S = some (res, S9) → ∀ (H : Heap) (locs : List Loc) (ls : Array Slot), zW B S H → va_S B.2.2.2 s.heap H locs → lv_has ls 5 [(0, .ref (B.2.1 5 (r0) (0))), (1, .int (zI (x1))), (2, .int (zI (x2))), (3, .int (zI (x3)))] → W p l e zm_W_grumble s m args below meth c H locs 0 0 (MQ below (zQv B S9) args s 0 0 B.2.2.2) (F0 m 81 ls [.int (zI (xt1)), .int (zI (xt0))]) := by
  intro x1 x2 x3 xt0 xt1 S nx1 nx2 nx3 nxt0 nxt1 hf H locs ls hW hS hl
  unfold zf_W_grumble_81 at hf
  refine zr_iadd C zd_W_grumble_81 ?_
  obtain ⟨v1, ev1, hf⟩ := zlt_some hf
  have nv1 : zn v1 := by rw [← ev1]; exact (zn_w _)
  rw [ev1]
  refine lv_istore (lv' := [(4, .int (zI (v1))), (0, .ref (B.2.1 5 (r0) (0))), (1, .int (zI (x1))), (2, .int (zI (x2))), (3, .int (zI (x3)))]) C.1 C.2.1 zd_W_grumble_82 hl (by decide) rfl (fun ls hl => ?_)
  refine lv_iload C.1 C.2.1 zd_W_grumble_84 (lv_at hl 0 rfl) ?_
  refine lv_iload_n C.1 C.2.1 zd_W_grumble_86 rfl (lv_at hl 3 rfl) ?_
  refine zr_if_ne (tgt := 107) C nx2 zd_W_grumble_87 (by decide) (fun c2 => ?_) (fun c2 => ?_)
  · rw [if_neg c2] at hf
    exact zw_W_grumble_107 C hr hlk hK hSt hap r0 hr0 q14 hq14 (x1) (x2) (x3) (v1) S nx1 nx2 nx3 nv1 hf _ _ _ hW hS (lv_sub hl [1, 2, 3, 4] rfl)
  · rw [if_pos c2] at hf
    refine lv_aload_n C.1 C.2.1 zd_W_grumble_90 rfl (lv_at hl 1 rfl) ?_
    refine lv_aload_n C.1 C.2.1 zd_W_grumble_91 rfl (lv_at hl 1 rfl) ?_
    refine zg_W_house (r := r0) C hK hW (zvd_5 hr0 (by decide)) zk_1281 zd_W_grumble_92 ?_
    refine lv_iload_n C.1 C.2.1 zd_W_grumble_95 rfl (lv_at hl 4 rfl) ?_
    obtain ⟨h3, hf⟩ := zck_some hf
    refine ziald C hK hW (zvd_5 hr0 (by decide)) (fun f => ze_5_2 B f (r0)) (by decide) h3 zd_W_grumble_96 ?_
    obtain ⟨a4, S5, ea4, hf⟩ := zbd_some hf
    refine zcVi (As := [.int (zI (S 5 r0 2 x3))]) (rest := [.int (zI (v1))]) C hK hSt hW hS (zc_W_oldIn hap (r0) hr0 (S 5 r0 2 x3) S (zWn hW _ _ _ _ rfl) ea4) zq_W_oldIn zk_1954 (zrecv hK hW (zvd_5 hr0 (by decide)) (ze_5_0 B _ (r0)) rfl) ⟨rfl, rfl, by decide, by decide⟩ ⟨Nat.zero_le _, Nat.zero_le _⟩ rfl hl.1 rfl (lv_room (Nat.le_of_ble_eq_true rfl)) zd_W_grumble_97 (fun na4 H locs hW hS => ?_)
    refine zr_if_eq (tgt := 107) C na4 zd_W_grumble_100 (by decide) (fun c6 => ?_) (fun c6 => ?_)
    · rw [if_pos c6] at hf
      exact zw_W_grumble_107 C hr hlk hK hSt hap r0 hr0 q14 hq14 (x1) (x2) (x3) (v1) S5 nx1 nx2 nx3 nv1 hf _ _ _ hW hS (lv_sub hl [1, 2, 3, 4] rfl)
    · rw [if_neg c6] at hf
      refine zr_iconst C zd_W_grumble_103 ?_
      refine lv_goto (tgt := 108) C.1 C.2.1 zd_W_grumble_104 (by decide) ?_
      exact zw_W_grumble_108 C hr hlk hK hSt hap r0 hr0 q14 hq14 (x1) (x2) (x3) (v1) (1) S5 nx1 nx2 nx3 nv1 (znb rfl) hf _ _ _ hW hS (lv_sub hl [1, 2, 3, 4] rfl)

def zf_W_grumble_80 (r0 : Int) (q14 : Int → Int → Int → Sg → Option (Int × Sg)) (x1 : Int) (x2 : Int) (x3 : Int) (xt0 : Int) (S : Sg) : Option (Int × Sg) :=
    zf_W_grumble_81 r0 q14 (x1) (x2) (x3) (xt0) (0) S
set_option maxHeartbeats 4000000 in
set_option maxRecDepth 100000 in
theorem zw_W_grumble_80 {p : Program} {l : Launch} {e : Env} {s : State} {m : MethodId} {args : Array Value} {below : List Frame} {meth : Method} {c : Code} {B : zB} (C : CallFix p m c zb_W_grumble 5 s args zT "IslandOfficeModel$World") (hr : meth.sig.returnType = none) (hlk : meth.locks = false) (hK : zK B s) (hSt : zSt B s) (hap : zAp B) (r0 : Int) (hr0 : 0 ≤ r0 ∧ r0 < 3) {res : Int} {S9 : Sg} (q14 : Int → Int → Int → Sg → Option (Int × Sg)) (hq14 : ∀ (x1 : Int) (x2 : Int) (x3 : Int) (S : Sg) (nx1 : zn x1) (nx2 : zn x2) (nx3 : zn x3), q14 x1 x2 x3 S = some (res, S9) → ∀ (H : Heap) (locs : List Loc) (ls : Array Slot), zW B S H → va_S B.2.2.2 s.heap H locs → lv_has ls 5 [(0, .ref (B.2.1 5 (r0) (0))), (1, .int (zI (x1))), (2, .int (zI (x2))), (3, .int (zI (x3)))] → W p l e zm_W_grumble s m args below meth c H locs 0 0 (MQ below (zQv B S9) args s 0 0 B.2.2.2) (F0 m 14 ls [])) : ∀ (x1 : Int) (x2 : Int) (x3 : Int) (xt0 : Int) (S : Sg) (nx1 : zn x1) (nx2 : zn x2) (nx3 : zn x3) (nxt0 : zn xt0), zf_W_grumble_80 r0 q14 x1 x2 x3 xt0 S = some (res, S9) → ∀ (H : Heap) (locs : List Loc) (ls : Array Slot), zW B S H → va_S B.2.2.2 s.heap H locs → lv_has ls 5 [(0, .ref (B.2.1 5 (r0) (0))), (1, .int (zI (x1))), (2, .int (zI (x2))), (3, .int (zI (x3)))] → W p l e zm_W_grumble s m args below meth c H locs 0 0 (MQ below (zQv B S9) args s 0 0 B.2.2.2) (F0 m 80 ls [.int (zI (xt0))]) := by
  intro x1 x2 x3 xt0 S nx1 nx2 nx3 nxt0 hf H locs ls hW hS hl
  unfold zf_W_grumble_80 at hf
  refine zr_iconst C zd_W_grumble_80 ?_
  exact zw_W_grumble_81 C hr hlk hK hSt hap r0 hr0 q14 hq14 (x1) (x2) (x3) (xt0) (0) S nx1 nx2 nx3 nxt0 (znb rfl) hf _ _ _ hW hS (lv_sub hl [0, 1, 2, 3] rfl)

def zf_W_grumble_14 (r0 : Int) : Nat → Int → Int → Int → Sg → Option (Int × Sg)
  | 0, _, _, _, _ => none
  | n + 1, x1, x2, x3, S =>
    if (S 5 r0 0 1) ≤ x3 then (some (0, S)) else (zbd (zf_W_here (r0) x3 S) fun a2 S3 => if a2 = 0 then (zf_W_grumble_144 r0 (zf_W_grumble_14 r0 n) (x1) (x2) (x3) S3) else (zck (0 ≤ x3 ∧ x3 < 40) <| zck (0 ≤ (S3 5 r0 2 x3) ∧ (S3 5 r0 2 x3) < 12) <| zlt (zw ((zw ((zw (2 * (S3 5 r0 9 x3))) + (S3 5 r0 13 (S3 5 r0 2 x3)))) + (S3 5 r0 34 1))) fun v7 => if x1 = 0 then (zbd (zf_W_isMother (r0) x3 S3) fun a9 S10 => if a9 = 0 then (zf_W_grumble_80 r0 (zf_W_grumble_14 r0 n) (x1) (x2) (x3) (v7) S10) else (zf_W_grumble_81 r0 (zf_W_grumble_14 r0 n) (x1) (x2) (x3) (v7) (2) S10)) else (zf_W_grumble_80 r0 (zf_W_grumble_14 r0 n) (x1) (x2) (x3) (v7) S3)))
set_option maxHeartbeats 4000000 in
set_option maxRecDepth 100000 in
theorem zw_W_grumble_14 {p : Program} {l : Launch} {e : Env} {s : State} {m : MethodId} {args : Array Value} {below : List Frame} {meth : Method} {c : Code} {B : zB} (C : CallFix p m c zb_W_grumble 5 s args zT "IslandOfficeModel$World") (hr : meth.sig.returnType = none) (hlk : meth.locks = false) (hK : zK B s) (hSt : zSt B s) (hap : zAp B) (r0 : Int) (hr0 : 0 ≤ r0 ∧ r0 < 3) {res : Int} {S9 : Sg} : ∀ n : Nat, ∀ (x1 : Int) (x2 : Int) (x3 : Int) (S : Sg) (nx1 : zn x1) (nx2 : zn x2) (nx3 : zn x3), zf_W_grumble_14 r0 n x1 x2 x3 S = some (res, S9) → ∀ (H : Heap) (locs : List Loc) (ls : Array Slot), zW B S H → va_S B.2.2.2 s.heap H locs → lv_has ls 5 [(0, .ref (B.2.1 5 (r0) (0))), (1, .int (zI (x1))), (2, .int (zI (x2))), (3, .int (zI (x3)))] → W p l e zm_W_grumble s m args below meth c H locs 0 0 (MQ below (zQv B S9) args s 0 0 B.2.2.2) (F0 m 14 ls []) := by
  intro n
  induction n with
  | zero =>
    intro x1 x2 x3 S nx1 nx2 nx3 hf H locs ls hW hS hl
    cases hf
  | succ n ih =>
    intro x1 x2 x3 S nx1 nx2 nx3 hf H locs ls hW hS hl
    rw [zf_W_grumble_14] at hf
    refine lv_iload_n C.1 C.2.1 zd_W_grumble_14 rfl (lv_at hl 3 rfl) ?_
    refine lv_aload_n C.1 C.2.1 zd_W_grumble_15 rfl (lv_at hl 0 rfl) ?_
    refine zg_W_people (r := r0) C hK hW (zvd_5 hr0 (by decide)) zk_1277 zd_W_grumble_16 ?_
    refine zr_icmp_ge (tgt := 150) C nx3 (zWn hW _ _ _ _ rfl) zd_W_grumble_19 (by decide) (fun c1 => ?_) (fun c1 => ?_)
    · rw [if_pos c1] at hf
      cases hf
      exact zre_v C hr hlk hK hW hS zd_W_grumble_150
    · rw [if_neg c1] at hf
      refine lv_aload_n C.1 C.2.1 zd_W_grumble_22 rfl (lv_at hl 0 rfl) ?_
      refine lv_iload_n C.1 C.2.1 zd_W_grumble_23 rfl (lv_at hl 3 rfl) ?_
      obtain ⟨a2, S3, ea2, hf⟩ := zbd_some hf
      refine zcVi (As := [.int (zI (x3))]) (rest := []) C hK hSt hW hS (zc_W_here hap (r0) hr0 x3 S nx3 ea2) zq_W_here zk_1640 (zrecv hK hW (zvd_5 hr0 (by decide)) (ze_5_0 B _ (r0)) rfl) ⟨rfl, rfl, by decide, by decide⟩ ⟨Nat.zero_le _, Nat.zero_le _⟩ rfl hl.1 rfl (lv_room (Nat.le_of_ble_eq_true rfl)) zd_W_grumble_24 (fun na2 H locs hW hS => ?_)
      refine zr_if_ne (tgt := 33) C na2 zd_W_grumble_27 (by decide) (fun c4 => ?_) (fun c4 => ?_)
      · rw [if_neg c4] at hf
        refine zr_iconst C zd_W_grumble_33 ?_
        refine lv_aload_n C.1 C.2.1 zd_W_grumble_34 rfl (lv_at hl 0 rfl) ?_
        refine zg_W_hungry (r := r0) C hK hW (zvd_5 hr0 (by decide)) zk_1295 zd_W_grumble_35 ?_
        refine lv_iload_n C.1 C.2.1 zd_W_grumble_38 rfl (lv_at hl 3 rfl) ?_
        obtain ⟨h5, hf⟩ := zck_some hf
        refine ziald C hK hW (zvd_5 hr0 (by decide)) (fun f => ze_5_9 B f (r0)) (by decide) h5 zd_W_grumble_39 ?_
        refine zr_imul C zd_W_grumble_40 ?_
        refine lv_aload_n C.1 C.2.1 zd_W_grumble_41 rfl (lv_at hl 0 rfl) ?_
        refine zg_W_dry (r := r0) C hK hW (zvd_5 hr0 (by decide)) zk_1303 zd_W_grumble_42 ?_
        refine lv_aload_n C.1 C.2.1 zd_W_grumble_45 rfl (lv_at hl 0 rfl) ?_
        refine zg_W_house (r := r0) C hK hW (zvd_5 hr0 (by decide)) zk_1281 zd_W_grumble_46 ?_
        refine lv_iload_n C.1 C.2.1 zd_W_grumble_49 rfl (lv_at hl 3 rfl) ?_
        refine ziald C hK hW (zvd_5 hr0 (by decide)) (fun f => ze_5_2 B f (r0)) (by decide) h5 zd_W_grumble_50 ?_
        obtain ⟨h6, hf⟩ := zck_some hf
        refine ziald C hK hW (zvd_5 hr0 (by decide)) (fun f => ze_5_13 B f (r0)) (by decide) h6 zd_W_grumble_51 ?_
        refine zr_iadd C zd_W_grumble_52 ?_
        refine lv_aload_n C.1 C.2.1 zd_W_grumble_53 rfl (lv_at hl 0 rfl) ?_
        refine zg_W_lacking (r := r0) C hK hW (zvd_5 hr0 (by decide)) zk_1367 zd_W_grumble_54 ?_
        refine zr_iconst C zd_W_grumble_57 ?_
        refine ziald C hK hW (zvd_5 hr0 (by decide)) (fun f => ze_5_34 B f (r0)) (by decide) (by decide) zd_W_grumble_58 ?_
        refine zr_iadd C zd_W_grumble_59 ?_
        obtain ⟨v7, ev7, hf⟩ := zlt_some hf
        have nv7 : zn v7 := by rw [← ev7]; exact (zn_w _)
        rw [ev7]
        refine lv_istore (lv' := [(4, .int (zI (v7))), (0, .ref (B.2.1 5 (r0) (0))), (1, .int (zI (x1))), (2, .int (zI (x2))), (3, .int (zI (x3)))]) C.1 C.2.1 zd_W_grumble_60 hl (by decide) rfl (fun ls hl => ?_)
        refine lv_iload C.1 C.2.1 zd_W_grumble_62 (lv_at hl 0 rfl) ?_
        refine lv_iload_n C.1 C.2.1 zd_W_grumble_64 rfl (lv_at hl 2 rfl) ?_
        refine zr_if_ne (tgt := 80) C nx1 zd_W_grumble_65 (by decide) (fun c8 => ?_) (fun c8 => ?_)
        · rw [if_neg c8] at hf
          exact zw_W_grumble_80 C hr hlk hK hSt hap r0 hr0 (zf_W_grumble_14 r0 n) (ih) (x1) (x2) (x3) (v7) S3 nx1 nx2 nx3 nv7 hf _ _ _ hW hS (lv_sub hl [1, 2, 3, 4] rfl)
        · rw [if_pos c8] at hf
          refine lv_aload_n C.1 C.2.1 zd_W_grumble_68 rfl (lv_at hl 1 rfl) ?_
          refine lv_iload_n C.1 C.2.1 zd_W_grumble_69 rfl (lv_at hl 4 rfl) ?_
          obtain ⟨a9, S10, ea9, hf⟩ := zbd_some hf
          refine zcVi (As := [.int (zI (x3))]) (rest := [.int (zI (v7))]) C hK hSt hW hS (zc_W_isMother hap (r0) hr0 x3 S3 nx3 ea9) zq_W_isMother zk_1950 (zrecv hK hW (zvd_5 hr0 (by decide)) (ze_5_0 B _ (r0)) rfl) ⟨rfl, rfl, by decide, by decide⟩ ⟨Nat.zero_le _, Nat.zero_le _⟩ rfl hl.1 rfl (lv_room (Nat.le_of_ble_eq_true rfl)) zd_W_grumble_70 (fun na9 H locs hW hS => ?_)
          refine zr_if_eq (tgt := 80) C na9 zd_W_grumble_73 (by decide) (fun c11 => ?_) (fun c11 => ?_)
          · rw [if_pos c11] at hf
            exact zw_W_grumble_80 C hr hlk hK hSt hap r0 hr0 (zf_W_grumble_14 r0 n) (ih) (x1) (x2) (x3) (v7) S10 nx1 nx2 nx3 nv7 hf _ _ _ hW hS (lv_sub hl [1, 2, 3, 4] rfl)
          · rw [if_neg c11] at hf
            refine zr_iconst C zd_W_grumble_76 ?_
            refine lv_goto (tgt := 81) C.1 C.2.1 zd_W_grumble_77 (by decide) ?_
            exact zw_W_grumble_81 C hr hlk hK hSt hap r0 hr0 (zf_W_grumble_14 r0 n) (ih) (x1) (x2) (x3) (v7) (2) S10 nx1 nx2 nx3 nv7 (znb rfl) hf _ _ _ hW hS (lv_sub hl [1, 2, 3, 4] rfl)
      · rw [if_pos c4] at hf
        refine lv_goto (tgt := 144) C.1 C.2.1 zd_W_grumble_30 (by decide) ?_
        exact zw_W_grumble_144 C hr hlk hK hSt hap r0 hr0 (zf_W_grumble_14 r0 n) (ih) (x1) (x2) (x3) S3 nx1 nx2 nx3 hf _ _ _ hW hS (lv_sub hl [0, 1, 2, 3] rfl)

def zf_W_grumble (r0 : Int) (S : Sg) : Option (Int × Sg) :=
    zbd (zf_W_anyFilled (r0) 1 S) fun a1 S2 => zbd (zf_W_anyFilled (r0) 2 S2) fun a3 S4 => zf_W_grumble_14 r0 4096 (a1) (a3) (0) S4
set_option maxHeartbeats 4000000 in
set_option maxRecDepth 100000 in
theorem zw_W_grumble {p : Program} {l : Launch} {e : Env} {s : State} {m : MethodId} {args : Array Value} {below : List Frame} {meth : Method} {c : Code} {B : zB} (C : CallFix p m c zb_W_grumble 5 s args zT "IslandOfficeModel$World") (hr : meth.sig.returnType = none) (hlk : meth.locks = false) (hK : zK B s) (hSt : zSt B s) (hap : zAp B) (r0 : Int) (hr0 : 0 ≤ r0 ∧ r0 < 3) {res : Int} {S9 : Sg} : ∀  (S : Sg) , zf_W_grumble r0  S = some (res, S9) → ∀ (H : Heap) (locs : List Loc) (ls : Array Slot), zW B S H → va_S B.2.2.2 s.heap H locs → lv_has ls 5 [(0, .ref (B.2.1 5 (r0) (0)))] → W p l e zm_W_grumble s m args below meth c H locs 0 0 (MQ below (zQv B S9) args s 0 0 B.2.2.2) (F0 m 0 ls []) := by
  intro S hf H locs ls hW hS hl
  unfold zf_W_grumble at hf
  refine lv_aload_n C.1 C.2.1 zd_W_grumble_0 rfl (lv_at hl 0 rfl) ?_
  refine zr_iconst C zd_W_grumble_1 ?_
  obtain ⟨a1, S2, ea1, hf⟩ := zbd_some hf
  refine zcVi (As := [.int (zI (1))]) (rest := []) C hK hSt hW hS (zc_W_anyFilled hap (r0) hr0 1 S (znb rfl) ea1) zq_W_anyFilled zk_1946 (zrecv hK hW (zvd_5 hr0 (by decide)) (ze_5_0 B _ (r0)) rfl) ⟨rfl, rfl, by decide, by decide⟩ ⟨Nat.zero_le _, Nat.zero_le _⟩ rfl hl.1 rfl (lv_room (Nat.le_of_ble_eq_true rfl)) zd_W_grumble_2 (fun na1 H locs hW hS => ?_)
  refine lv_istore_n (lv' := [(1, .int (zI (a1))), (0, .ref (B.2.1 5 (r0) (0)))]) C.1 C.2.1 zd_W_grumble_5 rfl hl (by decide) rfl (fun ls hl => ?_)
  refine lv_aload_n C.1 C.2.1 zd_W_grumble_6 rfl (lv_at hl 1 rfl) ?_
  refine zr_iconst C zd_W_grumble_7 ?_
  obtain ⟨a3, S4, ea3, hf⟩ := zbd_some hf
  refine zcVi (As := [.int (zI (2))]) (rest := []) C hK hSt hW hS (zc_W_anyFilled hap (r0) hr0 2 S2 (znb rfl) ea3) zq_W_anyFilled zk_1946 (zrecv hK hW (zvd_5 hr0 (by decide)) (ze_5_0 B _ (r0)) rfl) ⟨rfl, rfl, by decide, by decide⟩ ⟨Nat.zero_le _, Nat.zero_le _⟩ rfl hl.1 rfl (lv_room (Nat.le_of_ble_eq_true rfl)) zd_W_grumble_8 (fun na3 H locs hW hS => ?_)
  refine lv_istore_n (lv' := [(2, .int (zI (a3))), (1, .int (zI (a1))), (0, .ref (B.2.1 5 (r0) (0)))]) C.1 C.2.1 zd_W_grumble_11 rfl hl (by decide) rfl (fun ls hl => ?_)
  refine zr_iconst C zd_W_grumble_12 ?_
  refine lv_istore_n (lv' := [(3, .int (zI (0))), (2, .int (zI (a3))), (1, .int (zI (a1))), (0, .ref (B.2.1 5 (r0) (0)))]) C.1 C.2.1 zd_W_grumble_13 rfl hl (by decide) rfl (fun ls hl => ?_)
  exact zw_W_grumble_14 C hr hlk hK hSt hap r0 hr0 4096 (a1) (a3) (0) S4 na1 na3 (znb rfl) hf _ _ _ hW hS (lv_sub hl [3, 2, 1, 0] rfl)

theorem zc_W_grumble {l : Launch} {B : zB} (hap : zAp B) (r0 : Int) (hr0 : 0 ≤ r0 ∧ r0 < 3) (S : Sg) {res : Int} {S9 : Sg} (hf : zf_W_grumble r0 S = some (res, S9)) : Met l zy_W_grumble (Cond.code zy_W_grumble zb_W_grumble 5 (none) :: zT) zm_W_grumble (zP B S [.ref (B.2.1 5 (r0) (0))]) (zQv B S9) 0 0 B.2.2.2 :=
  zmet (by decide) (Nat.le_of_ble_eq_true rfl) (fun p e s m args below meth c C hr hlk hK hSt hW ls hl => zw_W_grumble C hr hlk hK hSt hap r0 hr0  S  hf _ _ _ hW va_S.rf hl)
/-! IslandOfficeModel$World.go(I)V -/
abbrev zy_W_go : MethodName := ⟨"IslandOfficeModel$World", "go", "(I)V"⟩
abbrev zb_W_go : ByteArray := prog_15_method_51_code
abbrev zm_W_go : Room := { frames := 0, cells := 0, slots := 0, locals := 0 }
theorem zq_W_go : zMy zy_W_go zb_W_go 2 (none) 1 := ⟨zk_1979, zk_1978, zs_92, zk_15, by decide, by decide, by decide +kernel⟩
theorem zd_W_go_0 : decode zb_W_go 0 = .ok (.aload_n 0, 1) := by decide +kernel
theorem zd_W_go_1 : decode zb_W_go 1 = .ok (.getfield 24, 3) := by decide +kernel
theorem zd_W_go_4 : decode zb_W_go 4 = .ok (.iload_n 1, 1) := by decide +kernel
theorem zd_W_go_5 : decode zb_W_go 5 = .ok (.iconst 1, 1) := by decide +kernel
theorem zd_W_go_6 : decode zb_W_go 6 = .ok (.iastore, 1) := by decide +kernel
theorem zd_W_go_7 : decode zb_W_go 7 = .ok (.aload_n 0, 1) := by decide +kernel
theorem zd_W_go_8 : decode zb_W_go 8 = .ok (.getfield 30, 3) := by decide +kernel
theorem zd_W_go_11 : decode zb_W_go 11 = .ok (.iload_n 1, 1) := by decide +kernel
theorem zd_W_go_12 : decode zb_W_go 12 = .ok (.iconst 0, 1) := by decide +kernel
theorem zd_W_go_13 : decode zb_W_go 13 = .ok (.iastore, 1) := by decide +kernel
theorem zd_W_go_14 : decode zb_W_go 14 = .ok (.return_, 1) := by decide +kernel

def zf_W_go (r0 : Int) (x1 : Int) (S : Sg) : Option (Int × Sg) :=
    zck (0 ≤ x1 ∧ x1 < 40) <| zlt (zu S 5 r0 5 x1 1) fun S2 => zlt (zu S2 5 r0 7 x1 0) fun S3 => some (0, S3)
set_option maxHeartbeats 4000000 in
set_option maxRecDepth 100000 in
theorem zw_W_go {p : Program} {l : Launch} {e : Env} {s : State} {m : MethodId} {args : Array Value} {below : List Frame} {meth : Method} {c : Code} {B : zB} (C : CallFix p m c zb_W_go 2 s args zT "IslandOfficeModel$World") (hr : meth.sig.returnType = none) (hlk : meth.locks = false) (hK : zK B s) (hSt : zSt B s) (hap : zAp B) (r0 : Int) (hr0 : 0 ≤ r0 ∧ r0 < 3) {res : Int} {S9 : Sg} : ∀ (x1 : Int) (S : Sg) (nx1 : zn x1), zf_W_go r0 x1 S = some (res, S9) → ∀ (H : Heap) (locs : List Loc) (ls : Array Slot), zW B S H → va_S B.2.2.2 s.heap H locs → lv_has ls 2 [(0, .ref (B.2.1 5 (r0) (0))), (1, .int (zI (x1)))] → W p l e zm_W_go s m args below meth c H locs 0 0 (MQ below (zQv B S9) args s 0 0 B.2.2.2) (F0 m 0 ls []) := by
  intro x1 S nx1 hf H locs ls hW hS hl
  unfold zf_W_go at hf
  refine lv_aload_n C.1 C.2.1 zd_W_go_0 rfl (lv_at hl 0 rfl) ?_
  refine zg_W_state (r := r0) C hK hW (zvd_5 hr0 (by decide)) zk_1287 zd_W_go_1 ?_
  refine lv_iload_n C.1 C.2.1 zd_W_go_4 rfl (lv_at hl 1 rfl) ?_
  refine zr_iconst C zd_W_go_5 ?_
  obtain ⟨h1, hf⟩ := zck_some hf
  obtain ⟨S2, eS2, hf⟩ := zlt_some hf
  refine ziast C hK hap hW hS (zvd_5 hr0 (by decide)) (fun f => ze_5_5 B f (r0)) (by decide) rfl (znb rfl) h1 zd_W_go_6 (fun H locs hW hS => ?_)
  rw [eS2] at hW
  refine lv_aload_n C.1 C.2.1 zd_W_go_7 rfl (lv_at hl 0 rfl) ?_
  refine zg_W_discontent (r := r0) C hK hW (zvd_5 hr0 (by decide)) zk_1291 zd_W_go_8 ?_
  refine lv_iload_n C.1 C.2.1 zd_W_go_11 rfl (lv_at hl 1 rfl) ?_
  refine zr_iconst C zd_W_go_12 ?_
  obtain ⟨S3, eS3, hf⟩ := zlt_some hf
  refine ziast C hK hap hW hS (zvd_5 hr0 (by decide)) (fun f => ze_5_7 B f (r0)) (by decide) rfl (znb rfl) h1 zd_W_go_13 (fun H locs hW hS => ?_)
  rw [eS3] at hW
  cases hf
  exact zre_v C hr hlk hK hW hS zd_W_go_14

theorem zc_W_go {l : Launch} {B : zB} (hap : zAp B) (r0 : Int) (hr0 : 0 ≤ r0 ∧ r0 < 3) (x1 : Int) (S : Sg) (nx1 : zn x1) {res : Int} {S9 : Sg} (hf : zf_W_go r0 x1 S = some (res, S9)) : Met l zy_W_go (Cond.code zy_W_go zb_W_go 2 (none) :: zT) zm_W_go (zP B S [.ref (B.2.1 5 (r0) (0)), .int (zI (x1))]) (zQv B S9) 0 0 B.2.2.2 :=
  zmet (by decide) (Nat.le_of_ble_eq_true rfl) (fun p e s m args below meth c C hr hlk hK hSt hW ls hl => zw_W_go C hr hlk hK hSt hap r0 hr0 x1 S nx1 hf _ _ _ hW va_S.rf hl)
/-! IslandOfficeModel$World.leave()V -/
abbrev zy_W_leave : MethodName := ⟨"IslandOfficeModel$World", "leave", "()V"⟩
abbrev zb_W_leave : ByteArray := prog_15_method_52_code
abbrev zm_W_leave : Room := { frames := 394, cells := 0, slots := 0, locals := 8539 }
theorem zq_W_leave : zMy zy_W_leave zb_W_leave 5 (none) 0 := ⟨zk_1975, zk_1974, zs_91, zk_15, by decide, by decide, by decide +kernel⟩
theorem zd_W_leave_0 : decode zb_W_leave 0 = .ok (.iconst 0, 1) := by decide +kernel
theorem zd_W_leave_1 : decode zb_W_leave 1 = .ok (.istore_n 1, 1) := by decide +kernel
theorem zd_W_leave_2 : decode zb_W_leave 2 = .ok (.iload_n 1, 1) := by decide +kernel
theorem zd_W_leave_3 : decode zb_W_leave 3 = .ok (.aload_n 0, 1) := by decide +kernel
theorem zd_W_leave_4 : decode zb_W_leave 4 = .ok (.getfield 158, 3) := by decide +kernel
theorem zd_W_leave_7 : decode zb_W_leave 7 = .ok (.if_icmp .ge 111, 3) := by decide +kernel
theorem zd_W_leave_10 : decode zb_W_leave 10 = .ok (.aload_n 0, 1) := by decide +kernel
theorem zd_W_leave_11 : decode zb_W_leave 11 = .ok (.iload_n 1, 1) := by decide +kernel
theorem zd_W_leave_12 : decode zb_W_leave 12 = .ok (.invokevirtual 193, 3) := by decide +kernel
theorem zd_W_leave_15 : decode zb_W_leave 15 = .ok (.istore_n 2, 1) := by decide +kernel
theorem zd_W_leave_16 : decode zb_W_leave 16 = .ok (.iload_n 2, 1) := by decide +kernel
theorem zd_W_leave_17 : decode zb_W_leave 17 = .ok (.ifCond .eq 8, 3) := by decide +kernel
theorem zd_W_leave_20 : decode zb_W_leave 20 = .ok (.iload_n 2, 1) := by decide +kernel
theorem zd_W_leave_21 : decode zb_W_leave 21 = .ok (.iconst 2, 1) := by decide +kernel
theorem zd_W_leave_22 : decode zb_W_leave 22 = .ok (.if_icmp .ne 7, 3) := by decide +kernel
theorem zd_W_leave_25 : decode zb_W_leave 25 = .ok (.iconst 1, 1) := by decide +kernel
theorem zd_W_leave_26 : decode zb_W_leave 26 = .ok (.goto 4, 3) := by decide +kernel
theorem zd_W_leave_29 : decode zb_W_leave 29 = .ok (.iconst 0, 1) := by decide +kernel
theorem zd_W_leave_30 : decode zb_W_leave 30 = .ok (.istore_n 3, 1) := by decide +kernel
theorem zd_W_leave_31 : decode zb_W_leave 31 = .ok (.iload_n 3, 1) := by decide +kernel
theorem zd_W_leave_32 : decode zb_W_leave 32 = .ok (.ifCond .eq 80, 3) := by decide +kernel
theorem zd_W_leave_35 : decode zb_W_leave 35 = .ok (.aload_n 0, 1) := by decide +kernel
theorem zd_W_leave_36 : decode zb_W_leave 36 = .ok (.getfield 30, 3) := by decide +kernel
theorem zd_W_leave_39 : decode zb_W_leave 39 = .ok (.iload_n 1, 1) := by decide +kernel
theorem zd_W_leave_40 : decode zb_W_leave 40 = .ok (.iaload, 1) := by decide +kernel
theorem zd_W_leave_41 : decode zb_W_leave 41 = .ok (.aload_n 0, 1) := by decide +kernel
theorem zd_W_leave_42 : decode zb_W_leave 42 = .ok (.getfield 108, 3) := by decide +kernel
theorem zd_W_leave_45 : decode zb_W_leave 45 = .ok (.iconst 3, 1) := by decide +kernel
theorem zd_W_leave_46 : decode zb_W_leave 46 = .ok (.iaload, 1) := by decide +kernel
theorem zd_W_leave_47 : decode zb_W_leave 47 = .ok (.if_icmp .lt 65, 3) := by decide +kernel
theorem zd_W_leave_50 : decode zb_W_leave 50 = .ok (.aload_n 0, 1) := by decide +kernel
theorem zd_W_leave_51 : decode zb_W_leave 51 = .ok (.iload_n 1, 1) := by decide +kernel
theorem zd_W_leave_52 : decode zb_W_leave 52 = .ok (.iconst 3, 1) := by decide +kernel
theorem zd_W_leave_53 : decode zb_W_leave 53 = .ok (.invokevirtual 255, 3) := by decide +kernel
theorem zd_W_leave_56 : decode zb_W_leave 56 = .ok (.ifCond .ne 6, 3) := by decide +kernel
theorem zd_W_leave_59 : decode zb_W_leave 59 = .ok (.goto 53, 3) := by decide +kernel
theorem zd_W_leave_62 : decode zb_W_leave 62 = .ok (.aload_n 0, 1) := by decide +kernel
theorem zd_W_leave_63 : decode zb_W_leave 63 = .ok (.iload_n 1, 1) := by decide +kernel
theorem zd_W_leave_64 : decode zb_W_leave 64 = .ok (.invokevirtual 357, 3) := by decide +kernel
theorem zd_W_leave_67 : decode zb_W_leave 67 = .ok (.iconst 0, 1) := by decide +kernel
theorem zd_W_leave_68 : decode zb_W_leave 68 = .ok (.istore 4, 2) := by decide +kernel
theorem zd_W_leave_70 : decode zb_W_leave 70 = .ok (.iload 4, 2) := by decide +kernel
theorem zd_W_leave_72 : decode zb_W_leave 72 = .ok (.aload_n 0, 1) := by decide +kernel
theorem zd_W_leave_73 : decode zb_W_leave 73 = .ok (.getfield 158, 3) := by decide +kernel
theorem zd_W_leave_76 : decode zb_W_leave 76 = .ok (.if_icmp .ge 36, 3) := by decide +kernel
theorem zd_W_leave_79 : decode zb_W_leave 79 = .ok (.aload_n 0, 1) := by decide +kernel
theorem zd_W_leave_80 : decode zb_W_leave 80 = .ok (.getfield 18, 3) := by decide +kernel
theorem zd_W_leave_83 : decode zb_W_leave 83 = .ok (.iload 4, 2) := by decide +kernel
theorem zd_W_leave_85 : decode zb_W_leave 85 = .ok (.iaload, 1) := by decide +kernel
theorem zd_W_leave_86 : decode zb_W_leave 86 = .ok (.iload_n 1, 1) := by decide +kernel
theorem zd_W_leave_87 : decode zb_W_leave 87 = .ok (.if_icmp .ne 19, 3) := by decide +kernel
theorem zd_W_leave_90 : decode zb_W_leave 90 = .ok (.aload_n 0, 1) := by decide +kernel
theorem zd_W_leave_91 : decode zb_W_leave 91 = .ok (.iload 4, 2) := by decide +kernel
theorem zd_W_leave_93 : decode zb_W_leave 93 = .ok (.invokevirtual 193, 3) := by decide +kernel
theorem zd_W_leave_96 : decode zb_W_leave 96 = .ok (.iconst 1, 1) := by decide +kernel
theorem zd_W_leave_97 : decode zb_W_leave 97 = .ok (.if_icmp .ne 9, 3) := by decide +kernel
theorem zd_W_leave_100 : decode zb_W_leave 100 = .ok (.aload_n 0, 1) := by decide +kernel
theorem zd_W_leave_101 : decode zb_W_leave 101 = .ok (.iload 4, 2) := by decide +kernel
theorem zd_W_leave_103 : decode zb_W_leave 103 = .ok (.invokevirtual 357, 3) := by decide +kernel
theorem zd_W_leave_106 : decode zb_W_leave 106 = .ok (.iinc 4 1, 3) := by decide +kernel
theorem zd_W_leave_109 : decode zb_W_leave 109 = .ok (.goto (-39), 3) := by decide +kernel
theorem zd_W_leave_112 : decode zb_W_leave 112 = .ok (.iinc 1 1, 3) := by decide +kernel
theorem zd_W_leave_115 : decode zb_W_leave 115 = .ok (.goto (-113), 3) := by decide +kernel
theorem zd_W_leave_118 : decode zb_W_leave 118 = .ok (.return_, 1) := by decide +kernel

def zf_W_leave_112 (r0 : Int) (q2 : Int → Sg → Option (Int × Sg)) (x1 : Int) (S : Sg) : Option (Int × Sg) :=
    zlt (zw (x1 + 1)) fun v1 => q2 (v1) S
set_option maxHeartbeats 4000000 in
set_option maxRecDepth 100000 in
theorem zw_W_leave_112 {p : Program} {l : Launch} {e : Env} {s : State} {m : MethodId} {args : Array Value} {below : List Frame} {meth : Method} {c : Code} {B : zB} (C : CallFix p m c zb_W_leave 5 s args zT "IslandOfficeModel$World") (hr : meth.sig.returnType = none) (hlk : meth.locks = false) (hK : zK B s) (hSt : zSt B s) (hap : zAp B) (r0 : Int) (hr0 : 0 ≤ r0 ∧ r0 < 3) {res : Int} {S9 : Sg} (q2 : Int → Sg → Option (Int × Sg)) (hq2 : ∀ (x1 : Int) (S : Sg) (nx1 : zn x1), q2 x1 S = some (res, S9) → ∀ (H : Heap) (locs : List Loc) (ls : Array Slot), zW B S H → va_S B.2.2.2 s.heap H locs → lv_has ls 5 [(0, .ref (B.2.1 5 (r0) (0))), (1, .int (zI (x1)))] → W p l e zm_W_leave s m args below meth c H locs 0 0 (MQ below (zQv B S9) args s 0 0 B.2.2.2) (F0 m 2 ls [])) : ∀ (x1 : Int) (S : Sg) (nx1 : zn x1), zf_W_leave_112 r0 q2 x1 S = some (res, S9) → ∀ (H : Heap) (locs : List Loc) (ls : Array Slot), zW B S H → va_S B.2.2.2 s.heap H locs → lv_has ls 5 [(0, .ref (B.2.1 5 (r0) (0))), (1, .int (zI (x1)))] → W p l e zm_W_leave s m args below meth c H locs 0 0 (MQ below (zQv B S9) args s 0 0 B.2.2.2) (F0 m 112 ls []) := by
  intro x1 S nx1 hf H locs ls hW hS hl
  unfold zf_W_leave_112 at hf
  obtain ⟨v1, ev1, hf⟩ := zlt_some hf
  have nv1 : zn v1 := by rw [← ev1]; exact zn_w _
  refine lv_iinc (v := zI v1) (lv' := [(1, .int (zI (v1))), (0, .ref (B.2.1 5 (r0) (0)))]) C.1 C.2.1 zd_W_leave_112 hl (k := 1) rfl (by rw [← ev1, ← zI_add]; rfl) (by decide) rfl (fun ls hl => ?_)
  refine lv_goto (tgt := 2) C.1 C.2.1 zd_W_leave_115 (by decide) ?_
  exact hq2 (v1) S nv1 hf _ _ _ hW hS (lv_sub hl [1, 0] rfl)

def zf_W_leave_106 (r0 : Int) (q2 : Int → Sg → Option (Int × Sg)) (q70 : Int → Int → Sg → Option (Int × Sg)) (x1 : Int) (x4 : Int) (S : Sg) : Option (Int × Sg) :=
    zlt (zw (x4 + 1)) fun v1 => q70 (x1) (v1) S
set_option maxHeartbeats 4000000 in
set_option maxRecDepth 100000 in
theorem zw_W_leave_106 {p : Program} {l : Launch} {e : Env} {s : State} {m : MethodId} {args : Array Value} {below : List Frame} {meth : Method} {c : Code} {B : zB} (C : CallFix p m c zb_W_leave 5 s args zT "IslandOfficeModel$World") (hr : meth.sig.returnType = none) (hlk : meth.locks = false) (hK : zK B s) (hSt : zSt B s) (hap : zAp B) (r0 : Int) (hr0 : 0 ≤ r0 ∧ r0 < 3) {res : Int} {S9 : Sg} (q2 : Int → Sg → Option (Int × Sg)) (hq2 : ∀ (x1 : Int) (S : Sg) (nx1 : zn x1), q2 x1 S = some (res, S9) → ∀ (H : Heap) (locs : List Loc) (ls : Array Slot), zW B S H → va_S B.2.2.2 s.heap H locs → lv_has ls 5 [(0, .ref (B.2.1 5 (r0) (0))), (1, .int (zI (x1)))] → W p l e zm_W_leave s m args below meth c H locs 0 0 (MQ below (zQv B S9) args s 0 0 B.2.2.2) (F0 m 2 ls [])) (q70 : Int → Int → Sg → Option (Int × Sg)) (hq70 : ∀ (x1 : Int) (x4 : Int) (S : Sg) (nx1 : zn x1) (nx4 : zn x4), q70 x1 x4 S = some (res, S9) → ∀ (H : Heap) (locs : List Loc) (ls : Array Slot), zW B S H → va_S B.2.2.2 s.heap H locs → lv_has ls 5 [(0, .ref (B.2.1 5 (r0) (0))), (1, .int (zI (x1))), (4, .int (zI (x4)))] → W p l e zm_W_leave s m args below meth c H locs 0 0 (MQ below (zQv B S9) args s 0 0 B.2.2.2) (F0 m 70 ls [])) : ∀ (x1 : Int) (x4 : Int) (S : Sg) (nx1 : zn x1) (nx4 : zn x4), zf_W_leave_106 r0 q2 q70 x1 x4 S = some (res, S9) → ∀ (H : Heap) (locs : List Loc) (ls : Array Slot), zW B S H → va_S B.2.2.2 s.heap H locs → lv_has ls 5 [(0, .ref (B.2.1 5 (r0) (0))), (1, .int (zI (x1))), (4, .int (zI (x4)))] → W p l e zm_W_leave s m args below meth c H locs 0 0 (MQ below (zQv B S9) args s 0 0 B.2.2.2) (F0 m 106 ls []) := by
  intro x1 x4 S nx1 nx4 hf H locs ls hW hS hl
  unfold zf_W_leave_106 at hf
  obtain ⟨v1, ev1, hf⟩ := zlt_some hf
  have nv1 : zn v1 := by rw [← ev1]; exact zn_w _
  refine lv_iinc (v := zI v1) (lv' := [(4, .int (zI (v1))), (0, .ref (B.2.1 5 (r0) (0))), (1, .int (zI (x1)))]) C.1 C.2.1 zd_W_leave_106 hl (k := 2) rfl (by rw [← ev1, ← zI_add]; rfl) (by decide) rfl (fun ls hl => ?_)
  refine lv_goto (tgt := 70) C.1 C.2.1 zd_W_leave_109 (by decide) ?_
  exact hq70 (x1) (v1) S nx1 nv1 hf _ _ _ hW hS (lv_sub hl [1, 2, 0] rfl)

def zf_W_leave_70 (r0 : Int) (q2 : Int → Sg → Option (Int × Sg)) : Nat → Int → Int → Sg → Option (Int × Sg)
  | 0, _, _, _ => none
  | n + 1, x1, x4, S =>
    if (S 5 r0 0 1) ≤ x4 then (zf_W_leave_112 r0 q2 (x1) S) else (zck (0 ≤ x4 ∧ x4 < 40) <| if (S 5 r0 3 x4) = x1 then (zbd (zf_W_kind (r0) x4 S) fun a4 S5 => if a4 = 1 then (zbd (zf_W_go (r0) x4 S5) fun a7 S8 => zf_W_leave_106 r0 q2 (zf_W_leave_70 r0 q2 n) (x1) (x4) S8) else (zf_W_leave_106 r0 q2 (zf_W_leave_70 r0 q2 n) (x1) (x4) S5)) else (zf_W_leave_106 r0 q2 (zf_W_leave_70 r0 q2 n) (x1) (x4) S))
set_option maxHeartbeats 4000000 in
set_option maxRecDepth 100000 in
theorem zw_W_leave_70 {p : Program} {l : Launch} {e : Env} {s : State} {m : MethodId} {args : Array Value} {below : List Frame} {meth : Method} {c : Code} {B : zB} (C : CallFix p m c zb_W_leave 5 s args zT "IslandOfficeModel$World") (hr : meth.sig.returnType = none) (hlk : meth.locks = false) (hK : zK B s) (hSt : zSt B s) (hap : zAp B) (r0 : Int) (hr0 : 0 ≤ r0 ∧ r0 < 3) {res : Int} {S9 : Sg} (q2 : Int → Sg → Option (Int × Sg)) (hq2 : ∀ (x1 : Int) (S : Sg) (nx1 : zn x1), q2 x1 S = some (res, S9) → ∀ (H : Heap) (locs : List Loc) (ls : Array Slot), zW B S H → va_S B.2.2.2 s.heap H locs → lv_has ls 5 [(0, .ref (B.2.1 5 (r0) (0))), (1, .int (zI (x1)))] → W p l e zm_W_leave s m args below meth c H locs 0 0 (MQ below (zQv B S9) args s 0 0 B.2.2.2) (F0 m 2 ls [])) : ∀ n : Nat, ∀ (x1 : Int) (x4 : Int) (S : Sg) (nx1 : zn x1) (nx4 : zn x4), zf_W_leave_70 r0 q2 n x1 x4 S = some (res, S9) → ∀ (H : Heap) (locs : List Loc) (ls : Array Slot), zW B S H → va_S B.2.2.2 s.heap H locs → lv_has ls 5 [(0, .ref (B.2.1 5 (r0) (0))), (1, .int (zI (x1))), (4, .int (zI (x4)))] → W p l e zm_W_leave s m args below meth c H locs 0 0 (MQ below (zQv B S9) args s 0 0 B.2.2.2) (F0 m 70 ls []) := by
  intro n
  induction n with
  | zero =>
    intro x1 x4 S nx1 nx4 hf H locs ls hW hS hl
    cases hf
  | succ n ih =>
    intro x1 x4 S nx1 nx4 hf H locs ls hW hS hl
    rw [zf_W_leave_70] at hf
    refine lv_iload C.1 C.2.1 zd_W_leave_70 (lv_at hl 2 rfl) ?_
    refine lv_aload_n C.1 C.2.1 zd_W_leave_72 rfl (lv_at hl 0 rfl) ?_
    refine zg_W_people (r := r0) C hK hW (zvd_5 hr0 (by decide)) zk_1277 zd_W_leave_73 ?_
    refine zr_icmp_ge (tgt := 112) C nx4 (zWn hW _ _ _ _ rfl) zd_W_leave_76 (by decide) (fun c1 => ?_) (fun c1 => ?_)
    · rw [if_pos c1] at hf
      exact zw_W_leave_112 C hr hlk hK hSt hap r0 hr0 q2 hq2 (x1) S nx1 hf _ _ _ hW hS (lv_sub hl [0, 1] rfl)
    · rw [if_neg c1] at hf
      refine lv_aload_n C.1 C.2.1 zd_W_leave_79 rfl (lv_at hl 0 rfl) ?_
      refine zg_W_mother (r := r0) C hK hW (zvd_5 hr0 (by decide)) zk_1283 zd_W_leave_80 ?_
      refine lv_iload C.1 C.2.1 zd_W_leave_83 (lv_at hl 2 rfl) ?_
      obtain ⟨h2, hf⟩ := zck_some hf
      refine ziald C hK hW (zvd_5 hr0 (by decide)) (fun f => ze_5_3 B f (r0)) (by decide) h2 zd_W_leave_85 ?_
      refine lv_iload_n C.1 C.2.1 zd_W_leave_86 rfl (lv_at hl 1 rfl) ?_
      refine zr_icmp_ne (tgt := 106) C (zWn hW _ _ _ _ rfl) nx1 zd_W_leave_87 (by decide) (fun c3 => ?_) (fun c3 => ?_)
      · rw [if_neg c3] at hf
        exact zw_W_leave_106 C hr hlk hK hSt hap r0 hr0 q2 hq2 (zf_W_leave_70 r0 q2 n) (ih) (x1) (x4) S nx1 nx4 hf _ _ _ hW hS (lv_sub hl [0, 1, 2] rfl)
      · rw [if_pos c3] at hf
        refine lv_aload_n C.1 C.2.1 zd_W_leave_90 rfl (lv_at hl 0 rfl) ?_
        refine lv_iload C.1 C.2.1 zd_W_leave_91 (lv_at hl 2 rfl) ?_
        obtain ⟨a4, S5, ea4, hf⟩ := zbd_some hf
        refine zcVi (As := [.int (zI (x4))]) (rest := []) C hK hSt hW hS (zc_W_kind hap (r0) hr0 x4 S nx4 ea4) zq_W_kind zk_1621 (zrecv hK hW (zvd_5 hr0 (by decide)) (ze_5_0 B _ (r0)) rfl) ⟨rfl, rfl, by decide, by decide⟩ ⟨Nat.zero_le _, Nat.zero_le _⟩ rfl hl.1 rfl (lv_room (Nat.le_of_ble_eq_true rfl)) zd_W_leave_93 (fun na4 H locs hW hS => ?_)
        refine zr_iconst C zd_W_leave_96 ?_
        refine zr_icmp_ne (tgt := 106) C na4 (znb rfl) zd_W_leave_97 (by decide) (fun c6 => ?_) (fun c6 => ?_)
        · rw [if_neg c6] at hf
          exact zw_W_leave_106 C hr hlk hK hSt hap r0 hr0 q2 hq2 (zf_W_leave_70 r0 q2 n) (ih) (x1) (x4) S5 nx1 nx4 hf _ _ _ hW hS (lv_sub hl [0, 1, 2] rfl)
        · rw [if_pos c6] at hf
          refine lv_aload_n C.1 C.2.1 zd_W_leave_100 rfl (lv_at hl 0 rfl) ?_
          refine lv_iload C.1 C.2.1 zd_W_leave_101 (lv_at hl 2 rfl) ?_
          obtain ⟨a7, S8, ea7, hf⟩ := zbd_some hf
          refine zcVv (As := [.int (zI (x4))]) (rest := []) C hK hSt hW hS (zc_W_go hap (r0) hr0 x4 S5 nx4 ea7) zq_W_go zk_1976 (zrecv hK hW (zvd_5 hr0 (by decide)) (ze_5_0 B _ (r0)) rfl) ⟨rfl, rfl, by decide, by decide⟩ ⟨Nat.zero_le _, Nat.zero_le _⟩ rfl hl.1 rfl (lv_room (Nat.le_of_ble_eq_true rfl)) zd_W_leave_103 (fun H locs hW hS => ?_)
          exact zw_W_leave_106 C hr hlk hK hSt hap r0 hr0 q2 hq2 (zf_W_leave_70 r0 q2 n) (ih) (x1) (x4) S8 nx1 nx4 hf _ _ _ hW hS (lv_sub hl [0, 1, 2] rfl)

def zf_W_leave_30 (r0 : Int) (q2 : Int → Sg → Option (Int × Sg)) (x1 : Int) (xt0 : Int) (S : Sg) : Option (Int × Sg) :=
    if xt0 = 0 then (zf_W_leave_112 r0 q2 (x1) S) else (zck (0 ≤ x1 ∧ x1 < 40) <| if (S 5 r0 7 x1) < (S 5 r0 30 3) then (zf_W_leave_112 r0 q2 (x1) S) else (zbd (zf_W_may (r0) x1 3 S) fun a4 S5 => if a4 = 0 then (zf_W_leave_112 r0 q2 (x1) S5) else (zbd (zf_W_go (r0) x1 S5) fun a7 S8 => zf_W_leave_70 r0 q2 4096 (x1) (0) S8)))
set_option maxHeartbeats 4000000 in
set_option maxRecDepth 100000 in
theorem zw_W_leave_30 {p : Program} {l : Launch} {e : Env} {s : State} {m : MethodId} {args : Array Value} {below : List Frame} {meth : Method} {c : Code} {B : zB} (C : CallFix p m c zb_W_leave 5 s args zT "IslandOfficeModel$World") (hr : meth.sig.returnType = none) (hlk : meth.locks = false) (hK : zK B s) (hSt : zSt B s) (hap : zAp B) (r0 : Int) (hr0 : 0 ≤ r0 ∧ r0 < 3) {res : Int} {S9 : Sg} (q2 : Int → Sg → Option (Int × Sg)) (hq2 : ∀ (x1 : Int) (S : Sg) (nx1 : zn x1), q2 x1 S = some (res, S9) → ∀ (H : Heap) (locs : List Loc) (ls : Array Slot), zW B S H → va_S B.2.2.2 s.heap H locs → lv_has ls 5 [(0, .ref (B.2.1 5 (r0) (0))), (1, .int (zI (x1)))] → W p l e zm_W_leave s m args below meth c H locs 0 0 (MQ below (zQv B S9) args s 0 0 B.2.2.2) (F0 m 2 ls [])) : ∀ (x1 : Int) (xt0 : Int) (S : Sg) (nx1 : zn x1) (nxt0 : zn xt0), zf_W_leave_30 r0 q2 x1 xt0 S = some (res, S9) → ∀ (H : Heap) (locs : List Loc) (ls : Array Slot), zW B S H → va_S B.2.2.2 s.heap H locs → lv_has ls 5 [(0, .ref (B.2.1 5 (r0) (0))), (1, .int (zI (x1)))] → W p l e zm_W_leave s m args below meth c H locs 0 0 (MQ below (zQv B S9) args s 0 0 B.2.2.2) (F0 m 30 ls [.int (zI (xt0))]) := by
  intro x1 xt0 S nx1 nxt0 hf H locs ls hW hS hl
  unfold zf_W_leave_30 at hf
  refine lv_istore_n (lv' := [(3, .int (zI (xt0))), (0, .ref (B.2.1 5 (r0) (0))), (1, .int (zI (x1)))]) C.1 C.2.1 zd_W_leave_30 rfl hl (by decide) rfl (fun ls hl => ?_)
  refine lv_iload_n C.1 C.2.1 zd_W_leave_31 rfl (lv_at hl 0 rfl) ?_
  refine zr_if_eq (tgt := 112) C nxt0 zd_W_leave_32 (by decide) (fun c1 => ?_) (fun c1 => ?_)
  · rw [if_pos c1] at hf
    exact zw_W_leave_112 C hr hlk hK hSt hap r0 hr0 q2 hq2 (x1) S nx1 hf _ _ _ hW hS (lv_sub hl [1, 2] rfl)
  · rw [if_neg c1] at hf
    refine lv_aload_n C.1 C.2.1 zd_W_leave_35 rfl (lv_at hl 1 rfl) ?_
    refine zg_W_discontent (r := r0) C hK hW (zvd_5 hr0 (by decide)) zk_1291 zd_W_leave_36 ?_
    refine lv_iload_n C.1 C.2.1 zd_W_leave_39 rfl (lv_at hl 2 rfl) ?_
    obtain ⟨h2, hf⟩ := zck_some hf
    refine ziald C hK hW (zvd_5 hr0 (by decide)) (fun f => ze_5_7 B f (r0)) (by decide) h2 zd_W_leave_40 ?_
    refine lv_aload_n C.1 C.2.1 zd_W_leave_41 rfl (lv_at hl 1 rfl) ?_
    refine zg_W_set (r := r0) C hK hW (zvd_5 hr0 (by decide)) zk_1347 zd_W_leave_42 ?_
    refine zr_iconst C zd_W_leave_45 ?_
    refine ziald C hK hW (zvd_5 hr0 (by decide)) (fun f => ze_5_30 B f (r0)) (by decide) (by decide) zd_W_leave_46 ?_
    refine zr_icmp_lt (tgt := 112) C (zWn hW _ _ _ _ rfl) (zWn hW _ _ _ _ rfl) zd_W_leave_47 (by decide) (fun c3 => ?_) (fun c3 => ?_)
    · rw [if_pos c3] at hf
      exact zw_W_leave_112 C hr hlk hK hSt hap r0 hr0 q2 hq2 (x1) S nx1 hf _ _ _ hW hS (lv_sub hl [1, 2] rfl)
    · rw [if_neg c3] at hf
      refine lv_aload_n C.1 C.2.1 zd_W_leave_50 rfl (lv_at hl 1 rfl) ?_
      refine lv_iload_n C.1 C.2.1 zd_W_leave_51 rfl (lv_at hl 2 rfl) ?_
      refine zr_iconst C zd_W_leave_52 ?_
      obtain ⟨a4, S5, ea4, hf⟩ := zbd_some hf
      refine zcVi (As := [.int (zI (x1)), .int (zI (3))]) (rest := []) C hK hSt hW hS (zc_W_may hap (r0) hr0 x1 3 S nx1 (znb rfl) ea4) zq_W_may zk_1700 (zrecv hK hW (zvd_5 hr0 (by decide)) (ze_5_0 B _ (r0)) rfl) ⟨rfl, rfl, by decide, by decide⟩ ⟨Nat.zero_le _, Nat.zero_le _⟩ rfl hl.1 rfl (lv_room (Nat.le_of_ble_eq_true rfl)) zd_W_leave_53 (fun na4 H locs hW hS => ?_)
      refine zr_if_ne (tgt := 62) C na4 zd_W_leave_56 (by decide) (fun c6 => ?_) (fun c6 => ?_)
      · rw [if_neg c6] at hf
        refine lv_aload_n C.1 C.2.1 zd_W_leave_62 rfl (lv_at hl 1 rfl) ?_
        refine lv_iload_n C.1 C.2.1 zd_W_leave_63 rfl (lv_at hl 2 rfl) ?_
        obtain ⟨a7, S8, ea7, hf⟩ := zbd_some hf
        refine zcVv (As := [.int (zI (x1))]) (rest := []) C hK hSt hW hS (zc_W_go hap (r0) hr0 x1 S5 nx1 ea7) zq_W_go zk_1976 (zrecv hK hW (zvd_5 hr0 (by decide)) (ze_5_0 B _ (r0)) rfl) ⟨rfl, rfl, by decide, by decide⟩ ⟨Nat.zero_le _, Nat.zero_le _⟩ rfl hl.1 rfl (lv_room (Nat.le_of_ble_eq_true rfl)) zd_W_leave_64 (fun H locs hW hS => ?_)
        refine zr_iconst C zd_W_leave_67 ?_
        refine lv_istore (lv' := [(4, .int (zI (0))), (3, .int (zI (xt0))), (0, .ref (B.2.1 5 (r0) (0))), (1, .int (zI (x1)))]) C.1 C.2.1 zd_W_leave_68 hl (by decide) rfl (fun ls hl => ?_)
        exact zw_W_leave_70 C hr hlk hK hSt hap r0 hr0 q2 hq2 4096 (x1) (0) S8 nx1 (znb rfl) hf _ _ _ hW hS (lv_sub hl [2, 3, 0] rfl)
      · rw [if_pos c6] at hf
        refine lv_goto (tgt := 112) C.1 C.2.1 zd_W_leave_59 (by decide) ?_
        exact zw_W_leave_112 C hr hlk hK hSt hap r0 hr0 q2 hq2 (x1) S5 nx1 hf _ _ _ hW hS (lv_sub hl [1, 2] rfl)

def zf_W_leave_25 (r0 : Int) (q2 : Int → Sg → Option (Int × Sg)) (x1 : Int) (S : Sg) : Option (Int × Sg) :=
    zf_W_leave_30 r0 q2 (x1) (1) S
set_option maxHeartbeats 4000000 in
set_option maxRecDepth 100000 in
theorem zw_W_leave_25 {p : Program} {l : Launch} {e : Env} {s : State} {m : MethodId} {args : Array Value} {below : List Frame} {meth : Method} {c : Code} {B : zB} (C : CallFix p m c zb_W_leave 5 s args zT "IslandOfficeModel$World") (hr : meth.sig.returnType = none) (hlk : meth.locks = false) (hK : zK B s) (hSt : zSt B s) (hap : zAp B) (r0 : Int) (hr0 : 0 ≤ r0 ∧ r0 < 3) {res : Int} {S9 : Sg} (q2 : Int → Sg → Option (Int × Sg)) (hq2 : ∀ (x1 : Int) (S : Sg) (nx1 : zn x1), q2 x1 S = some (res, S9) → ∀ (H : Heap) (locs : List Loc) (ls : Array Slot), zW B S H → va_S B.2.2.2 s.heap H locs → lv_has ls 5 [(0, .ref (B.2.1 5 (r0) (0))), (1, .int (zI (x1)))] → W p l e zm_W_leave s m args below meth c H locs 0 0 (MQ below (zQv B S9) args s 0 0 B.2.2.2) (F0 m 2 ls [])) : ∀ (x1 : Int) (S : Sg) (nx1 : zn x1), zf_W_leave_25 r0 q2 x1 S = some (res, S9) → ∀ (H : Heap) (locs : List Loc) (ls : Array Slot), zW B S H → va_S B.2.2.2 s.heap H locs → lv_has ls 5 [(0, .ref (B.2.1 5 (r0) (0))), (1, .int (zI (x1)))] → W p l e zm_W_leave s m args below meth c H locs 0 0 (MQ below (zQv B S9) args s 0 0 B.2.2.2) (F0 m 25 ls []) := by
  intro x1 S nx1 hf H locs ls hW hS hl
  unfold zf_W_leave_25 at hf
  refine zr_iconst C zd_W_leave_25 ?_
  refine lv_goto (tgt := 30) C.1 C.2.1 zd_W_leave_26 (by decide) ?_
  exact zw_W_leave_30 C hr hlk hK hSt hap r0 hr0 q2 hq2 (x1) (1) S nx1 (znb rfl) hf _ _ _ hW hS (lv_sub hl [0, 1] rfl)

def zf_W_leave_2 (r0 : Int) : Nat → Int → Sg → Option (Int × Sg)
  | 0, _, _ => none
  | n + 1, x1, S =>
    if (S 5 r0 0 1) ≤ x1 then (some (0, S)) else (zbd (zf_W_kind (r0) x1 S) fun a2 S3 => if a2 = 0 then (zf_W_leave_25 r0 (zf_W_leave_2 r0 n) (x1) S3) else (if a2 = 2 then (zf_W_leave_25 r0 (zf_W_leave_2 r0 n) (x1) S3) else (zf_W_leave_30 r0 (zf_W_leave_2 r0 n) (x1) (0) S3)))
set_option maxHeartbeats 4000000 in
set_option maxRecDepth 100000 in
theorem zw_W_leave_2 {p : Program} {l : Launch} {e : Env} {s : State} {m : MethodId} {args : Array Value} {below : List Frame} {meth : Method} {c : Code} {B : zB} (C : CallFix p m c zb_W_leave 5 s args zT "IslandOfficeModel$World") (hr : meth.sig.returnType = none) (hlk : meth.locks = false) (hK : zK B s) (hSt : zSt B s) (hap : zAp B) (r0 : Int) (hr0 : 0 ≤ r0 ∧ r0 < 3) {res : Int} {S9 : Sg} : ∀ n : Nat, ∀ (x1 : Int) (S : Sg) (nx1 : zn x1), zf_W_leave_2 r0 n x1 S = some (res, S9) → ∀ (H : Heap) (locs : List Loc) (ls : Array Slot), zW B S H → va_S B.2.2.2 s.heap H locs → lv_has ls 5 [(0, .ref (B.2.1 5 (r0) (0))), (1, .int (zI (x1)))] → W p l e zm_W_leave s m args below meth c H locs 0 0 (MQ below (zQv B S9) args s 0 0 B.2.2.2) (F0 m 2 ls []) := by
  intro n
  induction n with
  | zero =>
    intro x1 S nx1 hf H locs ls hW hS hl
    cases hf
  | succ n ih =>
    intro x1 S nx1 hf H locs ls hW hS hl
    rw [zf_W_leave_2] at hf
    refine lv_iload_n C.1 C.2.1 zd_W_leave_2 rfl (lv_at hl 1 rfl) ?_
    refine lv_aload_n C.1 C.2.1 zd_W_leave_3 rfl (lv_at hl 0 rfl) ?_
    refine zg_W_people (r := r0) C hK hW (zvd_5 hr0 (by decide)) zk_1277 zd_W_leave_4 ?_
    refine zr_icmp_ge (tgt := 118) C nx1 (zWn hW _ _ _ _ rfl) zd_W_leave_7 (by decide) (fun c1 => ?_) (fun c1 => ?_)
    · rw [if_pos c1] at hf
      cases hf
      exact zre_v C hr hlk hK hW hS zd_W_leave_118
    · rw [if_neg c1] at hf
      refine lv_aload_n C.1 C.2.1 zd_W_leave_10 rfl (lv_at hl 0 rfl) ?_
      refine lv_iload_n C.1 C.2.1 zd_W_leave_11 rfl (lv_at hl 1 rfl) ?_
      obtain ⟨a2, S3, ea2, hf⟩ := zbd_some hf
      refine zcVi (As := [.int (zI (x1))]) (rest := []) C hK hSt hW hS (zc_W_kind hap (r0) hr0 x1 S nx1 ea2) zq_W_kind zk_1621 (zrecv hK hW (zvd_5 hr0 (by decide)) (ze_5_0 B _ (r0)) rfl) ⟨rfl, rfl, by decide, by decide⟩ ⟨Nat.zero_le _, Nat.zero_le _⟩ rfl hl.1 rfl (lv_room (Nat.le_of_ble_eq_true rfl)) zd_W_leave_12 (fun na2 H locs hW hS => ?_)
      refine lv_istore_n (lv' := [(2, .int (zI (a2))), (0, .ref (B.2.1 5 (r0) (0))), (1, .int (zI (x1)))]) C.1 C.2.1 zd_W_leave_15 rfl hl (by decide) rfl (fun ls hl => ?_)
      refine lv_iload_n C.1 C.2.1 zd_W_leave_16 rfl (lv_at hl 0 rfl) ?_
      refine zr_if_eq (tgt := 25) C na2 zd_W_leave_17 (by decide) (fun c4 => ?_) (fun c4 => ?_)
      · rw [if_pos c4] at hf
        exact zw_W_leave_25 C hr hlk hK hSt hap r0 hr0 (zf_W_leave_2 r0 n) (ih) (x1) S3 nx1 hf _ _ _ hW hS (lv_sub hl [1, 2] rfl)
      · rw [if_neg c4] at hf
        refine lv_iload_n C.1 C.2.1 zd_W_leave_20 rfl (lv_at hl 0 rfl) ?_
        refine zr_iconst C zd_W_leave_21 ?_
        refine zr_icmp_ne (tgt := 29) C na2 (znb rfl) zd_W_leave_22 (by decide) (fun c5 => ?_) (fun c5 => ?_)
        · rw [if_neg c5] at hf
          refine zr_iconst C zd_W_leave_29 ?_
          exact zw_W_leave_30 C hr hlk hK hSt hap r0 hr0 (zf_W_leave_2 r0 n) (ih) (x1) (0) S3 nx1 (znb rfl) hf _ _ _ hW hS (lv_sub hl [1, 2] rfl)
        · rw [if_pos c5] at hf
          exact zw_W_leave_25 C hr hlk hK hSt hap r0 hr0 (zf_W_leave_2 r0 n) (ih) (x1) S3 nx1 hf _ _ _ hW hS (lv_sub hl [1, 2] rfl)

def zf_W_leave (r0 : Int) (S : Sg) : Option (Int × Sg) :=
    zf_W_leave_2 r0 4096 (0) S
set_option maxHeartbeats 4000000 in
set_option maxRecDepth 100000 in
theorem zw_W_leave {p : Program} {l : Launch} {e : Env} {s : State} {m : MethodId} {args : Array Value} {below : List Frame} {meth : Method} {c : Code} {B : zB} (C : CallFix p m c zb_W_leave 5 s args zT "IslandOfficeModel$World") (hr : meth.sig.returnType = none) (hlk : meth.locks = false) (hK : zK B s) (hSt : zSt B s) (hap : zAp B) (r0 : Int) (hr0 : 0 ≤ r0 ∧ r0 < 3) {res : Int} {S9 : Sg} : ∀  (S : Sg) , zf_W_leave r0  S = some (res, S9) → ∀ (H : Heap) (locs : List Loc) (ls : Array Slot), zW B S H → va_S B.2.2.2 s.heap H locs → lv_has ls 5 [(0, .ref (B.2.1 5 (r0) (0)))] → W p l e zm_W_leave s m args below meth c H locs 0 0 (MQ below (zQv B S9) args s 0 0 B.2.2.2) (F0 m 0 ls []) := by
  intro S hf H locs ls hW hS hl
  unfold zf_W_leave at hf
  refine zr_iconst C zd_W_leave_0 ?_
  refine lv_istore_n (lv' := [(1, .int (zI (0))), (0, .ref (B.2.1 5 (r0) (0)))]) C.1 C.2.1 zd_W_leave_1 rfl hl (by decide) rfl (fun ls hl => ?_)
  exact zw_W_leave_2 C hr hlk hK hSt hap r0 hr0 4096 (0) S (znb rfl) hf _ _ _ hW hS (lv_sub hl [1, 0] rfl)

theorem zc_W_leave {l : Launch} {B : zB} (hap : zAp B) (r0 : Int) (hr0 : 0 ≤ r0 ∧ r0 < 3) (S : Sg) {res : Int} {S9 : Sg} (hf : zf_W_leave r0 S = some (res, S9)) : Met l zy_W_leave (Cond.code zy_W_leave zb_W_leave 5 (none) :: zT) zm_W_leave (zP B S [.ref (B.2.1 5 (r0) (0))]) (zQv B S9) 0 0 B.2.2.2 :=
  zmet (by decide) (Nat.le_of_ble_eq_true rfl) (fun p e s m args below meth c C hr hlk hK hSt hW ls hl => zw_W_leave C hr hlk hK hSt hap r0 hr0  S  hf _ _ _ hW va_S.rf hl)
/-! IslandOfficeModel$World.payOne(I)V -/
abbrev zy_W_payOne : MethodName := ⟨"IslandOfficeModel$World", "payOne", "(I)V"⟩
abbrev zb_W_payOne : ByteArray := prog_15_method_49_code
abbrev zm_W_payOne : Room := { frames := 0, cells := 0, slots := 0, locals := 0 }
theorem zq_W_payOne : zMy zy_W_payOne zb_W_payOne 2 (none) 1 := ⟨zk_1971, zk_1970, zs_90, zk_15, by decide, by decide, by decide +kernel⟩
theorem zd_W_payOne_0 : decode zb_W_payOne 0 = .ok (.iload_n 1, 1) := by decide +kernel
theorem zd_W_payOne_1 : decode zb_W_payOne 1 = .ok (.ifCond .ne 4, 3) := by decide +kernel
theorem zd_W_payOne_4 : decode zb_W_payOne 4 = .ok (.return_, 1) := by decide +kernel
theorem zd_W_payOne_5 : decode zb_W_payOne 5 = .ok (.aload_n 0, 1) := by decide +kernel
theorem zd_W_payOne_6 : decode zb_W_payOne 6 = .ok (.getfield 174, 3) := by decide +kernel
theorem zd_W_payOne_9 : decode zb_W_payOne 9 = .ok (.iload_n 1, 1) := by decide +kernel
theorem zd_W_payOne_10 : decode zb_W_payOne 10 = .ok (.if_icmp .lt 16, 3) := by decide +kernel
theorem zd_W_payOne_13 : decode zb_W_payOne 13 = .ok (.aload_n 0, 1) := by decide +kernel
theorem zd_W_payOne_14 : decode zb_W_payOne 14 = .ok (.dup, 1) := by decide +kernel
theorem zd_W_payOne_15 : decode zb_W_payOne 15 = .ok (.getfield 174, 3) := by decide +kernel
theorem zd_W_payOne_18 : decode zb_W_payOne 18 = .ok (.iload_n 1, 1) := by decide +kernel
theorem zd_W_payOne_19 : decode zb_W_payOne 19 = .ok (.isub, 1) := by decide +kernel
theorem zd_W_payOne_20 : decode zb_W_payOne 20 = .ok (.putfield 174, 3) := by decide +kernel
theorem zd_W_payOne_23 : decode zb_W_payOne 23 = .ok (.goto 13, 3) := by decide +kernel
theorem zd_W_payOne_26 : decode zb_W_payOne 26 = .ok (.aload_n 0, 1) := by decide +kernel
theorem zd_W_payOne_27 : decode zb_W_payOne 27 = .ok (.dup, 1) := by decide +kernel
theorem zd_W_payOne_28 : decode zb_W_payOne 28 = .ok (.getfield 180, 3) := by decide +kernel
theorem zd_W_payOne_31 : decode zb_W_payOne 31 = .ok (.iconst 1, 1) := by decide +kernel
theorem zd_W_payOne_32 : decode zb_W_payOne 32 = .ok (.iadd, 1) := by decide +kernel
theorem zd_W_payOne_33 : decode zb_W_payOne 33 = .ok (.putfield 180, 3) := by decide +kernel
theorem zd_W_payOne_36 : decode zb_W_payOne 36 = .ok (.return_, 1) := by decide +kernel

def zf_W_payOne (r0 : Int) (x1 : Int) (S : Sg) : Option (Int × Sg) :=
    if x1 = 0 then (some (0, S)) else (if (S 5 r0 0 38) < x1 then (zlt (zu S 5 r0 0 40 (zw ((S 5 r0 0 40) + 1))) fun S3 => some (0, S3)) else (zlt (zu S 5 r0 0 38 (zw ((S 5 r0 0 38) - x1))) fun S4 => some (0, S4)))
set_option maxHeartbeats 4000000 in
set_option maxRecDepth 100000 in
theorem zw_W_payOne {p : Program} {l : Launch} {e : Env} {s : State} {m : MethodId} {args : Array Value} {below : List Frame} {meth : Method} {c : Code} {B : zB} (C : CallFix p m c zb_W_payOne 2 s args zT "IslandOfficeModel$World") (hr : meth.sig.returnType = none) (hlk : meth.locks = false) (hK : zK B s) (hSt : zSt B s) (hap : zAp B) (r0 : Int) (hr0 : 0 ≤ r0 ∧ r0 < 3) {res : Int} {S9 : Sg} : ∀ (x1 : Int) (S : Sg) (nx1 : zn x1), zf_W_payOne r0 x1 S = some (res, S9) → ∀ (H : Heap) (locs : List Loc) (ls : Array Slot), zW B S H → va_S B.2.2.2 s.heap H locs → lv_has ls 2 [(0, .ref (B.2.1 5 (r0) (0))), (1, .int (zI (x1)))] → W p l e zm_W_payOne s m args below meth c H locs 0 0 (MQ below (zQv B S9) args s 0 0 B.2.2.2) (F0 m 0 ls []) := by
  intro x1 S nx1 hf H locs ls hW hS hl
  unfold zf_W_payOne at hf
  refine lv_iload_n C.1 C.2.1 zd_W_payOne_0 rfl (lv_at hl 1 rfl) ?_
  refine zr_if_ne (tgt := 5) C nx1 zd_W_payOne_1 (by decide) (fun c1 => ?_) (fun c1 => ?_)
  · rw [if_neg c1] at hf
    refine lv_aload_n C.1 C.2.1 zd_W_payOne_5 rfl (lv_at hl 0 rfl) ?_
    refine zg_W_purse (r := r0) C hK hW (zvd_5 hr0 (by decide)) zk_1351 zd_W_payOne_6 ?_
    refine lv_iload_n C.1 C.2.1 zd_W_payOne_9 rfl (lv_at hl 1 rfl) ?_
    refine zr_icmp_lt (tgt := 26) C (zWn hW _ _ _ _ rfl) nx1 zd_W_payOne_10 (by decide) (fun c2 => ?_) (fun c2 => ?_)
    · rw [if_pos c2] at hf
      refine lv_aload_n C.1 C.2.1 zd_W_payOne_26 rfl (lv_at hl 0 rfl) ?_
      refine lv_dup C.1 C.2.1 zd_W_payOne_27 rfl ?_
      refine zg_W_unpaid (r := r0) C hK hW (zvd_5 hr0 (by decide)) zk_1355 zd_W_payOne_28 ?_
      refine zr_iconst C zd_W_payOne_31 ?_
      refine zr_iadd C zd_W_payOne_32 ?_
      obtain ⟨S3, eS3, hf⟩ := zlt_some hf
      refine zp_W_unpaid (r := r0) C hK hap hW hS (zvd_5 hr0 (by decide)) zk_1355 (zn_w _) zd_W_payOne_33 (fun H locs hW hS => ?_)
      rw [eS3] at hW
      cases hf
      exact zre_v C hr hlk hK hW hS zd_W_payOne_36
    · rw [if_neg c2] at hf
      refine lv_aload_n C.1 C.2.1 zd_W_payOne_13 rfl (lv_at hl 0 rfl) ?_
      refine lv_dup C.1 C.2.1 zd_W_payOne_14 rfl ?_
      refine zg_W_purse (r := r0) C hK hW (zvd_5 hr0 (by decide)) zk_1351 zd_W_payOne_15 ?_
      refine lv_iload_n C.1 C.2.1 zd_W_payOne_18 rfl (lv_at hl 1 rfl) ?_
      refine zr_isub C zd_W_payOne_19 ?_
      obtain ⟨S4, eS4, hf⟩ := zlt_some hf
      refine zp_W_purse (r := r0) C hK hap hW hS (zvd_5 hr0 (by decide)) zk_1351 (zn_w _) zd_W_payOne_20 (fun H locs hW hS => ?_)
      rw [eS4] at hW
      refine lv_goto (tgt := 36) C.1 C.2.1 zd_W_payOne_23 (by decide) ?_
      cases hf
      exact zre_v C hr hlk hK hW hS zd_W_payOne_36
  · rw [if_pos c1] at hf
    cases hf
    exact zre_v C hr hlk hK hW hS zd_W_payOne_4

theorem zc_W_payOne {l : Launch} {B : zB} (hap : zAp B) (r0 : Int) (hr0 : 0 ≤ r0 ∧ r0 < 3) (x1 : Int) (S : Sg) (nx1 : zn x1) {res : Int} {S9 : Sg} (hf : zf_W_payOne r0 x1 S = some (res, S9)) : Met l zy_W_payOne (Cond.code zy_W_payOne zb_W_payOne 2 (none) :: zT) zm_W_payOne (zP B S [.ref (B.2.1 5 (r0) (0)), .int (zI (x1))]) (zQv B S9) 0 0 B.2.2.2 :=
  zmet (by decide) (Nat.le_of_ble_eq_true rfl) (fun p e s m args below meth c C hr hlk hK hSt hW ls hl => zw_W_payOne C hr hlk hK hSt hap r0 hr0 x1 S nx1 hf _ _ _ hW va_S.rf hl)
/-! IslandOfficeModel$World.pay()V -/
abbrev zy_W_pay : MethodName := ⟨"IslandOfficeModel$World", "pay", "()V"⟩
abbrev zb_W_pay : ByteArray := prog_15_method_50_code
abbrev zm_W_pay : Room := { frames := 3, cells := 0, slots := 0, locals := 64 }
theorem zq_W_pay : zMy zy_W_pay zb_W_pay 4 (none) 0 := ⟨zk_1961, zk_1960, zs_89, zk_15, by decide, by decide, by decide +kernel⟩
theorem zd_W_pay_0 : decode zb_W_pay 0 = .ok (.aload_n 0, 1) := by decide +kernel
theorem zd_W_pay_1 : decode zb_W_pay 1 = .ok (.ldc_w 346, 3) := by decide +kernel
theorem zd_W_pay_4 : decode zb_W_pay 4 = .ok (.aload_n 0, 1) := by decide +kernel
theorem zd_W_pay_5 : decode zb_W_pay 5 = .ok (.getfield 174, 3) := by decide +kernel
theorem zd_W_pay_8 : decode zb_W_pay 8 = .ok (.iconst 5, 1) := by decide +kernel
theorem zd_W_pay_9 : decode zb_W_pay 9 = .ok (.aload_n 0, 1) := by decide +kernel
theorem zd_W_pay_10 : decode zb_W_pay 10 = .ok (.iconst 1, 1) := by decide +kernel
theorem zd_W_pay_11 : decode zb_W_pay 11 = .ok (.invokevirtual 347, 3) := by decide +kernel
theorem zd_W_pay_14 : decode zb_W_pay 14 = .ok (.imul, 1) := by decide +kernel
theorem zd_W_pay_15 : decode zb_W_pay 15 = .ok (.iadd, 1) := by decide +kernel
theorem zd_W_pay_16 : decode zb_W_pay 16 = .ok (.invokestatic 314, 3) := by decide +kernel
theorem zd_W_pay_19 : decode zb_W_pay 19 = .ok (.putfield 174, 3) := by decide +kernel
theorem zd_W_pay_22 : decode zb_W_pay 22 = .ok (.iconst 0, 1) := by decide +kernel
theorem zd_W_pay_23 : decode zb_W_pay 23 = .ok (.istore_n 1, 1) := by decide +kernel
theorem zd_W_pay_24 : decode zb_W_pay 24 = .ok (.iload_n 1, 1) := by decide +kernel
theorem zd_W_pay_25 : decode zb_W_pay 25 = .ok (.iconst 3, 1) := by decide +kernel
theorem zd_W_pay_26 : decode zb_W_pay 26 = .ok (.if_icmp .ge 133, 3) := by decide +kernel
theorem zd_W_pay_29 : decode zb_W_pay 29 = .ok (.aload_n 0, 1) := by decide +kernel
theorem zd_W_pay_30 : decode zb_W_pay 30 = .ok (.getfield 111, 3) := by decide +kernel
theorem zd_W_pay_33 : decode zb_W_pay 33 = .ok (.iload_n 1, 1) := by decide +kernel
theorem zd_W_pay_34 : decode zb_W_pay 34 = .ok (.iaload, 1) := by decide +kernel
theorem zd_W_pay_35 : decode zb_W_pay 35 = .ok (.iconst 2, 1) := by decide +kernel
theorem zd_W_pay_36 : decode zb_W_pay 36 = .ok (.if_icmp .ne 34, 3) := by decide +kernel
theorem zd_W_pay_39 : decode zb_W_pay 39 = .ok (.aload_n 0, 1) := by decide +kernel
theorem zd_W_pay_40 : decode zb_W_pay 40 = .ok (.getfield 174, 3) := by decide +kernel
theorem zd_W_pay_43 : decode zb_W_pay 43 = .ok (.iconst 5, 1) := by decide +kernel
theorem zd_W_pay_44 : decode zb_W_pay 44 = .ok (.if_icmp .lt 109, 3) := by decide +kernel
theorem zd_W_pay_47 : decode zb_W_pay 47 = .ok (.aload_n 0, 1) := by decide +kernel
theorem zd_W_pay_48 : decode zb_W_pay 48 = .ok (.dup, 1) := by decide +kernel
theorem zd_W_pay_49 : decode zb_W_pay 49 = .ok (.getfield 174, 3) := by decide +kernel
theorem zd_W_pay_52 : decode zb_W_pay 52 = .ok (.iconst 5, 1) := by decide +kernel
theorem zd_W_pay_53 : decode zb_W_pay 53 = .ok (.isub, 1) := by decide +kernel
theorem zd_W_pay_54 : decode zb_W_pay 54 = .ok (.putfield 174, 3) := by decide +kernel
theorem zd_W_pay_57 : decode zb_W_pay 57 = .ok (.aload_n 0, 1) := by decide +kernel
theorem zd_W_pay_58 : decode zb_W_pay 58 = .ok (.dup, 1) := by decide +kernel
theorem zd_W_pay_59 : decode zb_W_pay 59 = .ok (.getfield 177, 3) := by decide +kernel
theorem zd_W_pay_62 : decode zb_W_pay 62 = .ok (.iconst 5, 1) := by decide +kernel
theorem zd_W_pay_63 : decode zb_W_pay 63 = .ok (.iadd, 1) := by decide +kernel
theorem zd_W_pay_64 : decode zb_W_pay 64 = .ok (.putfield 177, 3) := by decide +kernel
theorem zd_W_pay_67 : decode zb_W_pay 67 = .ok (.goto 86, 3) := by decide +kernel
theorem zd_W_pay_70 : decode zb_W_pay 70 = .ok (.iconst 0, 1) := by decide +kernel
theorem zd_W_pay_71 : decode zb_W_pay 71 = .ok (.istore_n 2, 1) := by decide +kernel
theorem zd_W_pay_72 : decode zb_W_pay 72 = .ok (.iload_n 2, 1) := by decide +kernel
theorem zd_W_pay_73 : decode zb_W_pay 73 = .ok (.aload_n 0, 1) := by decide +kernel
theorem zd_W_pay_74 : decode zb_W_pay 74 = .ok (.getfield 158, 3) := by decide +kernel
theorem zd_W_pay_77 : decode zb_W_pay 77 = .ok (.if_icmp .ge 76, 3) := by decide +kernel
theorem zd_W_pay_80 : decode zb_W_pay 80 = .ok (.aload_n 0, 1) := by decide +kernel
theorem zd_W_pay_81 : decode zb_W_pay 81 = .ok (.iload_n 2, 1) := by decide +kernel
theorem zd_W_pay_82 : decode zb_W_pay 82 = .ok (.invokevirtual 193, 3) := by decide +kernel
theorem zd_W_pay_85 : decode zb_W_pay 85 = .ok (.iconst 2, 1) := by decide +kernel
theorem zd_W_pay_86 : decode zb_W_pay 86 = .ok (.if_icmp .eq 12, 3) := by decide +kernel
theorem zd_W_pay_89 : decode zb_W_pay 89 = .ok (.aload_n 0, 1) := by decide +kernel
theorem zd_W_pay_90 : decode zb_W_pay 90 = .ok (.iload_n 2, 1) := by decide +kernel
theorem zd_W_pay_91 : decode zb_W_pay 91 = .ok (.invokevirtual 193, 3) := by decide +kernel
theorem zd_W_pay_94 : decode zb_W_pay 94 = .ok (.iconst 5, 1) := by decide +kernel
theorem zd_W_pay_95 : decode zb_W_pay 95 = .ok (.if_icmp .ne 7, 3) := by decide +kernel
theorem zd_W_pay_98 : decode zb_W_pay 98 = .ok (.iconst 1, 1) := by decide +kernel
theorem zd_W_pay_99 : decode zb_W_pay 99 = .ok (.goto 4, 3) := by decide +kernel
theorem zd_W_pay_102 : decode zb_W_pay 102 = .ok (.iconst 0, 1) := by decide +kernel
theorem zd_W_pay_103 : decode zb_W_pay 103 = .ok (.istore_n 3, 1) := by decide +kernel
theorem zd_W_pay_104 : decode zb_W_pay 104 = .ok (.aload_n 0, 1) := by decide +kernel
theorem zd_W_pay_105 : decode zb_W_pay 105 = .ok (.getfield 111, 3) := by decide +kernel
theorem zd_W_pay_108 : decode zb_W_pay 108 = .ok (.iload_n 1, 1) := by decide +kernel
theorem zd_W_pay_109 : decode zb_W_pay 109 = .ok (.iaload, 1) := by decide +kernel
theorem zd_W_pay_110 : decode zb_W_pay 110 = .ok (.ifCond .ne 19, 3) := by decide +kernel
theorem zd_W_pay_113 : decode zb_W_pay 113 = .ok (.iload_n 3, 1) := by decide +kernel
theorem zd_W_pay_114 : decode zb_W_pay 114 = .ok (.ifCond .eq 33, 3) := by decide +kernel
theorem zd_W_pay_117 : decode zb_W_pay 117 = .ok (.aload_n 0, 1) := by decide +kernel
theorem zd_W_pay_118 : decode zb_W_pay 118 = .ok (.getfield 33, 3) := by decide +kernel
theorem zd_W_pay_121 : decode zb_W_pay 121 = .ok (.iload_n 2, 1) := by decide +kernel
theorem zd_W_pay_122 : decode zb_W_pay 122 = .ok (.iaload, 1) := by decide +kernel
theorem zd_W_pay_123 : decode zb_W_pay 123 = .ok (.ifCond .lt 24, 3) := by decide +kernel
theorem zd_W_pay_126 : decode zb_W_pay 126 = .ok (.goto 12, 3) := by decide +kernel
theorem zd_W_pay_129 : decode zb_W_pay 129 = .ok (.aload_n 0, 1) := by decide +kernel
theorem zd_W_pay_130 : decode zb_W_pay 130 = .ok (.iload_n 2, 1) := by decide +kernel
theorem zd_W_pay_131 : decode zb_W_pay 131 = .ok (.invokevirtual 193, 3) := by decide +kernel
theorem zd_W_pay_134 : decode zb_W_pay 134 = .ok (.iconst 4, 1) := by decide +kernel
theorem zd_W_pay_135 : decode zb_W_pay 135 = .ok (.if_icmp .ne 12, 3) := by decide +kernel
theorem zd_W_pay_138 : decode zb_W_pay 138 = .ok (.aload_n 0, 1) := by decide +kernel
theorem zd_W_pay_139 : decode zb_W_pay 139 = .ok (.aload_n 0, 1) := by decide +kernel
theorem zd_W_pay_140 : decode zb_W_pay 140 = .ok (.iload_n 2, 1) := by decide +kernel
theorem zd_W_pay_141 : decode zb_W_pay 141 = .ok (.invokevirtual 350, 3) := by decide +kernel
theorem zd_W_pay_144 : decode zb_W_pay 144 = .ok (.invokevirtual 353, 3) := by decide +kernel
theorem zd_W_pay_147 : decode zb_W_pay 147 = .ok (.iinc 2 1, 3) := by decide +kernel
theorem zd_W_pay_150 : decode zb_W_pay 150 = .ok (.goto (-78), 3) := by decide +kernel
theorem zd_W_pay_153 : decode zb_W_pay 153 = .ok (.iinc 1 1, 3) := by decide +kernel
theorem zd_W_pay_156 : decode zb_W_pay 156 = .ok (.goto (-132), 3) := by decide +kernel
theorem zd_W_pay_159 : decode zb_W_pay 159 = .ok (.return_, 1) := by decide +kernel

def zf_W_pay_153 (r0 : Int) (q24 : Int → Sg → Option (Int × Sg)) (x1 : Int) (S : Sg) : Option (Int × Sg) :=
    zlt (zw (x1 + 1)) fun v1 => q24 (v1) S
set_option maxHeartbeats 4000000 in
set_option maxRecDepth 100000 in
theorem zw_W_pay_153 {p : Program} {l : Launch} {e : Env} {s : State} {m : MethodId} {args : Array Value} {below : List Frame} {meth : Method} {c : Code} {B : zB} (C : CallFix p m c zb_W_pay 4 s args zT "IslandOfficeModel$World") (hr : meth.sig.returnType = none) (hlk : meth.locks = false) (hK : zK B s) (hSt : zSt B s) (hap : zAp B) (r0 : Int) (hr0 : 0 ≤ r0 ∧ r0 < 3) {res : Int} {S9 : Sg} (q24 : Int → Sg → Option (Int × Sg)) (hq24 : ∀ (x1 : Int) (S : Sg) (nx1 : zn x1), q24 x1 S = some (res, S9) → ∀ (H : Heap) (locs : List Loc) (ls : Array Slot), zW B S H → va_S B.2.2.2 s.heap H locs → lv_has ls 4 [(0, .ref (B.2.1 5 (r0) (0))), (1, .int (zI (x1)))] → W p l e zm_W_pay s m args below meth c H locs 0 0 (MQ below (zQv B S9) args s 0 0 B.2.2.2) (F0 m 24 ls [])) : ∀ (x1 : Int) (S : Sg) (nx1 : zn x1), zf_W_pay_153 r0 q24 x1 S = some (res, S9) → ∀ (H : Heap) (locs : List Loc) (ls : Array Slot), zW B S H → va_S B.2.2.2 s.heap H locs → lv_has ls 4 [(0, .ref (B.2.1 5 (r0) (0))), (1, .int (zI (x1)))] → W p l e zm_W_pay s m args below meth c H locs 0 0 (MQ below (zQv B S9) args s 0 0 B.2.2.2) (F0 m 153 ls []) := by
  intro x1 S nx1 hf H locs ls hW hS hl
  unfold zf_W_pay_153 at hf
  obtain ⟨v1, ev1, hf⟩ := zlt_some hf
  have nv1 : zn v1 := by rw [← ev1]; exact zn_w _
  refine lv_iinc (v := zI v1) (lv' := [(1, .int (zI (v1))), (0, .ref (B.2.1 5 (r0) (0)))]) C.1 C.2.1 zd_W_pay_153 hl (k := 1) rfl (by rw [← ev1, ← zI_add]; rfl) (by decide) rfl (fun ls hl => ?_)
  refine lv_goto (tgt := 24) C.1 C.2.1 zd_W_pay_156 (by decide) ?_
  exact hq24 (v1) S nv1 hf _ _ _ hW hS (lv_sub hl [1, 0] rfl)

def zf_W_pay_147 (r0 : Int) (q24 : Int → Sg → Option (Int × Sg)) (q72 : Int → Int → Sg → Option (Int × Sg)) (x1 : Int) (x2 : Int) (S : Sg) : Option (Int × Sg) :=
    zlt (zw (x2 + 1)) fun v1 => q72 (x1) (v1) S
set_option maxHeartbeats 4000000 in
set_option maxRecDepth 100000 in
theorem zw_W_pay_147 {p : Program} {l : Launch} {e : Env} {s : State} {m : MethodId} {args : Array Value} {below : List Frame} {meth : Method} {c : Code} {B : zB} (C : CallFix p m c zb_W_pay 4 s args zT "IslandOfficeModel$World") (hr : meth.sig.returnType = none) (hlk : meth.locks = false) (hK : zK B s) (hSt : zSt B s) (hap : zAp B) (r0 : Int) (hr0 : 0 ≤ r0 ∧ r0 < 3) {res : Int} {S9 : Sg} (q24 : Int → Sg → Option (Int × Sg)) (hq24 : ∀ (x1 : Int) (S : Sg) (nx1 : zn x1), q24 x1 S = some (res, S9) → ∀ (H : Heap) (locs : List Loc) (ls : Array Slot), zW B S H → va_S B.2.2.2 s.heap H locs → lv_has ls 4 [(0, .ref (B.2.1 5 (r0) (0))), (1, .int (zI (x1)))] → W p l e zm_W_pay s m args below meth c H locs 0 0 (MQ below (zQv B S9) args s 0 0 B.2.2.2) (F0 m 24 ls [])) (q72 : Int → Int → Sg → Option (Int × Sg)) (hq72 : ∀ (x1 : Int) (x2 : Int) (S : Sg) (nx1 : zn x1) (nx2 : zn x2), q72 x1 x2 S = some (res, S9) → ∀ (H : Heap) (locs : List Loc) (ls : Array Slot), zW B S H → va_S B.2.2.2 s.heap H locs → lv_has ls 4 [(0, .ref (B.2.1 5 (r0) (0))), (1, .int (zI (x1))), (2, .int (zI (x2)))] → W p l e zm_W_pay s m args below meth c H locs 0 0 (MQ below (zQv B S9) args s 0 0 B.2.2.2) (F0 m 72 ls [])) : ∀ (x1 : Int) (x2 : Int) (S : Sg) (nx1 : zn x1) (nx2 : zn x2), zf_W_pay_147 r0 q24 q72 x1 x2 S = some (res, S9) → ∀ (H : Heap) (locs : List Loc) (ls : Array Slot), zW B S H → va_S B.2.2.2 s.heap H locs → lv_has ls 4 [(0, .ref (B.2.1 5 (r0) (0))), (1, .int (zI (x1))), (2, .int (zI (x2)))] → W p l e zm_W_pay s m args below meth c H locs 0 0 (MQ below (zQv B S9) args s 0 0 B.2.2.2) (F0 m 147 ls []) := by
  intro x1 x2 S nx1 nx2 hf H locs ls hW hS hl
  unfold zf_W_pay_147 at hf
  obtain ⟨v1, ev1, hf⟩ := zlt_some hf
  have nv1 : zn v1 := by rw [← ev1]; exact zn_w _
  refine lv_iinc (v := zI v1) (lv' := [(2, .int (zI (v1))), (0, .ref (B.2.1 5 (r0) (0))), (1, .int (zI (x1)))]) C.1 C.2.1 zd_W_pay_147 hl (k := 2) rfl (by rw [← ev1, ← zI_add]; rfl) (by decide) rfl (fun ls hl => ?_)
  refine lv_goto (tgt := 72) C.1 C.2.1 zd_W_pay_150 (by decide) ?_
  exact hq72 (x1) (v1) S nx1 nv1 hf _ _ _ hW hS (lv_sub hl [1, 2, 0] rfl)

def zf_W_pay_138 (r0 : Int) (q24 : Int → Sg → Option (Int × Sg)) (q72 : Int → Int → Sg → Option (Int × Sg)) (x1 : Int) (x2 : Int) (S : Sg) : Option (Int × Sg) :=
    zbd (zf_W_wageOf (r0) x2 S) fun a1 S2 => zbd (zf_W_payOne (r0) a1 S2) fun a3 S4 => zf_W_pay_147 r0 q24 q72 (x1) (x2) S4
set_option maxHeartbeats 4000000 in
set_option maxRecDepth 100000 in
theorem zw_W_pay_138 {p : Program} {l : Launch} {e : Env} {s : State} {m : MethodId} {args : Array Value} {below : List Frame} {meth : Method} {c : Code} {B : zB} (C : CallFix p m c zb_W_pay 4 s args zT "IslandOfficeModel$World") (hr : meth.sig.returnType = none) (hlk : meth.locks = false) (hK : zK B s) (hSt : zSt B s) (hap : zAp B) (r0 : Int) (hr0 : 0 ≤ r0 ∧ r0 < 3) {res : Int} {S9 : Sg} (q24 : Int → Sg → Option (Int × Sg)) (hq24 : ∀ (x1 : Int) (S : Sg) (nx1 : zn x1), q24 x1 S = some (res, S9) → ∀ (H : Heap) (locs : List Loc) (ls : Array Slot), zW B S H → va_S B.2.2.2 s.heap H locs → lv_has ls 4 [(0, .ref (B.2.1 5 (r0) (0))), (1, .int (zI (x1)))] → W p l e zm_W_pay s m args below meth c H locs 0 0 (MQ below (zQv B S9) args s 0 0 B.2.2.2) (F0 m 24 ls [])) (q72 : Int → Int → Sg → Option (Int × Sg)) (hq72 : ∀ (x1 : Int) (x2 : Int) (S : Sg) (nx1 : zn x1) (nx2 : zn x2), q72 x1 x2 S = some (res, S9) → ∀ (H : Heap) (locs : List Loc) (ls : Array Slot), zW B S H → va_S B.2.2.2 s.heap H locs → lv_has ls 4 [(0, .ref (B.2.1 5 (r0) (0))), (1, .int (zI (x1))), (2, .int (zI (x2)))] → W p l e zm_W_pay s m args below meth c H locs 0 0 (MQ below (zQv B S9) args s 0 0 B.2.2.2) (F0 m 72 ls [])) : ∀ (x1 : Int) (x2 : Int) (S : Sg) (nx1 : zn x1) (nx2 : zn x2), zf_W_pay_138 r0 q24 q72 x1 x2 S = some (res, S9) → ∀ (H : Heap) (locs : List Loc) (ls : Array Slot), zW B S H → va_S B.2.2.2 s.heap H locs → lv_has ls 4 [(0, .ref (B.2.1 5 (r0) (0))), (1, .int (zI (x1))), (2, .int (zI (x2)))] → W p l e zm_W_pay s m args below meth c H locs 0 0 (MQ below (zQv B S9) args s 0 0 B.2.2.2) (F0 m 138 ls []) := by
  intro x1 x2 S nx1 nx2 hf H locs ls hW hS hl
  unfold zf_W_pay_138 at hf
  refine lv_aload_n C.1 C.2.1 zd_W_pay_138 rfl (lv_at hl 0 rfl) ?_
  refine lv_aload_n C.1 C.2.1 zd_W_pay_139 rfl (lv_at hl 0 rfl) ?_
  refine lv_iload_n C.1 C.2.1 zd_W_pay_140 rfl (lv_at hl 2 rfl) ?_
  obtain ⟨a1, S2, ea1, hf⟩ := zbd_some hf
  refine zcVi (As := [.int (zI (x2))]) (rest := [.ref (B.2.1 5 (r0) (0))]) C hK hSt hW hS (zc_W_wageOf hap (r0) hr0 x2 S nx2 ea1) zq_W_wageOf zk_1967 (zrecv hK hW (zvd_5 hr0 (by decide)) (ze_5_0 B _ (r0)) rfl) ⟨rfl, rfl, by decide, by decide⟩ ⟨Nat.zero_le _, Nat.zero_le _⟩ rfl hl.1 rfl (lv_room (Nat.le_of_ble_eq_true rfl)) zd_W_pay_141 (fun na1 H locs hW hS => ?_)
  obtain ⟨a3, S4, ea3, hf⟩ := zbd_some hf
  refine zcVv (As := [.int (zI (a1))]) (rest := []) C hK hSt hW hS (zc_W_payOne hap (r0) hr0 a1 S2 na1 ea3) zq_W_payOne zk_1968 (zrecv hK hW (zvd_5 hr0 (by decide)) (ze_5_0 B _ (r0)) rfl) ⟨rfl, rfl, by decide, by decide⟩ ⟨Nat.zero_le _, Nat.zero_le _⟩ rfl hl.1 rfl (lv_room (Nat.le_of_ble_eq_true rfl)) zd_W_pay_144 (fun H locs hW hS => ?_)
  exact zw_W_pay_147 C hr hlk hK hSt hap r0 hr0 q24 hq24 q72 hq72 (x1) (x2) S4 nx1 nx2 hf _ _ _ hW hS (lv_sub hl [0, 1, 2] rfl)

def zf_W_pay_103 (r0 : Int) (q24 : Int → Sg → Option (Int × Sg)) (q72 : Int → Int → Sg → Option (Int × Sg)) (x1 : Int) (x2 : Int) (xt0 : Int) (S : Sg) : Option (Int × Sg) :=
    zck (0 ≤ x1 ∧ x1 < 3) <| if (S 5 r0 31 x1) = 0 then (if xt0 = 0 then (zf_W_pay_147 r0 q24 q72 (x1) (x2) S) else (zck (0 ≤ x2 ∧ x2 < 40) <| if (S 5 r0 8 x2) < 0 then (zf_W_pay_147 r0 q24 q72 (x1) (x2) S) else (zf_W_pay_138 r0 q24 q72 (x1) (x2) S))) else (zbd (zf_W_kind (r0) x2 S) fun a3 S4 => if a3 = 4 then (zf_W_pay_138 r0 q24 q72 (x1) (x2) S4) else (zf_W_pay_147 r0 q24 q72 (x1) (x2) S4))
set_option maxHeartbeats 4000000 in
set_option maxRecDepth 100000 in
theorem zw_W_pay_103 {p : Program} {l : Launch} {e : Env} {s : State} {m : MethodId} {args : Array Value} {below : List Frame} {meth : Method} {c : Code} {B : zB} (C : CallFix p m c zb_W_pay 4 s args zT "IslandOfficeModel$World") (hr : meth.sig.returnType = none) (hlk : meth.locks = false) (hK : zK B s) (hSt : zSt B s) (hap : zAp B) (r0 : Int) (hr0 : 0 ≤ r0 ∧ r0 < 3) {res : Int} {S9 : Sg} (q24 : Int → Sg → Option (Int × Sg)) (hq24 : ∀ (x1 : Int) (S : Sg) (nx1 : zn x1), q24 x1 S = some (res, S9) → ∀ (H : Heap) (locs : List Loc) (ls : Array Slot), zW B S H → va_S B.2.2.2 s.heap H locs → lv_has ls 4 [(0, .ref (B.2.1 5 (r0) (0))), (1, .int (zI (x1)))] → W p l e zm_W_pay s m args below meth c H locs 0 0 (MQ below (zQv B S9) args s 0 0 B.2.2.2) (F0 m 24 ls [])) (q72 : Int → Int → Sg → Option (Int × Sg)) (hq72 : ∀ (x1 : Int) (x2 : Int) (S : Sg) (nx1 : zn x1) (nx2 : zn x2), q72 x1 x2 S = some (res, S9) → ∀ (H : Heap) (locs : List Loc) (ls : Array Slot), zW B S H → va_S B.2.2.2 s.heap H locs → lv_has ls 4 [(0, .ref (B.2.1 5 (r0) (0))), (1, .int (zI (x1))), (2, .int (zI (x2)))] → W p l e zm_W_pay s m args below meth c H locs 0 0 (MQ below (zQv B S9) args s 0 0 B.2.2.2) (F0 m 72 ls [])) : ∀ (x1 : Int) (x2 : Int) (xt0 : Int) (S : Sg) (nx1 : zn x1) (nx2 : zn x2) (nxt0 : zn xt0), zf_W_pay_103 r0 q24 q72 x1 x2 xt0 S = some (res, S9) → ∀ (H : Heap) (locs : List Loc) (ls : Array Slot), zW B S H → va_S B.2.2.2 s.heap H locs → lv_has ls 4 [(0, .ref (B.2.1 5 (r0) (0))), (1, .int (zI (x1))), (2, .int (zI (x2)))] → W p l e zm_W_pay s m args below meth c H locs 0 0 (MQ below (zQv B S9) args s 0 0 B.2.2.2) (F0 m 103 ls [.int (zI (xt0))]) := by
  intro x1 x2 xt0 S nx1 nx2 nxt0 hf H locs ls hW hS hl
  unfold zf_W_pay_103 at hf
  refine lv_istore_n (lv' := [(3, .int (zI (xt0))), (0, .ref (B.2.1 5 (r0) (0))), (1, .int (zI (x1))), (2, .int (zI (x2)))]) C.1 C.2.1 zd_W_pay_103 rfl hl (by decide) rfl (fun ls hl => ?_)
  refine lv_aload_n C.1 C.2.1 zd_W_pay_104 rfl (lv_at hl 1 rfl) ?_
  refine zg_W_pays (r := r0) C hK hW (zvd_5 hr0 (by decide)) zk_1349 zd_W_pay_105 ?_
  refine lv_iload_n C.1 C.2.1 zd_W_pay_108 rfl (lv_at hl 2 rfl) ?_
  obtain ⟨h1, hf⟩ := zck_some hf
  refine ziald C hK hW (zvd_5 hr0 (by decide)) (fun f => ze_5_31 B f (r0)) (by decide) h1 zd_W_pay_109 ?_
  refine zr_if_ne (tgt := 129) C (zWn hW _ _ _ _ rfl) zd_W_pay_110 (by decide) (fun c2 => ?_) (fun c2 => ?_)
  · rw [if_neg c2] at hf
    refine lv_aload_n C.1 C.2.1 zd_W_pay_129 rfl (lv_at hl 1 rfl) ?_
    refine lv_iload_n C.1 C.2.1 zd_W_pay_130 rfl (lv_at hl 3 rfl) ?_
    obtain ⟨a3, S4, ea3, hf⟩ := zbd_some hf
    refine zcVi (As := [.int (zI (x2))]) (rest := []) C hK hSt hW hS (zc_W_kind hap (r0) hr0 x2 S nx2 ea3) zq_W_kind zk_1621 (zrecv hK hW (zvd_5 hr0 (by decide)) (ze_5_0 B _ (r0)) rfl) ⟨rfl, rfl, by decide, by decide⟩ ⟨Nat.zero_le _, Nat.zero_le _⟩ rfl hl.1 rfl (lv_room (Nat.le_of_ble_eq_true rfl)) zd_W_pay_131 (fun na3 H locs hW hS => ?_)
    refine zr_iconst C zd_W_pay_134 ?_
    refine zr_icmp_ne (tgt := 147) C na3 (znb rfl) zd_W_pay_135 (by decide) (fun c5 => ?_) (fun c5 => ?_)
    · rw [if_neg c5] at hf
      exact zw_W_pay_147 C hr hlk hK hSt hap r0 hr0 q24 hq24 q72 hq72 (x1) (x2) S4 nx1 nx2 hf _ _ _ hW hS (lv_sub hl [1, 2, 3] rfl)
    · rw [if_pos c5] at hf
      exact zw_W_pay_138 C hr hlk hK hSt hap r0 hr0 q24 hq24 q72 hq72 (x1) (x2) S4 nx1 nx2 hf _ _ _ hW hS (lv_sub hl [1, 2, 3] rfl)
  · rw [if_pos c2] at hf
    refine lv_iload_n C.1 C.2.1 zd_W_pay_113 rfl (lv_at hl 0 rfl) ?_
    refine zr_if_eq (tgt := 147) C nxt0 zd_W_pay_114 (by decide) (fun c6 => ?_) (fun c6 => ?_)
    · rw [if_pos c6] at hf
      exact zw_W_pay_147 C hr hlk hK hSt hap r0 hr0 q24 hq24 q72 hq72 (x1) (x2) S nx1 nx2 hf _ _ _ hW hS (lv_sub hl [1, 2, 3] rfl)
    · rw [if_neg c6] at hf
      refine lv_aload_n C.1 C.2.1 zd_W_pay_117 rfl (lv_at hl 1 rfl) ?_
      refine zg_W_post (r := r0) C hK hW (zvd_5 hr0 (by decide)) zk_1293 zd_W_pay_118 ?_
      refine lv_iload_n C.1 C.2.1 zd_W_pay_121 rfl (lv_at hl 3 rfl) ?_
      obtain ⟨h7, hf⟩ := zck_some hf
      refine ziald C hK hW (zvd_5 hr0 (by decide)) (fun f => ze_5_8 B f (r0)) (by decide) h7 zd_W_pay_122 ?_
      refine zr_if_lt (tgt := 147) C (zWn hW _ _ _ _ rfl) zd_W_pay_123 (by decide) (fun c8 => ?_) (fun c8 => ?_)
      · rw [if_pos c8] at hf
        exact zw_W_pay_147 C hr hlk hK hSt hap r0 hr0 q24 hq24 q72 hq72 (x1) (x2) S nx1 nx2 hf _ _ _ hW hS (lv_sub hl [1, 2, 3] rfl)
      · rw [if_neg c8] at hf
        refine lv_goto (tgt := 138) C.1 C.2.1 zd_W_pay_126 (by decide) ?_
        exact zw_W_pay_138 C hr hlk hK hSt hap r0 hr0 q24 hq24 q72 hq72 (x1) (x2) S nx1 nx2 hf _ _ _ hW hS (lv_sub hl [1, 2, 3] rfl)

def zf_W_pay_98 (r0 : Int) (q24 : Int → Sg → Option (Int × Sg)) (q72 : Int → Int → Sg → Option (Int × Sg)) (x1 : Int) (x2 : Int) (S : Sg) : Option (Int × Sg) :=
    zf_W_pay_103 r0 q24 q72 (x1) (x2) (1) S
set_option maxHeartbeats 4000000 in
set_option maxRecDepth 100000 in
theorem zw_W_pay_98 {p : Program} {l : Launch} {e : Env} {s : State} {m : MethodId} {args : Array Value} {below : List Frame} {meth : Method} {c : Code} {B : zB} (C : CallFix p m c zb_W_pay 4 s args zT "IslandOfficeModel$World") (hr : meth.sig.returnType = none) (hlk : meth.locks = false) (hK : zK B s) (hSt : zSt B s) (hap : zAp B) (r0 : Int) (hr0 : 0 ≤ r0 ∧ r0 < 3) {res : Int} {S9 : Sg} (q24 : Int → Sg → Option (Int × Sg)) (hq24 : ∀ (x1 : Int) (S : Sg) (nx1 : zn x1), q24 x1 S = some (res, S9) → ∀ (H : Heap) (locs : List Loc) (ls : Array Slot), zW B S H → va_S B.2.2.2 s.heap H locs → lv_has ls 4 [(0, .ref (B.2.1 5 (r0) (0))), (1, .int (zI (x1)))] → W p l e zm_W_pay s m args below meth c H locs 0 0 (MQ below (zQv B S9) args s 0 0 B.2.2.2) (F0 m 24 ls [])) (q72 : Int → Int → Sg → Option (Int × Sg)) (hq72 : ∀ (x1 : Int) (x2 : Int) (S : Sg) (nx1 : zn x1) (nx2 : zn x2), q72 x1 x2 S = some (res, S9) → ∀ (H : Heap) (locs : List Loc) (ls : Array Slot), zW B S H → va_S B.2.2.2 s.heap H locs → lv_has ls 4 [(0, .ref (B.2.1 5 (r0) (0))), (1, .int (zI (x1))), (2, .int (zI (x2)))] → W p l e zm_W_pay s m args below meth c H locs 0 0 (MQ below (zQv B S9) args s 0 0 B.2.2.2) (F0 m 72 ls [])) : ∀ (x1 : Int) (x2 : Int) (S : Sg) (nx1 : zn x1) (nx2 : zn x2), zf_W_pay_98 r0 q24 q72 x1 x2 S = some (res, S9) → ∀ (H : Heap) (locs : List Loc) (ls : Array Slot), zW B S H → va_S B.2.2.2 s.heap H locs → lv_has ls 4 [(0, .ref (B.2.1 5 (r0) (0))), (1, .int (zI (x1))), (2, .int (zI (x2)))] → W p l e zm_W_pay s m args below meth c H locs 0 0 (MQ below (zQv B S9) args s 0 0 B.2.2.2) (F0 m 98 ls []) := by
  intro x1 x2 S nx1 nx2 hf H locs ls hW hS hl
  unfold zf_W_pay_98 at hf
  refine zr_iconst C zd_W_pay_98 ?_
  refine lv_goto (tgt := 103) C.1 C.2.1 zd_W_pay_99 (by decide) ?_
  exact zw_W_pay_103 C hr hlk hK hSt hap r0 hr0 q24 hq24 q72 hq72 (x1) (x2) (1) S nx1 nx2 (znb rfl) hf _ _ _ hW hS (lv_sub hl [0, 1, 2] rfl)

def zf_W_pay_72 (r0 : Int) (q24 : Int → Sg → Option (Int × Sg)) : Nat → Int → Int → Sg → Option (Int × Sg)
  | 0, _, _, _ => none
  | n + 1, x1, x2, S =>
    if (S 5 r0 0 1) ≤ x2 then (zf_W_pay_153 r0 q24 (x1) S) else (zbd (zf_W_kind (r0) x2 S) fun a2 S3 => if a2 = 2 then (zf_W_pay_98 r0 q24 (zf_W_pay_72 r0 q24 n) (x1) (x2) S3) else (zbd (zf_W_kind (r0) x2 S3) fun a5 S6 => if a5 = 5 then (zf_W_pay_98 r0 q24 (zf_W_pay_72 r0 q24 n) (x1) (x2) S6) else (zf_W_pay_103 r0 q24 (zf_W_pay_72 r0 q24 n) (x1) (x2) (0) S6)))
set_option maxHeartbeats 4000000 in
set_option maxRecDepth 100000 in
theorem zw_W_pay_72 {p : Program} {l : Launch} {e : Env} {s : State} {m : MethodId} {args : Array Value} {below : List Frame} {meth : Method} {c : Code} {B : zB} (C : CallFix p m c zb_W_pay 4 s args zT "IslandOfficeModel$World") (hr : meth.sig.returnType = none) (hlk : meth.locks = false) (hK : zK B s) (hSt : zSt B s) (hap : zAp B) (r0 : Int) (hr0 : 0 ≤ r0 ∧ r0 < 3) {res : Int} {S9 : Sg} (q24 : Int → Sg → Option (Int × Sg)) (hq24 : ∀ (x1 : Int) (S : Sg) (nx1 : zn x1), q24 x1 S = some (res, S9) → ∀ (H : Heap) (locs : List Loc) (ls : Array Slot), zW B S H → va_S B.2.2.2 s.heap H locs → lv_has ls 4 [(0, .ref (B.2.1 5 (r0) (0))), (1, .int (zI (x1)))] → W p l e zm_W_pay s m args below meth c H locs 0 0 (MQ below (zQv B S9) args s 0 0 B.2.2.2) (F0 m 24 ls [])) : ∀ n : Nat, ∀ (x1 : Int) (x2 : Int) (S : Sg) (nx1 : zn x1) (nx2 : zn x2), zf_W_pay_72 r0 q24 n x1 x2 S = some (res, S9) → ∀ (H : Heap) (locs : List Loc) (ls : Array Slot), zW B S H → va_S B.2.2.2 s.heap H locs → lv_has ls 4 [(0, .ref (B.2.1 5 (r0) (0))), (1, .int (zI (x1))), (2, .int (zI (x2)))] → W p l e zm_W_pay s m args below meth c H locs 0 0 (MQ below (zQv B S9) args s 0 0 B.2.2.2) (F0 m 72 ls []) := by
  intro n
  induction n with
  | zero =>
    intro x1 x2 S nx1 nx2 hf H locs ls hW hS hl
    cases hf
  | succ n ih =>
    intro x1 x2 S nx1 nx2 hf H locs ls hW hS hl
    rw [zf_W_pay_72] at hf
    refine lv_iload_n C.1 C.2.1 zd_W_pay_72 rfl (lv_at hl 2 rfl) ?_
    refine lv_aload_n C.1 C.2.1 zd_W_pay_73 rfl (lv_at hl 0 rfl) ?_
    refine zg_W_people (r := r0) C hK hW (zvd_5 hr0 (by decide)) zk_1277 zd_W_pay_74 ?_
    refine zr_icmp_ge (tgt := 153) C nx2 (zWn hW _ _ _ _ rfl) zd_W_pay_77 (by decide) (fun c1 => ?_) (fun c1 => ?_)
    · rw [if_pos c1] at hf
      exact zw_W_pay_153 C hr hlk hK hSt hap r0 hr0 q24 hq24 (x1) S nx1 hf _ _ _ hW hS (lv_sub hl [0, 1] rfl)
    · rw [if_neg c1] at hf
      refine lv_aload_n C.1 C.2.1 zd_W_pay_80 rfl (lv_at hl 0 rfl) ?_
      refine lv_iload_n C.1 C.2.1 zd_W_pay_81 rfl (lv_at hl 2 rfl) ?_
      obtain ⟨a2, S3, ea2, hf⟩ := zbd_some hf
      refine zcVi (As := [.int (zI (x2))]) (rest := []) C hK hSt hW hS (zc_W_kind hap (r0) hr0 x2 S nx2 ea2) zq_W_kind zk_1621 (zrecv hK hW (zvd_5 hr0 (by decide)) (ze_5_0 B _ (r0)) rfl) ⟨rfl, rfl, by decide, by decide⟩ ⟨Nat.zero_le _, Nat.zero_le _⟩ rfl hl.1 rfl (lv_room (Nat.le_of_ble_eq_true rfl)) zd_W_pay_82 (fun na2 H locs hW hS => ?_)
      refine zr_iconst C zd_W_pay_85 ?_
      refine zr_icmp_eq (tgt := 98) C na2 (znb rfl) zd_W_pay_86 (by decide) (fun c4 => ?_) (fun c4 => ?_)
      · rw [if_pos c4] at hf
        exact zw_W_pay_98 C hr hlk hK hSt hap r0 hr0 q24 hq24 (zf_W_pay_72 r0 q24 n) (ih) (x1) (x2) S3 nx1 nx2 hf _ _ _ hW hS (lv_sub hl [0, 1, 2] rfl)
      · rw [if_neg c4] at hf
        refine lv_aload_n C.1 C.2.1 zd_W_pay_89 rfl (lv_at hl 0 rfl) ?_
        refine lv_iload_n C.1 C.2.1 zd_W_pay_90 rfl (lv_at hl 2 rfl) ?_
        obtain ⟨a5, S6, ea5, hf⟩ := zbd_some hf
        refine zcVi (As := [.int (zI (x2))]) (rest := []) C hK hSt hW hS (zc_W_kind hap (r0) hr0 x2 S3 nx2 ea5) zq_W_kind zk_1621 (zrecv hK hW (zvd_5 hr0 (by decide)) (ze_5_0 B _ (r0)) rfl) ⟨rfl, rfl, by decide, by decide⟩ ⟨Nat.zero_le _, Nat.zero_le _⟩ rfl hl.1 rfl (lv_room (Nat.le_of_ble_eq_true rfl)) zd_W_pay_91 (fun na5 H locs hW hS => ?_)
        refine zr_iconst C zd_W_pay_94 ?_
        refine zr_icmp_ne (tgt := 102) C na5 (znb rfl) zd_W_pay_95 (by decide) (fun c7 => ?_) (fun c7 => ?_)
        · rw [if_neg c7] at hf
          refine zr_iconst C zd_W_pay_102 ?_
          exact zw_W_pay_103 C hr hlk hK hSt hap r0 hr0 q24 hq24 (zf_W_pay_72 r0 q24 n) (ih) (x1) (x2) (0) S6 nx1 nx2 (znb rfl) hf _ _ _ hW hS (lv_sub hl [0, 1, 2] rfl)
        · rw [if_pos c7] at hf
          exact zw_W_pay_98 C hr hlk hK hSt hap r0 hr0 q24 hq24 (zf_W_pay_72 r0 q24 n) (ih) (x1) (x2) S6 nx1 nx2 hf _ _ _ hW hS (lv_sub hl [0, 1, 2] rfl)

def zf_W_pay_24 (r0 : Int) : Nat → Int → Sg → Option (Int × Sg)
  | 0, _, _ => none
  | n + 1, x1, S =>
    if 3 ≤ x1 then (some (0, S)) else (zck (0 ≤ x1 ∧ x1 < 3) <| if (S 5 r0 31 x1) = 2 then (if (S 5 r0 0 38) < 5 then (zf_W_pay_153 r0 (zf_W_pay_24 r0 n) (x1) S) else (zlt (zu S 5 r0 0 38 (zw ((S 5 r0 0 38) - 5))) fun S5 => zlt (zu S5 5 r0 0 39 (zw ((S5 5 r0 0 39) + 5))) fun S6 => zf_W_pay_153 r0 (zf_W_pay_24 r0 n) (x1) S6)) else (zf_W_pay_72 r0 (zf_W_pay_24 r0 n) 4096 (x1) (0) S))
set_option maxHeartbeats 4000000 in
set_option maxRecDepth 100000 in
theorem zw_W_pay_24 {p : Program} {l : Launch} {e : Env} {s : State} {m : MethodId} {args : Array Value} {below : List Frame} {meth : Method} {c : Code} {B : zB} (C : CallFix p m c zb_W_pay 4 s args zT "IslandOfficeModel$World") (hr : meth.sig.returnType = none) (hlk : meth.locks = false) (hK : zK B s) (hSt : zSt B s) (hap : zAp B) (r0 : Int) (hr0 : 0 ≤ r0 ∧ r0 < 3) {res : Int} {S9 : Sg} : ∀ n : Nat, ∀ (x1 : Int) (S : Sg) (nx1 : zn x1), zf_W_pay_24 r0 n x1 S = some (res, S9) → ∀ (H : Heap) (locs : List Loc) (ls : Array Slot), zW B S H → va_S B.2.2.2 s.heap H locs → lv_has ls 4 [(0, .ref (B.2.1 5 (r0) (0))), (1, .int (zI (x1)))] → W p l e zm_W_pay s m args below meth c H locs 0 0 (MQ below (zQv B S9) args s 0 0 B.2.2.2) (F0 m 24 ls []) := by
  intro n
  induction n with
  | zero =>
    intro x1 S nx1 hf H locs ls hW hS hl
    cases hf
  | succ n ih =>
    intro x1 S nx1 hf H locs ls hW hS hl
    rw [zf_W_pay_24] at hf
    refine lv_iload_n C.1 C.2.1 zd_W_pay_24 rfl (lv_at hl 1 rfl) ?_
    refine zr_iconst C zd_W_pay_25 ?_
    refine zr_icmp_ge (tgt := 159) C nx1 (znb rfl) zd_W_pay_26 (by decide) (fun c1 => ?_) (fun c1 => ?_)
    · rw [if_pos c1] at hf
      cases hf
      exact zre_v C hr hlk hK hW hS zd_W_pay_159
    · rw [if_neg c1] at hf
      refine lv_aload_n C.1 C.2.1 zd_W_pay_29 rfl (lv_at hl 0 rfl) ?_
      refine zg_W_pays (r := r0) C hK hW (zvd_5 hr0 (by decide)) zk_1349 zd_W_pay_30 ?_
      refine lv_iload_n C.1 C.2.1 zd_W_pay_33 rfl (lv_at hl 1 rfl) ?_
      obtain ⟨h2, hf⟩ := zck_some hf
      refine ziald C hK hW (zvd_5 hr0 (by decide)) (fun f => ze_5_31 B f (r0)) (by decide) h2 zd_W_pay_34 ?_
      refine zr_iconst C zd_W_pay_35 ?_
      refine zr_icmp_ne (tgt := 70) C (zWn hW _ _ _ _ rfl) (znb rfl) zd_W_pay_36 (by decide) (fun c3 => ?_) (fun c3 => ?_)
      · rw [if_neg c3] at hf
        refine zr_iconst C zd_W_pay_70 ?_
        refine lv_istore_n (lv' := [(2, .int (zI (0))), (0, .ref (B.2.1 5 (r0) (0))), (1, .int (zI (x1)))]) C.1 C.2.1 zd_W_pay_71 rfl hl (by decide) rfl (fun ls hl => ?_)
        exact zw_W_pay_72 C hr hlk hK hSt hap r0 hr0 (zf_W_pay_24 r0 n) (ih) 4096 (x1) (0) S nx1 (znb rfl) hf _ _ _ hW hS (lv_sub hl [1, 2, 0] rfl)
      · rw [if_pos c3] at hf
        refine lv_aload_n C.1 C.2.1 zd_W_pay_39 rfl (lv_at hl 0 rfl) ?_
        refine zg_W_purse (r := r0) C hK hW (zvd_5 hr0 (by decide)) zk_1351 zd_W_pay_40 ?_
        refine zr_iconst C zd_W_pay_43 ?_
        refine zr_icmp_lt (tgt := 153) C (zWn hW _ _ _ _ rfl) (znb rfl) zd_W_pay_44 (by decide) (fun c4 => ?_) (fun c4 => ?_)
        · rw [if_pos c4] at hf
          exact zw_W_pay_153 C hr hlk hK hSt hap r0 hr0 (zf_W_pay_24 r0 n) (ih) (x1) S nx1 hf _ _ _ hW hS (lv_sub hl [0, 1] rfl)
        · rw [if_neg c4] at hf
          refine lv_aload_n C.1 C.2.1 zd_W_pay_47 rfl (lv_at hl 0 rfl) ?_
          refine lv_dup C.1 C.2.1 zd_W_pay_48 rfl ?_
          refine zg_W_purse (r := r0) C hK hW (zvd_5 hr0 (by decide)) zk_1351 zd_W_pay_49 ?_
          refine zr_iconst C zd_W_pay_52 ?_
          refine zr_isub C zd_W_pay_53 ?_
          obtain ⟨S5, eS5, hf⟩ := zlt_some hf
          refine zp_W_purse (r := r0) C hK hap hW hS (zvd_5 hr0 (by decide)) zk_1351 (zn_w _) zd_W_pay_54 (fun H locs hW hS => ?_)
          rw [eS5] at hW
          refine lv_aload_n C.1 C.2.1 zd_W_pay_57 rfl (lv_at hl 0 rfl) ?_
          refine lv_dup C.1 C.2.1 zd_W_pay_58 rfl ?_
          refine zg_W_fund (r := r0) C hK hW (zvd_5 hr0 (by decide)) zk_1353 zd_W_pay_59 ?_
          refine zr_iconst C zd_W_pay_62 ?_
          refine zr_iadd C zd_W_pay_63 ?_
          obtain ⟨S6, eS6, hf⟩ := zlt_some hf
          refine zp_W_fund (r := r0) C hK hap hW hS (zvd_5 hr0 (by decide)) zk_1353 (zn_w _) zd_W_pay_64 (fun H locs hW hS => ?_)
          rw [eS6] at hW
          refine lv_goto (tgt := 153) C.1 C.2.1 zd_W_pay_67 (by decide) ?_
          exact zw_W_pay_153 C hr hlk hK hSt hap r0 hr0 (zf_W_pay_24 r0 n) (ih) (x1) S6 nx1 hf _ _ _ hW hS (lv_sub hl [0, 1] rfl)

def zf_W_pay (r0 : Int) (S : Sg) : Option (Int × Sg) :=
    zbd (zf_W_inState (r0) 1 S) fun a1 S2 => zlt (zu S2 5 r0 0 38 (min 1000000 (zw ((S 5 r0 0 38) + (zw (5 * a1)))))) fun S4 => zf_W_pay_24 r0 4096 (0) S4
set_option maxHeartbeats 4000000 in
set_option maxRecDepth 100000 in
theorem zw_W_pay {p : Program} {l : Launch} {e : Env} {s : State} {m : MethodId} {args : Array Value} {below : List Frame} {meth : Method} {c : Code} {B : zB} (C : CallFix p m c zb_W_pay 4 s args zT "IslandOfficeModel$World") (hr : meth.sig.returnType = none) (hlk : meth.locks = false) (hK : zK B s) (hSt : zSt B s) (hap : zAp B) (r0 : Int) (hr0 : 0 ≤ r0 ∧ r0 < 3) {res : Int} {S9 : Sg} : ∀  (S : Sg) , zf_W_pay r0  S = some (res, S9) → ∀ (H : Heap) (locs : List Loc) (ls : Array Slot), zW B S H → va_S B.2.2.2 s.heap H locs → lv_has ls 4 [(0, .ref (B.2.1 5 (r0) (0)))] → W p l e zm_W_pay s m args below meth c H locs 0 0 (MQ below (zQv B S9) args s 0 0 B.2.2.2) (F0 m 0 ls []) := by
  intro S hf H locs ls hW hS hl
  unfold zf_W_pay at hf
  refine lv_aload_n C.1 C.2.1 zd_W_pay_0 rfl (lv_at hl 0 rfl) ?_
  refine zr_ldcw (n := 1000000) C zk_1962 (by decide) zd_W_pay_1 ?_
  refine lv_aload_n C.1 C.2.1 zd_W_pay_4 rfl (lv_at hl 0 rfl) ?_
  refine zg_W_purse (r := r0) C hK hW (zvd_5 hr0 (by decide)) zk_1351 zd_W_pay_5 ?_
  refine zr_iconst C zd_W_pay_8 ?_
  refine lv_aload_n C.1 C.2.1 zd_W_pay_9 rfl (lv_at hl 0 rfl) ?_
  refine zr_iconst C zd_W_pay_10 ?_
  have w3 : zn (S 5 r0 0 38) := (zWn hW _ _ _ _ rfl)
  obtain ⟨a1, S2, ea1, hf⟩ := zbd_some hf
  refine zcVi (As := [.int (zI (1))]) (rest := [.int (zI (5)), .int (zI (S 5 r0 0 38)), .int (zI (1000000)), .ref (B.2.1 5 (r0) (0))]) C hK hSt hW hS (zc_W_inState hap (r0) hr0 1 S (znb rfl) ea1) zq_W_inState zk_1963 (zrecv hK hW (zvd_5 hr0 (by decide)) (ze_5_0 B _ (r0)) rfl) ⟨rfl, rfl, by decide, by decide⟩ ⟨Nat.zero_le _, Nat.zero_le _⟩ rfl hl.1 rfl (lv_room (Nat.le_of_ble_eq_true rfl)) zd_W_pay_11 (fun na1 H locs hW hS => ?_)
  refine zr_imul C zd_W_pay_14 ?_
  refine zr_iadd C zd_W_pay_15 ?_
  refine zr_min C hl.1 (znb rfl) (zn_w _) zk_1928 zk_909 zk_16 zk_910 (by decide) (Nat.le_of_ble_eq_true rfl) ⟨by decide, by decide⟩ zd_W_pay_16 ?_
  obtain ⟨S4, eS4, hf⟩ := zlt_some hf
  refine zp_W_purse (r := r0) C hK hap hW hS (zvd_5 hr0 (by decide)) zk_1351 (zn_min (znb rfl) (zn_w _)) zd_W_pay_19 (fun H locs hW hS => ?_)
  rw [eS4] at hW
  refine zr_iconst C zd_W_pay_22 ?_
  refine lv_istore_n (lv' := [(1, .int (zI (0))), (0, .ref (B.2.1 5 (r0) (0)))]) C.1 C.2.1 zd_W_pay_23 rfl hl (by decide) rfl (fun ls hl => ?_)
  exact zw_W_pay_24 C hr hlk hK hSt hap r0 hr0 4096 (0) S4 (znb rfl) hf _ _ _ hW hS (lv_sub hl [1, 0] rfl)

theorem zc_W_pay {l : Launch} {B : zB} (hap : zAp B) (r0 : Int) (hr0 : 0 ≤ r0 ∧ r0 < 3) (S : Sg) {res : Int} {S9 : Sg} (hf : zf_W_pay r0 S = some (res, S9)) : Met l zy_W_pay (Cond.code zy_W_pay zb_W_pay 4 (none) :: zT) zm_W_pay (zP B S [.ref (B.2.1 5 (r0) (0))]) (zQv B S9) 0 0 B.2.2.2 :=
  zmet (by decide) (Nat.le_of_ble_eq_true rfl) (fun p e s m args below meth c C hr hlk hK hSt hW ls hl => zw_W_pay C hr hlk hK hSt hap r0 hr0  S  hf _ _ _ hW va_S.rf hl)
/-! IslandOfficeModel$World.stored(II)V -/
abbrev zy_W_stored : MethodName := ⟨"IslandOfficeModel$World", "stored", "(II)V"⟩
abbrev zb_W_stored : ByteArray := prog_15_method_39_code
abbrev zm_W_stored : Room := { frames := 1, cells := 0, slots := 0, locals := 64 }
theorem zq_W_stored : zMy zy_W_stored zb_W_stored 3 (none) 2 := ⟨zk_1927, zk_1926, zs_81, zk_15, by decide, by decide, by decide +kernel⟩
theorem zd_W_stored_0 : decode zb_W_stored 0 = .ok (.aload_n 0, 1) := by decide +kernel
theorem zd_W_stored_1 : decode zb_W_stored 1 = .ok (.getfield 93, 3) := by decide +kernel
theorem zd_W_stored_4 : decode zb_W_stored 4 = .ok (.iload_n 1, 1) := by decide +kernel
theorem zd_W_stored_5 : decode zb_W_stored 5 = .ok (.sipush 9999, 3) := by decide +kernel
theorem zd_W_stored_8 : decode zb_W_stored 8 = .ok (.aload_n 0, 1) := by decide +kernel
theorem zd_W_stored_9 : decode zb_W_stored 9 = .ok (.getfield 93, 3) := by decide +kernel
theorem zd_W_stored_12 : decode zb_W_stored 12 = .ok (.iload_n 1, 1) := by decide +kernel
theorem zd_W_stored_13 : decode zb_W_stored 13 = .ok (.iaload, 1) := by decide +kernel
theorem zd_W_stored_14 : decode zb_W_stored 14 = .ok (.iload_n 2, 1) := by decide +kernel
theorem zd_W_stored_15 : decode zb_W_stored 15 = .ok (.iadd, 1) := by decide +kernel
theorem zd_W_stored_16 : decode zb_W_stored 16 = .ok (.invokestatic 314, 3) := by decide +kernel
theorem zd_W_stored_19 : decode zb_W_stored 19 = .ok (.iastore, 1) := by decide +kernel
theorem zd_W_stored_20 : decode zb_W_stored 20 = .ok (.return_, 1) := by decide +kernel

def zf_W_stored (r0 : Int) (x1 : Int) (x2 : Int) (S : Sg) : Option (Int × Sg) :=
    zck (0 ≤ x1 ∧ x1 < 4) <| zlt (zu S 5 r0 25 x1 (min 9999 (zw ((S 5 r0 25 x1) + x2)))) fun S2 => some (0, S2)
set_option maxHeartbeats 4000000 in
set_option maxRecDepth 100000 in
theorem zw_W_stored {p : Program} {l : Launch} {e : Env} {s : State} {m : MethodId} {args : Array Value} {below : List Frame} {meth : Method} {c : Code} {B : zB} (C : CallFix p m c zb_W_stored 3 s args zT "IslandOfficeModel$World") (hr : meth.sig.returnType = none) (hlk : meth.locks = false) (hK : zK B s) (hSt : zSt B s) (hap : zAp B) (r0 : Int) (hr0 : 0 ≤ r0 ∧ r0 < 3) {res : Int} {S9 : Sg} : ∀ (x1 : Int) (x2 : Int) (S : Sg) (nx1 : zn x1) (nx2 : zn x2), zf_W_stored r0 x1 x2 S = some (res, S9) → ∀ (H : Heap) (locs : List Loc) (ls : Array Slot), zW B S H → va_S B.2.2.2 s.heap H locs → lv_has ls 3 [(0, .ref (B.2.1 5 (r0) (0))), (1, .int (zI (x1))), (2, .int (zI (x2)))] → W p l e zm_W_stored s m args below meth c H locs 0 0 (MQ below (zQv B S9) args s 0 0 B.2.2.2) (F0 m 0 ls []) := by
  intro x1 x2 S nx1 nx2 hf H locs ls hW hS hl
  unfold zf_W_stored at hf
  refine lv_aload_n C.1 C.2.1 zd_W_stored_0 rfl (lv_at hl 0 rfl) ?_
  refine zg_W_store (r := r0) C hK hW (zvd_5 hr0 (by decide)) zk_1335 zd_W_stored_1 ?_
  refine lv_iload_n C.1 C.2.1 zd_W_stored_4 rfl (lv_at hl 1 rfl) ?_
  refine zr_sipush C zd_W_stored_5 (by decide) ?_
  refine lv_aload_n C.1 C.2.1 zd_W_stored_8 rfl (lv_at hl 0 rfl) ?_
  refine zg_W_store (r := r0) C hK hW (zvd_5 hr0 (by decide)) zk_1335 zd_W_stored_9 ?_
  refine lv_iload_n C.1 C.2.1 zd_W_stored_12 rfl (lv_at hl 1 rfl) ?_
  obtain ⟨h1, hf⟩ := zck_some hf
  refine ziald C hK hW (zvd_5 hr0 (by decide)) (fun f => ze_5_25 B f (r0)) (by decide) h1 zd_W_stored_13 ?_
  refine lv_iload_n C.1 C.2.1 zd_W_stored_14 rfl (lv_at hl 2 rfl) ?_
  refine zr_iadd C zd_W_stored_15 ?_
  refine zr_min C hl.1 (znb rfl) (zn_w _) zk_1928 zk_909 zk_16 zk_910 (by decide) (Nat.le_of_ble_eq_true rfl) ⟨by decide, by decide⟩ zd_W_stored_16 ?_
  obtain ⟨S2, eS2, hf⟩ := zlt_some hf
  refine ziast C hK hap hW hS (zvd_5 hr0 (by decide)) (fun f => ze_5_25 B f (r0)) (by decide) rfl (zn_min (znb rfl) (zn_w _)) h1 zd_W_stored_19 (fun H locs hW hS => ?_)
  rw [eS2] at hW
  cases hf
  exact zre_v C hr hlk hK hW hS zd_W_stored_20

theorem zc_W_stored {l : Launch} {B : zB} (hap : zAp B) (r0 : Int) (hr0 : 0 ≤ r0 ∧ r0 < 3) (x1 : Int) (x2 : Int) (S : Sg) (nx1 : zn x1) (nx2 : zn x2) {res : Int} {S9 : Sg} (hf : zf_W_stored r0 x1 x2 S = some (res, S9)) : Met l zy_W_stored (Cond.code zy_W_stored zb_W_stored 3 (none) :: zT) zm_W_stored (zP B S [.ref (B.2.1 5 (r0) (0)), .int (zI (x1)), .int (zI (x2))]) (zQv B S9) 0 0 B.2.2.2 :=
  zmet (by decide) (Nat.le_of_ble_eq_true rfl) (fun p e s m args below meth c C hr hlk hK hSt hW ls hl => zw_W_stored C hr hlk hK hSt hap r0 hr0 x1 x2 S nx1 nx2 hf _ _ _ hW va_S.rf hl)
/-! IslandOfficeModel$World.ship()Z -/
abbrev zy_W_ship : MethodName := ⟨"IslandOfficeModel$World", "ship", "()Z"⟩
abbrev zb_W_ship : ByteArray := prog_15_method_43_code
abbrev zm_W_ship : Room := { frames := 3, cells := 0, slots := 0, locals := 90 }
theorem zq_W_ship : zMy zy_W_ship zb_W_ship 5 (some .boolean) 0 := ⟨zk_1932, zk_1931, zs_82, zk_15, by decide, by decide, by decide +kernel⟩
theorem zd_W_ship_0 : decode zb_W_ship 0 = .ok (.aload_n 0, 1) := by decide +kernel
theorem zd_W_ship_1 : decode zb_W_ship 1 = .ok (.getfield 155, 3) := by decide +kernel
theorem zd_W_ship_4 : decode zb_W_ship 4 = .ok (.iconst 4, 1) := by decide +kernel
theorem zd_W_ship_5 : decode zb_W_ship 5 = .ok (.if_icmp .lt 36, 3) := by decide +kernel
theorem zd_W_ship_8 : decode zb_W_ship 8 = .ok (.aload_n 0, 1) := by decide +kernel
theorem zd_W_ship_9 : decode zb_W_ship 9 = .ok (.getfield 114, 3) := by decide +kernel
theorem zd_W_ship_12 : decode zb_W_ship 12 = .ok (.aload_n 0, 1) := by decide +kernel
theorem zd_W_ship_13 : decode zb_W_ship 13 = .ok (.getfield 155, 3) := by decide +kernel
theorem zd_W_ship_16 : decode zb_W_ship 16 = .ok (.iconst 4, 1) := by decide +kernel
theorem zd_W_ship_17 : decode zb_W_ship 17 = .ok (.idiv, 1) := by decide +kernel
theorem zd_W_ship_18 : decode zb_W_ship 18 = .ok (.iconst 4, 1) := by decide +kernel
theorem zd_W_ship_19 : decode zb_W_ship 19 = .ok (.imul, 1) := by decide +kernel
theorem zd_W_ship_20 : decode zb_W_ship 20 = .ok (.if_icmp .ge 21, 3) := by decide +kernel
theorem zd_W_ship_23 : decode zb_W_ship 23 = .ok (.aload_n 0, 1) := by decide +kernel
theorem zd_W_ship_24 : decode zb_W_ship 24 = .ok (.iconst 0, 1) := by decide +kernel
theorem zd_W_ship_25 : decode zb_W_ship 25 = .ok (.aload_n 0, 1) := by decide +kernel
theorem zd_W_ship_26 : decode zb_W_ship 26 = .ok (.getfield 155, 3) := by decide +kernel
theorem zd_W_ship_29 : decode zb_W_ship 29 = .ok (.invokevirtual 317, 3) := by decide +kernel
theorem zd_W_ship_32 : decode zb_W_ship 32 = .ok (.aload_n 0, 1) := by decide +kernel
theorem zd_W_ship_33 : decode zb_W_ship 33 = .ok (.getfield 108, 3) := by decide +kernel
theorem zd_W_ship_36 : decode zb_W_ship 36 = .ok (.iconst 1, 1) := by decide +kernel
theorem zd_W_ship_37 : decode zb_W_ship 37 = .ok (.iaload, 1) := by decide +kernel
theorem zd_W_ship_38 : decode zb_W_ship 38 = .ok (.if_icmp .le 5, 3) := by decide +kernel
theorem zd_W_ship_41 : decode zb_W_ship 41 = .ok (.iconst 0, 1) := by decide +kernel
theorem zd_W_ship_42 : decode zb_W_ship 42 = .ok (.ireturn, 1) := by decide +kernel
theorem zd_W_ship_43 : decode zb_W_ship 43 = .ok (.aload_n 0, 1) := by decide +kernel
theorem zd_W_ship_44 : decode zb_W_ship 44 = .ok (.aload_n 0, 1) := by decide +kernel
theorem zd_W_ship_45 : decode zb_W_ship 45 = .ok (.getfield 155, 3) := by decide +kernel
theorem zd_W_ship_48 : decode zb_W_ship 48 = .ok (.putfield 114, 3) := by decide +kernel
theorem zd_W_ship_51 : decode zb_W_ship 51 = .ok (.aload_n 0, 1) := by decide +kernel
theorem zd_W_ship_52 : decode zb_W_ship 52 = .ok (.getfield 108, 3) := by decide +kernel
theorem zd_W_ship_55 : decode zb_W_ship 55 = .ok (.iconst 0, 1) := by decide +kernel
theorem zd_W_ship_56 : decode zb_W_ship 56 = .ok (.iaload, 1) := by decide +kernel
theorem zd_W_ship_57 : decode zb_W_ship 57 = .ok (.istore_n 1, 1) := by decide +kernel
theorem zd_W_ship_58 : decode zb_W_ship 58 = .ok (.iconst 0, 1) := by decide +kernel
theorem zd_W_ship_59 : decode zb_W_ship 59 = .ok (.istore_n 2, 1) := by decide +kernel
theorem zd_W_ship_60 : decode zb_W_ship 60 = .ok (.iload_n 2, 1) := by decide +kernel
theorem zd_W_ship_61 : decode zb_W_ship 61 = .ok (.bipush 9, 2) := by decide +kernel
theorem zd_W_ship_63 : decode zb_W_ship 63 = .ok (.if_icmp .gt 80, 3) := by decide +kernel
theorem zd_W_ship_66 : decode zb_W_ship 66 = .ok (.iconst 0, 1) := by decide +kernel
theorem zd_W_ship_67 : decode zb_W_ship 67 = .ok (.istore_n 3, 1) := by decide +kernel
theorem zd_W_ship_68 : decode zb_W_ship 68 = .ok (.iload_n 3, 1) := by decide +kernel
theorem zd_W_ship_69 : decode zb_W_ship 69 = .ok (.aload_n 0, 1) := by decide +kernel
theorem zd_W_ship_70 : decode zb_W_ship 70 = .ok (.getfield 171, 3) := by decide +kernel
theorem zd_W_ship_73 : decode zb_W_ship 73 = .ok (.if_icmp .ge 64, 3) := by decide +kernel
theorem zd_W_ship_76 : decode zb_W_ship 76 = .ok (.aload_n 0, 1) := by decide +kernel
theorem zd_W_ship_77 : decode zb_W_ship 77 = .ok (.getfield 96, 3) := by decide +kernel
theorem zd_W_ship_80 : decode zb_W_ship 80 = .ok (.aload_n 0, 1) := by decide +kernel
theorem zd_W_ship_81 : decode zb_W_ship 81 = .ok (.getfield 102, 3) := by decide +kernel
theorem zd_W_ship_84 : decode zb_W_ship 84 = .ok (.iload_n 3, 1) := by decide +kernel
theorem zd_W_ship_85 : decode zb_W_ship 85 = .ok (.iaload, 1) := by decide +kernel
theorem zd_W_ship_86 : decode zb_W_ship 86 = .ok (.iaload, 1) := by decide +kernel
theorem zd_W_ship_87 : decode zb_W_ship 87 = .ok (.iload_n 2, 1) := by decide +kernel
theorem zd_W_ship_88 : decode zb_W_ship 88 = .ok (.if_icmp .ne 43, 3) := by decide +kernel
theorem zd_W_ship_91 : decode zb_W_ship 91 = .ok (.iload_n 1, 1) := by decide +kernel
theorem zd_W_ship_92 : decode zb_W_ship 92 = .ok (.aload_n 0, 1) := by decide +kernel
theorem zd_W_ship_93 : decode zb_W_ship 93 = .ok (.getfield 105, 3) := by decide +kernel
theorem zd_W_ship_96 : decode zb_W_ship 96 = .ok (.iload_n 3, 1) := by decide +kernel
theorem zd_W_ship_97 : decode zb_W_ship 97 = .ok (.iaload, 1) := by decide +kernel
theorem zd_W_ship_98 : decode zb_W_ship 98 = .ok (.invokestatic 314, 3) := by decide +kernel
theorem zd_W_ship_101 : decode zb_W_ship 101 = .ok (.istore 4, 2) := by decide +kernel
theorem zd_W_ship_103 : decode zb_W_ship 103 = .ok (.aload_n 0, 1) := by decide +kernel
theorem zd_W_ship_104 : decode zb_W_ship 104 = .ok (.getfield 105, 3) := by decide +kernel
theorem zd_W_ship_107 : decode zb_W_ship 107 = .ok (.iload_n 3, 1) := by decide +kernel
theorem zd_W_ship_108 : decode zb_W_ship 108 = .ok (.dup2, 1) := by decide +kernel
theorem zd_W_ship_109 : decode zb_W_ship 109 = .ok (.iaload, 1) := by decide +kernel
theorem zd_W_ship_110 : decode zb_W_ship 110 = .ok (.iload 4, 2) := by decide +kernel
theorem zd_W_ship_112 : decode zb_W_ship 112 = .ok (.isub, 1) := by decide +kernel
theorem zd_W_ship_113 : decode zb_W_ship 113 = .ok (.iastore, 1) := by decide +kernel
theorem zd_W_ship_114 : decode zb_W_ship 114 = .ok (.iload_n 1, 1) := by decide +kernel
theorem zd_W_ship_115 : decode zb_W_ship 115 = .ok (.iload 4, 2) := by decide +kernel
theorem zd_W_ship_117 : decode zb_W_ship 117 = .ok (.isub, 1) := by decide +kernel
theorem zd_W_ship_118 : decode zb_W_ship 118 = .ok (.istore_n 1, 1) := by decide +kernel
theorem zd_W_ship_119 : decode zb_W_ship 119 = .ok (.aload_n 0, 1) := by decide +kernel
theorem zd_W_ship_120 : decode zb_W_ship 120 = .ok (.aload_n 0, 1) := by decide +kernel
theorem zd_W_ship_121 : decode zb_W_ship 121 = .ok (.getfield 102, 3) := by decide +kernel
theorem zd_W_ship_124 : decode zb_W_ship 124 = .ok (.iload_n 3, 1) := by decide +kernel
theorem zd_W_ship_125 : decode zb_W_ship 125 = .ok (.iaload, 1) := by decide +kernel
theorem zd_W_ship_126 : decode zb_W_ship 126 = .ok (.iload 4, 2) := by decide +kernel
theorem zd_W_ship_128 : decode zb_W_ship 128 = .ok (.invokevirtual 330, 3) := by decide +kernel
theorem zd_W_ship_131 : decode zb_W_ship 131 = .ok (.iinc 3 1, 3) := by decide +kernel
theorem zd_W_ship_134 : decode zb_W_ship 134 = .ok (.goto (-66), 3) := by decide +kernel
theorem zd_W_ship_137 : decode zb_W_ship 137 = .ok (.iinc 2 1, 3) := by decide +kernel
theorem zd_W_ship_140 : decode zb_W_ship 140 = .ok (.goto (-80), 3) := by decide +kernel
theorem zd_W_ship_143 : decode zb_W_ship 143 = .ok (.iconst 1, 1) := by decide +kernel
theorem zd_W_ship_144 : decode zb_W_ship 144 = .ok (.ireturn, 1) := by decide +kernel

def zf_W_ship_131 (r0 : Int) (q60 : Int → Int → Sg → Option (Int × Sg)) (q68 : Int → Int → Int → Sg → Option (Int × Sg)) (x1 : Int) (x2 : Int) (x3 : Int) (S : Sg) : Option (Int × Sg) :=
    zlt (zw (x3 + 1)) fun v1 => q68 (x1) (x2) (v1) S
set_option maxHeartbeats 4000000 in
set_option maxRecDepth 100000 in
theorem zw_W_ship_131 {p : Program} {l : Launch} {e : Env} {s : State} {m : MethodId} {args : Array Value} {below : List Frame} {meth : Method} {c : Code} {B : zB} (C : CallFix p m c zb_W_ship 5 s args zT "IslandOfficeModel$World") (hr : meth.sig.returnType = some .boolean) (hlk : meth.locks = false) (hK : zK B s) (hSt : zSt B s) (hap : zAp B) (r0 : Int) (hr0 : 0 ≤ r0 ∧ r0 < 3) {res : Int} {S9 : Sg} (q60 : Int → Int → Sg → Option (Int × Sg)) (hq60 : ∀ (x1 : Int) (x2 : Int) (S : Sg) (nx1 : zn x1) (nx2 : zn x2), q60 x1 x2 S = some (res, S9) → ∀ (H : Heap) (locs : List Loc) (ls : Array Slot), zW B S H → va_S B.2.2.2 s.heap H locs → lv_has ls 5 [(0, .ref (B.2.1 5 (r0) (0))), (1, .int (zI (x1))), (2, .int (zI (x2)))] → W p l e zm_W_ship s m args below meth c H locs 0 0 (MQ below (zQi B res S9) args s 0 0 B.2.2.2) (F0 m 60 ls [])) (q68 : Int → Int → Int → Sg → Option (Int × Sg)) (hq68 : ∀ (x1 : Int) (x2 : Int) (x3 : Int) (S : Sg) (nx1 : zn x1) (nx2 : zn x2) (nx3 : zn x3), q68 x1 x2 x3 S = some (res, S9) → ∀ (H : Heap) (locs : List Loc) (ls : Array Slot), zW B S H → va_S B.2.2.2 s.heap H locs → lv_has ls 5 [(0, .ref (B.2.1 5 (r0) (0))), (1, .int (zI (x1))), (2, .int (zI (x2))), (3, .int (zI (x3)))] → W p l e zm_W_ship s m args below meth c H locs 0 0 (MQ below (zQi B res S9) args s 0 0 B.2.2.2) (F0 m 68 ls [])) : ∀ (x1 : Int) (x2 : Int) (x3 : Int) (S : Sg) (nx1 : zn x1) (nx2 : zn x2) (nx3 : zn x3), zf_W_ship_131 r0 q60 q68 x1 x2 x3 S = some (res, S9) → ∀ (H : Heap) (locs : List Loc) (ls : Array Slot), zW B S H → va_S B.2.2.2 s.heap H locs → lv_has ls 5 [(0, .ref (B.2.1 5 (r0) (0))), (1, .int (zI (x1))), (2, .int (zI (x2))), (3, .int (zI (x3)))] → W p l e zm_W_ship s m args below meth c H locs 0 0 (MQ below (zQi B res S9) args s 0 0 B.2.2.2) (F0 m 131 ls []) := by
  intro x1 x2 x3 S nx1 nx2 nx3 hf H locs ls hW hS hl
  unfold zf_W_ship_131 at hf
  obtain ⟨v1, ev1, hf⟩ := zlt_some hf
  have nv1 : zn v1 := by rw [← ev1]; exact zn_w _
  refine lv_iinc (v := zI v1) (lv' := [(3, .int (zI (v1))), (0, .ref (B.2.1 5 (r0) (0))), (1, .int (zI (x1))), (2, .int (zI (x2)))]) C.1 C.2.1 zd_W_ship_131 hl (k := 3) rfl (by rw [← ev1, ← zI_add]; rfl) (by decide) rfl (fun ls hl => ?_)
  refine lv_goto (tgt := 68) C.1 C.2.1 zd_W_ship_134 (by decide) ?_
  exact hq68 (x1) (x2) (v1) S nx1 nx2 nv1 hf _ _ _ hW hS (lv_sub hl [1, 2, 3, 0] rfl)

def zf_W_ship_68 (r0 : Int) (q60 : Int → Int → Sg → Option (Int × Sg)) : Nat → Int → Int → Int → Sg → Option (Int × Sg)
  | 0, _, _, _, _ => none
  | n + 1, x1, x2, x3, S =>
    if (S 5 r0 0 33) ≤ x3 then (zlt (zw (x2 + 1)) fun v2 => q60 (x1) (v2) S) else (zck (0 ≤ x3 ∧ x3 < 30) <| zck (0 ≤ (S 5 r0 28 x3) ∧ (S 5 r0 28 x3) < 4) <| if (S 5 r0 26 (S 5 r0 28 x3)) = x2 then (zlt (min x1 (S 5 r0 29 x3)) fun v6 => zlt (zu S 5 r0 29 x3 (zw ((S 5 r0 29 x3) - v6))) fun S7 => zlt (zw (x1 - v6)) fun v8 => zbd (zf_W_stored (r0) (S7 5 r0 28 x3) v6 S7) fun a9 S10 => zf_W_ship_131 r0 q60 (zf_W_ship_68 r0 q60 n) (v8) (x2) (x3) S10) else (zf_W_ship_131 r0 q60 (zf_W_ship_68 r0 q60 n) (x1) (x2) (x3) S))
set_option maxHeartbeats 4000000 in
set_option maxRecDepth 100000 in
theorem zw_W_ship_68 {p : Program} {l : Launch} {e : Env} {s : State} {m : MethodId} {args : Array Value} {below : List Frame} {meth : Method} {c : Code} {B : zB} (C : CallFix p m c zb_W_ship 5 s args zT "IslandOfficeModel$World") (hr : meth.sig.returnType = some .boolean) (hlk : meth.locks = false) (hK : zK B s) (hSt : zSt B s) (hap : zAp B) (r0 : Int) (hr0 : 0 ≤ r0 ∧ r0 < 3) {res : Int} {S9 : Sg} (q60 : Int → Int → Sg → Option (Int × Sg)) (hq60 : ∀ (x1 : Int) (x2 : Int) (S : Sg) (nx1 : zn x1) (nx2 : zn x2), q60 x1 x2 S = some (res, S9) → ∀ (H : Heap) (locs : List Loc) (ls : Array Slot), zW B S H → va_S B.2.2.2 s.heap H locs → lv_has ls 5 [(0, .ref (B.2.1 5 (r0) (0))), (1, .int (zI (x1))), (2, .int (zI (x2)))] → W p l e zm_W_ship s m args below meth c H locs 0 0 (MQ below (zQi B res S9) args s 0 0 B.2.2.2) (F0 m 60 ls [])) : ∀ n : Nat, ∀ (x1 : Int) (x2 : Int) (x3 : Int) (S : Sg) (nx1 : zn x1) (nx2 : zn x2) (nx3 : zn x3), zf_W_ship_68 r0 q60 n x1 x2 x3 S = some (res, S9) → ∀ (H : Heap) (locs : List Loc) (ls : Array Slot), zW B S H → va_S B.2.2.2 s.heap H locs → lv_has ls 5 [(0, .ref (B.2.1 5 (r0) (0))), (1, .int (zI (x1))), (2, .int (zI (x2))), (3, .int (zI (x3)))] → W p l e zm_W_ship s m args below meth c H locs 0 0 (MQ below (zQi B res S9) args s 0 0 B.2.2.2) (F0 m 68 ls []) := by
  intro n
  induction n with
  | zero =>
    intro x1 x2 x3 S nx1 nx2 nx3 hf H locs ls hW hS hl
    cases hf
  | succ n ih =>
    intro x1 x2 x3 S nx1 nx2 nx3 hf H locs ls hW hS hl
    rw [zf_W_ship_68] at hf
    refine lv_iload_n C.1 C.2.1 zd_W_ship_68 rfl (lv_at hl 3 rfl) ?_
    refine lv_aload_n C.1 C.2.1 zd_W_ship_69 rfl (lv_at hl 0 rfl) ?_
    refine zg_W_orders (r := r0) C hK hW (zvd_5 hr0 (by decide)) zk_1341 zd_W_ship_70 ?_
    refine zr_icmp_ge (tgt := 137) C nx3 (zWn hW _ _ _ _ rfl) zd_W_ship_73 (by decide) (fun c1 => ?_) (fun c1 => ?_)
    · rw [if_pos c1] at hf
      obtain ⟨v2, ev2, hf⟩ := zlt_some hf
      have nv2 : zn v2 := by rw [← ev2]; exact zn_w _
      refine lv_iinc (v := zI v2) (lv' := [(2, .int (zI (v2))), (0, .ref (B.2.1 5 (r0) (0))), (1, .int (zI (x1))), (3, .int (zI (x3)))]) C.1 C.2.1 zd_W_ship_137 hl (k := 2) rfl (by rw [← ev2, ← zI_add]; rfl) (by decide) rfl (fun ls hl => ?_)
      refine lv_goto (tgt := 60) C.1 C.2.1 zd_W_ship_140 (by decide) ?_
      exact hq60 (x1) (v2) S nx1 nv2 hf _ _ _ hW hS (lv_sub hl [1, 2, 0] rfl)
    · rw [if_neg c1] at hf
      refine lv_aload_n C.1 C.2.1 zd_W_ship_76 rfl (lv_at hl 0 rfl) ?_
      refine zg_W_rank (r := r0) C hK hW (zvd_5 hr0 (by decide)) zk_1337 zd_W_ship_77 ?_
      refine lv_aload_n C.1 C.2.1 zd_W_ship_80 rfl (lv_at hl 0 rfl) ?_
      refine zg_W_orderGood (r := r0) C hK hW (zvd_5 hr0 (by decide)) zk_1343 zd_W_ship_81 ?_
      refine lv_iload_n C.1 C.2.1 zd_W_ship_84 rfl (lv_at hl 3 rfl) ?_
      obtain ⟨h3, hf⟩ := zck_some hf
      refine ziald C hK hW (zvd_5 hr0 (by decide)) (fun f => ze_5_28 B f (r0)) (by decide) h3 zd_W_ship_85 ?_
      obtain ⟨h4, hf⟩ := zck_some hf
      refine ziald C hK hW (zvd_5 hr0 (by decide)) (fun f => ze_5_26 B f (r0)) (by decide) h4 zd_W_ship_86 ?_
      refine lv_iload_n C.1 C.2.1 zd_W_ship_87 rfl (lv_at hl 2 rfl) ?_
      refine zr_icmp_ne (tgt := 131) C (zWn hW _ _ _ _ rfl) nx2 zd_W_ship_88 (by decide) (fun c5 => ?_) (fun c5 => ?_)
      · rw [if_neg c5] at hf
        exact zw_W_ship_131 C hr hlk hK hSt hap r0 hr0 q60 hq60 (zf_W_ship_68 r0 q60 n) (ih) (x1) (x2) (x3) S nx1 nx2 nx3 hf _ _ _ hW hS (lv_sub hl [0, 1, 2, 3] rfl)
      · rw [if_pos c5] at hf
        refine lv_iload_n C.1 C.2.1 zd_W_ship_91 rfl (lv_at hl 1 rfl) ?_
        refine lv_aload_n C.1 C.2.1 zd_W_ship_92 rfl (lv_at hl 0 rfl) ?_
        refine zg_W_orderDue (r := r0) C hK hW (zvd_5 hr0 (by decide)) zk_1345 zd_W_ship_93 ?_
        refine lv_iload_n C.1 C.2.1 zd_W_ship_96 rfl (lv_at hl 3 rfl) ?_
        refine ziald C hK hW (zvd_5 hr0 (by decide)) (fun f => ze_5_29 B f (r0)) (by decide) h3 zd_W_ship_97 ?_
        refine zr_min C hl.1 nx1 (zWn hW _ _ _ _ rfl) zk_1928 zk_909 zk_16 zk_910 (by decide) (Nat.le_of_ble_eq_true rfl) ⟨by decide, by decide⟩ zd_W_ship_98 ?_
        obtain ⟨v6, ev6, hf⟩ := zlt_some hf
        have nv6 : zn v6 := by rw [← ev6]; exact (zn_min nx1 (zWn hW _ _ _ _ rfl))
        rw [ev6]
        refine lv_istore (lv' := [(4, .int (zI (v6))), (0, .ref (B.2.1 5 (r0) (0))), (1, .int (zI (x1))), (2, .int (zI (x2))), (3, .int (zI (x3)))]) C.1 C.2.1 zd_W_ship_101 hl (by decide) rfl (fun ls hl => ?_)
        refine lv_aload_n C.1 C.2.1 zd_W_ship_103 rfl (lv_at hl 1 rfl) ?_
        refine zg_W_orderDue (r := r0) C hK hW (zvd_5 hr0 (by decide)) zk_1345 zd_W_ship_104 ?_
        refine lv_iload_n C.1 C.2.1 zd_W_ship_107 rfl (lv_at hl 4 rfl) ?_
        refine lv_dup2_11 C.1 C.2.1 zd_W_ship_108 rfl rfl ?_
        refine ziald C hK hW (zvd_5 hr0 (by decide)) (fun f => ze_5_29 B f (r0)) (by decide) h3 zd_W_ship_109 ?_
        refine lv_iload C.1 C.2.1 zd_W_ship_110 (lv_at hl 0 rfl) ?_
        refine zr_isub C zd_W_ship_112 ?_
        obtain ⟨S7, eS7, hf⟩ := zlt_some hf
        refine ziast C hK hap hW hS (zvd_5 hr0 (by decide)) (fun f => ze_5_29 B f (r0)) (by decide) rfl (zn_w _) h3 zd_W_ship_113 (fun H locs hW hS => ?_)
        rw [eS7] at hW
        refine lv_iload_n C.1 C.2.1 zd_W_ship_114 rfl (lv_at hl 2 rfl) ?_
        refine lv_iload C.1 C.2.1 zd_W_ship_115 (lv_at hl 0 rfl) ?_
        refine zr_isub C zd_W_ship_117 ?_
        obtain ⟨v8, ev8, hf⟩ := zlt_some hf
        have nv8 : zn v8 := by rw [← ev8]; exact (zn_w _)
        rw [ev8]
        refine lv_istore_n (lv' := [(1, .int (zI (v8))), (4, .int (zI (v6))), (0, .ref (B.2.1 5 (r0) (0))), (2, .int (zI (x2))), (3, .int (zI (x3)))]) C.1 C.2.1 zd_W_ship_118 rfl hl (by decide) rfl (fun ls hl => ?_)
        refine lv_aload_n C.1 C.2.1 zd_W_ship_119 rfl (lv_at hl 2 rfl) ?_
        refine lv_aload_n C.1 C.2.1 zd_W_ship_120 rfl (lv_at hl 2 rfl) ?_
        refine zg_W_orderGood (r := r0) C hK hW (zvd_5 hr0 (by decide)) zk_1343 zd_W_ship_121 ?_
        refine lv_iload_n C.1 C.2.1 zd_W_ship_124 rfl (lv_at hl 4 rfl) ?_
        refine ziald C hK hW (zvd_5 hr0 (by decide)) (fun f => ze_5_28 B f (r0)) (by decide) h3 zd_W_ship_125 ?_
        refine lv_iload C.1 C.2.1 zd_W_ship_126 (lv_at hl 1 rfl) ?_
        obtain ⟨a9, S10, ea9, hf⟩ := zbd_some hf
        refine zcVv (As := [.int (zI (S7 5 r0 28 x3)), .int (zI (v6))]) (rest := []) C hK hSt hW hS (zc_W_stored hap (r0) hr0 (S7 5 r0 28 x3) v6 S7 (zWn hW _ _ _ _ rfl) nv6 ea9) zq_W_stored zk_1924 (zrecv hK hW (zvd_5 hr0 (by decide)) (ze_5_0 B _ (r0)) rfl) ⟨rfl, rfl, by decide, by decide⟩ ⟨Nat.zero_le _, Nat.zero_le _⟩ rfl hl.1 rfl (lv_room (Nat.le_of_ble_eq_true rfl)) zd_W_ship_128 (fun H locs hW hS => ?_)
        exact zw_W_ship_131 C hr hlk hK hSt hap r0 hr0 q60 hq60 (zf_W_ship_68 r0 q60 n) (ih) (v8) (x2) (x3) S10 nv8 nx2 nx3 hf _ _ _ hW hS (lv_sub hl [2, 0, 3, 4] rfl)

def zf_W_ship_60 (r0 : Int) : Nat → Int → Int → Sg → Option (Int × Sg)
  | 0, _, _, _ => none
  | n + 1, x1, x2, S =>
    if 9 < x2 then (some (1, S)) else (zf_W_ship_68 r0 (zf_W_ship_60 r0 n) 4096 (x1) (x2) (0) S)
set_option maxHeartbeats 4000000 in
set_option maxRecDepth 100000 in
theorem zw_W_ship_60 {p : Program} {l : Launch} {e : Env} {s : State} {m : MethodId} {args : Array Value} {below : List Frame} {meth : Method} {c : Code} {B : zB} (C : CallFix p m c zb_W_ship 5 s args zT "IslandOfficeModel$World") (hr : meth.sig.returnType = some .boolean) (hlk : meth.locks = false) (hK : zK B s) (hSt : zSt B s) (hap : zAp B) (r0 : Int) (hr0 : 0 ≤ r0 ∧ r0 < 3) {res : Int} {S9 : Sg} : ∀ n : Nat, ∀ (x1 : Int) (x2 : Int) (S : Sg) (nx1 : zn x1) (nx2 : zn x2), zf_W_ship_60 r0 n x1 x2 S = some (res, S9) → ∀ (H : Heap) (locs : List Loc) (ls : Array Slot), zW B S H → va_S B.2.2.2 s.heap H locs → lv_has ls 5 [(0, .ref (B.2.1 5 (r0) (0))), (1, .int (zI (x1))), (2, .int (zI (x2)))] → W p l e zm_W_ship s m args below meth c H locs 0 0 (MQ below (zQi B res S9) args s 0 0 B.2.2.2) (F0 m 60 ls []) := by
  intro n
  induction n with
  | zero =>
    intro x1 x2 S nx1 nx2 hf H locs ls hW hS hl
    cases hf
  | succ n ih =>
    intro x1 x2 S nx1 nx2 hf H locs ls hW hS hl
    rw [zf_W_ship_60] at hf
    refine lv_iload_n C.1 C.2.1 zd_W_ship_60 rfl (lv_at hl 2 rfl) ?_
    refine zr_bipush C zd_W_ship_61 (by decide) ?_
    refine zr_icmp_gt (tgt := 143) C nx2 (znb rfl) zd_W_ship_63 (by decide) (fun c1 => ?_) (fun c1 => ?_)
    · rw [if_pos c1] at hf
      refine zr_iconst C zd_W_ship_143 ?_
      cases hf
      exact zre_z C hr hlk hK hW hS (znb rfl) (zb01 (by decide)) zd_W_ship_144
    · rw [if_neg c1] at hf
      refine zr_iconst C zd_W_ship_66 ?_
      refine lv_istore_n (lv' := [(3, .int (zI (0))), (0, .ref (B.2.1 5 (r0) (0))), (1, .int (zI (x1))), (2, .int (zI (x2)))]) C.1 C.2.1 zd_W_ship_67 rfl hl (by decide) rfl (fun ls hl => ?_)
      exact zw_W_ship_68 C hr hlk hK hSt hap r0 hr0 (zf_W_ship_60 r0 n) (ih) 4096 (x1) (x2) (0) S nx1 nx2 (znb rfl) hf _ _ _ hW hS (lv_sub hl [1, 2, 3, 0] rfl)

def zf_W_ship (r0 : Int) (S : Sg) : Option (Int × Sg) :=
    if (S 5 r0 0 0) < 4 then (some (0, S)) else (if (zw ((zdiv (S 5 r0 0 0) 4) * 4)) ≤ (S 5 r0 0 41) then (some (0, S)) else (zbd (zf_W_skyOf (r0) 0 (S 5 r0 0 0) S) fun a3 S4 => if a3 ≤ (S4 5 r0 30 1) then (zlt (zu S4 5 r0 0 41 (S4 5 r0 0 0)) fun S6 => zlt (S6 5 r0 30 0) fun v7 => zf_W_ship_60 r0 4096 (v7) (0) S6) else (some (0, S4))))
set_option maxHeartbeats 4000000 in
set_option maxRecDepth 100000 in
theorem zw_W_ship {p : Program} {l : Launch} {e : Env} {s : State} {m : MethodId} {args : Array Value} {below : List Frame} {meth : Method} {c : Code} {B : zB} (C : CallFix p m c zb_W_ship 5 s args zT "IslandOfficeModel$World") (hr : meth.sig.returnType = some .boolean) (hlk : meth.locks = false) (hK : zK B s) (hSt : zSt B s) (hap : zAp B) (r0 : Int) (hr0 : 0 ≤ r0 ∧ r0 < 3) {res : Int} {S9 : Sg} : ∀  (S : Sg) , zf_W_ship r0  S = some (res, S9) → ∀ (H : Heap) (locs : List Loc) (ls : Array Slot), zW B S H → va_S B.2.2.2 s.heap H locs → lv_has ls 5 [(0, .ref (B.2.1 5 (r0) (0)))] → W p l e zm_W_ship s m args below meth c H locs 0 0 (MQ below (zQi B res S9) args s 0 0 B.2.2.2) (F0 m 0 ls []) := by
  intro S hf H locs ls hW hS hl
  unfold zf_W_ship at hf
  refine lv_aload_n C.1 C.2.1 zd_W_ship_0 rfl (lv_at hl 0 rfl) ?_
  refine zg_W_week (r := r0) C hK hW (zvd_5 hr0 (by decide)) zk_1275 zd_W_ship_1 ?_
  refine zr_iconst C zd_W_ship_4 ?_
  refine zr_icmp_lt (tgt := 41) C (zWn hW _ _ _ _ rfl) (znb rfl) zd_W_ship_5 (by decide) (fun c1 => ?_) (fun c1 => ?_)
  · rw [if_pos c1] at hf
    refine zr_iconst C zd_W_ship_41 ?_
    cases hf
    exact zre_z C hr hlk hK hW hS (znb rfl) (zb01 (by decide)) zd_W_ship_42
  · rw [if_neg c1] at hf
    refine lv_aload_n C.1 C.2.1 zd_W_ship_8 rfl (lv_at hl 0 rfl) ?_
    refine zg_W_landed (r := r0) C hK hW (zvd_5 hr0 (by decide)) zk_1357 zd_W_ship_9 ?_
    refine lv_aload_n C.1 C.2.1 zd_W_ship_12 rfl (lv_at hl 0 rfl) ?_
    refine zg_W_week (r := r0) C hK hW (zvd_5 hr0 (by decide)) zk_1275 zd_W_ship_13 ?_
    refine zr_iconst C zd_W_ship_16 ?_
    refine zr_idiv C (zWn hW _ _ _ _ rfl) (znb rfl) (by decide) zd_W_ship_17 ?_
    refine zr_iconst C zd_W_ship_18 ?_
    refine zr_imul C zd_W_ship_19 ?_
    refine zr_icmp_ge (tgt := 41) C (zWn hW _ _ _ _ rfl) (zn_w _) zd_W_ship_20 (by decide) (fun c2 => ?_) (fun c2 => ?_)
    · rw [if_pos c2] at hf
      refine zr_iconst C zd_W_ship_41 ?_
      cases hf
      exact zre_z C hr hlk hK hW hS (znb rfl) (zb01 (by decide)) zd_W_ship_42
    · rw [if_neg c2] at hf
      refine lv_aload_n C.1 C.2.1 zd_W_ship_23 rfl (lv_at hl 0 rfl) ?_
      refine zr_iconst C zd_W_ship_24 ?_
      refine lv_aload_n C.1 C.2.1 zd_W_ship_25 rfl (lv_at hl 0 rfl) ?_
      refine zg_W_week (r := r0) C hK hW (zvd_5 hr0 (by decide)) zk_1275 zd_W_ship_26 ?_
      obtain ⟨a3, S4, ea3, hf⟩ := zbd_some hf
      refine zcVi (As := [.int (zI (0)), .int (zI (S 5 r0 0 0))]) (rest := []) C hK hSt hW hS (zc_W_skyOf hap (r0) hr0 0 (S 5 r0 0 0) S (znb rfl) (zWn hW _ _ _ _ rfl) ea3) zq_W_skyOf zk_1911 (zrecv hK hW (zvd_5 hr0 (by decide)) (ze_5_0 B _ (r0)) rfl) ⟨rfl, rfl, by decide, by decide⟩ ⟨Nat.zero_le _, Nat.zero_le _⟩ rfl hl.1 rfl (lv_room (Nat.le_of_ble_eq_true rfl)) zd_W_ship_29 (fun na3 H locs hW hS => ?_)
      refine lv_aload_n C.1 C.2.1 zd_W_ship_32 rfl (lv_at hl 0 rfl) ?_
      refine zg_W_set (r := r0) C hK hW (zvd_5 hr0 (by decide)) zk_1347 zd_W_ship_33 ?_
      refine zr_iconst C zd_W_ship_36 ?_
      refine ziald C hK hW (zvd_5 hr0 (by decide)) (fun f => ze_5_30 B f (r0)) (by decide) (by decide) zd_W_ship_37 ?_
      refine zr_icmp_le (tgt := 43) C na3 (zWn hW _ _ _ _ rfl) zd_W_ship_38 (by decide) (fun c5 => ?_) (fun c5 => ?_)
      · rw [if_pos c5] at hf
        refine lv_aload_n C.1 C.2.1 zd_W_ship_43 rfl (lv_at hl 0 rfl) ?_
        refine lv_aload_n C.1 C.2.1 zd_W_ship_44 rfl (lv_at hl 0 rfl) ?_
        refine zg_W_week (r := r0) C hK hW (zvd_5 hr0 (by decide)) zk_1275 zd_W_ship_45 ?_
        obtain ⟨S6, eS6, hf⟩ := zlt_some hf
        refine zp_W_landed (r := r0) C hK hap hW hS (zvd_5 hr0 (by decide)) zk_1357 (zWn hW _ _ _ _ rfl) zd_W_ship_48 (fun H locs hW hS => ?_)
        rw [eS6] at hW
        refine lv_aload_n C.1 C.2.1 zd_W_ship_51 rfl (lv_at hl 0 rfl) ?_
        refine zg_W_set (r := r0) C hK hW (zvd_5 hr0 (by decide)) zk_1347 zd_W_ship_52 ?_
        refine zr_iconst C zd_W_ship_55 ?_
        refine ziald C hK hW (zvd_5 hr0 (by decide)) (fun f => ze_5_30 B f (r0)) (by decide) (by decide) zd_W_ship_56 ?_
        obtain ⟨v7, ev7, hf⟩ := zlt_some hf
        have nv7 : zn v7 := by rw [← ev7]; exact (zWn hW _ _ _ _ rfl)
        rw [ev7]
        refine lv_istore_n (lv' := [(1, .int (zI (v7))), (0, .ref (B.2.1 5 (r0) (0)))]) C.1 C.2.1 zd_W_ship_57 rfl hl (by decide) rfl (fun ls hl => ?_)
        refine zr_iconst C zd_W_ship_58 ?_
        refine lv_istore_n (lv' := [(2, .int (zI (0))), (1, .int (zI (v7))), (0, .ref (B.2.1 5 (r0) (0)))]) C.1 C.2.1 zd_W_ship_59 rfl hl (by decide) rfl (fun ls hl => ?_)
        exact zw_W_ship_60 C hr hlk hK hSt hap r0 hr0 4096 (v7) (0) S6 nv7 (znb rfl) hf _ _ _ hW hS (lv_sub hl [2, 1, 0] rfl)
      · rw [if_neg c5] at hf
        refine zr_iconst C zd_W_ship_41 ?_
        cases hf
        exact zre_z C hr hlk hK hW hS (znb rfl) (zb01 (by decide)) zd_W_ship_42

theorem zc_W_ship {l : Launch} {B : zB} (hap : zAp B) (r0 : Int) (hr0 : 0 ≤ r0 ∧ r0 < 3) (S : Sg) {res : Int} {S9 : Sg} (hf : zf_W_ship r0 S = some (res, S9)) : Met l zy_W_ship (Cond.code zy_W_ship zb_W_ship 5 (some .boolean) :: zT) zm_W_ship (zP B S [.ref (B.2.1 5 (r0) (0))]) (zQi B res S9) 0 0 B.2.2.2 :=
  zmet (by decide) (Nat.le_of_ble_eq_true rfl) (fun p e s m args below meth c C hr hlk hK hSt hW ls hl => zw_W_ship C hr hlk hK hSt hap r0 hr0  S  hf _ _ _ hW va_S.rf hl)
/-! IslandOfficeModel$World.useGoods()V -/
abbrev zy_W_useGoods : MethodName := ⟨"IslandOfficeModel$World", "useGoods", "()V"⟩
abbrev zb_W_useGoods : ByteArray := prog_15_method_45_code
abbrev zm_W_useGoods : Room := { frames := 2, cells := 0, slots := 0, locals := 64 }
theorem zq_W_useGoods : zMy zy_W_useGoods zb_W_useGoods 4 (none) 0 := ⟨zk_1941, zk_1940, zs_84, zk_15, by decide, by decide, by decide +kernel⟩
theorem zd_W_useGoods_0 : decode zb_W_useGoods 0 = .ok (.iconst 1, 1) := by decide +kernel
theorem zd_W_useGoods_1 : decode zb_W_useGoods 1 = .ok (.istore_n 1, 1) := by decide +kernel
theorem zd_W_useGoods_2 : decode zb_W_useGoods 2 = .ok (.iload_n 1, 1) := by decide +kernel
theorem zd_W_useGoods_3 : decode zb_W_useGoods 3 = .ok (.iconst 4, 1) := by decide +kernel
theorem zd_W_useGoods_4 : decode zb_W_useGoods 4 = .ok (.if_icmp .ge 90, 3) := by decide +kernel
theorem zd_W_useGoods_7 : decode zb_W_useGoods 7 = .ok (.aload_n 0, 1) := by decide +kernel
theorem zd_W_useGoods_8 : decode zb_W_useGoods 8 = .ok (.getfield 99, 3) := by decide +kernel
theorem zd_W_useGoods_11 : decode zb_W_useGoods 11 = .ok (.iload_n 1, 1) := by decide +kernel
theorem zd_W_useGoods_12 : decode zb_W_useGoods 12 = .ok (.iaload, 1) := by decide +kernel
theorem zd_W_useGoods_13 : decode zb_W_useGoods 13 = .ok (.istore_n 2, 1) := by decide +kernel
theorem zd_W_useGoods_14 : decode zb_W_useGoods 14 = .ok (.iconst 0, 1) := by decide +kernel
theorem zd_W_useGoods_15 : decode zb_W_useGoods 15 = .ok (.istore_n 3, 1) := by decide +kernel
theorem zd_W_useGoods_16 : decode zb_W_useGoods 16 = .ok (.iload_n 1, 1) := by decide +kernel
theorem zd_W_useGoods_17 : decode zb_W_useGoods 17 = .ok (.iconst 1, 1) := by decide +kernel
theorem zd_W_useGoods_18 : decode zb_W_useGoods 18 = .ok (.if_icmp .ne 31, 3) := by decide +kernel
theorem zd_W_useGoods_21 : decode zb_W_useGoods 21 = .ok (.iload_n 3, 1) := by decide +kernel
theorem zd_W_useGoods_22 : decode zb_W_useGoods 22 = .ok (.bipush 12, 2) := by decide +kernel
theorem zd_W_useGoods_24 : decode zb_W_useGoods 24 = .ok (.if_icmp .ge 25, 3) := by decide +kernel
theorem zd_W_useGoods_27 : decode zb_W_useGoods 27 = .ok (.iload_n 2, 1) := by decide +kernel
theorem zd_W_useGoods_28 : decode zb_W_useGoods 28 = .ok (.aload_n 0, 1) := by decide +kernel
theorem zd_W_useGoods_29 : decode zb_W_useGoods 29 = .ok (.iload_n 3, 1) := by decide +kernel
theorem zd_W_useGoods_30 : decode zb_W_useGoods 30 = .ok (.invokevirtual 210, 3) := by decide +kernel
theorem zd_W_useGoods_33 : decode zb_W_useGoods 33 = .ok (.ifCond .le 7, 3) := by decide +kernel
theorem zd_W_useGoods_36 : decode zb_W_useGoods 36 = .ok (.iconst 1, 1) := by decide +kernel
theorem zd_W_useGoods_37 : decode zb_W_useGoods 37 = .ok (.goto 4, 3) := by decide +kernel
theorem zd_W_useGoods_40 : decode zb_W_useGoods 40 = .ok (.iconst 0, 1) := by decide +kernel
theorem zd_W_useGoods_41 : decode zb_W_useGoods 41 = .ok (.iadd, 1) := by decide +kernel
theorem zd_W_useGoods_42 : decode zb_W_useGoods 42 = .ok (.istore_n 2, 1) := by decide +kernel
theorem zd_W_useGoods_43 : decode zb_W_useGoods 43 = .ok (.iinc 3 1, 3) := by decide +kernel
theorem zd_W_useGoods_46 : decode zb_W_useGoods 46 = .ok (.goto (-30), 3) := by decide +kernel
theorem zd_W_useGoods_49 : decode zb_W_useGoods 49 = .ok (.aload_n 0, 1) := by decide +kernel
theorem zd_W_useGoods_50 : decode zb_W_useGoods 50 = .ok (.getfield 129, 3) := by decide +kernel
theorem zd_W_useGoods_53 : decode zb_W_useGoods 53 = .ok (.iload_n 1, 1) := by decide +kernel
theorem zd_W_useGoods_54 : decode zb_W_useGoods 54 = .ok (.aload_n 0, 1) := by decide +kernel
theorem zd_W_useGoods_55 : decode zb_W_useGoods 55 = .ok (.getfield 93, 3) := by decide +kernel
theorem zd_W_useGoods_58 : decode zb_W_useGoods 58 = .ok (.iload_n 1, 1) := by decide +kernel
theorem zd_W_useGoods_59 : decode zb_W_useGoods 59 = .ok (.iaload, 1) := by decide +kernel
theorem zd_W_useGoods_60 : decode zb_W_useGoods 60 = .ok (.iload_n 2, 1) := by decide +kernel
theorem zd_W_useGoods_61 : decode zb_W_useGoods 61 = .ok (.if_icmp .ge 7, 3) := by decide +kernel
theorem zd_W_useGoods_64 : decode zb_W_useGoods 64 = .ok (.iconst 1, 1) := by decide +kernel
theorem zd_W_useGoods_65 : decode zb_W_useGoods 65 = .ok (.goto 4, 3) := by decide +kernel
theorem zd_W_useGoods_68 : decode zb_W_useGoods 68 = .ok (.iconst 0, 1) := by decide +kernel
theorem zd_W_useGoods_69 : decode zb_W_useGoods 69 = .ok (.iastore, 1) := by decide +kernel
theorem zd_W_useGoods_70 : decode zb_W_useGoods 70 = .ok (.aload_n 0, 1) := by decide +kernel
theorem zd_W_useGoods_71 : decode zb_W_useGoods 71 = .ok (.getfield 93, 3) := by decide +kernel
theorem zd_W_useGoods_74 : decode zb_W_useGoods 74 = .ok (.iload_n 1, 1) := by decide +kernel
theorem zd_W_useGoods_75 : decode zb_W_useGoods 75 = .ok (.iconst 0, 1) := by decide +kernel
theorem zd_W_useGoods_76 : decode zb_W_useGoods 76 = .ok (.aload_n 0, 1) := by decide +kernel
theorem zd_W_useGoods_77 : decode zb_W_useGoods 77 = .ok (.getfield 93, 3) := by decide +kernel
theorem zd_W_useGoods_80 : decode zb_W_useGoods 80 = .ok (.iload_n 1, 1) := by decide +kernel
theorem zd_W_useGoods_81 : decode zb_W_useGoods 81 = .ok (.iaload, 1) := by decide +kernel
theorem zd_W_useGoods_82 : decode zb_W_useGoods 82 = .ok (.iload_n 2, 1) := by decide +kernel
theorem zd_W_useGoods_83 : decode zb_W_useGoods 83 = .ok (.isub, 1) := by decide +kernel
theorem zd_W_useGoods_84 : decode zb_W_useGoods 84 = .ok (.invokestatic 309, 3) := by decide +kernel
theorem zd_W_useGoods_87 : decode zb_W_useGoods 87 = .ok (.iastore, 1) := by decide +kernel
theorem zd_W_useGoods_88 : decode zb_W_useGoods 88 = .ok (.iinc 1 1, 3) := by decide +kernel
theorem zd_W_useGoods_91 : decode zb_W_useGoods 91 = .ok (.goto (-89), 3) := by decide +kernel
theorem zd_W_useGoods_94 : decode zb_W_useGoods 94 = .ok (.return_, 1) := by decide +kernel

def zf_W_useGoods_69 (r0 : Int) (q2 : Int → Sg → Option (Int × Sg)) (x1 : Int) (x2 : Int) (xt1 : Int) (xt2 : Int) (S : Sg) : Option (Int × Sg) :=
    zck (0 ≤ xt1 ∧ xt1 < 4) <| zlt (zu S 5 r0 34 xt1 xt2) fun S2 => zck (0 ≤ x1 ∧ x1 < 4) <| zlt (zu S2 5 r0 25 x1 (max 0 (zw ((S2 5 r0 25 x1) - x2)))) fun S4 => zlt (zw (x1 + 1)) fun v5 => q2 (v5) S4
set_option maxHeartbeats 4000000 in
set_option maxRecDepth 100000 in
theorem zw_W_useGoods_69 {p : Program} {l : Launch} {e : Env} {s : State} {m : MethodId} {args : Array Value} {below : List Frame} {meth : Method} {c : Code} {B : zB} (C : CallFix p m c zb_W_useGoods 4 s args zT "IslandOfficeModel$World") (hr : meth.sig.returnType = none) (hlk : meth.locks = false) (hK : zK B s) (hSt : zSt B s) (hap : zAp B) (r0 : Int) (hr0 : 0 ≤ r0 ∧ r0 < 3) {res : Int} {S9 : Sg} (q2 : Int → Sg → Option (Int × Sg)) (hq2 : ∀ (x1 : Int) (S : Sg) (nx1 : zn x1), q2 x1 S = some (res, S9) → ∀ (H : Heap) (locs : List Loc) (ls : Array Slot), zW B S H → va_S B.2.2.2 s.heap H locs → lv_has ls 4 [(0, .ref (B.2.1 5 (r0) (0))), (1, .int (zI (x1)))] → W p l e zm_W_useGoods s m args below meth c H locs 0 0 (MQ below (zQv B S9) args s 0 0 B.2.2.2) (F0 m 2 ls [])) : ∀ (x1 : Int) (x2 : Int) (xt1 : Int) (xt2 : Int) (S : Sg) (nx1 : zn x1) (nx2 : zn x2) (nxt1 : zn xt1) (nxt2 : zn xt2), zf_W_useGoods_69 r0 q2 x1 x2 xt1 xt2 S = some (res, S9) → ∀ (H : Heap) (locs : List Loc) (ls : Array Slot), zW B S H → va_S B.2.2.2 s.heap H locs → lv_has ls 4 [(0, .ref (B.2.1 5 (r0) (0))), (1, .int (zI (x1))), (2, .int (zI (x2)))] → W p l e zm_W_useGoods s m args below meth c H locs 0 0 (MQ below (zQv B S9) args s 0 0 B.2.2.2) (F0 m 69 ls [.int (zI (xt2)), .int (zI (xt1)), .ref (B.2.1 5 (r0) (34))]) := by
  intro x1 x2 xt1 xt2 S nx1 nx2 nxt1 nxt2 hf H locs ls hW hS hl
  unfold zf_W_useGoods_69 at hf
  obtain ⟨h1, hf⟩ := zck_some hf
  obtain ⟨S2, eS2, hf⟩ := zlt_some hf
  refine ziast C hK hap hW hS (zvd_5 hr0 (by decide)) (fun f => ze_5_34 B f (r0)) (by decide) rfl nxt2 h1 zd_W_useGoods_69 (fun H locs hW hS => ?_)
  rw [eS2] at hW
  refine lv_aload_n C.1 C.2.1 zd_W_useGoods_70 rfl (lv_at hl 0 rfl) ?_
  refine zg_W_store (r := r0) C hK hW (zvd_5 hr0 (by decide)) zk_1335 zd_W_useGoods_71 ?_
  refine lv_iload_n C.1 C.2.1 zd_W_useGoods_74 rfl (lv_at hl 1 rfl) ?_
  refine zr_iconst C zd_W_useGoods_75 ?_
  refine lv_aload_n C.1 C.2.1 zd_W_useGoods_76 rfl (lv_at hl 0 rfl) ?_
  refine zg_W_store (r := r0) C hK hW (zvd_5 hr0 (by decide)) zk_1335 zd_W_useGoods_77 ?_
  refine lv_iload_n C.1 C.2.1 zd_W_useGoods_80 rfl (lv_at hl 1 rfl) ?_
  obtain ⟨h3, hf⟩ := zck_some hf
  refine ziald C hK hW (zvd_5 hr0 (by decide)) (fun f => ze_5_25 B f (r0)) (by decide) h3 zd_W_useGoods_81 ?_
  refine lv_iload_n C.1 C.2.1 zd_W_useGoods_82 rfl (lv_at hl 2 rfl) ?_
  refine zr_isub C zd_W_useGoods_83 ?_
  refine zr_max C hl.1 (znb rfl) (zn_w _) zk_1898 zk_678 zk_16 zk_679 (by decide) (Nat.le_of_ble_eq_true rfl) ⟨by decide, by decide⟩ zd_W_useGoods_84 ?_
  obtain ⟨S4, eS4, hf⟩ := zlt_some hf
  refine ziast C hK hap hW hS (zvd_5 hr0 (by decide)) (fun f => ze_5_25 B f (r0)) (by decide) rfl (zn_max (znb rfl) (zn_w _)) h3 zd_W_useGoods_87 (fun H locs hW hS => ?_)
  rw [eS4] at hW
  obtain ⟨v5, ev5, hf⟩ := zlt_some hf
  have nv5 : zn v5 := by rw [← ev5]; exact zn_w _
  refine lv_iinc (v := zI v5) (lv' := [(1, .int (zI (v5))), (0, .ref (B.2.1 5 (r0) (0))), (2, .int (zI (x2)))]) C.1 C.2.1 zd_W_useGoods_88 hl (k := 1) rfl (by rw [← ev5, ← zI_add]; rfl) (by decide) rfl (fun ls hl => ?_)
  refine lv_goto (tgt := 2) C.1 C.2.1 zd_W_useGoods_91 (by decide) ?_
  exact hq2 (v5) S4 nv5 hf _ _ _ hW hS (lv_sub hl [1, 0] rfl)

def zf_W_useGoods_49 (r0 : Int) (q2 : Int → Sg → Option (Int × Sg)) (x1 : Int) (x2 : Int) (S : Sg) : Option (Int × Sg) :=
    zck (0 ≤ x1 ∧ x1 < 4) <| if x2 ≤ (S 5 r0 25 x1) then (zf_W_useGoods_69 r0 q2 (x1) (x2) (x1) (0) S) else (zf_W_useGoods_69 r0 q2 (x1) (x2) (x1) (1) S)
set_option maxHeartbeats 4000000 in
set_option maxRecDepth 100000 in
theorem zw_W_useGoods_49 {p : Program} {l : Launch} {e : Env} {s : State} {m : MethodId} {args : Array Value} {below : List Frame} {meth : Method} {c : Code} {B : zB} (C : CallFix p m c zb_W_useGoods 4 s args zT "IslandOfficeModel$World") (hr : meth.sig.returnType = none) (hlk : meth.locks = false) (hK : zK B s) (hSt : zSt B s) (hap : zAp B) (r0 : Int) (hr0 : 0 ≤ r0 ∧ r0 < 3) {res : Int} {S9 : Sg} (q2 : Int → Sg → Option (Int × Sg)) (hq2 : ∀ (x1 : Int) (S : Sg) (nx1 : zn x1), q2 x1 S = some (res, S9) → ∀ (H : Heap) (locs : List Loc) (ls : Array Slot), zW B S H → va_S B.2.2.2 s.heap H locs → lv_has ls 4 [(0, .ref (B.2.1 5 (r0) (0))), (1, .int (zI (x1)))] → W p l e zm_W_useGoods s m args below meth c H locs 0 0 (MQ below (zQv B S9) args s 0 0 B.2.2.2) (F0 m 2 ls [])) : ∀ (x1 : Int) (x2 : Int) (S : Sg) (nx1 : zn x1) (nx2 : zn x2), zf_W_useGoods_49 r0 q2 x1 x2 S = some (res, S9) → ∀ (H : Heap) (locs : List Loc) (ls : Array Slot), zW B S H → va_S B.2.2.2 s.heap H locs → lv_has ls 4 [(0, .ref (B.2.1 5 (r0) (0))), (1, .int (zI (x1))), (2, .int (zI (x2)))] → W p l e zm_W_useGoods s m args below meth c H locs 0 0 (MQ below (zQv B S9) args s 0 0 B.2.2.2) (F0 m 49 ls []) := by
  intro x1 x2 S nx1 nx2 hf H locs ls hW hS hl
  unfold zf_W_useGoods_49 at hf
  refine lv_aload_n C.1 C.2.1 zd_W_useGoods_49 rfl (lv_at hl 0 rfl) ?_
  refine zg_W_lacking (r := r0) C hK hW (zvd_5 hr0 (by decide)) zk_1367 zd_W_useGoods_50 ?_
  refine lv_iload_n C.1 C.2.1 zd_W_useGoods_53 rfl (lv_at hl 1 rfl) ?_
  refine lv_aload_n C.1 C.2.1 zd_W_useGoods_54 rfl (lv_at hl 0 rfl) ?_
  refine zg_W_store (r := r0) C hK hW (zvd_5 hr0 (by decide)) zk_1335 zd_W_useGoods_55 ?_
  refine lv_iload_n C.1 C.2.1 zd_W_useGoods_58 rfl (lv_at hl 1 rfl) ?_
  obtain ⟨h1, hf⟩ := zck_some hf
  refine ziald C hK hW (zvd_5 hr0 (by decide)) (fun f => ze_5_25 B f (r0)) (by decide) h1 zd_W_useGoods_59 ?_
  refine lv_iload_n C.1 C.2.1 zd_W_useGoods_60 rfl (lv_at hl 2 rfl) ?_
  refine zr_icmp_ge (tgt := 68) C (zWn hW _ _ _ _ rfl) nx2 zd_W_useGoods_61 (by decide) (fun c2 => ?_) (fun c2 => ?_)
  · rw [if_pos c2] at hf
    refine zr_iconst C zd_W_useGoods_68 ?_
    exact zw_W_useGoods_69 C hr hlk hK hSt hap r0 hr0 q2 hq2 (x1) (x2) (x1) (0) S nx1 nx2 nx1 (znb rfl) hf _ _ _ hW hS (lv_sub hl [0, 1, 2] rfl)
  · rw [if_neg c2] at hf
    refine zr_iconst C zd_W_useGoods_64 ?_
    refine lv_goto (tgt := 69) C.1 C.2.1 zd_W_useGoods_65 (by decide) ?_
    exact zw_W_useGoods_69 C hr hlk hK hSt hap r0 hr0 q2 hq2 (x1) (x2) (x1) (1) S nx1 nx2 nx1 (znb rfl) hf _ _ _ hW hS (lv_sub hl [0, 1, 2] rfl)

def zf_W_useGoods_41 (r0 : Int) (q2 : Int → Sg → Option (Int × Sg)) (q16 : Int → Int → Int → Sg → Option (Int × Sg)) (x1 : Int) (x3 : Int) (xt0 : Int) (xt1 : Int) (S : Sg) : Option (Int × Sg) :=
    zlt (zw (xt0 + xt1)) fun v1 => zlt (zw (x3 + 1)) fun v2 => q16 (x1) (v1) (v2) S
set_option maxHeartbeats 4000000 in
set_option maxRecDepth 100000 in
theorem zw_W_useGoods_41 {p : Program} {l : Launch} {e : Env} {s : State} {m : MethodId} {args : Array Value} {below : List Frame} {meth : Method} {c : Code} {B : zB} (C : CallFix p m c zb_W_useGoods 4 s args zT "IslandOfficeModel$World") (hr : meth.sig.returnType = none) (hlk : meth.locks = false) (hK : zK B s) (hSt : zSt B s) (hap : zAp B) (r0 : Int) (hr0 : 0 ≤ r0 ∧ r0 < 3) {res : Int} {S9 : Sg} (q2 : Int → Sg → Option (Int × Sg)) (hq2 : ∀ (x1 : Int) (S : Sg) (nx1 : zn x1), q2 x1 S = some (res, S9) → ∀ (H : Heap) (locs : List Loc) (ls : Array Slot), zW B S H → va_S B.2.2.2 s.heap H locs → lv_has ls 4 [(0, .ref (B.2.1 5 (r0) (0))), (1, .int (zI (x1)))] → W p l e zm_W_useGoods s m args below meth c H locs 0 0 (MQ below (zQv B S9) args s 0 0 B.2.2.2) (F0 m 2 ls [])) (q16 : Int → Int → Int → Sg → Option (Int × Sg)) (hq16 : ∀ (x1 : Int) (x2 : Int) (x3 : Int) (S : Sg) (nx1 : zn x1) (nx2 : zn x2) (nx3 : zn x3), q16 x1 x2 x3 S = some (res, S9) → ∀ (H : Heap) (locs : List Loc) (ls : Array Slot), zW B S H → va_S B.2.2.2 s.heap H locs → lv_has ls 4 [(0, .ref (B.2.1 5 (r0) (0))), (1, .int (zI (x1))), (2, .int (zI (x2))), (3, .int (zI (x3)))] → W p l e zm_W_useGoods s m args below meth c H locs 0 0 (MQ below (zQv B S9) args s 0 0 B.2.2.2) (F0 m 16 ls [])) : ∀ (x1 : Int) (x3 : Int) (xt0 : Int) (xt1 : Int) (S : Sg) (nx1 : zn x1) (nx3 : zn x3) (nxt0 : zn xt0) (nxt1 : zn xt1), zf_W_useGoods_41 r0 q2 q16 x1 x3 xt0 xt1 S = some (res, S9) → ∀ (H : Heap) (locs : List Loc) (ls : Array Slot), zW B S H → va_S B.2.2.2 s.heap H locs → lv_has ls 4 [(0, .ref (B.2.1 5 (r0) (0))), (1, .int (zI (x1))), (3, .int (zI (x3)))] → W p l e zm_W_useGoods s m args below meth c H locs 0 0 (MQ below (zQv B S9) args s 0 0 B.2.2.2) (F0 m 41 ls [.int (zI (xt1)), .int (zI (xt0))]) := by
  intro x1 x3 xt0 xt1 S nx1 nx3 nxt0 nxt1 hf H locs ls hW hS hl
  unfold zf_W_useGoods_41 at hf
  refine zr_iadd C zd_W_useGoods_41 ?_
  obtain ⟨v1, ev1, hf⟩ := zlt_some hf
  have nv1 : zn v1 := by rw [← ev1]; exact (zn_w _)
  rw [ev1]
  refine lv_istore_n (lv' := [(2, .int (zI (v1))), (0, .ref (B.2.1 5 (r0) (0))), (1, .int (zI (x1))), (3, .int (zI (x3)))]) C.1 C.2.1 zd_W_useGoods_42 rfl hl (by decide) rfl (fun ls hl => ?_)
  obtain ⟨v2, ev2, hf⟩ := zlt_some hf
  have nv2 : zn v2 := by rw [← ev2]; exact zn_w _
  refine lv_iinc (v := zI v2) (lv' := [(3, .int (zI (v2))), (2, .int (zI (v1))), (0, .ref (B.2.1 5 (r0) (0))), (1, .int (zI (x1)))]) C.1 C.2.1 zd_W_useGoods_43 hl (k := 3) rfl (by rw [← ev2, ← zI_add]; rfl) (by decide) rfl (fun ls hl => ?_)
  refine lv_goto (tgt := 16) C.1 C.2.1 zd_W_useGoods_46 (by decide) ?_
  exact hq16 (x1) (v1) (v2) S nx1 nv1 nv2 hf _ _ _ hW hS (lv_sub hl [2, 3, 1, 0] rfl)

def zf_W_useGoods_16 (r0 : Int) (q2 : Int → Sg → Option (Int × Sg)) : Nat → Int → Int → Int → Sg → Option (Int × Sg)
  | 0, _, _, _, _ => none
  | n + 1, x1, x2, x3, S =>
    if x1 = 1 then (if 12 ≤ x3 then (zf_W_useGoods_49 r0 q2 (x1) (x2) S) else (zbd (zf_W_heads (r0) x3 S) fun a3 S4 => if a3 ≤ 0 then (zf_W_useGoods_41 r0 q2 (zf_W_useGoods_16 r0 q2 n) (x1) (x3) (x2) (0) S4) else (zf_W_useGoods_41 r0 q2 (zf_W_useGoods_16 r0 q2 n) (x1) (x3) (x2) (1) S4))) else (zf_W_useGoods_49 r0 q2 (x1) (x2) S)
set_option maxHeartbeats 4000000 in
set_option maxRecDepth 100000 in
theorem zw_W_useGoods_16 {p : Program} {l : Launch} {e : Env} {s : State} {m : MethodId} {args : Array Value} {below : List Frame} {meth : Method} {c : Code} {B : zB} (C : CallFix p m c zb_W_useGoods 4 s args zT "IslandOfficeModel$World") (hr : meth.sig.returnType = none) (hlk : meth.locks = false) (hK : zK B s) (hSt : zSt B s) (hap : zAp B) (r0 : Int) (hr0 : 0 ≤ r0 ∧ r0 < 3) {res : Int} {S9 : Sg} (q2 : Int → Sg → Option (Int × Sg)) (hq2 : ∀ (x1 : Int) (S : Sg) (nx1 : zn x1), q2 x1 S = some (res, S9) → ∀ (H : Heap) (locs : List Loc) (ls : Array Slot), zW B S H → va_S B.2.2.2 s.heap H locs → lv_has ls 4 [(0, .ref (B.2.1 5 (r0) (0))), (1, .int (zI (x1)))] → W p l e zm_W_useGoods s m args below meth c H locs 0 0 (MQ below (zQv B S9) args s 0 0 B.2.2.2) (F0 m 2 ls [])) : ∀ n : Nat, ∀ (x1 : Int) (x2 : Int) (x3 : Int) (S : Sg) (nx1 : zn x1) (nx2 : zn x2) (nx3 : zn x3), zf_W_useGoods_16 r0 q2 n x1 x2 x3 S = some (res, S9) → ∀ (H : Heap) (locs : List Loc) (ls : Array Slot), zW B S H → va_S B.2.2.2 s.heap H locs → lv_has ls 4 [(0, .ref (B.2.1 5 (r0) (0))), (1, .int (zI (x1))), (2, .int (zI (x2))), (3, .int (zI (x3)))] → W p l e zm_W_useGoods s m args below meth c H locs 0 0 (MQ below (zQv B S9) args s 0 0 B.2.2.2) (F0 m 16 ls []) := by
  intro n
  induction n with
  | zero =>
    intro x1 x2 x3 S nx1 nx2 nx3 hf H locs ls hW hS hl
    cases hf
  | succ n ih =>
    intro x1 x2 x3 S nx1 nx2 nx3 hf H locs ls hW hS hl
    rw [zf_W_useGoods_16] at hf
    refine lv_iload_n C.1 C.2.1 zd_W_useGoods_16 rfl (lv_at hl 1 rfl) ?_
    refine zr_iconst C zd_W_useGoods_17 ?_
    refine zr_icmp_ne (tgt := 49) C nx1 (znb rfl) zd_W_useGoods_18 (by decide) (fun c1 => ?_) (fun c1 => ?_)
    · rw [if_neg c1] at hf
      exact zw_W_useGoods_49 C hr hlk hK hSt hap r0 hr0 q2 hq2 (x1) (x2) S nx1 nx2 hf _ _ _ hW hS (lv_sub hl [0, 1, 2] rfl)
    · rw [if_pos c1] at hf
      refine lv_iload_n C.1 C.2.1 zd_W_useGoods_21 rfl (lv_at hl 3 rfl) ?_
      refine zr_bipush C zd_W_useGoods_22 (by decide) ?_
      refine zr_icmp_ge (tgt := 49) C nx3 (znb rfl) zd_W_useGoods_24 (by decide) (fun c2 => ?_) (fun c2 => ?_)
      · rw [if_pos c2] at hf
        exact zw_W_useGoods_49 C hr hlk hK hSt hap r0 hr0 q2 hq2 (x1) (x2) S nx1 nx2 hf _ _ _ hW hS (lv_sub hl [0, 1, 2] rfl)
      · rw [if_neg c2] at hf
        refine lv_iload_n C.1 C.2.1 zd_W_useGoods_27 rfl (lv_at hl 2 rfl) ?_
        refine lv_aload_n C.1 C.2.1 zd_W_useGoods_28 rfl (lv_at hl 0 rfl) ?_
        refine lv_iload_n C.1 C.2.1 zd_W_useGoods_29 rfl (lv_at hl 3 rfl) ?_
        obtain ⟨a3, S4, ea3, hf⟩ := zbd_some hf
        refine zcVi (As := [.int (zI (x3))]) (rest := [.int (zI (x2))]) C hK hSt hW hS (zc_W_heads hap (r0) hr0 x3 S nx3 ea3) zq_W_heads zk_1741 (zrecv hK hW (zvd_5 hr0 (by decide)) (ze_5_0 B _ (r0)) rfl) ⟨rfl, rfl, by decide, by decide⟩ ⟨Nat.zero_le _, Nat.zero_le _⟩ rfl hl.1 rfl (lv_room (Nat.le_of_ble_eq_true rfl)) zd_W_useGoods_30 (fun na3 H locs hW hS => ?_)
        refine zr_if_le (tgt := 40) C na3 zd_W_useGoods_33 (by decide) (fun c5 => ?_) (fun c5 => ?_)
        · rw [if_pos c5] at hf
          refine zr_iconst C zd_W_useGoods_40 ?_
          exact zw_W_useGoods_41 C hr hlk hK hSt hap r0 hr0 q2 hq2 (zf_W_useGoods_16 r0 q2 n) (ih) (x1) (x3) (x2) (0) S4 nx1 nx3 nx2 (znb rfl) hf _ _ _ hW hS (lv_sub hl [0, 1, 3] rfl)
        · rw [if_neg c5] at hf
          refine zr_iconst C zd_W_useGoods_36 ?_
          refine lv_goto (tgt := 41) C.1 C.2.1 zd_W_useGoods_37 (by decide) ?_
          exact zw_W_useGoods_41 C hr hlk hK hSt hap r0 hr0 q2 hq2 (zf_W_useGoods_16 r0 q2 n) (ih) (x1) (x3) (x2) (1) S4 nx1 nx3 nx2 (znb rfl) hf _ _ _ hW hS (lv_sub hl [0, 1, 3] rfl)

def zf_W_useGoods_2 (r0 : Int) : Nat → Int → Sg → Option (Int × Sg)
  | 0, _, _ => none
  | n + 1, x1, S =>
    if 4 ≤ x1 then (some (0, S)) else (zck (0 ≤ x1 ∧ x1 < 4) <| zlt (S 5 r0 27 x1) fun v3 => zf_W_useGoods_16 r0 (zf_W_useGoods_2 r0 n) 4096 (x1) (v3) (0) S)
set_option maxHeartbeats 4000000 in
set_option maxRecDepth 100000 in
theorem zw_W_useGoods_2 {p : Program} {l : Launch} {e : Env} {s : State} {m : MethodId} {args : Array Value} {below : List Frame} {meth : Method} {c : Code} {B : zB} (C : CallFix p m c zb_W_useGoods 4 s args zT "IslandOfficeModel$World") (hr : meth.sig.returnType = none) (hlk : meth.locks = false) (hK : zK B s) (hSt : zSt B s) (hap : zAp B) (r0 : Int) (hr0 : 0 ≤ r0 ∧ r0 < 3) {res : Int} {S9 : Sg} : ∀ n : Nat, ∀ (x1 : Int) (S : Sg) (nx1 : zn x1), zf_W_useGoods_2 r0 n x1 S = some (res, S9) → ∀ (H : Heap) (locs : List Loc) (ls : Array Slot), zW B S H → va_S B.2.2.2 s.heap H locs → lv_has ls 4 [(0, .ref (B.2.1 5 (r0) (0))), (1, .int (zI (x1)))] → W p l e zm_W_useGoods s m args below meth c H locs 0 0 (MQ below (zQv B S9) args s 0 0 B.2.2.2) (F0 m 2 ls []) := by
  intro n
  induction n with
  | zero =>
    intro x1 S nx1 hf H locs ls hW hS hl
    cases hf
  | succ n ih =>
    intro x1 S nx1 hf H locs ls hW hS hl
    rw [zf_W_useGoods_2] at hf
    refine lv_iload_n C.1 C.2.1 zd_W_useGoods_2 rfl (lv_at hl 1 rfl) ?_
    refine zr_iconst C zd_W_useGoods_3 ?_
    refine zr_icmp_ge (tgt := 94) C nx1 (znb rfl) zd_W_useGoods_4 (by decide) (fun c1 => ?_) (fun c1 => ?_)
    · rw [if_pos c1] at hf
      cases hf
      exact zre_v C hr hlk hK hW hS zd_W_useGoods_94
    · rw [if_neg c1] at hf
      refine lv_aload_n C.1 C.2.1 zd_W_useGoods_7 rfl (lv_at hl 0 rfl) ?_
      refine zg_W_use (r := r0) C hK hW (zvd_5 hr0 (by decide)) zk_1339 zd_W_useGoods_8 ?_
      refine lv_iload_n C.1 C.2.1 zd_W_useGoods_11 rfl (lv_at hl 1 rfl) ?_
      obtain ⟨h2, hf⟩ := zck_some hf
      refine ziald C hK hW (zvd_5 hr0 (by decide)) (fun f => ze_5_27 B f (r0)) (by decide) h2 zd_W_useGoods_12 ?_
      obtain ⟨v3, ev3, hf⟩ := zlt_some hf
      have nv3 : zn v3 := by rw [← ev3]; exact (zWn hW _ _ _ _ rfl)
      rw [ev3]
      refine lv_istore_n (lv' := [(2, .int (zI (v3))), (0, .ref (B.2.1 5 (r0) (0))), (1, .int (zI (x1)))]) C.1 C.2.1 zd_W_useGoods_13 rfl hl (by decide) rfl (fun ls hl => ?_)
      refine zr_iconst C zd_W_useGoods_14 ?_
      refine lv_istore_n (lv' := [(3, .int (zI (0))), (2, .int (zI (v3))), (0, .ref (B.2.1 5 (r0) (0))), (1, .int (zI (x1)))]) C.1 C.2.1 zd_W_useGoods_15 rfl hl (by decide) rfl (fun ls hl => ?_)
      exact zw_W_useGoods_16 C hr hlk hK hSt hap r0 hr0 (zf_W_useGoods_2 r0 n) (ih) 4096 (x1) (v3) (0) S nx1 nv3 (znb rfl) hf _ _ _ hW hS (lv_sub hl [2, 3, 1, 0] rfl)

def zf_W_useGoods (r0 : Int) (S : Sg) : Option (Int × Sg) :=
    zf_W_useGoods_2 r0 4096 (1) S
set_option maxHeartbeats 4000000 in
set_option maxRecDepth 100000 in
theorem zw_W_useGoods {p : Program} {l : Launch} {e : Env} {s : State} {m : MethodId} {args : Array Value} {below : List Frame} {meth : Method} {c : Code} {B : zB} (C : CallFix p m c zb_W_useGoods 4 s args zT "IslandOfficeModel$World") (hr : meth.sig.returnType = none) (hlk : meth.locks = false) (hK : zK B s) (hSt : zSt B s) (hap : zAp B) (r0 : Int) (hr0 : 0 ≤ r0 ∧ r0 < 3) {res : Int} {S9 : Sg} : ∀  (S : Sg) , zf_W_useGoods r0  S = some (res, S9) → ∀ (H : Heap) (locs : List Loc) (ls : Array Slot), zW B S H → va_S B.2.2.2 s.heap H locs → lv_has ls 4 [(0, .ref (B.2.1 5 (r0) (0)))] → W p l e zm_W_useGoods s m args below meth c H locs 0 0 (MQ below (zQv B S9) args s 0 0 B.2.2.2) (F0 m 0 ls []) := by
  intro S hf H locs ls hW hS hl
  unfold zf_W_useGoods at hf
  refine zr_iconst C zd_W_useGoods_0 ?_
  refine lv_istore_n (lv' := [(1, .int (zI (1))), (0, .ref (B.2.1 5 (r0) (0)))]) C.1 C.2.1 zd_W_useGoods_1 rfl hl (by decide) rfl (fun ls hl => ?_)
  exact zw_W_useGoods_2 C hr hlk hK hSt hap r0 hr0 4096 (1) S (znb rfl) hf _ _ _ hW hS (lv_sub hl [1, 0] rfl)

theorem zc_W_useGoods {l : Launch} {B : zB} (hap : zAp B) (r0 : Int) (hr0 : 0 ≤ r0 ∧ r0 < 3) (S : Sg) {res : Int} {S9 : Sg} (hf : zf_W_useGoods r0 S = some (res, S9)) : Met l zy_W_useGoods (Cond.code zy_W_useGoods zb_W_useGoods 4 (none) :: zT) zm_W_useGoods (zP B S [.ref (B.2.1 5 (r0) (0))]) (zQv B S9) 0 0 B.2.2.2 :=
  zmet (by decide) (Nat.le_of_ble_eq_true rfl) (fun p e s m args below meth c C hr hlk hK hSt hW ls hl => zw_W_useGoods C hr hlk hK hSt hap r0 hr0  S  hf _ _ _ hW va_S.rf hl)
/-! IslandOfficeModel$World.water()V -/
abbrev zy_W_water : MethodName := ⟨"IslandOfficeModel$World", "water", "()V"⟩
abbrev zb_W_water : ByteArray := prog_15_method_40_code
abbrev zm_W_water : Room := { frames := 3, cells := 0, slots := 0, locals := 90 }
theorem zq_W_water : zMy zy_W_water zb_W_water 5 (none) 0 := ⟨zk_1910, zk_1909, zs_78, zk_15, by decide, by decide, by decide +kernel⟩
theorem zd_W_water_0 : decode zb_W_water 0 = .ok (.aload_n 0, 1) := by decide +kernel
theorem zd_W_water_1 : decode zb_W_water 1 = .ok (.iconst 1, 1) := by decide +kernel
theorem zd_W_water_2 : decode zb_W_water 2 = .ok (.aload_n 0, 1) := by decide +kernel
theorem zd_W_water_3 : decode zb_W_water 3 = .ok (.getfield 155, 3) := by decide +kernel
theorem zd_W_water_6 : decode zb_W_water 6 = .ok (.invokevirtual 317, 3) := by decide +kernel
theorem zd_W_water_9 : decode zb_W_water 9 = .ok (.i2l, 1) := by decide +kernel
theorem zd_W_water_10 : decode zb_W_water 10 = .ok (.lstore_n 1, 1) := by decide +kernel
theorem zd_W_water_11 : decode zb_W_water 11 = .ok (.iconst 0, 1) := by decide +kernel
theorem zd_W_water_12 : decode zb_W_water 12 = .ok (.istore_n 3, 1) := by decide +kernel
theorem zd_W_water_13 : decode zb_W_water 13 = .ok (.iload_n 3, 1) := by decide +kernel
theorem zd_W_water_14 : decode zb_W_water 14 = .ok (.bipush 12, 2) := by decide +kernel
theorem zd_W_water_16 : decode zb_W_water 16 = .ok (.if_icmp .ge 39, 3) := by decide +kernel
theorem zd_W_water_19 : decode zb_W_water 19 = .ok (.aload_n 0, 1) := by decide +kernel
theorem zd_W_water_20 : decode zb_W_water 20 = .ok (.getfield 42, 3) := by decide +kernel
theorem zd_W_water_23 : decode zb_W_water 23 = .ok (.iload_n 3, 1) := by decide +kernel
theorem zd_W_water_24 : decode zb_W_water 24 = .ok (.ldc2_w 320, 3) := by decide +kernel
theorem zd_W_water_27 : decode zb_W_water 27 = .ok (.aload_n 0, 1) := by decide +kernel
theorem zd_W_water_28 : decode zb_W_water 28 = .ok (.getfield 42, 3) := by decide +kernel
theorem zd_W_water_31 : decode zb_W_water 31 = .ok (.iload_n 3, 1) := by decide +kernel
theorem zd_W_water_32 : decode zb_W_water 32 = .ok (.iaload, 1) := by decide +kernel
theorem zd_W_water_33 : decode zb_W_water 33 = .ok (.i2l, 1) := by decide +kernel
theorem zd_W_water_34 : decode zb_W_water 34 = .ok (.lload_n 1, 1) := by decide +kernel
theorem zd_W_water_35 : decode zb_W_water 35 = .ok (.aload_n 0, 1) := by decide +kernel
theorem zd_W_water_36 : decode zb_W_water 36 = .ok (.getfield 45, 3) := by decide +kernel
theorem zd_W_water_39 : decode zb_W_water 39 = .ok (.iload_n 3, 1) := by decide +kernel
theorem zd_W_water_40 : decode zb_W_water 40 = .ok (.iaload, 1) := by decide +kernel
theorem zd_W_water_41 : decode zb_W_water 41 = .ok (.i2l, 1) := by decide +kernel
theorem zd_W_water_42 : decode zb_W_water 42 = .ok (.lmul, 1) := by decide +kernel
theorem zd_W_water_43 : decode zb_W_water 43 = .ok (.ladd, 1) := by decide +kernel
theorem zd_W_water_44 : decode zb_W_water 44 = .ok (.invokestatic 322, 3) := by decide +kernel
theorem zd_W_water_47 : decode zb_W_water 47 = .ok (.l2i, 1) := by decide +kernel
theorem zd_W_water_48 : decode zb_W_water 48 = .ok (.iastore, 1) := by decide +kernel
theorem zd_W_water_49 : decode zb_W_water 49 = .ok (.iinc 3 1, 3) := by decide +kernel
theorem zd_W_water_52 : decode zb_W_water 52 = .ok (.goto (-39), 3) := by decide +kernel
theorem zd_W_water_55 : decode zb_W_water 55 = .ok (.aload_n 0, 1) := by decide +kernel
theorem zd_W_water_56 : decode zb_W_water 56 = .ok (.ldc2_w 325, 3) := by decide +kernel
theorem zd_W_water_59 : decode zb_W_water 59 = .ok (.aload_n 0, 1) := by decide +kernel
theorem zd_W_water_60 : decode zb_W_water 60 = .ok (.getfield 51, 3) := by decide +kernel
theorem zd_W_water_63 : decode zb_W_water 63 = .ok (.i2l, 1) := by decide +kernel
theorem zd_W_water_64 : decode zb_W_water 64 = .ok (.lload_n 1, 1) := by decide +kernel
theorem zd_W_water_65 : decode zb_W_water 65 = .ok (.ladd, 1) := by decide +kernel
theorem zd_W_water_66 : decode zb_W_water 66 = .ok (.invokestatic 322, 3) := by decide +kernel
theorem zd_W_water_69 : decode zb_W_water 69 = .ok (.l2i, 1) := by decide +kernel
theorem zd_W_water_70 : decode zb_W_water 70 = .ok (.putfield 51, 3) := by decide +kernel
theorem zd_W_water_73 : decode zb_W_water 73 = .ok (.iconst 0, 1) := by decide +kernel
theorem zd_W_water_74 : decode zb_W_water 74 = .ok (.istore_n 3, 1) := by decide +kernel
theorem zd_W_water_75 : decode zb_W_water 75 = .ok (.iload_n 3, 1) := by decide +kernel
theorem zd_W_water_76 : decode zb_W_water 76 = .ok (.bipush 12, 2) := by decide +kernel
theorem zd_W_water_78 : decode zb_W_water 78 = .ok (.if_icmp .ge 64, 3) := by decide +kernel
theorem zd_W_water_81 : decode zb_W_water 81 = .ok (.aload_n 0, 1) := by decide +kernel
theorem zd_W_water_82 : decode zb_W_water 82 = .ok (.iload_n 3, 1) := by decide +kernel
theorem zd_W_water_83 : decode zb_W_water 83 = .ok (.invokevirtual 210, 3) := by decide +kernel
theorem zd_W_water_86 : decode zb_W_water 86 = .ok (.aload_n 0, 1) := by decide +kernel
theorem zd_W_water_87 : decode zb_W_water 87 = .ok (.getfield 39, 3) := by decide +kernel
theorem zd_W_water_90 : decode zb_W_water 90 = .ok (.iload_n 3, 1) := by decide +kernel
theorem zd_W_water_91 : decode zb_W_water 91 = .ok (.iaload, 1) := by decide +kernel
theorem zd_W_water_92 : decode zb_W_water 92 = .ok (.iadd, 1) := by decide +kernel
theorem zd_W_water_93 : decode zb_W_water 93 = .ok (.istore 4, 2) := by decide +kernel
theorem zd_W_water_95 : decode zb_W_water 95 = .ok (.aload_n 0, 1) := by decide +kernel
theorem zd_W_water_96 : decode zb_W_water 96 = .ok (.getfield 48, 3) := by decide +kernel
theorem zd_W_water_99 : decode zb_W_water 99 = .ok (.iload_n 3, 1) := by decide +kernel
theorem zd_W_water_100 : decode zb_W_water 100 = .ok (.aload_n 0, 1) := by decide +kernel
theorem zd_W_water_101 : decode zb_W_water 101 = .ok (.getfield 42, 3) := by decide +kernel
theorem zd_W_water_104 : decode zb_W_water 104 = .ok (.iload_n 3, 1) := by decide +kernel
theorem zd_W_water_105 : decode zb_W_water 105 = .ok (.iaload, 1) := by decide +kernel
theorem zd_W_water_106 : decode zb_W_water 106 = .ok (.iload 4, 2) := by decide +kernel
theorem zd_W_water_108 : decode zb_W_water 108 = .ok (.if_icmp .ge 7, 3) := by decide +kernel
theorem zd_W_water_111 : decode zb_W_water 111 = .ok (.iconst 1, 1) := by decide +kernel
theorem zd_W_water_112 : decode zb_W_water 112 = .ok (.goto 4, 3) := by decide +kernel
theorem zd_W_water_115 : decode zb_W_water 115 = .ok (.iconst 0, 1) := by decide +kernel
theorem zd_W_water_116 : decode zb_W_water 116 = .ok (.iastore, 1) := by decide +kernel
theorem zd_W_water_117 : decode zb_W_water 117 = .ok (.aload_n 0, 1) := by decide +kernel
theorem zd_W_water_118 : decode zb_W_water 118 = .ok (.getfield 42, 3) := by decide +kernel
theorem zd_W_water_121 : decode zb_W_water 121 = .ok (.iload_n 3, 1) := by decide +kernel
theorem zd_W_water_122 : decode zb_W_water 122 = .ok (.iconst 0, 1) := by decide +kernel
theorem zd_W_water_123 : decode zb_W_water 123 = .ok (.aload_n 0, 1) := by decide +kernel
theorem zd_W_water_124 : decode zb_W_water 124 = .ok (.getfield 42, 3) := by decide +kernel
theorem zd_W_water_127 : decode zb_W_water 127 = .ok (.iload_n 3, 1) := by decide +kernel
theorem zd_W_water_128 : decode zb_W_water 128 = .ok (.iaload, 1) := by decide +kernel
theorem zd_W_water_129 : decode zb_W_water 129 = .ok (.iload 4, 2) := by decide +kernel
theorem zd_W_water_131 : decode zb_W_water 131 = .ok (.isub, 1) := by decide +kernel
theorem zd_W_water_132 : decode zb_W_water 132 = .ok (.invokestatic 309, 3) := by decide +kernel
theorem zd_W_water_135 : decode zb_W_water 135 = .ok (.iastore, 1) := by decide +kernel
theorem zd_W_water_136 : decode zb_W_water 136 = .ok (.iinc 3 1, 3) := by decide +kernel
theorem zd_W_water_139 : decode zb_W_water 139 = .ok (.goto (-64), 3) := by decide +kernel
theorem zd_W_water_142 : decode zb_W_water 142 = .ok (.return_, 1) := by decide +kernel

def zf_W_water_116 (r0 : Int) (q75 : Int → Sg → Option (Int × Sg)) (x3 : Int) (x4 : Int) (xt1 : Int) (xt2 : Int) (S : Sg) : Option (Int × Sg) :=
    zck (0 ≤ xt1 ∧ xt1 < 12) <| zlt (zu S 5 r0 13 xt1 xt2) fun S2 => zck (0 ≤ x3 ∧ x3 < 12) <| zlt (zu S2 5 r0 11 x3 (max 0 (zw ((S2 5 r0 11 x3) - x4)))) fun S4 => zlt (zw (x3 + 1)) fun v5 => q75 (v5) S4
set_option maxHeartbeats 4000000 in
set_option maxRecDepth 100000 in
theorem zw_W_water_116 {p : Program} {l : Launch} {e : Env} {s : State} {m : MethodId} {args : Array Value} {below : List Frame} {meth : Method} {c : Code} {B : zB} (C : CallFix p m c zb_W_water 5 s args zT "IslandOfficeModel$World") (hr : meth.sig.returnType = none) (hlk : meth.locks = false) (hK : zK B s) (hSt : zSt B s) (hap : zAp B) (r0 : Int) (hr0 : 0 ≤ r0 ∧ r0 < 3) {res : Int} {S9 : Sg} (q75 : Int → Sg → Option (Int × Sg)) (hq75 : ∀ (x3 : Int) (S : Sg) (nx3 : zn x3), q75 x3 S = some (res, S9) → ∀ (H : Heap) (locs : List Loc) (ls : Array Slot), zW B S H → va_S B.2.2.2 s.heap H locs → lv_has ls 5 [(0, .ref (B.2.1 5 (r0) (0))), (3, .int (zI (x3)))] → W p l e zm_W_water s m args below meth c H locs 0 0 (MQ below (zQv B S9) args s 0 0 B.2.2.2) (F0 m 75 ls [])) : ∀ (x3 : Int) (x4 : Int) (xt1 : Int) (xt2 : Int) (S : Sg) (nx3 : zn x3) (nx4 : zn x4) (nxt1 : zn xt1) (nxt2 : zn xt2), zf_W_water_116 r0 q75 x3 x4 xt1 xt2 S = some (res, S9) → ∀ (H : Heap) (locs : List Loc) (ls : Array Slot), zW B S H → va_S B.2.2.2 s.heap H locs → lv_has ls 5 [(0, .ref (B.2.1 5 (r0) (0))), (3, .int (zI (x3))), (4, .int (zI (x4)))] → W p l e zm_W_water s m args below meth c H locs 0 0 (MQ below (zQv B S9) args s 0 0 B.2.2.2) (F0 m 116 ls [.int (zI (xt2)), .int (zI (xt1)), .ref (B.2.1 5 (r0) (13))]) := by
  intro x3 x4 xt1 xt2 S nx3 nx4 nxt1 nxt2 hf H locs ls hW hS hl
  unfold zf_W_water_116 at hf
  obtain ⟨h1, hf⟩ := zck_some hf
  obtain ⟨S2, eS2, hf⟩ := zlt_some hf
  refine ziast C hK hap hW hS (zvd_5 hr0 (by decide)) (fun f => ze_5_13 B f (r0)) (by decide) rfl nxt2 h1 zd_W_water_116 (fun H locs hW hS => ?_)
  rw [eS2] at hW
  refine lv_aload_n C.1 C.2.1 zd_W_water_117 rfl (lv_at hl 0 rfl) ?_
  refine zg_W_tank (r := r0) C hK hW (zvd_5 hr0 (by decide)) zk_1299 zd_W_water_118 ?_
  refine lv_iload_n C.1 C.2.1 zd_W_water_121 rfl (lv_at hl 1 rfl) ?_
  refine zr_iconst C zd_W_water_122 ?_
  refine lv_aload_n C.1 C.2.1 zd_W_water_123 rfl (lv_at hl 0 rfl) ?_
  refine zg_W_tank (r := r0) C hK hW (zvd_5 hr0 (by decide)) zk_1299 zd_W_water_124 ?_
  refine lv_iload_n C.1 C.2.1 zd_W_water_127 rfl (lv_at hl 1 rfl) ?_
  obtain ⟨h3, hf⟩ := zck_some hf
  refine ziald C hK hW (zvd_5 hr0 (by decide)) (fun f => ze_5_11 B f (r0)) (by decide) h3 zd_W_water_128 ?_
  refine lv_iload C.1 C.2.1 zd_W_water_129 (lv_at hl 2 rfl) ?_
  refine zr_isub C zd_W_water_131 ?_
  refine zr_max C hl.1 (znb rfl) (zn_w _) zk_1898 zk_678 zk_16 zk_679 (by decide) (Nat.le_of_ble_eq_true rfl) ⟨by decide, by decide⟩ zd_W_water_132 ?_
  obtain ⟨S4, eS4, hf⟩ := zlt_some hf
  refine ziast C hK hap hW hS (zvd_5 hr0 (by decide)) (fun f => ze_5_11 B f (r0)) (by decide) rfl (zn_max (znb rfl) (zn_w _)) h3 zd_W_water_135 (fun H locs hW hS => ?_)
  rw [eS4] at hW
  obtain ⟨v5, ev5, hf⟩ := zlt_some hf
  have nv5 : zn v5 := by rw [← ev5]; exact zn_w _
  refine lv_iinc (v := zI v5) (lv' := [(3, .int (zI (v5))), (0, .ref (B.2.1 5 (r0) (0))), (4, .int (zI (x4)))]) C.1 C.2.1 zd_W_water_136 hl (k := 1) rfl (by rw [← ev5, ← zI_add]; rfl) (by decide) rfl (fun ls hl => ?_)
  refine lv_goto (tgt := 75) C.1 C.2.1 zd_W_water_139 (by decide) ?_
  exact hq75 (v5) S4 nv5 hf _ _ _ hW hS (lv_sub hl [1, 0] rfl)

def zf_W_water_75 (r0 : Int) : Nat → Int → Sg → Option (Int × Sg)
  | 0, _, _ => none
  | n + 1, x3, S =>
    if 12 ≤ x3 then (some (0, S)) else (zbd (zf_W_heads (r0) x3 S) fun a2 S3 => zck (0 ≤ x3 ∧ x3 < 12) <| zlt (zw (a2 + (S3 5 r0 10 x3))) fun v5 => if v5 ≤ (S3 5 r0 11 x3) then (zf_W_water_116 r0 (zf_W_water_75 r0 n) (x3) (v5) (x3) (0) S3) else (zf_W_water_116 r0 (zf_W_water_75 r0 n) (x3) (v5) (x3) (1) S3))
set_option maxHeartbeats 4000000 in
set_option maxRecDepth 100000 in
theorem zw_W_water_75 {p : Program} {l : Launch} {e : Env} {s : State} {m : MethodId} {args : Array Value} {below : List Frame} {meth : Method} {c : Code} {B : zB} (C : CallFix p m c zb_W_water 5 s args zT "IslandOfficeModel$World") (hr : meth.sig.returnType = none) (hlk : meth.locks = false) (hK : zK B s) (hSt : zSt B s) (hap : zAp B) (r0 : Int) (hr0 : 0 ≤ r0 ∧ r0 < 3) {res : Int} {S9 : Sg} : ∀ n : Nat, ∀ (x3 : Int) (S : Sg) (nx3 : zn x3), zf_W_water_75 r0 n x3 S = some (res, S9) → ∀ (H : Heap) (locs : List Loc) (ls : Array Slot), zW B S H → va_S B.2.2.2 s.heap H locs → lv_has ls 5 [(0, .ref (B.2.1 5 (r0) (0))), (3, .int (zI (x3)))] → W p l e zm_W_water s m args below meth c H locs 0 0 (MQ below (zQv B S9) args s 0 0 B.2.2.2) (F0 m 75 ls []) := by
  intro n
  induction n with
  | zero =>
    intro x3 S nx3 hf H locs ls hW hS hl
    cases hf
  | succ n ih =>
    intro x3 S nx3 hf H locs ls hW hS hl
    rw [zf_W_water_75] at hf
    refine lv_iload_n C.1 C.2.1 zd_W_water_75 rfl (lv_at hl 1 rfl) ?_
    refine zr_bipush C zd_W_water_76 (by decide) ?_
    refine zr_icmp_ge (tgt := 142) C nx3 (znb rfl) zd_W_water_78 (by decide) (fun c1 => ?_) (fun c1 => ?_)
    · rw [if_pos c1] at hf
      cases hf
      exact zre_v C hr hlk hK hW hS zd_W_water_142
    · rw [if_neg c1] at hf
      refine lv_aload_n C.1 C.2.1 zd_W_water_81 rfl (lv_at hl 0 rfl) ?_
      refine lv_iload_n C.1 C.2.1 zd_W_water_82 rfl (lv_at hl 1 rfl) ?_
      obtain ⟨a2, S3, ea2, hf⟩ := zbd_some hf
      refine zcVi (As := [.int (zI (x3))]) (rest := []) C hK hSt hW hS (zc_W_heads hap (r0) hr0 x3 S nx3 ea2) zq_W_heads zk_1741 (zrecv hK hW (zvd_5 hr0 (by decide)) (ze_5_0 B _ (r0)) rfl) ⟨rfl, rfl, by decide, by decide⟩ ⟨Nat.zero_le _, Nat.zero_le _⟩ rfl hl.1 rfl (lv_room (Nat.le_of_ble_eq_true rfl)) zd_W_water_83 (fun na2 H locs hW hS => ?_)
      refine lv_aload_n C.1 C.2.1 zd_W_water_86 rfl (lv_at hl 0 rfl) ?_
      refine zg_W_cattle (r := r0) C hK hW (zvd_5 hr0 (by decide)) zk_1297 zd_W_water_87 ?_
      refine lv_iload_n C.1 C.2.1 zd_W_water_90 rfl (lv_at hl 1 rfl) ?_
      obtain ⟨h4, hf⟩ := zck_some hf
      refine ziald C hK hW (zvd_5 hr0 (by decide)) (fun f => ze_5_10 B f (r0)) (by decide) h4 zd_W_water_91 ?_
      refine zr_iadd C zd_W_water_92 ?_
      obtain ⟨v5, ev5, hf⟩ := zlt_some hf
      have nv5 : zn v5 := by rw [← ev5]; exact (zn_w _)
      rw [ev5]
      refine lv_istore (lv' := [(4, .int (zI (v5))), (0, .ref (B.2.1 5 (r0) (0))), (3, .int (zI (x3)))]) C.1 C.2.1 zd_W_water_93 hl (by decide) rfl (fun ls hl => ?_)
      refine lv_aload_n C.1 C.2.1 zd_W_water_95 rfl (lv_at hl 1 rfl) ?_
      refine zg_W_dry (r := r0) C hK hW (zvd_5 hr0 (by decide)) zk_1303 zd_W_water_96 ?_
      refine lv_iload_n C.1 C.2.1 zd_W_water_99 rfl (lv_at hl 2 rfl) ?_
      refine lv_aload_n C.1 C.2.1 zd_W_water_100 rfl (lv_at hl 1 rfl) ?_
      refine zg_W_tank (r := r0) C hK hW (zvd_5 hr0 (by decide)) zk_1299 zd_W_water_101 ?_
      refine lv_iload_n C.1 C.2.1 zd_W_water_104 rfl (lv_at hl 2 rfl) ?_
      refine ziald C hK hW (zvd_5 hr0 (by decide)) (fun f => ze_5_11 B f (r0)) (by decide) h4 zd_W_water_105 ?_
      refine lv_iload C.1 C.2.1 zd_W_water_106 (lv_at hl 0 rfl) ?_
      refine zr_icmp_ge (tgt := 115) C (zWn hW _ _ _ _ rfl) nv5 zd_W_water_108 (by decide) (fun c6 => ?_) (fun c6 => ?_)
      · rw [if_pos c6] at hf
        refine zr_iconst C zd_W_water_115 ?_
        exact zw_W_water_116 C hr hlk hK hSt hap r0 hr0 (zf_W_water_75 r0 n) (ih) (x3) (v5) (x3) (0) S3 nx3 nv5 nx3 (znb rfl) hf _ _ _ hW hS (lv_sub hl [1, 2, 0] rfl)
      · rw [if_neg c6] at hf
        refine zr_iconst C zd_W_water_111 ?_
        refine lv_goto (tgt := 116) C.1 C.2.1 zd_W_water_112 (by decide) ?_
        exact zw_W_water_116 C hr hlk hK hSt hap r0 hr0 (zf_W_water_75 r0 n) (ih) (x3) (v5) (x3) (1) S3 nx3 nv5 nx3 (znb rfl) hf _ _ _ hW hS (lv_sub hl [1, 2, 0] rfl)

def zf_W_water_13 (r0 : Int) : Nat → Int → Int → Sg → Option (Int × Sg)
  | 0, _, _, _ => none
  | n + 1, x1, x3, S =>
    if 12 ≤ x3 then (zlt (zu S 5 r0 0 15 (zw (min 500 (zv ((S 5 r0 0 15) + x1))))) fun S2 => zf_W_water_75 r0 4096 (0) S2) else (zck (0 ≤ x3 ∧ x3 < 12) <| zlt (zu S 5 r0 11 x3 (zw (min 200 (zv ((S 5 r0 11 x3) + (zv (x1 * (S 5 r0 12 x3)))))))) fun S4 => zlt (zw (x3 + 1)) fun v5 => (zf_W_water_13 r0 n) (x1) (v5) S4)
set_option maxHeartbeats 4000000 in
set_option maxRecDepth 100000 in
theorem zw_W_water_13 {p : Program} {l : Launch} {e : Env} {s : State} {m : MethodId} {args : Array Value} {below : List Frame} {meth : Method} {c : Code} {B : zB} (C : CallFix p m c zb_W_water 5 s args zT "IslandOfficeModel$World") (hr : meth.sig.returnType = none) (hlk : meth.locks = false) (hK : zK B s) (hSt : zSt B s) (hap : zAp B) (r0 : Int) (hr0 : 0 ≤ r0 ∧ r0 < 3) {res : Int} {S9 : Sg} : ∀ n : Nat, ∀ (x1 : Int) (x3 : Int) (S : Sg) (nx1 : zm x1) (nx3 : zn x3), zf_W_water_13 r0 n x1 x3 S = some (res, S9) → ∀ (H : Heap) (locs : List Loc) (ls : Array Slot), zW B S H → va_S B.2.2.2 s.heap H locs → lv_has ls 5 [(0, .ref (B.2.1 5 (r0) (0))), (1, .long (zL (x1))), (3, .int (zI (x3)))] → W p l e zm_W_water s m args below meth c H locs 0 0 (MQ below (zQv B S9) args s 0 0 B.2.2.2) (F0 m 13 ls []) := by
  intro n
  induction n with
  | zero =>
    intro x1 x3 S nx1 nx3 hf H locs ls hW hS hl
    cases hf
  | succ n ih =>
    intro x1 x3 S nx1 nx3 hf H locs ls hW hS hl
    rw [zf_W_water_13] at hf
    refine lv_iload_n C.1 C.2.1 zd_W_water_13 rfl (lv_at hl 2 rfl) ?_
    refine zr_bipush C zd_W_water_14 (by decide) ?_
    refine zr_icmp_ge (tgt := 55) C nx3 (znb rfl) zd_W_water_16 (by decide) (fun c1 => ?_) (fun c1 => ?_)
    · rw [if_pos c1] at hf
      refine lv_aload_n C.1 C.2.1 zd_W_water_55 rfl (lv_at hl 0 rfl) ?_
      refine zr_ldc2 (n := 500) C zk_1914 (by decide) zd_W_water_56 ?_
      refine lv_aload_n C.1 C.2.1 zd_W_water_59 rfl (lv_at hl 0 rfl) ?_
      refine zg_W_grass (r := r0) C hK hW (zvd_5 hr0 (by decide)) zk_1305 zd_W_water_60 ?_
      refine zr_i2l C (zWn hW _ _ _ _ rfl) zd_W_water_63 ?_
      refine lv_lload_n C.1 C.2.1 zd_W_water_64 rfl (lv_at hl 1 rfl) ?_
      refine zr_ladd C zd_W_water_65 ?_
      refine zr_minl C hl.1 (zmb rfl) (zm_v _) zk_1913 zk_947 zk_16 zk_948 (by decide) (Nat.le_of_ble_eq_true rfl) ⟨by decide, by decide⟩ zd_W_water_66 ?_
      refine zr_l2i C (zm_min (zmb rfl) (zm_v _)) zd_W_water_69 ?_
      obtain ⟨S2, eS2, hf⟩ := zlt_some hf
      refine zp_W_grass (r := r0) C hK hap hW hS (zvd_5 hr0 (by decide)) zk_1305 (zn_w _) zd_W_water_70 (fun H locs hW hS => ?_)
      rw [eS2] at hW
      refine zr_iconst C zd_W_water_73 ?_
      refine lv_istore_n (lv' := [(3, .int (zI (0))), (0, .ref (B.2.1 5 (r0) (0))), (1, .long (zL (x1)))]) C.1 C.2.1 zd_W_water_74 rfl hl (by decide) rfl (fun ls hl => ?_)
      exact zw_W_water_75 C hr hlk hK hSt hap r0 hr0 4096 (0) S2 (znb rfl) hf _ _ _ hW hS (lv_sub hl [1, 0] rfl)
    · rw [if_neg c1] at hf
      refine lv_aload_n C.1 C.2.1 zd_W_water_19 rfl (lv_at hl 0 rfl) ?_
      refine zg_W_tank (r := r0) C hK hW (zvd_5 hr0 (by decide)) zk_1299 zd_W_water_20 ?_
      refine lv_iload_n C.1 C.2.1 zd_W_water_23 rfl (lv_at hl 2 rfl) ?_
      refine zr_ldc2 (n := 200) C zk_1912 (by decide) zd_W_water_24 ?_
      refine lv_aload_n C.1 C.2.1 zd_W_water_27 rfl (lv_at hl 0 rfl) ?_
      refine zg_W_tank (r := r0) C hK hW (zvd_5 hr0 (by decide)) zk_1299 zd_W_water_28 ?_
      refine lv_iload_n C.1 C.2.1 zd_W_water_31 rfl (lv_at hl 2 rfl) ?_
      obtain ⟨h3, hf⟩ := zck_some hf
      refine ziald C hK hW (zvd_5 hr0 (by decide)) (fun f => ze_5_11 B f (r0)) (by decide) h3 zd_W_water_32 ?_
      refine zr_i2l C (zWn hW _ _ _ _ rfl) zd_W_water_33 ?_
      refine lv_lload_n C.1 C.2.1 zd_W_water_34 rfl (lv_at hl 1 rfl) ?_
      refine lv_aload_n C.1 C.2.1 zd_W_water_35 rfl (lv_at hl 0 rfl) ?_
      refine zg_W_roof (r := r0) C hK hW (zvd_5 hr0 (by decide)) zk_1301 zd_W_water_36 ?_
      refine lv_iload_n C.1 C.2.1 zd_W_water_39 rfl (lv_at hl 2 rfl) ?_
      refine ziald C hK hW (zvd_5 hr0 (by decide)) (fun f => ze_5_12 B f (r0)) (by decide) h3 zd_W_water_40 ?_
      refine zr_i2l C (zWn hW _ _ _ _ rfl) zd_W_water_41 ?_
      refine zr_lmul C zd_W_water_42 ?_
      refine zr_ladd C zd_W_water_43 ?_
      refine zr_minl C hl.1 (zmb rfl) (zm_v _) zk_1913 zk_947 zk_16 zk_948 (by decide) (Nat.le_of_ble_eq_true rfl) ⟨by decide, by decide⟩ zd_W_water_44 ?_
      refine zr_l2i C (zm_min (zmb rfl) (zm_v _)) zd_W_water_47 ?_
      obtain ⟨S4, eS4, hf⟩ := zlt_some hf
      refine ziast C hK hap hW hS (zvd_5 hr0 (by decide)) (fun f => ze_5_11 B f (r0)) (by decide) rfl (zn_w _) h3 zd_W_water_48 (fun H locs hW hS => ?_)
      rw [eS4] at hW
      obtain ⟨v5, ev5, hf⟩ := zlt_some hf
      have nv5 : zn v5 := by rw [← ev5]; exact zn_w _
      refine lv_iinc (v := zI v5) (lv' := [(3, .int (zI (v5))), (0, .ref (B.2.1 5 (r0) (0))), (1, .long (zL (x1)))]) C.1 C.2.1 zd_W_water_49 hl (k := 2) rfl (by rw [← ev5, ← zI_add]; rfl) (by decide) rfl (fun ls hl => ?_)
      refine lv_goto (tgt := 13) C.1 C.2.1 zd_W_water_52 (by decide) ?_
      exact ih (x1) (v5) S4 nx1 nv5 hf _ _ _ hW hS (lv_sub hl [1, 2, 0] rfl)

def zf_W_water (r0 : Int) (S : Sg) : Option (Int × Sg) :=
    zbd (zf_W_skyOf (r0) 1 (S 5 r0 0 0) S) fun a1 S2 => zf_W_water_13 r0 4096 (a1) (0) S2
set_option maxHeartbeats 4000000 in
set_option maxRecDepth 100000 in
theorem zw_W_water {p : Program} {l : Launch} {e : Env} {s : State} {m : MethodId} {args : Array Value} {below : List Frame} {meth : Method} {c : Code} {B : zB} (C : CallFix p m c zb_W_water 5 s args zT "IslandOfficeModel$World") (hr : meth.sig.returnType = none) (hlk : meth.locks = false) (hK : zK B s) (hSt : zSt B s) (hap : zAp B) (r0 : Int) (hr0 : 0 ≤ r0 ∧ r0 < 3) {res : Int} {S9 : Sg} : ∀  (S : Sg) , zf_W_water r0  S = some (res, S9) → ∀ (H : Heap) (locs : List Loc) (ls : Array Slot), zW B S H → va_S B.2.2.2 s.heap H locs → lv_has ls 5 [(0, .ref (B.2.1 5 (r0) (0)))] → W p l e zm_W_water s m args below meth c H locs 0 0 (MQ below (zQv B S9) args s 0 0 B.2.2.2) (F0 m 0 ls []) := by
  intro S hf H locs ls hW hS hl
  unfold zf_W_water at hf
  refine lv_aload_n C.1 C.2.1 zd_W_water_0 rfl (lv_at hl 0 rfl) ?_
  refine zr_iconst C zd_W_water_1 ?_
  refine lv_aload_n C.1 C.2.1 zd_W_water_2 rfl (lv_at hl 0 rfl) ?_
  refine zg_W_week (r := r0) C hK hW (zvd_5 hr0 (by decide)) zk_1275 zd_W_water_3 ?_
  obtain ⟨a1, S2, ea1, hf⟩ := zbd_some hf
  refine zcVi (As := [.int (zI (1)), .int (zI (S 5 r0 0 0))]) (rest := []) C hK hSt hW hS (zc_W_skyOf hap (r0) hr0 1 (S 5 r0 0 0) S (znb rfl) (zWn hW _ _ _ _ rfl) ea1) zq_W_skyOf zk_1911 (zrecv hK hW (zvd_5 hr0 (by decide)) (ze_5_0 B _ (r0)) rfl) ⟨rfl, rfl, by decide, by decide⟩ ⟨Nat.zero_le _, Nat.zero_le _⟩ rfl hl.1 rfl (lv_room (Nat.le_of_ble_eq_true rfl)) zd_W_water_6 (fun na1 H locs hW hS => ?_)
  refine zr_i2l C na1 zd_W_water_9 ?_
  refine lv_lstore_n (lv' := [(1, .long (zL (a1))), (0, .ref (B.2.1 5 (r0) (0)))]) C.1 C.2.1 zd_W_water_10 rfl hl (by decide) rfl (fun ls hl => ?_)
  refine zr_iconst C zd_W_water_11 ?_
  refine lv_istore_n (lv' := [(3, .int (zI (0))), (1, .long (zL (a1))), (0, .ref (B.2.1 5 (r0) (0)))]) C.1 C.2.1 zd_W_water_12 rfl hl (by decide) rfl (fun ls hl => ?_)
  exact zw_W_water_13 C hr hlk hK hSt hap r0 hr0 4096 (a1) (0) S2 (zm_n na1) (znb rfl) hf _ _ _ hW hS (lv_sub hl [2, 1, 0] rfl)

theorem zc_W_water {l : Launch} {B : zB} (hap : zAp B) (r0 : Int) (hr0 : 0 ≤ r0 ∧ r0 < 3) (S : Sg) {res : Int} {S9 : Sg} (hf : zf_W_water r0 S = some (res, S9)) : Met l zy_W_water (Cond.code zy_W_water zb_W_water 5 (none) :: zT) zm_W_water (zP B S [.ref (B.2.1 5 (r0) (0))]) (zQv B S9) 0 0 B.2.2.2 :=
  zmet (by decide) (Nat.le_of_ble_eq_true rfl) (fun p e s m args below meth c C hr hlk hK hSt hW ls hl => zw_W_water C hr hlk hK hSt hap r0 hr0  S  hf _ _ _ hW va_S.rf hl)
/-! IslandOfficeModel$World.workNow()I -/
abbrev zy_W_workNow : MethodName := ⟨"IslandOfficeModel$World", "workNow", "()I"⟩
abbrev zb_W_workNow : ByteArray := prog_15_method_42_code
abbrev zm_W_workNow : Room := { frames := 396, cells := 0, slots := 0, locals := 8583 }
theorem zq_W_workNow : zMy zy_W_workNow zb_W_workNow 4 (some .int) 0 := ⟨zk_1922, zk_1921, zs_80, zk_15, by decide, by decide, by decide +kernel⟩
theorem zd_W_workNow_0 : decode zb_W_workNow 0 = .ok (.aload_n 0, 1) := by decide +kernel
theorem zd_W_workNow_1 : decode zb_W_workNow 1 = .ok (.invokevirtual 327, 3) := by decide +kernel
theorem zd_W_workNow_4 : decode zb_W_workNow 4 = .ok (.istore_n 1, 1) := by decide +kernel
theorem zd_W_workNow_5 : decode zb_W_workNow 5 = .ok (.iconst 0, 1) := by decide +kernel
theorem zd_W_workNow_6 : decode zb_W_workNow 6 = .ok (.istore_n 2, 1) := by decide +kernel
theorem zd_W_workNow_7 : decode zb_W_workNow 7 = .ok (.iload_n 2, 1) := by decide +kernel
theorem zd_W_workNow_8 : decode zb_W_workNow 8 = .ok (.aload_n 0, 1) := by decide +kernel
theorem zd_W_workNow_9 : decode zb_W_workNow 9 = .ok (.getfield 158, 3) := by decide +kernel
theorem zd_W_workNow_12 : decode zb_W_workNow 12 = .ok (.if_icmp .ge 17, 3) := by decide +kernel
theorem zd_W_workNow_15 : decode zb_W_workNow 15 = .ok (.aload_n 0, 1) := by decide +kernel
theorem zd_W_workNow_16 : decode zb_W_workNow 16 = .ok (.getfield 33, 3) := by decide +kernel
theorem zd_W_workNow_19 : decode zb_W_workNow 19 = .ok (.iload_n 2, 1) := by decide +kernel
theorem zd_W_workNow_20 : decode zb_W_workNow 20 = .ok (.bipush (-2), 2) := by decide +kernel
theorem zd_W_workNow_22 : decode zb_W_workNow 22 = .ok (.iastore, 1) := by decide +kernel
theorem zd_W_workNow_23 : decode zb_W_workNow 23 = .ok (.iinc 2 1, 3) := by decide +kernel
theorem zd_W_workNow_26 : decode zb_W_workNow 26 = .ok (.goto (-19), 3) := by decide +kernel
theorem zd_W_workNow_29 : decode zb_W_workNow 29 = .ok (.iconst 0, 1) := by decide +kernel
theorem zd_W_workNow_30 : decode zb_W_workNow 30 = .ok (.istore_n 2, 1) := by decide +kernel
theorem zd_W_workNow_31 : decode zb_W_workNow 31 = .ok (.iload_n 2, 1) := by decide +kernel
theorem zd_W_workNow_32 : decode zb_W_workNow 32 = .ok (.aload_n 0, 1) := by decide +kernel
theorem zd_W_workNow_33 : decode zb_W_workNow 33 = .ok (.getfield 168, 3) := by decide +kernel
theorem zd_W_workNow_36 : decode zb_W_workNow 36 = .ok (.if_icmp .ge 95, 3) := by decide +kernel
theorem zd_W_workNow_39 : decode zb_W_workNow 39 = .ok (.iconst 0, 1) := by decide +kernel
theorem zd_W_workNow_40 : decode zb_W_workNow 40 = .ok (.istore_n 3, 1) := by decide +kernel
theorem zd_W_workNow_41 : decode zb_W_workNow 41 = .ok (.iload_n 3, 1) := by decide +kernel
theorem zd_W_workNow_42 : decode zb_W_workNow 42 = .ok (.aload_n 0, 1) := by decide +kernel
theorem zd_W_workNow_43 : decode zb_W_workNow 43 = .ok (.getfield 158, 3) := by decide +kernel
theorem zd_W_workNow_46 : decode zb_W_workNow 46 = .ok (.if_icmp .ge 31, 3) := by decide +kernel
theorem zd_W_workNow_49 : decode zb_W_workNow 49 = .ok (.aload_n 0, 1) := by decide +kernel
theorem zd_W_workNow_50 : decode zb_W_workNow 50 = .ok (.getfield 138, 3) := by decide +kernel
theorem zd_W_workNow_53 : decode zb_W_workNow 53 = .ok (.iload_n 2, 1) := by decide +kernel
theorem zd_W_workNow_54 : decode zb_W_workNow 54 = .ok (.laload, 1) := by decide +kernel
theorem zd_W_workNow_55 : decode zb_W_workNow 55 = .ok (.iload_n 3, 1) := by decide +kernel
theorem zd_W_workNow_56 : decode zb_W_workNow 56 = .ok (.lshr, 1) := by decide +kernel
theorem zd_W_workNow_57 : decode zb_W_workNow 57 = .ok (.lconst 1, 1) := by decide +kernel
theorem zd_W_workNow_58 : decode zb_W_workNow 58 = .ok (.land, 1) := by decide +kernel
theorem zd_W_workNow_59 : decode zb_W_workNow 59 = .ok (.lconst 1, 1) := by decide +kernel
theorem zd_W_workNow_60 : decode zb_W_workNow 60 = .ok (.lcmp, 1) := by decide +kernel
theorem zd_W_workNow_61 : decode zb_W_workNow 61 = .ok (.ifCond .ne 10, 3) := by decide +kernel
theorem zd_W_workNow_64 : decode zb_W_workNow 64 = .ok (.aload_n 0, 1) := by decide +kernel
theorem zd_W_workNow_65 : decode zb_W_workNow 65 = .ok (.getfield 33, 3) := by decide +kernel
theorem zd_W_workNow_68 : decode zb_W_workNow 68 = .ok (.iload_n 3, 1) := by decide +kernel
theorem zd_W_workNow_69 : decode zb_W_workNow 69 = .ok (.iload_n 2, 1) := by decide +kernel
theorem zd_W_workNow_70 : decode zb_W_workNow 70 = .ok (.iastore, 1) := by decide +kernel
theorem zd_W_workNow_71 : decode zb_W_workNow 71 = .ok (.iinc 3 1, 3) := by decide +kernel
theorem zd_W_workNow_74 : decode zb_W_workNow 74 = .ok (.goto (-33), 3) := by decide +kernel
theorem zd_W_workNow_77 : decode zb_W_workNow 77 = .ok (.aload_n 0, 1) := by decide +kernel
theorem zd_W_workNow_78 : decode zb_W_workNow 78 = .ok (.getfield 142, 3) := by decide +kernel
theorem zd_W_workNow_81 : decode zb_W_workNow 81 = .ok (.iload_n 2, 1) := by decide +kernel
theorem zd_W_workNow_82 : decode zb_W_workNow 82 = .ok (.baload, 1) := by decide +kernel
theorem zd_W_workNow_83 : decode zb_W_workNow 83 = .ok (.ifCond .eq 42, 3) := by decide +kernel
theorem zd_W_workNow_86 : decode zb_W_workNow 86 = .ok (.aload_n 0, 1) := by decide +kernel
theorem zd_W_workNow_87 : decode zb_W_workNow 87 = .ok (.getfield 87, 3) := by decide +kernel
theorem zd_W_workNow_90 : decode zb_W_workNow 90 = .ok (.iload_n 2, 1) := by decide +kernel
theorem zd_W_workNow_91 : decode zb_W_workNow 91 = .ok (.iaload, 1) := by decide +kernel
theorem zd_W_workNow_92 : decode zb_W_workNow 92 = .ok (.iconst 3, 1) := by decide +kernel
theorem zd_W_workNow_93 : decode zb_W_workNow 93 = .ok (.if_icmp .ne 32, 3) := by decide +kernel
theorem zd_W_workNow_96 : decode zb_W_workNow 96 = .ok (.aload_n 0, 1) := by decide +kernel
theorem zd_W_workNow_97 : decode zb_W_workNow 97 = .ok (.iconst 0, 1) := by decide +kernel
theorem zd_W_workNow_98 : decode zb_W_workNow 98 = .ok (.aload_n 0, 1) := by decide +kernel
theorem zd_W_workNow_99 : decode zb_W_workNow 99 = .ok (.getfield 155, 3) := by decide +kernel
theorem zd_W_workNow_102 : decode zb_W_workNow 102 = .ok (.invokevirtual 317, 3) := by decide +kernel
theorem zd_W_workNow_105 : decode zb_W_workNow 105 = .ok (.aload_n 0, 1) := by decide +kernel
theorem zd_W_workNow_106 : decode zb_W_workNow 106 = .ok (.getfield 108, 3) := by decide +kernel
theorem zd_W_workNow_109 : decode zb_W_workNow 109 = .ok (.iconst 1, 1) := by decide +kernel
theorem zd_W_workNow_110 : decode zb_W_workNow 110 = .ok (.iaload, 1) := by decide +kernel
theorem zd_W_workNow_111 : decode zb_W_workNow 111 = .ok (.if_icmp .gt 14, 3) := by decide +kernel
theorem zd_W_workNow_114 : decode zb_W_workNow 114 = .ok (.aload_n 0, 1) := by decide +kernel
theorem zd_W_workNow_115 : decode zb_W_workNow 115 = .ok (.iconst 0, 1) := by decide +kernel
theorem zd_W_workNow_116 : decode zb_W_workNow 116 = .ok (.aload_n 0, 1) := by decide +kernel
theorem zd_W_workNow_117 : decode zb_W_workNow 117 = .ok (.getfield 108, 3) := by decide +kernel
theorem zd_W_workNow_120 : decode zb_W_workNow 120 = .ok (.iconst 2, 1) := by decide +kernel
theorem zd_W_workNow_121 : decode zb_W_workNow 121 = .ok (.iaload, 1) := by decide +kernel
theorem zd_W_workNow_122 : decode zb_W_workNow 122 = .ok (.invokevirtual 330, 3) := by decide +kernel
theorem zd_W_workNow_125 : decode zb_W_workNow 125 = .ok (.iinc 2 1, 3) := by decide +kernel
theorem zd_W_workNow_128 : decode zb_W_workNow 128 = .ok (.goto (-97), 3) := by decide +kernel
theorem zd_W_workNow_131 : decode zb_W_workNow 131 = .ok (.iload_n 1, 1) := by decide +kernel
theorem zd_W_workNow_132 : decode zb_W_workNow 132 = .ok (.ireturn, 1) := by decide +kernel

def zf_W_workNow_125 (r0 : Int) (q31 : Int → Int → Sg → Option (Int × Sg)) (x1 : Int) (x2 : Int) (S : Sg) : Option (Int × Sg) :=
    zlt (zw (x2 + 1)) fun v1 => q31 (x1) (v1) S
set_option maxHeartbeats 4000000 in
set_option maxRecDepth 100000 in
theorem zw_W_workNow_125 {p : Program} {l : Launch} {e : Env} {s : State} {m : MethodId} {args : Array Value} {below : List Frame} {meth : Method} {c : Code} {B : zB} (C : CallFix p m c zb_W_workNow 4 s args zT "IslandOfficeModel$World") (hr : meth.sig.returnType = some .int) (hlk : meth.locks = false) (hK : zK B s) (hSt : zSt B s) (hap : zAp B) (r0 : Int) (hr0 : 0 ≤ r0 ∧ r0 < 3) {res : Int} {S9 : Sg} (q31 : Int → Int → Sg → Option (Int × Sg)) (hq31 : ∀ (x1 : Int) (x2 : Int) (S : Sg) (nx1 : zn x1) (nx2 : zn x2), q31 x1 x2 S = some (res, S9) → ∀ (H : Heap) (locs : List Loc) (ls : Array Slot), zW B S H → va_S B.2.2.2 s.heap H locs → lv_has ls 4 [(0, .ref (B.2.1 5 (r0) (0))), (1, .int (zI (x1))), (2, .int (zI (x2)))] → W p l e zm_W_workNow s m args below meth c H locs 0 0 (MQ below (zQi B res S9) args s 0 0 B.2.2.2) (F0 m 31 ls [])) : ∀ (x1 : Int) (x2 : Int) (S : Sg) (nx1 : zn x1) (nx2 : zn x2), zf_W_workNow_125 r0 q31 x1 x2 S = some (res, S9) → ∀ (H : Heap) (locs : List Loc) (ls : Array Slot), zW B S H → va_S B.2.2.2 s.heap H locs → lv_has ls 4 [(0, .ref (B.2.1 5 (r0) (0))), (1, .int (zI (x1))), (2, .int (zI (x2)))] → W p l e zm_W_workNow s m args below meth c H locs 0 0 (MQ below (zQi B res S9) args s 0 0 B.2.2.2) (F0 m 125 ls []) := by
  intro x1 x2 S nx1 nx2 hf H locs ls hW hS hl
  unfold zf_W_workNow_125 at hf
  obtain ⟨v1, ev1, hf⟩ := zlt_some hf
  have nv1 : zn v1 := by rw [← ev1]; exact zn_w _
  refine lv_iinc (v := zI v1) (lv' := [(2, .int (zI (v1))), (0, .ref (B.2.1 5 (r0) (0))), (1, .int (zI (x1)))]) C.1 C.2.1 zd_W_workNow_125 hl (k := 2) rfl (by rw [← ev1, ← zI_add]; rfl) (by decide) rfl (fun ls hl => ?_)
  refine lv_goto (tgt := 31) C.1 C.2.1 zd_W_workNow_128 (by decide) ?_
  exact hq31 (x1) (v1) S nx1 nv1 hf _ _ _ hW hS (lv_sub hl [1, 2, 0] rfl)

def zf_W_workNow_71 (r0 : Int) (q31 : Int → Int → Sg → Option (Int × Sg)) (q41 : Int → Int → Int → Sg → Option (Int × Sg)) (x1 : Int) (x2 : Int) (x3 : Int) (S : Sg) : Option (Int × Sg) :=
    zlt (zw (x3 + 1)) fun v1 => q41 (x1) (x2) (v1) S
set_option maxHeartbeats 4000000 in
set_option maxRecDepth 100000 in
theorem zw_W_workNow_71 {p : Program} {l : Launch} {e : Env} {s : State} {m : MethodId} {args : Array Value} {below : List Frame} {meth : Method} {c : Code} {B : zB} (C : CallFix p m c zb_W_workNow 4 s args zT "IslandOfficeModel$World") (hr : meth.sig.returnType = some .int) (hlk : meth.locks = false) (hK : zK B s) (hSt : zSt B s) (hap : zAp B) (r0 : Int) (hr0 : 0 ≤ r0 ∧ r0 < 3) {res : Int} {S9 : Sg} (q31 : Int → Int → Sg → Option (Int × Sg)) (hq31 : ∀ (x1 : Int) (x2 : Int) (S : Sg) (nx1 : zn x1) (nx2 : zn x2), q31 x1 x2 S = some (res, S9) → ∀ (H : Heap) (locs : List Loc) (ls : Array Slot), zW B S H → va_S B.2.2.2 s.heap H locs → lv_has ls 4 [(0, .ref (B.2.1 5 (r0) (0))), (1, .int (zI (x1))), (2, .int (zI (x2)))] → W p l e zm_W_workNow s m args below meth c H locs 0 0 (MQ below (zQi B res S9) args s 0 0 B.2.2.2) (F0 m 31 ls [])) (q41 : Int → Int → Int → Sg → Option (Int × Sg)) (hq41 : ∀ (x1 : Int) (x2 : Int) (x3 : Int) (S : Sg) (nx1 : zn x1) (nx2 : zn x2) (nx3 : zn x3), q41 x1 x2 x3 S = some (res, S9) → ∀ (H : Heap) (locs : List Loc) (ls : Array Slot), zW B S H → va_S B.2.2.2 s.heap H locs → lv_has ls 4 [(0, .ref (B.2.1 5 (r0) (0))), (1, .int (zI (x1))), (2, .int (zI (x2))), (3, .int (zI (x3)))] → W p l e zm_W_workNow s m args below meth c H locs 0 0 (MQ below (zQi B res S9) args s 0 0 B.2.2.2) (F0 m 41 ls [])) : ∀ (x1 : Int) (x2 : Int) (x3 : Int) (S : Sg) (nx1 : zn x1) (nx2 : zn x2) (nx3 : zn x3), zf_W_workNow_71 r0 q31 q41 x1 x2 x3 S = some (res, S9) → ∀ (H : Heap) (locs : List Loc) (ls : Array Slot), zW B S H → va_S B.2.2.2 s.heap H locs → lv_has ls 4 [(0, .ref (B.2.1 5 (r0) (0))), (1, .int (zI (x1))), (2, .int (zI (x2))), (3, .int (zI (x3)))] → W p l e zm_W_workNow s m args below meth c H locs 0 0 (MQ below (zQi B res S9) args s 0 0 B.2.2.2) (F0 m 71 ls []) := by
  intro x1 x2 x3 S nx1 nx2 nx3 hf H locs ls hW hS hl
  unfold zf_W_workNow_71 at hf
  obtain ⟨v1, ev1, hf⟩ := zlt_some hf
  have nv1 : zn v1 := by rw [← ev1]; exact zn_w _
  refine lv_iinc (v := zI v1) (lv' := [(3, .int (zI (v1))), (0, .ref (B.2.1 5 (r0) (0))), (1, .int (zI (x1))), (2, .int (zI (x2)))]) C.1 C.2.1 zd_W_workNow_71 hl (k := 3) rfl (by rw [← ev1, ← zI_add]; rfl) (by decide) rfl (fun ls hl => ?_)
  refine lv_goto (tgt := 41) C.1 C.2.1 zd_W_workNow_74 (by decide) ?_
  exact hq41 (x1) (x2) (v1) S nx1 nx2 nv1 hf _ _ _ hW hS (lv_sub hl [1, 2, 3, 0] rfl)

def zf_W_workNow_41 (r0 : Int) (q31 : Int → Int → Sg → Option (Int × Sg)) : Nat → Int → Int → Int → Sg → Option (Int × Sg)
  | 0, _, _, _, _ => none
  | n + 1, x1, x2, x3, S =>
    if (S 5 r0 0 1) ≤ x3 then (zck (0 ≤ x2 ∧ x2 < 8) <| if (S 5 r0 37 x2) = 0 then (zf_W_workNow_125 r0 q31 (x1) (x2) S) else (if (S 5 r0 23 x2) = 3 then (zbd (zf_W_skyOf (r0) 0 (S 5 r0 0 0) S) fun a5 S6 => if (S6 5 r0 30 1) < a5 then (zf_W_workNow_125 r0 q31 (x1) (x2) S6) else (zbd (zf_W_stored (r0) 0 (S6 5 r0 30 2) S6) fun a8 S9 => zf_W_workNow_125 r0 q31 (x1) (x2) S9)) else (zf_W_workNow_125 r0 q31 (x1) (x2) S))) else (zck (0 ≤ x2 ∧ x2 < 8) <| if (zcmp (zlnd (zlsr (S 21 r0 0 x2) x3) 1) 1) = 0 then (zck (0 ≤ x3 ∧ x3 < 40) <| zlt (zu S 5 r0 8 x3 x2) fun S13 => zf_W_workNow_71 r0 q31 (zf_W_workNow_41 r0 q31 n) (x1) (x2) (x3) S13) else (zf_W_workNow_71 r0 q31 (zf_W_workNow_41 r0 q31 n) (x1) (x2) (x3) S))
set_option maxHeartbeats 4000000 in
set_option maxRecDepth 100000 in
theorem zw_W_workNow_41 {p : Program} {l : Launch} {e : Env} {s : State} {m : MethodId} {args : Array Value} {below : List Frame} {meth : Method} {c : Code} {B : zB} (C : CallFix p m c zb_W_workNow 4 s args zT "IslandOfficeModel$World") (hr : meth.sig.returnType = some .int) (hlk : meth.locks = false) (hK : zK B s) (hSt : zSt B s) (hap : zAp B) (r0 : Int) (hr0 : 0 ≤ r0 ∧ r0 < 3) {res : Int} {S9 : Sg} (q31 : Int → Int → Sg → Option (Int × Sg)) (hq31 : ∀ (x1 : Int) (x2 : Int) (S : Sg) (nx1 : zn x1) (nx2 : zn x2), q31 x1 x2 S = some (res, S9) → ∀ (H : Heap) (locs : List Loc) (ls : Array Slot), zW B S H → va_S B.2.2.2 s.heap H locs → lv_has ls 4 [(0, .ref (B.2.1 5 (r0) (0))), (1, .int (zI (x1))), (2, .int (zI (x2)))] → W p l e zm_W_workNow s m args below meth c H locs 0 0 (MQ below (zQi B res S9) args s 0 0 B.2.2.2) (F0 m 31 ls [])) : ∀ n : Nat, ∀ (x1 : Int) (x2 : Int) (x3 : Int) (S : Sg) (nx1 : zn x1) (nx2 : zn x2) (nx3 : zn x3), zf_W_workNow_41 r0 q31 n x1 x2 x3 S = some (res, S9) → ∀ (H : Heap) (locs : List Loc) (ls : Array Slot), zW B S H → va_S B.2.2.2 s.heap H locs → lv_has ls 4 [(0, .ref (B.2.1 5 (r0) (0))), (1, .int (zI (x1))), (2, .int (zI (x2))), (3, .int (zI (x3)))] → W p l e zm_W_workNow s m args below meth c H locs 0 0 (MQ below (zQi B res S9) args s 0 0 B.2.2.2) (F0 m 41 ls []) := by
  intro n
  induction n with
  | zero =>
    intro x1 x2 x3 S nx1 nx2 nx3 hf H locs ls hW hS hl
    cases hf
  | succ n ih =>
    intro x1 x2 x3 S nx1 nx2 nx3 hf H locs ls hW hS hl
    rw [zf_W_workNow_41] at hf
    refine lv_iload_n C.1 C.2.1 zd_W_workNow_41 rfl (lv_at hl 3 rfl) ?_
    refine lv_aload_n C.1 C.2.1 zd_W_workNow_42 rfl (lv_at hl 0 rfl) ?_
    refine zg_W_people (r := r0) C hK hW (zvd_5 hr0 (by decide)) zk_1277 zd_W_workNow_43 ?_
    refine zr_icmp_ge (tgt := 77) C nx3 (zWn hW _ _ _ _ rfl) zd_W_workNow_46 (by decide) (fun c1 => ?_) (fun c1 => ?_)
    · rw [if_pos c1] at hf
      refine lv_aload_n C.1 C.2.1 zd_W_workNow_77 rfl (lv_at hl 0 rfl) ?_
      refine zg_W_isFilled (r := r0) C hK hW (zvd_5 hr0 (by decide)) zk_1377 zd_W_workNow_78 ?_
      refine lv_iload_n C.1 C.2.1 zd_W_workNow_81 rfl (lv_at hl 2 rfl) ?_
      obtain ⟨h2, hf⟩ := zck_some hf
      refine zzald C hK hW (zvd_5 hr0 (by decide)) (fun f => ze_5_37 B f (r0)) (by decide) h2 zd_W_workNow_82 ?_
      refine zr_if_eq (tgt := 125) C (zWn hW _ _ _ _ rfl) zd_W_workNow_83 (by decide) (fun c3 => ?_) (fun c3 => ?_)
      · rw [if_pos c3] at hf
        exact zw_W_workNow_125 C hr hlk hK hSt hap r0 hr0 q31 hq31 (x1) (x2) S nx1 nx2 hf _ _ _ hW hS (lv_sub hl [0, 1, 2] rfl)
      · rw [if_neg c3] at hf
        refine lv_aload_n C.1 C.2.1 zd_W_workNow_86 rfl (lv_at hl 0 rfl) ?_
        refine zg_W_postSort (r := r0) C hK hW (zvd_5 hr0 (by decide)) zk_1331 zd_W_workNow_87 ?_
        refine lv_iload_n C.1 C.2.1 zd_W_workNow_90 rfl (lv_at hl 2 rfl) ?_
        refine ziald C hK hW (zvd_5 hr0 (by decide)) (fun f => ze_5_23 B f (r0)) (by decide) h2 zd_W_workNow_91 ?_
        refine zr_iconst C zd_W_workNow_92 ?_
        refine zr_icmp_ne (tgt := 125) C (zWn hW _ _ _ _ rfl) (znb rfl) zd_W_workNow_93 (by decide) (fun c4 => ?_) (fun c4 => ?_)
        · rw [if_neg c4] at hf
          exact zw_W_workNow_125 C hr hlk hK hSt hap r0 hr0 q31 hq31 (x1) (x2) S nx1 nx2 hf _ _ _ hW hS (lv_sub hl [0, 1, 2] rfl)
        · rw [if_pos c4] at hf
          refine lv_aload_n C.1 C.2.1 zd_W_workNow_96 rfl (lv_at hl 0 rfl) ?_
          refine zr_iconst C zd_W_workNow_97 ?_
          refine lv_aload_n C.1 C.2.1 zd_W_workNow_98 rfl (lv_at hl 0 rfl) ?_
          refine zg_W_week (r := r0) C hK hW (zvd_5 hr0 (by decide)) zk_1275 zd_W_workNow_99 ?_
          obtain ⟨a5, S6, ea5, hf⟩ := zbd_some hf
          refine zcVi (As := [.int (zI (0)), .int (zI (S 5 r0 0 0))]) (rest := []) C hK hSt hW hS (zc_W_skyOf hap (r0) hr0 0 (S 5 r0 0 0) S (znb rfl) (zWn hW _ _ _ _ rfl) ea5) zq_W_skyOf zk_1911 (zrecv hK hW (zvd_5 hr0 (by decide)) (ze_5_0 B _ (r0)) rfl) ⟨rfl, rfl, by decide, by decide⟩ ⟨Nat.zero_le _, Nat.zero_le _⟩ rfl hl.1 rfl (lv_room (Nat.le_of_ble_eq_true rfl)) zd_W_workNow_102 (fun na5 H locs hW hS => ?_)
          refine lv_aload_n C.1 C.2.1 zd_W_workNow_105 rfl (lv_at hl 0 rfl) ?_
          refine zg_W_set (r := r0) C hK hW (zvd_5 hr0 (by decide)) zk_1347 zd_W_workNow_106 ?_
          refine zr_iconst C zd_W_workNow_109 ?_
          refine ziald C hK hW (zvd_5 hr0 (by decide)) (fun f => ze_5_30 B f (r0)) (by decide) (by decide) zd_W_workNow_110 ?_
          refine zr_icmp_gt (tgt := 125) C na5 (zWn hW _ _ _ _ rfl) zd_W_workNow_111 (by decide) (fun c7 => ?_) (fun c7 => ?_)
          · rw [if_pos c7] at hf
            exact zw_W_workNow_125 C hr hlk hK hSt hap r0 hr0 q31 hq31 (x1) (x2) S6 nx1 nx2 hf _ _ _ hW hS (lv_sub hl [0, 1, 2] rfl)
          · rw [if_neg c7] at hf
            refine lv_aload_n C.1 C.2.1 zd_W_workNow_114 rfl (lv_at hl 0 rfl) ?_
            refine zr_iconst C zd_W_workNow_115 ?_
            refine lv_aload_n C.1 C.2.1 zd_W_workNow_116 rfl (lv_at hl 0 rfl) ?_
            refine zg_W_set (r := r0) C hK hW (zvd_5 hr0 (by decide)) zk_1347 zd_W_workNow_117 ?_
            refine zr_iconst C zd_W_workNow_120 ?_
            refine ziald C hK hW (zvd_5 hr0 (by decide)) (fun f => ze_5_30 B f (r0)) (by decide) (by decide) zd_W_workNow_121 ?_
            obtain ⟨a8, S9, ea8, hf⟩ := zbd_some hf
            refine zcVv (As := [.int (zI (0)), .int (zI (S6 5 r0 30 2))]) (rest := []) C hK hSt hW hS (zc_W_stored hap (r0) hr0 0 (S6 5 r0 30 2) S6 (znb rfl) (zWn hW _ _ _ _ rfl) ea8) zq_W_stored zk_1924 (zrecv hK hW (zvd_5 hr0 (by decide)) (ze_5_0 B _ (r0)) rfl) ⟨rfl, rfl, by decide, by decide⟩ ⟨Nat.zero_le _, Nat.zero_le _⟩ rfl hl.1 rfl (lv_room (Nat.le_of_ble_eq_true rfl)) zd_W_workNow_122 (fun H locs hW hS => ?_)
            exact zw_W_workNow_125 C hr hlk hK hSt hap r0 hr0 q31 hq31 (x1) (x2) S9 nx1 nx2 hf _ _ _ hW hS (lv_sub hl [0, 1, 2] rfl)
    · rw [if_neg c1] at hf
      refine lv_aload_n C.1 C.2.1 zd_W_workNow_49 rfl (lv_at hl 0 rfl) ?_
      refine zg_W_crew (r := r0) C hK hW (zvd_5 hr0 (by decide)) zk_1375 zd_W_workNow_50 ?_
      refine lv_iload_n C.1 C.2.1 zd_W_workNow_53 rfl (lv_at hl 2 rfl) ?_
      obtain ⟨h10, hf⟩ := zck_some hf
      refine zlald C hK hW (zvd_21 hr0 (by decide)) (fun f => ze_21_0 B f (r0)) (by decide) h10 zd_W_workNow_54 ?_
      refine lv_iload_n C.1 C.2.1 zd_W_workNow_55 rfl (lv_at hl 3 rfl) ?_
      refine zr_lshr C zd_W_workNow_56 ?_
      refine zr_lconst (k := 1) C zd_W_workNow_57 rfl ?_
      refine zr_land C zd_W_workNow_58 ?_
      refine zr_lconst (k := 1) C zd_W_workNow_59 rfl ?_
      refine zr_lcmp C (zm_lnd _ _) (zmb rfl) zd_W_workNow_60 ?_
      refine zr_if_ne (tgt := 71) C (zn_cmp _ _) zd_W_workNow_61 (by decide) (fun c11 => ?_) (fun c11 => ?_)
      · rw [if_neg c11] at hf
        exact zw_W_workNow_71 C hr hlk hK hSt hap r0 hr0 q31 hq31 (zf_W_workNow_41 r0 q31 n) (ih) (x1) (x2) (x3) S nx1 nx2 nx3 hf _ _ _ hW hS (lv_sub hl [0, 1, 2, 3] rfl)
      · rw [if_pos c11] at hf
        refine lv_aload_n C.1 C.2.1 zd_W_workNow_64 rfl (lv_at hl 0 rfl) ?_
        refine zg_W_post (r := r0) C hK hW (zvd_5 hr0 (by decide)) zk_1293 zd_W_workNow_65 ?_
        refine lv_iload_n C.1 C.2.1 zd_W_workNow_68 rfl (lv_at hl 3 rfl) ?_
        refine lv_iload_n C.1 C.2.1 zd_W_workNow_69 rfl (lv_at hl 2 rfl) ?_
        obtain ⟨h12, hf⟩ := zck_some hf
        obtain ⟨S13, eS13, hf⟩ := zlt_some hf
        refine ziast C hK hap hW hS (zvd_5 hr0 (by decide)) (fun f => ze_5_8 B f (r0)) (by decide) rfl nx2 h12 zd_W_workNow_70 (fun H locs hW hS => ?_)
        rw [eS13] at hW
        exact zw_W_workNow_71 C hr hlk hK hSt hap r0 hr0 q31 hq31 (zf_W_workNow_41 r0 q31 n) (ih) (x1) (x2) (x3) S13 nx1 nx2 nx3 hf _ _ _ hW hS (lv_sub hl [0, 1, 2, 3] rfl)

def zf_W_workNow_31 (r0 : Int) : Nat → Int → Int → Sg → Option (Int × Sg)
  | 0, _, _, _ => none
  | n + 1, x1, x2, S =>
    if (S 5 r0 0 25) ≤ x2 then (some (x1, S)) else (zf_W_workNow_41 r0 (zf_W_workNow_31 r0 n) 4096 (x1) (x2) (0) S)
set_option maxHeartbeats 4000000 in
set_option maxRecDepth 100000 in
theorem zw_W_workNow_31 {p : Program} {l : Launch} {e : Env} {s : State} {m : MethodId} {args : Array Value} {below : List Frame} {meth : Method} {c : Code} {B : zB} (C : CallFix p m c zb_W_workNow 4 s args zT "IslandOfficeModel$World") (hr : meth.sig.returnType = some .int) (hlk : meth.locks = false) (hK : zK B s) (hSt : zSt B s) (hap : zAp B) (r0 : Int) (hr0 : 0 ≤ r0 ∧ r0 < 3) {res : Int} {S9 : Sg} : ∀ n : Nat, ∀ (x1 : Int) (x2 : Int) (S : Sg) (nx1 : zn x1) (nx2 : zn x2), zf_W_workNow_31 r0 n x1 x2 S = some (res, S9) → ∀ (H : Heap) (locs : List Loc) (ls : Array Slot), zW B S H → va_S B.2.2.2 s.heap H locs → lv_has ls 4 [(0, .ref (B.2.1 5 (r0) (0))), (1, .int (zI (x1))), (2, .int (zI (x2)))] → W p l e zm_W_workNow s m args below meth c H locs 0 0 (MQ below (zQi B res S9) args s 0 0 B.2.2.2) (F0 m 31 ls []) := by
  intro n
  induction n with
  | zero =>
    intro x1 x2 S nx1 nx2 hf H locs ls hW hS hl
    cases hf
  | succ n ih =>
    intro x1 x2 S nx1 nx2 hf H locs ls hW hS hl
    rw [zf_W_workNow_31] at hf
    refine lv_iload_n C.1 C.2.1 zd_W_workNow_31 rfl (lv_at hl 2 rfl) ?_
    refine lv_aload_n C.1 C.2.1 zd_W_workNow_32 rfl (lv_at hl 0 rfl) ?_
    refine zg_W_posts (r := r0) C hK hW (zvd_5 hr0 (by decide)) zk_1325 zd_W_workNow_33 ?_
    refine zr_icmp_ge (tgt := 131) C nx2 (zWn hW _ _ _ _ rfl) zd_W_workNow_36 (by decide) (fun c1 => ?_) (fun c1 => ?_)
    · rw [if_pos c1] at hf
      refine lv_iload_n C.1 C.2.1 zd_W_workNow_131 rfl (lv_at hl 1 rfl) ?_
      cases hf
      exact zre_i C hr hlk hK hW hS nx1 zd_W_workNow_132
    · rw [if_neg c1] at hf
      refine zr_iconst C zd_W_workNow_39 ?_
      refine lv_istore_n (lv' := [(3, .int (zI (0))), (0, .ref (B.2.1 5 (r0) (0))), (1, .int (zI (x1))), (2, .int (zI (x2)))]) C.1 C.2.1 zd_W_workNow_40 rfl hl (by decide) rfl (fun ls hl => ?_)
      exact zw_W_workNow_41 C hr hlk hK hSt hap r0 hr0 (zf_W_workNow_31 r0 n) (ih) 4096 (x1) (x2) (0) S nx1 nx2 (znb rfl) hf _ _ _ hW hS (lv_sub hl [1, 2, 3, 0] rfl)

def zf_W_workNow_7 (r0 : Int) : Nat → Int → Int → Sg → Option (Int × Sg)
  | 0, _, _, _ => none
  | n + 1, x1, x2, S =>
    if (S 5 r0 0 1) ≤ x2 then (zf_W_workNow_31 r0 4096 (x1) (0) S) else (zck (0 ≤ x2 ∧ x2 < 40) <| zlt (zu S 5 r0 8 x2 (-2)) fun S3 => zlt (zw (x2 + 1)) fun v4 => (zf_W_workNow_7 r0 n) (x1) (v4) S3)
set_option maxHeartbeats 4000000 in
set_option maxRecDepth 100000 in
theorem zw_W_workNow_7 {p : Program} {l : Launch} {e : Env} {s : State} {m : MethodId} {args : Array Value} {below : List Frame} {meth : Method} {c : Code} {B : zB} (C : CallFix p m c zb_W_workNow 4 s args zT "IslandOfficeModel$World") (hr : meth.sig.returnType = some .int) (hlk : meth.locks = false) (hK : zK B s) (hSt : zSt B s) (hap : zAp B) (r0 : Int) (hr0 : 0 ≤ r0 ∧ r0 < 3) {res : Int} {S9 : Sg} : ∀ n : Nat, ∀ (x1 : Int) (x2 : Int) (S : Sg) (nx1 : zn x1) (nx2 : zn x2), zf_W_workNow_7 r0 n x1 x2 S = some (res, S9) → ∀ (H : Heap) (locs : List Loc) (ls : Array Slot), zW B S H → va_S B.2.2.2 s.heap H locs → lv_has ls 4 [(0, .ref (B.2.1 5 (r0) (0))), (1, .int (zI (x1))), (2, .int (zI (x2)))] → W p l e zm_W_workNow s m args below meth c H locs 0 0 (MQ below (zQi B res S9) args s 0 0 B.2.2.2) (F0 m 7 ls []) := by
  intro n
  induction n with
  | zero =>
    intro x1 x2 S nx1 nx2 hf H locs ls hW hS hl
    cases hf
  | succ n ih =>
    intro x1 x2 S nx1 nx2 hf H locs ls hW hS hl
    rw [zf_W_workNow_7] at hf
    refine lv_iload_n C.1 C.2.1 zd_W_workNow_7 rfl (lv_at hl 2 rfl) ?_
    refine lv_aload_n C.1 C.2.1 zd_W_workNow_8 rfl (lv_at hl 0 rfl) ?_
    refine zg_W_people (r := r0) C hK hW (zvd_5 hr0 (by decide)) zk_1277 zd_W_workNow_9 ?_
    refine zr_icmp_ge (tgt := 29) C nx2 (zWn hW _ _ _ _ rfl) zd_W_workNow_12 (by decide) (fun c1 => ?_) (fun c1 => ?_)
    · rw [if_pos c1] at hf
      refine zr_iconst C zd_W_workNow_29 ?_
      refine lv_istore_n (lv' := [(2, .int (zI (0))), (0, .ref (B.2.1 5 (r0) (0))), (1, .int (zI (x1)))]) C.1 C.2.1 zd_W_workNow_30 rfl hl (by decide) rfl (fun ls hl => ?_)
      exact zw_W_workNow_31 C hr hlk hK hSt hap r0 hr0 4096 (x1) (0) S nx1 (znb rfl) hf _ _ _ hW hS (lv_sub hl [1, 2, 0] rfl)
    · rw [if_neg c1] at hf
      refine lv_aload_n C.1 C.2.1 zd_W_workNow_15 rfl (lv_at hl 0 rfl) ?_
      refine zg_W_post (r := r0) C hK hW (zvd_5 hr0 (by decide)) zk_1293 zd_W_workNow_16 ?_
      refine lv_iload_n C.1 C.2.1 zd_W_workNow_19 rfl (lv_at hl 2 rfl) ?_
      refine zr_bipush C zd_W_workNow_20 (by decide) ?_
      obtain ⟨h2, hf⟩ := zck_some hf
      obtain ⟨S3, eS3, hf⟩ := zlt_some hf
      refine ziast C hK hap hW hS (zvd_5 hr0 (by decide)) (fun f => ze_5_8 B f (r0)) (by decide) rfl (znb rfl) h2 zd_W_workNow_22 (fun H locs hW hS => ?_)
      rw [eS3] at hW
      obtain ⟨v4, ev4, hf⟩ := zlt_some hf
      have nv4 : zn v4 := by rw [← ev4]; exact zn_w _
      refine lv_iinc (v := zI v4) (lv' := [(2, .int (zI (v4))), (0, .ref (B.2.1 5 (r0) (0))), (1, .int (zI (x1)))]) C.1 C.2.1 zd_W_workNow_23 hl (k := 2) rfl (by rw [← ev4, ← zI_add]; rfl) (by decide) rfl (fun ls hl => ?_)
      refine lv_goto (tgt := 7) C.1 C.2.1 zd_W_workNow_26 (by decide) ?_
      exact ih (x1) (v4) S3 nx1 nv4 hf _ _ _ hW hS (lv_sub hl [1, 2, 0] rfl)

def zf_W_workNow (r0 : Int) (S : Sg) : Option (Int × Sg) :=
    zbd (zf_W_fill (r0) S) fun a1 S2 => zf_W_workNow_7 r0 4096 (a1) (0) S2
set_option maxHeartbeats 4000000 in
set_option maxRecDepth 100000 in
theorem zw_W_workNow {p : Program} {l : Launch} {e : Env} {s : State} {m : MethodId} {args : Array Value} {below : List Frame} {meth : Method} {c : Code} {B : zB} (C : CallFix p m c zb_W_workNow 4 s args zT "IslandOfficeModel$World") (hr : meth.sig.returnType = some .int) (hlk : meth.locks = false) (hK : zK B s) (hSt : zSt B s) (hap : zAp B) (r0 : Int) (hr0 : 0 ≤ r0 ∧ r0 < 3) {res : Int} {S9 : Sg} : ∀  (S : Sg) , zf_W_workNow r0  S = some (res, S9) → ∀ (H : Heap) (locs : List Loc) (ls : Array Slot), zW B S H → va_S B.2.2.2 s.heap H locs → lv_has ls 4 [(0, .ref (B.2.1 5 (r0) (0)))] → W p l e zm_W_workNow s m args below meth c H locs 0 0 (MQ below (zQi B res S9) args s 0 0 B.2.2.2) (F0 m 0 ls []) := by
  intro S hf H locs ls hW hS hl
  unfold zf_W_workNow at hf
  refine lv_aload_n C.1 C.2.1 zd_W_workNow_0 rfl (lv_at hl 0 rfl) ?_
  obtain ⟨a1, S2, ea1, hf⟩ := zbd_some hf
  refine zcVi (As := []) (rest := []) C hK hSt hW hS (zc_W_fill hap (r0) hr0 S ea1) zq_W_fill zk_1923 (zrecv hK hW (zvd_5 hr0 (by decide)) (ze_5_0 B _ (r0)) rfl) ⟨rfl, rfl, by decide, by decide⟩ ⟨Nat.zero_le _, Nat.zero_le _⟩ rfl hl.1 rfl (lv_room (Nat.le_of_ble_eq_true rfl)) zd_W_workNow_1 (fun na1 H locs hW hS => ?_)
  refine lv_istore_n (lv' := [(1, .int (zI (a1))), (0, .ref (B.2.1 5 (r0) (0)))]) C.1 C.2.1 zd_W_workNow_4 rfl hl (by decide) rfl (fun ls hl => ?_)
  refine zr_iconst C zd_W_workNow_5 ?_
  refine lv_istore_n (lv' := [(2, .int (zI (0))), (1, .int (zI (a1))), (0, .ref (B.2.1 5 (r0) (0)))]) C.1 C.2.1 zd_W_workNow_6 rfl hl (by decide) rfl (fun ls hl => ?_)
  exact zw_W_workNow_7 C hr hlk hK hSt hap r0 hr0 4096 (a1) (0) S2 na1 (znb rfl) hf _ _ _ hW hS (lv_sub hl [2, 1, 0] rfl)

theorem zc_W_workNow {l : Launch} {B : zB} (hap : zAp B) (r0 : Int) (hr0 : 0 ≤ r0 ∧ r0 < 3) (S : Sg) {res : Int} {S9 : Sg} (hf : zf_W_workNow r0 S = some (res, S9)) : Met l zy_W_workNow (Cond.code zy_W_workNow zb_W_workNow 4 (some .int) :: zT) zm_W_workNow (zP B S [.ref (B.2.1 5 (r0) (0))]) (zQi B res S9) 0 0 B.2.2.2 :=
  zmet (by decide) (Nat.le_of_ble_eq_true rfl) (fun p e s m args below meth c C hr hlk hK hSt hW ls hl => zw_W_workNow C hr hlk hK hSt hap r0 hr0  S  hf _ _ _ hW va_S.rf hl)
