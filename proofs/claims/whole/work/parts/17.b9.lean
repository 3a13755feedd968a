theorem d_904_0 : decode (mB 904) 0 = .ok (.iload_n 1, 1) := by decide +kernel
theorem d_904_1 : decode (mB 904) 1 = .ok (.i2l, 1) := by decide +kernel
theorem d_904_2 : decode (mB 904) 2 = .ok (.lconst 0, 1) := by decide +kernel
theorem d_904_3 : decode (mB 904) 3 = .ok (.ldc2_w 81, 3) := by decide +kernel
theorem d_904_6 : decode (mB 904) 6 = .ok (.invokestatic 83, 3) := by decide +kernel
theorem d_904_9 : decode (mB 904) 9 = .ok (.ifCond .ne 6, 3) := by decide +kernel
theorem d_904_12 : decode (mB 904) 12 = .ok (.ldc 87, 2) := by decide +kernel
theorem d_904_14 : decode (mB 904) 14 = .ok (.ireturn, 1) := by decide +kernel
theorem d_904_15 : decode (mB 904) 15 = .ok (.aload_n 0, 1) := by decide +kernel
theorem d_904_16 : decode (mB 904) 16 = .ok (.getfield 88, 3) := by decide +kernel
theorem d_904_19 : decode (mB 904) 19 = .ok (.sipush 300, 3) := by decide +kernel
theorem d_904_22 : decode (mB 904) 22 = .ok (.if_icmp .ne 6, 3) := by decide +kernel
theorem d_904_25 : decode (mB 904) 25 = .ok (.ldc 91, 2) := by decide +kernel
theorem d_904_27 : decode (mB 904) 27 = .ok (.ireturn, 1) := by decide +kernel
theorem d_904_28 : decode (mB 904) 28 = .ok (.aload_n 0, 1) := by decide +kernel
theorem d_904_29 : decode (mB 904) 29 = .ok (.getfield 44, 3) := by decide +kernel
theorem d_904_32 : decode (mB 904) 32 = .ok (.aload_n 0, 1) := by decide +kernel
theorem d_904_33 : decode (mB 904) 33 = .ok (.getfield 88, 3) := by decide +kernel
theorem d_904_36 : decode (mB 904) 36 = .ok (.iload_n 1, 1) := by decide +kernel
theorem d_904_37 : decode (mB 904) 37 = .ok (.iastore, 1) := by decide +kernel
theorem d_904_38 : decode (mB 904) 38 = .ok (.aload_n 0, 1) := by decide +kernel
theorem d_904_39 : decode (mB 904) 39 = .ok (.dup, 1) := by decide +kernel
theorem d_904_40 : decode (mB 904) 40 = .ok (.getfield 88, 3) := by decide +kernel
theorem d_904_43 : decode (mB 904) 43 = .ok (.iconst 1, 1) := by decide +kernel
theorem d_904_44 : decode (mB 904) 44 = .ok (.iadd, 1) := by decide +kernel
theorem d_904_45 : decode (mB 904) 45 = .ok (.putfield 88, 3) := by decide +kernel
theorem d_904_48 : decode (mB 904) 48 = .ok (.aload_n 0, 1) := by decide +kernel
theorem d_904_49 : decode (mB 904) 49 = .ok (.getfield 88, 3) := by decide +kernel
theorem d_904_52 : decode (mB 904) 52 = .ok (.ireturn, 1) := by decide +kernel
theorem d_919_0 : decode (mB 919) 0 = .ok (.aload_n 0, 1) := by decide +kernel
theorem d_919_1 : decode (mB 919) 1 = .ok (.iconst 0, 1) := by decide +kernel
theorem d_919_2 : decode (mB 919) 2 = .ok (.putfield 92, 3) := by decide +kernel
theorem d_919_5 : decode (mB 919) 5 = .ok (.aload_n 0, 1) := by decide +kernel
theorem d_919_6 : decode (mB 919) 6 = .ok (.iconst 0, 1) := by decide +kernel
theorem d_919_7 : decode (mB 919) 7 = .ok (.putfield 95, 3) := by decide +kernel
theorem d_919_10 : decode (mB 919) 10 = .ok (.aload_n 0, 1) := by decide +kernel
theorem d_919_11 : decode (mB 919) 11 = .ok (.iconst (-1), 1) := by decide +kernel
theorem d_919_12 : decode (mB 919) 12 = .ok (.putfield 47, 3) := by decide +kernel
theorem d_919_15 : decode (mB 919) 15 = .ok (.aload_n 0, 1) := by decide +kernel
theorem d_919_16 : decode (mB 919) 16 = .ok (.iconst 0, 1) := by decide +kernel
theorem d_919_17 : decode (mB 919) 17 = .ok (.putfield 141, 3) := by decide +kernel
theorem d_919_20 : decode (mB 919) 20 = .ok (.aload_n 0, 1) := by decide +kernel
theorem d_919_21 : decode (mB 919) 21 = .ok (.iconst 0, 1) := by decide +kernel
theorem d_919_22 : decode (mB 919) 22 = .ok (.putfield 135, 3) := by decide +kernel
theorem d_919_25 : decode (mB 919) 25 = .ok (.aload_n 0, 1) := by decide +kernel
theorem d_919_26 : decode (mB 919) 26 = .ok (.iconst 0, 1) := by decide +kernel
theorem d_919_27 : decode (mB 919) 27 = .ok (.putfield 144, 3) := by decide +kernel
theorem d_919_30 : decode (mB 919) 30 = .ok (.aload_n 0, 1) := by decide +kernel
theorem d_919_31 : decode (mB 919) 31 = .ok (.iconst 0, 1) := by decide +kernel
theorem d_919_32 : decode (mB 919) 32 = .ok (.putfield 138, 3) := by decide +kernel
theorem d_919_35 : decode (mB 919) 35 = .ok (.aload_n 0, 1) := by decide +kernel
theorem d_919_36 : decode (mB 919) 36 = .ok (.bipush 12, 2) := by decide +kernel
theorem d_919_38 : decode (mB 919) 38 = .ok (.putfield 132, 3) := by decide +kernel
theorem d_919_41 : decode (mB 919) 41 = .ok (.aload_n 0, 1) := by decide +kernel
theorem d_919_42 : decode (mB 919) 42 = .ok (.iconst 0, 1) := by decide +kernel
theorem d_919_43 : decode (mB 919) 43 = .ok (.putfield 121, 3) := by decide +kernel
theorem d_919_46 : decode (mB 919) 46 = .ok (.aload_n 0, 1) := by decide +kernel
theorem d_919_47 : decode (mB 919) 47 = .ok (.iconst 0, 1) := by decide +kernel
theorem d_919_48 : decode (mB 919) 48 = .ok (.putfield 149, 3) := by decide +kernel
theorem d_919_51 : decode (mB 919) 51 = .ok (.aload_n 0, 1) := by decide +kernel
theorem d_919_52 : decode (mB 919) 52 = .ok (.getfield 17, 3) := by decide +kernel
theorem d_919_55 : decode (mB 919) 55 = .ok (.iconst 3, 1) := by decide +kernel
theorem d_919_56 : decode (mB 919) 56 = .ok (.bipush 30, 2) := by decide +kernel
theorem d_919_58 : decode (mB 919) 58 = .ok (.iastore, 1) := by decide +kernel
theorem d_919_59 : decode (mB 919) 59 = .ok (.aload_n 0, 1) := by decide +kernel
theorem d_919_60 : decode (mB 919) 60 = .ok (.getfield 17, 3) := by decide +kernel
theorem d_919_63 : decode (mB 919) 63 = .ok (.iconst 4, 1) := by decide +kernel
theorem d_919_64 : decode (mB 919) 64 = .ok (.iconst 1, 1) := by decide +kernel
theorem d_919_65 : decode (mB 919) 65 = .ok (.iastore, 1) := by decide +kernel
theorem d_919_66 : decode (mB 919) 66 = .ok (.aload_n 0, 1) := by decide +kernel
theorem d_919_67 : decode (mB 919) 67 = .ok (.getfield 17, 3) := by decide +kernel
theorem d_919_70 : decode (mB 919) 70 = .ok (.iconst 5, 1) := by decide +kernel
theorem d_919_71 : decode (mB 919) 71 = .ok (.iconst 0, 1) := by decide +kernel
theorem d_919_72 : decode (mB 919) 72 = .ok (.iastore, 1) := by decide +kernel
theorem d_919_73 : decode (mB 919) 73 = .ok (.aload_n 0, 1) := by decide +kernel
theorem d_919_74 : decode (mB 919) 74 = .ok (.getfield 95, 3) := by decide +kernel
theorem d_919_77 : decode (mB 919) 77 = .ok (.ifCond .ne 60, 3) := by decide +kernel
theorem d_919_80 : decode (mB 919) 80 = .ok (.aload_n 0, 1) := by decide +kernel
theorem d_919_81 : decode (mB 919) 81 = .ok (.invokevirtual 98, 3) := by decide +kernel
theorem d_919_84 : decode (mB 919) 84 = .ok (.ifCond .lt 53, 3) := by decide +kernel
theorem d_919_87 : decode (mB 919) 87 = .ok (.aload_n 0, 1) := by decide +kernel
theorem d_919_88 : decode (mB 919) 88 = .ok (.invokevirtual 185, 3) := by decide +kernel
theorem d_919_91 : decode (mB 919) 91 = .ok (.aload_n 0, 1) := by decide +kernel
theorem d_919_92 : decode (mB 919) 92 = .ok (.getfield 95, 3) := by decide +kernel
theorem d_919_95 : decode (mB 919) 95 = .ok (.ifCond .ne (-22), 3) := by decide +kernel
theorem d_919_98 : decode (mB 919) 98 = .ok (.aload_n 0, 1) := by decide +kernel
theorem d_919_99 : decode (mB 919) 99 = .ok (.aload_n 0, 1) := by decide +kernel
theorem d_919_100 : decode (mB 919) 100 = .ok (.invokevirtual 98, 3) := by decide +kernel
theorem d_919_103 : decode (mB 919) 103 = .ok (.bipush 59, 2) := by decide +kernel
theorem d_919_105 : decode (mB 919) 105 = .ok (.if_icmp .ne 7, 3) := by decide +kernel
theorem d_919_108 : decode (mB 919) 108 = .ok (.iconst 1, 1) := by decide +kernel
theorem d_919_109 : decode (mB 919) 109 = .ok (.goto 4, 3) := by decide +kernel
theorem d_919_112 : decode (mB 919) 112 = .ok (.iconst 0, 1) := by decide +kernel
theorem d_919_113 : decode (mB 919) 113 = .ok (.iconst 1, 1) := by decide +kernel
theorem d_919_114 : decode (mB 919) 114 = .ok (.aload_n 0, 1) := by decide +kernel
theorem d_919_115 : decode (mB 919) 115 = .ok (.getfield 92, 3) := by decide +kernel
theorem d_919_118 : decode (mB 919) 118 = .ok (.invokevirtual 116, 3) := by decide +kernel
theorem d_919_121 : decode (mB 919) 121 = .ok (.ifCond .eq (-48), 3) := by decide +kernel
theorem d_919_124 : decode (mB 919) 124 = .ok (.aload_n 0, 1) := by decide +kernel
theorem d_919_125 : decode (mB 919) 125 = .ok (.dup, 1) := by decide +kernel
theorem d_919_126 : decode (mB 919) 126 = .ok (.getfield 92, 3) := by decide +kernel
theorem d_919_129 : decode (mB 919) 129 = .ok (.iconst 1, 1) := by decide +kernel
theorem d_919_130 : decode (mB 919) 130 = .ok (.iadd, 1) := by decide +kernel
theorem d_919_131 : decode (mB 919) 131 = .ok (.putfield 92, 3) := by decide +kernel
theorem d_919_134 : decode (mB 919) 134 = .ok (.goto (-61), 3) := by decide +kernel
theorem d_919_137 : decode (mB 919) 137 = .ok (.aload_n 0, 1) := by decide +kernel
theorem d_919_138 : decode (mB 919) 138 = .ok (.iconst 0, 1) := by decide +kernel
theorem d_919_139 : decode (mB 919) 139 = .ok (.putfield 88, 3) := by decide +kernel
theorem d_919_142 : decode (mB 919) 142 = .ok (.aload_n 0, 1) := by decide +kernel
theorem d_919_143 : decode (mB 919) 143 = .ok (.getfield 95, 3) := by decide +kernel
theorem d_919_146 : decode (mB 919) 146 = .ok (.ifCond .le 11, 3) := by decide +kernel
theorem d_919_149 : decode (mB 919) 149 = .ok (.bipush (-10), 2) := by decide +kernel
theorem d_919_151 : decode (mB 919) 151 = .ok (.aload_n 0, 1) := by decide +kernel
theorem d_919_152 : decode (mB 919) 152 = .ok (.getfield 95, 3) := by decide +kernel
theorem d_919_155 : decode (mB 919) 155 = .ok (.isub, 1) := by decide +kernel
theorem d_919_156 : decode (mB 919) 156 = .ok (.ireturn, 1) := by decide +kernel
theorem d_919_157 : decode (mB 919) 157 = .ok (.iconst 0, 1) := by decide +kernel
theorem d_919_158 : decode (mB 919) 158 = .ok (.istore_n 1, 1) := by decide +kernel
theorem d_919_159 : decode (mB 919) 159 = .ok (.iload_n 1, 1) := by decide +kernel
theorem d_919_160 : decode (mB 919) 160 = .ok (.iconst 3, 1) := by decide +kernel
theorem d_919_161 : decode (mB 919) 161 = .ok (.if_icmp .ge 23, 3) := by decide +kernel
theorem d_919_164 : decode (mB 919) 164 = .ok (.aload_n 0, 1) := by decide +kernel
theorem d_919_165 : decode (mB 919) 165 = .ok (.getfield 17, 3) := by decide +kernel
theorem d_919_168 : decode (mB 919) 168 = .ok (.iload_n 1, 1) := by decide +kernel
theorem d_919_169 : decode (mB 919) 169 = .ok (.aload_n 0, 1) := by decide +kernel
theorem d_919_170 : decode (mB 919) 170 = .ok (.getfield 17, 3) := by decide +kernel
theorem d_919_173 : decode (mB 919) 173 = .ok (.iconst 3, 1) := by decide +kernel
theorem d_919_174 : decode (mB 919) 174 = .ok (.iload_n 1, 1) := by decide +kernel
theorem d_919_175 : decode (mB 919) 175 = .ok (.iadd, 1) := by decide +kernel
theorem d_919_176 : decode (mB 919) 176 = .ok (.iaload, 1) := by decide +kernel
theorem d_919_177 : decode (mB 919) 177 = .ok (.iastore, 1) := by decide +kernel
theorem d_919_178 : decode (mB 919) 178 = .ok (.iinc 1 1, 3) := by decide +kernel
theorem d_919_181 : decode (mB 919) 181 = .ok (.goto (-22), 3) := by decide +kernel
theorem d_919_184 : decode (mB 919) 184 = .ok (.aload_n 0, 1) := by decide +kernel
theorem d_919_185 : decode (mB 919) 185 = .ok (.aload_n 0, 1) := by decide +kernel
theorem d_919_186 : decode (mB 919) 186 = .ok (.getfield 132, 3) := by decide +kernel
theorem d_919_189 : decode (mB 919) 189 = .ok (.putfield 78, 3) := by decide +kernel
theorem d_919_192 : decode (mB 919) 192 = .ok (.aload_n 0, 1) := by decide +kernel
theorem d_919_193 : decode (mB 919) 193 = .ok (.aload_n 0, 1) := by decide +kernel
theorem d_919_194 : decode (mB 919) 194 = .ok (.getfield 141, 3) := by decide +kernel
theorem d_919_197 : decode (mB 919) 197 = .ok (.putfield 188, 3) := by decide +kernel
theorem d_919_200 : decode (mB 919) 200 = .ok (.aload_n 0, 1) := by decide +kernel
theorem d_919_201 : decode (mB 919) 201 = .ok (.aload_n 0, 1) := by decide +kernel
theorem d_919_202 : decode (mB 919) 202 = .ok (.getfield 135, 3) := by decide +kernel
theorem d_919_205 : decode (mB 919) 205 = .ok (.putfield 191, 3) := by decide +kernel
theorem d_919_208 : decode (mB 919) 208 = .ok (.aload_n 0, 1) := by decide +kernel
theorem d_919_209 : decode (mB 919) 209 = .ok (.aload_n 0, 1) := by decide +kernel
theorem d_919_210 : decode (mB 919) 210 = .ok (.getfield 144, 3) := by decide +kernel
theorem d_919_213 : decode (mB 919) 213 = .ok (.putfield 194, 3) := by decide +kernel
theorem d_919_216 : decode (mB 919) 216 = .ok (.aload_n 0, 1) := by decide +kernel
theorem d_919_217 : decode (mB 919) 217 = .ok (.aload_n 0, 1) := by decide +kernel
theorem d_919_218 : decode (mB 919) 218 = .ok (.getfield 138, 3) := by decide +kernel
theorem d_919_221 : decode (mB 919) 221 = .ok (.putfield 197, 3) := by decide +kernel
theorem d_919_224 : decode (mB 919) 224 = .ok (.iconst 0, 1) := by decide +kernel
theorem d_919_225 : decode (mB 919) 225 = .ok (.istore_n 1, 1) := by decide +kernel
theorem d_919_226 : decode (mB 919) 226 = .ok (.iload_n 1, 1) := by decide +kernel
theorem d_919_227 : decode (mB 919) 227 = .ok (.bipush 6, 2) := by decide +kernel
theorem d_919_229 : decode (mB 919) 229 = .ok (.if_icmp .ge 135, 3) := by decide +kernel
theorem d_919_232 : decode (mB 919) 232 = .ok (.aload_n 0, 1) := by decide +kernel
theorem d_919_233 : decode (mB 919) 233 = .ok (.getfield 20, 3) := by decide +kernel
theorem d_919_236 : decode (mB 919) 236 = .ok (.iload_n 1, 1) := by decide +kernel
theorem d_919_237 : decode (mB 919) 237 = .ok (.aload_n 0, 1) := by decide +kernel
theorem d_919_238 : decode (mB 919) 238 = .ok (.getfield 20, 3) := by decide +kernel
theorem d_919_241 : decode (mB 919) 241 = .ok (.bipush 6, 2) := by decide +kernel
theorem d_919_243 : decode (mB 919) 243 = .ok (.iload_n 1, 1) := by decide +kernel
theorem d_919_244 : decode (mB 919) 244 = .ok (.iadd, 1) := by decide +kernel
theorem d_919_245 : decode (mB 919) 245 = .ok (.iaload, 1) := by decide +kernel
theorem d_919_246 : decode (mB 919) 246 = .ok (.iastore, 1) := by decide +kernel
theorem d_919_247 : decode (mB 919) 247 = .ok (.aload_n 0, 1) := by decide +kernel
theorem d_919_248 : decode (mB 919) 248 = .ok (.getfield 23, 3) := by decide +kernel
theorem d_919_251 : decode (mB 919) 251 = .ok (.iload_n 1, 1) := by decide +kernel
theorem d_919_252 : decode (mB 919) 252 = .ok (.aload_n 0, 1) := by decide +kernel
theorem d_919_253 : decode (mB 919) 253 = .ok (.getfield 23, 3) := by decide +kernel
theorem d_919_256 : decode (mB 919) 256 = .ok (.bipush 6, 2) := by decide +kernel
theorem d_919_258 : decode (mB 919) 258 = .ok (.iload_n 1, 1) := by decide +kernel
theorem d_919_259 : decode (mB 919) 259 = .ok (.iadd, 1) := by decide +kernel
theorem d_919_260 : decode (mB 919) 260 = .ok (.iaload, 1) := by decide +kernel
theorem d_919_261 : decode (mB 919) 261 = .ok (.iastore, 1) := by decide +kernel
theorem d_919_262 : decode (mB 919) 262 = .ok (.aload_n 0, 1) := by decide +kernel
theorem d_919_263 : decode (mB 919) 263 = .ok (.getfield 29, 3) := by decide +kernel
theorem d_919_266 : decode (mB 919) 266 = .ok (.iload_n 1, 1) := by decide +kernel
theorem d_919_267 : decode (mB 919) 267 = .ok (.aload_n 0, 1) := by decide +kernel
theorem d_919_268 : decode (mB 919) 268 = .ok (.getfield 29, 3) := by decide +kernel
theorem d_919_271 : decode (mB 919) 271 = .ok (.bipush 6, 2) := by decide +kernel
theorem d_919_273 : decode (mB 919) 273 = .ok (.iload_n 1, 1) := by decide +kernel
theorem d_919_274 : decode (mB 919) 274 = .ok (.iadd, 1) := by decide +kernel
theorem d_919_275 : decode (mB 919) 275 = .ok (.iaload, 1) := by decide +kernel
theorem d_919_276 : decode (mB 919) 276 = .ok (.iastore, 1) := by decide +kernel
theorem d_919_277 : decode (mB 919) 277 = .ok (.aload_n 0, 1) := by decide +kernel
theorem d_919_278 : decode (mB 919) 278 = .ok (.getfield 32, 3) := by decide +kernel
theorem d_919_281 : decode (mB 919) 281 = .ok (.iload_n 1, 1) := by decide +kernel
theorem d_919_282 : decode (mB 919) 282 = .ok (.aload_n 0, 1) := by decide +kernel
theorem d_919_283 : decode (mB 919) 283 = .ok (.getfield 32, 3) := by decide +kernel
theorem d_919_286 : decode (mB 919) 286 = .ok (.bipush 6, 2) := by decide +kernel
theorem d_919_288 : decode (mB 919) 288 = .ok (.iload_n 1, 1) := by decide +kernel
theorem d_919_289 : decode (mB 919) 289 = .ok (.iadd, 1) := by decide +kernel
theorem d_919_290 : decode (mB 919) 290 = .ok (.iaload, 1) := by decide +kernel
theorem d_919_291 : decode (mB 919) 291 = .ok (.iastore, 1) := by decide +kernel
theorem d_919_292 : decode (mB 919) 292 = .ok (.aload_n 0, 1) := by decide +kernel
theorem d_919_293 : decode (mB 919) 293 = .ok (.getfield 35, 3) := by decide +kernel
theorem d_919_296 : decode (mB 919) 296 = .ok (.iload_n 1, 1) := by decide +kernel
theorem d_919_297 : decode (mB 919) 297 = .ok (.aload_n 0, 1) := by decide +kernel
theorem d_919_298 : decode (mB 919) 298 = .ok (.getfield 35, 3) := by decide +kernel
theorem d_919_301 : decode (mB 919) 301 = .ok (.bipush 6, 2) := by decide +kernel
theorem d_919_303 : decode (mB 919) 303 = .ok (.iload_n 1, 1) := by decide +kernel
theorem d_919_304 : decode (mB 919) 304 = .ok (.iadd, 1) := by decide +kernel
theorem d_919_305 : decode (mB 919) 305 = .ok (.iaload, 1) := by decide +kernel
theorem d_919_306 : decode (mB 919) 306 = .ok (.iastore, 1) := by decide +kernel
theorem d_919_307 : decode (mB 919) 307 = .ok (.aload_n 0, 1) := by decide +kernel
theorem d_919_308 : decode (mB 919) 308 = .ok (.getfield 41, 3) := by decide +kernel
theorem d_919_311 : decode (mB 919) 311 = .ok (.iload_n 1, 1) := by decide +kernel
theorem d_919_312 : decode (mB 919) 312 = .ok (.aload_n 0, 1) := by decide +kernel
theorem d_919_313 : decode (mB 919) 313 = .ok (.getfield 41, 3) := by decide +kernel
theorem d_919_316 : decode (mB 919) 316 = .ok (.bipush 6, 2) := by decide +kernel
theorem d_919_318 : decode (mB 919) 318 = .ok (.iload_n 1, 1) := by decide +kernel
theorem d_919_319 : decode (mB 919) 319 = .ok (.iadd, 1) := by decide +kernel
theorem d_919_320 : decode (mB 919) 320 = .ok (.iaload, 1) := by decide +kernel
theorem d_919_321 : decode (mB 919) 321 = .ok (.iastore, 1) := by decide +kernel
theorem d_919_322 : decode (mB 919) 322 = .ok (.aload_n 0, 1) := by decide +kernel
theorem d_919_323 : decode (mB 919) 323 = .ok (.getfield 7, 3) := by decide +kernel
theorem d_919_326 : decode (mB 919) 326 = .ok (.iload_n 1, 1) := by decide +kernel
theorem d_919_327 : decode (mB 919) 327 = .ok (.aload_n 0, 1) := by decide +kernel
theorem d_919_328 : decode (mB 919) 328 = .ok (.getfield 26, 3) := by decide +kernel
theorem d_919_331 : decode (mB 919) 331 = .ok (.bipush 6, 2) := by decide +kernel
theorem d_919_333 : decode (mB 919) 333 = .ok (.iload_n 1, 1) := by decide +kernel
theorem d_919_334 : decode (mB 919) 334 = .ok (.iadd, 1) := by decide +kernel
theorem d_919_335 : decode (mB 919) 335 = .ok (.iaload, 1) := by decide +kernel
theorem d_919_336 : decode (mB 919) 336 = .ok (.iastore, 1) := by decide +kernel
theorem d_919_337 : decode (mB 919) 337 = .ok (.aload_n 0, 1) := by decide +kernel
theorem d_919_338 : decode (mB 919) 338 = .ok (.getfield 7, 3) := by decide +kernel
theorem d_919_341 : decode (mB 919) 341 = .ok (.bipush 6, 2) := by decide +kernel
theorem d_919_343 : decode (mB 919) 343 = .ok (.iload_n 1, 1) := by decide +kernel
theorem d_919_344 : decode (mB 919) 344 = .ok (.iadd, 1) := by decide +kernel
theorem d_919_345 : decode (mB 919) 345 = .ok (.iconst 0, 1) := by decide +kernel
theorem d_919_346 : decode (mB 919) 346 = .ok (.iastore, 1) := by decide +kernel
theorem d_919_347 : decode (mB 919) 347 = .ok (.aload_n 0, 1) := by decide +kernel
theorem d_919_348 : decode (mB 919) 348 = .ok (.getfield 7, 3) := by decide +kernel
theorem d_919_351 : decode (mB 919) 351 = .ok (.bipush 12, 2) := by decide +kernel
theorem d_919_353 : decode (mB 919) 353 = .ok (.iload_n 1, 1) := by decide +kernel
theorem d_919_354 : decode (mB 919) 354 = .ok (.iadd, 1) := by decide +kernel
theorem d_919_355 : decode (mB 919) 355 = .ok (.bipush (-100), 2) := by decide +kernel
theorem d_919_357 : decode (mB 919) 357 = .ok (.iastore, 1) := by decide +kernel
theorem d_919_358 : decode (mB 919) 358 = .ok (.iinc 1 1, 3) := by decide +kernel
theorem d_919_361 : decode (mB 919) 361 = .ok (.goto (-135), 3) := by decide +kernel
theorem d_919_364 : decode (mB 919) 364 = .ok (.iconst 0, 1) := by decide +kernel
theorem d_919_365 : decode (mB 919) 365 = .ok (.istore_n 1, 1) := by decide +kernel
theorem d_919_366 : decode (mB 919) 366 = .ok (.iload_n 1, 1) := by decide +kernel
theorem d_919_367 : decode (mB 919) 367 = .ok (.bipush 36, 2) := by decide +kernel
theorem d_919_369 : decode (mB 919) 369 = .ok (.if_icmp .ge 24, 3) := by decide +kernel
theorem d_919_372 : decode (mB 919) 372 = .ok (.aload_n 0, 1) := by decide +kernel
theorem d_919_373 : decode (mB 919) 373 = .ok (.getfield 38, 3) := by decide +kernel
theorem d_919_376 : decode (mB 919) 376 = .ok (.iload_n 1, 1) := by decide +kernel
theorem d_919_377 : decode (mB 919) 377 = .ok (.aload_n 0, 1) := by decide +kernel
theorem d_919_378 : decode (mB 919) 378 = .ok (.getfield 38, 3) := by decide +kernel
theorem d_919_381 : decode (mB 919) 381 = .ok (.bipush 36, 2) := by decide +kernel
theorem d_919_383 : decode (mB 919) 383 = .ok (.iload_n 1, 1) := by decide +kernel
theorem d_919_384 : decode (mB 919) 384 = .ok (.iadd, 1) := by decide +kernel
theorem d_919_385 : decode (mB 919) 385 = .ok (.iaload, 1) := by decide +kernel
theorem d_919_386 : decode (mB 919) 386 = .ok (.iastore, 1) := by decide +kernel
theorem d_919_387 : decode (mB 919) 387 = .ok (.iinc 1 1, 3) := by decide +kernel
theorem d_919_390 : decode (mB 919) 390 = .ok (.goto (-24), 3) := by decide +kernel
theorem d_919_393 : decode (mB 919) 393 = .ok (.aload_n 0, 1) := by decide +kernel
theorem d_919_394 : decode (mB 919) 394 = .ok (.getfield 7, 3) := by decide +kernel
theorem d_919_397 : decode (mB 919) 397 = .ok (.bipush 18, 2) := by decide +kernel
theorem d_919_399 : decode (mB 919) 399 = .ok (.iconst 0, 1) := by decide +kernel
theorem d_919_400 : decode (mB 919) 400 = .ok (.iastore, 1) := by decide +kernel
theorem d_919_401 : decode (mB 919) 401 = .ok (.aload_n 0, 1) := by decide +kernel
theorem d_919_402 : decode (mB 919) 402 = .ok (.getfield 7, 3) := by decide +kernel
theorem d_919_405 : decode (mB 919) 405 = .ok (.bipush 19, 2) := by decide +kernel
theorem d_919_407 : decode (mB 919) 407 = .ok (.iconst 0, 1) := by decide +kernel
theorem d_919_408 : decode (mB 919) 408 = .ok (.iastore, 1) := by decide +kernel
theorem d_919_409 : decode (mB 919) 409 = .ok (.aload_n 0, 1) := by decide +kernel
theorem d_919_410 : decode (mB 919) 410 = .ok (.getfield 7, 3) := by decide +kernel
theorem d_919_413 : decode (mB 919) 413 = .ok (.bipush 20, 2) := by decide +kernel
theorem d_919_415 : decode (mB 919) 415 = .ok (.iconst 0, 1) := by decide +kernel
theorem d_919_416 : decode (mB 919) 416 = .ok (.iastore, 1) := by decide +kernel
theorem d_919_417 : decode (mB 919) 417 = .ok (.aload_n 0, 1) := by decide +kernel
theorem d_919_418 : decode (mB 919) 418 = .ok (.getfield 7, 3) := by decide +kernel
theorem d_919_421 : decode (mB 919) 421 = .ok (.bipush 21, 2) := by decide +kernel
theorem d_919_423 : decode (mB 919) 423 = .ok (.iconst 0, 1) := by decide +kernel
theorem d_919_424 : decode (mB 919) 424 = .ok (.iastore, 1) := by decide +kernel
theorem d_919_425 : decode (mB 919) 425 = .ok (.aload_n 0, 1) := by decide +kernel
theorem d_919_426 : decode (mB 919) 426 = .ok (.getfield 7, 3) := by decide +kernel
theorem d_919_429 : decode (mB 919) 429 = .ok (.bipush 22, 2) := by decide +kernel
theorem d_919_431 : decode (mB 919) 431 = .ok (.iconst 0, 1) := by decide +kernel
theorem d_919_432 : decode (mB 919) 432 = .ok (.iastore, 1) := by decide +kernel
theorem d_919_433 : decode (mB 919) 433 = .ok (.aload_n 0, 1) := by decide +kernel
theorem d_919_434 : decode (mB 919) 434 = .ok (.iconst 0, 1) := by decide +kernel
theorem d_919_435 : decode (mB 919) 435 = .ok (.putfield 200, 3) := by decide +kernel
theorem d_919_438 : decode (mB 919) 438 = .ok (.aload_n 0, 1) := by decide +kernel
theorem d_919_439 : decode (mB 919) 439 = .ok (.iconst 0, 1) := by decide +kernel
theorem d_919_440 : decode (mB 919) 440 = .ok (.putfield 203, 3) := by decide +kernel
theorem d_919_443 : decode (mB 919) 443 = .ok (.aload_n 0, 1) := by decide +kernel
theorem d_919_444 : decode (mB 919) 444 = .ok (.iconst 0, 1) := by decide +kernel
theorem d_919_445 : decode (mB 919) 445 = .ok (.putfield 206, 3) := by decide +kernel
theorem d_919_448 : decode (mB 919) 448 = .ok (.aload_n 0, 1) := by decide +kernel
theorem d_919_449 : decode (mB 919) 449 = .ok (.getfield 13, 3) := by decide +kernel
theorem d_919_452 : decode (mB 919) 452 = .ok (.iconst 0, 1) := by decide +kernel
theorem d_919_453 : decode (mB 919) 453 = .ok (.iconst 0, 1) := by decide +kernel
theorem d_919_454 : decode (mB 919) 454 = .ok (.bastore, 1) := by decide +kernel
theorem d_919_455 : decode (mB 919) 455 = .ok (.aload_n 0, 1) := by decide +kernel
theorem d_919_456 : decode (mB 919) 456 = .ok (.getfield 13, 3) := by decide +kernel
theorem d_919_459 : decode (mB 919) 459 = .ok (.iconst 1, 1) := by decide +kernel
theorem d_919_460 : decode (mB 919) 460 = .ok (.iconst 0, 1) := by decide +kernel
theorem d_919_461 : decode (mB 919) 461 = .ok (.bastore, 1) := by decide +kernel
theorem d_919_462 : decode (mB 919) 462 = .ok (.aload_n 0, 1) := by decide +kernel
theorem d_919_463 : decode (mB 919) 463 = .ok (.getfield 191, 3) := by decide +kernel
theorem d_919_466 : decode (mB 919) 466 = .ok (.ireturn, 1) := by decide +kernel
theorem d_920_0 : decode (mB 920) 0 = .ok (.aload_n 0, 1) := by decide +kernel
theorem d_920_1 : decode (mB 920) 1 = .ok (.getfield 47, 3) := by decide +kernel
theorem d_920_4 : decode (mB 920) 4 = .ok (.ireturn, 1) := by decide +kernel
theorem d_929_0 : decode (mB 929) 0 = .ok (.iload_n 1, 1) := by decide +kernel
theorem d_929_1 : decode (mB 929) 1 = .ok (.tableswitch 220 0 17 #[87, 92, 97, 102, 107, 114, 121, 128, 133, 149, 157, 176, 184, 189, 197, 205, 210, 215], 87) := by decide +kernel
theorem d_929_88 : decode (mB 929) 88 = .ok (.aload_n 0, 1) := by decide +kernel
theorem d_929_89 : decode (mB 929) 89 = .ok (.getfield 188, 3) := by decide +kernel
theorem d_929_92 : decode (mB 929) 92 = .ok (.ireturn, 1) := by decide +kernel
theorem d_929_93 : decode (mB 929) 93 = .ok (.aload_n 0, 1) := by decide +kernel
theorem d_929_94 : decode (mB 929) 94 = .ok (.getfield 194, 3) := by decide +kernel
theorem d_929_97 : decode (mB 929) 97 = .ok (.ireturn, 1) := by decide +kernel
theorem d_929_98 : decode (mB 929) 98 = .ok (.aload_n 0, 1) := by decide +kernel
theorem d_929_99 : decode (mB 929) 99 = .ok (.getfield 191, 3) := by decide +kernel
theorem d_929_102 : decode (mB 929) 102 = .ok (.ireturn, 1) := by decide +kernel
theorem d_929_103 : decode (mB 929) 103 = .ok (.aload_n 0, 1) := by decide +kernel
theorem d_929_104 : decode (mB 929) 104 = .ok (.getfield 88, 3) := by decide +kernel
theorem d_929_107 : decode (mB 929) 107 = .ok (.ireturn, 1) := by decide +kernel
theorem d_929_108 : decode (mB 929) 108 = .ok (.aload_n 0, 1) := by decide +kernel
theorem d_929_109 : decode (mB 929) 109 = .ok (.getfield 17, 3) := by decide +kernel
theorem d_929_112 : decode (mB 929) 112 = .ok (.iconst 0, 1) := by decide +kernel
theorem d_929_113 : decode (mB 929) 113 = .ok (.iaload, 1) := by decide +kernel
theorem d_929_114 : decode (mB 929) 114 = .ok (.ireturn, 1) := by decide +kernel
theorem d_929_115 : decode (mB 929) 115 = .ok (.aload_n 0, 1) := by decide +kernel
theorem d_929_116 : decode (mB 929) 116 = .ok (.getfield 17, 3) := by decide +kernel
theorem d_929_119 : decode (mB 929) 119 = .ok (.iconst 1, 1) := by decide +kernel
theorem d_929_120 : decode (mB 929) 120 = .ok (.iaload, 1) := by decide +kernel
theorem d_929_121 : decode (mB 929) 121 = .ok (.ireturn, 1) := by decide +kernel
theorem d_929_122 : decode (mB 929) 122 = .ok (.aload_n 0, 1) := by decide +kernel
theorem d_929_123 : decode (mB 929) 123 = .ok (.getfield 17, 3) := by decide +kernel
theorem d_929_126 : decode (mB 929) 126 = .ok (.iconst 2, 1) := by decide +kernel
theorem d_929_127 : decode (mB 929) 127 = .ok (.iaload, 1) := by decide +kernel
theorem d_929_128 : decode (mB 929) 128 = .ok (.ireturn, 1) := by decide +kernel
theorem d_929_129 : decode (mB 929) 129 = .ok (.aload_n 0, 1) := by decide +kernel
theorem d_929_130 : decode (mB 929) 130 = .ok (.getfield 78, 3) := by decide +kernel
theorem d_929_133 : decode (mB 929) 133 = .ok (.ireturn, 1) := by decide +kernel
theorem d_929_134 : decode (mB 929) 134 = .ok (.aload_n 0, 1) := by decide +kernel
theorem d_929_135 : decode (mB 929) 135 = .ok (.getfield 191, 3) := by decide +kernel
theorem d_929_138 : decode (mB 929) 138 = .ok (.ifCond .ne 7, 3) := by decide +kernel
theorem d_929_141 : decode (mB 929) 141 = .ok (.iconst (-1), 1) := by decide +kernel
theorem d_929_142 : decode (mB 929) 142 = .ok (.goto 7, 3) := by decide +kernel
theorem d_929_145 : decode (mB 929) 145 = .ok (.aload_n 0, 1) := by decide +kernel
theorem d_929_146 : decode (mB 929) 146 = .ok (.getfield 197, 3) := by decide +kernel
theorem d_929_149 : decode (mB 929) 149 = .ok (.ireturn, 1) := by decide +kernel
theorem d_929_150 : decode (mB 929) 150 = .ok (.aload_n 0, 1) := by decide +kernel
theorem d_929_151 : decode (mB 929) 151 = .ok (.getfield 7, 3) := by decide +kernel
theorem d_929_154 : decode (mB 929) 154 = .ok (.bipush 21, 2) := by decide +kernel
theorem d_929_156 : decode (mB 929) 156 = .ok (.iaload, 1) := by decide +kernel
theorem d_929_157 : decode (mB 929) 157 = .ok (.ireturn, 1) := by decide +kernel
theorem d_929_158 : decode (mB 929) 158 = .ok (.aload_n 0, 1) := by decide +kernel
theorem d_929_159 : decode (mB 929) 159 = .ok (.getfield 188, 3) := by decide +kernel
theorem d_929_162 : decode (mB 929) 162 = .ok (.ifCond .ne 7, 3) := by decide +kernel
theorem d_929_165 : decode (mB 929) 165 = .ok (.iconst (-1), 1) := by decide +kernel
theorem d_929_166 : decode (mB 929) 166 = .ok (.goto 10, 3) := by decide +kernel
theorem d_929_169 : decode (mB 929) 169 = .ok (.aload_n 0, 1) := by decide +kernel
theorem d_929_170 : decode (mB 929) 170 = .ok (.getfield 7, 3) := by decide +kernel
theorem d_929_173 : decode (mB 929) 173 = .ok (.bipush 22, 2) := by decide +kernel
theorem d_929_175 : decode (mB 929) 175 = .ok (.iaload, 1) := by decide +kernel
theorem d_929_176 : decode (mB 929) 176 = .ok (.ireturn, 1) := by decide +kernel
theorem d_929_177 : decode (mB 929) 177 = .ok (.aload_n 0, 1) := by decide +kernel
theorem d_929_178 : decode (mB 929) 178 = .ok (.getfield 7, 3) := by decide +kernel
theorem d_929_181 : decode (mB 929) 181 = .ok (.bipush 20, 2) := by decide +kernel
theorem d_929_183 : decode (mB 929) 183 = .ok (.iaload, 1) := by decide +kernel
theorem d_929_184 : decode (mB 929) 184 = .ok (.ireturn, 1) := by decide +kernel
theorem d_929_185 : decode (mB 929) 185 = .ok (.aload_n 0, 1) := by decide +kernel
theorem d_929_186 : decode (mB 929) 186 = .ok (.invokevirtual 220, 3) := by decide +kernel
theorem d_929_189 : decode (mB 929) 189 = .ok (.ireturn, 1) := by decide +kernel
theorem d_929_190 : decode (mB 929) 190 = .ok (.aload_n 0, 1) := by decide +kernel
theorem d_929_191 : decode (mB 929) 191 = .ok (.getfield 7, 3) := by decide +kernel
theorem d_929_194 : decode (mB 929) 194 = .ok (.bipush 18, 2) := by decide +kernel
theorem d_929_196 : decode (mB 929) 196 = .ok (.iaload, 1) := by decide +kernel
theorem d_929_197 : decode (mB 929) 197 = .ok (.ireturn, 1) := by decide +kernel
theorem d_929_198 : decode (mB 929) 198 = .ok (.aload_n 0, 1) := by decide +kernel
theorem d_929_199 : decode (mB 929) 199 = .ok (.getfield 7, 3) := by decide +kernel
theorem d_929_202 : decode (mB 929) 202 = .ok (.bipush 19, 2) := by decide +kernel
theorem d_929_204 : decode (mB 929) 204 = .ok (.iaload, 1) := by decide +kernel
theorem d_929_205 : decode (mB 929) 205 = .ok (.ireturn, 1) := by decide +kernel
theorem d_929_206 : decode (mB 929) 206 = .ok (.aload_n 0, 1) := by decide +kernel
theorem d_929_207 : decode (mB 929) 207 = .ok (.getfield 200, 3) := by decide +kernel
theorem d_929_210 : decode (mB 929) 210 = .ok (.ireturn, 1) := by decide +kernel
theorem d_929_211 : decode (mB 929) 211 = .ok (.aload_n 0, 1) := by decide +kernel
theorem d_929_212 : decode (mB 929) 212 = .ok (.getfield 203, 3) := by decide +kernel
theorem d_929_215 : decode (mB 929) 215 = .ok (.ireturn, 1) := by decide +kernel
theorem d_929_216 : decode (mB 929) 216 = .ok (.aload_n 0, 1) := by decide +kernel
theorem d_929_217 : decode (mB 929) 217 = .ok (.getfield 206, 3) := by decide +kernel
theorem d_929_220 : decode (mB 929) 220 = .ok (.ireturn, 1) := by decide +kernel
theorem d_929_221 : decode (mB 929) 221 = .ok (.ldc 87, 2) := by decide +kernel
theorem d_929_223 : decode (mB 929) 223 = .ok (.ireturn, 1) := by decide +kernel
theorem d_931_0 : decode (mB 931) 0 = .ok (.aload_n 0, 1) := by decide +kernel
theorem d_931_1 : decode (mB 931) 1 = .ok (.iload_n 1, 1) := by decide +kernel
theorem d_931_2 : decode (mB 931) 2 = .ok (.invokevirtual 227, 3) := by decide +kernel
theorem d_931_5 : decode (mB 931) 5 = .ok (.ifCond .ne 6, 3) := by decide +kernel
theorem d_931_8 : decode (mB 931) 8 = .ok (.ldc 231, 2) := by decide +kernel
theorem d_931_10 : decode (mB 931) 10 = .ok (.ireturn, 1) := by decide +kernel
theorem d_931_11 : decode (mB 931) 11 = .ok (.iload_n 2, 1) := by decide +kernel
theorem d_931_12 : decode (mB 931) 12 = .ok (.ifCond .ne 12, 3) := by decide +kernel
theorem d_931_15 : decode (mB 931) 15 = .ok (.aload_n 0, 1) := by decide +kernel
theorem d_931_16 : decode (mB 931) 16 = .ok (.getfield 20, 3) := by decide +kernel
theorem d_931_19 : decode (mB 931) 19 = .ok (.iload_n 1, 1) := by decide +kernel
theorem d_931_20 : decode (mB 931) 20 = .ok (.iaload, 1) := by decide +kernel
theorem d_931_21 : decode (mB 931) 21 = .ok (.goto 32, 3) := by decide +kernel
theorem d_931_24 : decode (mB 931) 24 = .ok (.iload_n 2, 1) := by decide +kernel
theorem d_931_25 : decode (mB 931) 25 = .ok (.iconst 1, 1) := by decide +kernel
theorem d_931_26 : decode (mB 931) 26 = .ok (.if_icmp .ne 12, 3) := by decide +kernel
theorem d_931_29 : decode (mB 931) 29 = .ok (.aload_n 0, 1) := by decide +kernel
theorem d_931_30 : decode (mB 931) 30 = .ok (.getfield 23, 3) := by decide +kernel
theorem d_931_33 : decode (mB 931) 33 = .ok (.iload_n 1, 1) := by decide +kernel
theorem d_931_34 : decode (mB 931) 34 = .ok (.iaload, 1) := by decide +kernel
theorem d_931_35 : decode (mB 931) 35 = .ok (.goto 18, 3) := by decide +kernel
theorem d_931_38 : decode (mB 931) 38 = .ok (.iload_n 2, 1) := by decide +kernel
theorem d_931_39 : decode (mB 931) 39 = .ok (.iconst 2, 1) := by decide +kernel
theorem d_931_40 : decode (mB 931) 40 = .ok (.if_icmp .ne 11, 3) := by decide +kernel
theorem d_931_43 : decode (mB 931) 43 = .ok (.aload_n 0, 1) := by decide +kernel
theorem d_931_44 : decode (mB 931) 44 = .ok (.iload_n 1, 1) := by decide +kernel
theorem d_931_45 : decode (mB 931) 45 = .ok (.invokevirtual 232, 3) := by decide +kernel
theorem d_931_48 : decode (mB 931) 48 = .ok (.goto 5, 3) := by decide +kernel
theorem d_931_51 : decode (mB 931) 51 = .ok (.ldc 87, 2) := by decide +kernel
theorem d_931_53 : decode (mB 931) 53 = .ok (.ireturn, 1) := by decide +kernel
theorem d_933_0 : decode (mB 933) 0 = .ok (.aload_n 0, 1) := by decide +kernel
theorem d_933_1 : decode (mB 933) 1 = .ok (.iload_n 1, 1) := by decide +kernel
theorem d_933_2 : decode (mB 933) 2 = .ok (.invokevirtual 235, 3) := by decide +kernel
theorem d_933_5 : decode (mB 933) 5 = .ok (.ifCond .ne 6, 3) := by decide +kernel
theorem d_933_8 : decode (mB 933) 8 = .ok (.ldc 231, 2) := by decide +kernel
theorem d_933_10 : decode (mB 933) 10 = .ok (.ireturn, 1) := by decide +kernel
theorem d_933_11 : decode (mB 933) 11 = .ok (.iload_n 2, 1) := by decide +kernel
theorem d_933_12 : decode (mB 933) 12 = .ok (.tableswitch 140 0 8 #[52, 59, 66, 73, 80, 90, 96, 109, 133], 52) := by decide +kernel
theorem d_933_64 : decode (mB 933) 64 = .ok (.aload_n 0, 1) := by decide +kernel
theorem d_933_65 : decode (mB 933) 65 = .ok (.getfield 7, 3) := by decide +kernel
theorem d_933_68 : decode (mB 933) 68 = .ok (.iload_n 1, 1) := by decide +kernel
theorem d_933_69 : decode (mB 933) 69 = .ok (.iaload, 1) := by decide +kernel
theorem d_933_70 : decode (mB 933) 70 = .ok (.ireturn, 1) := by decide +kernel
theorem d_933_71 : decode (mB 933) 71 = .ok (.aload_n 0, 1) := by decide +kernel
theorem d_933_72 : decode (mB 933) 72 = .ok (.getfield 29, 3) := by decide +kernel
theorem d_933_75 : decode (mB 933) 75 = .ok (.iload_n 1, 1) := by decide +kernel
theorem d_933_76 : decode (mB 933) 76 = .ok (.iaload, 1) := by decide +kernel
theorem d_933_77 : decode (mB 933) 77 = .ok (.ireturn, 1) := by decide +kernel
theorem d_933_78 : decode (mB 933) 78 = .ok (.aload_n 0, 1) := by decide +kernel
theorem d_933_79 : decode (mB 933) 79 = .ok (.getfield 32, 3) := by decide +kernel
theorem d_933_82 : decode (mB 933) 82 = .ok (.iload_n 1, 1) := by decide +kernel
theorem d_933_83 : decode (mB 933) 83 = .ok (.iaload, 1) := by decide +kernel
theorem d_933_84 : decode (mB 933) 84 = .ok (.ireturn, 1) := by decide +kernel
theorem d_933_85 : decode (mB 933) 85 = .ok (.aload_n 0, 1) := by decide +kernel
theorem d_933_86 : decode (mB 933) 86 = .ok (.getfield 35, 3) := by decide +kernel
theorem d_933_89 : decode (mB 933) 89 = .ok (.iload_n 1, 1) := by decide +kernel
theorem d_933_90 : decode (mB 933) 90 = .ok (.iaload, 1) := by decide +kernel
theorem d_933_91 : decode (mB 933) 91 = .ok (.ireturn, 1) := by decide +kernel
theorem d_933_92 : decode (mB 933) 92 = .ok (.aload_n 0, 1) := by decide +kernel
theorem d_933_93 : decode (mB 933) 93 = .ok (.getfield 7, 3) := by decide +kernel
theorem d_933_96 : decode (mB 933) 96 = .ok (.bipush 6, 2) := by decide +kernel
theorem d_933_98 : decode (mB 933) 98 = .ok (.iload_n 1, 1) := by decide +kernel
theorem d_933_99 : decode (mB 933) 99 = .ok (.iadd, 1) := by decide +kernel
theorem d_933_100 : decode (mB 933) 100 = .ok (.iaload, 1) := by decide +kernel
theorem d_933_101 : decode (mB 933) 101 = .ok (.ireturn, 1) := by decide +kernel
theorem d_933_102 : decode (mB 933) 102 = .ok (.aload_n 0, 1) := by decide +kernel
theorem d_933_103 : decode (mB 933) 103 = .ok (.iload_n 1, 1) := by decide +kernel
theorem d_933_104 : decode (mB 933) 104 = .ok (.invokevirtual 238, 3) := by decide +kernel
theorem d_933_107 : decode (mB 933) 107 = .ok (.ireturn, 1) := by decide +kernel
theorem d_933_108 : decode (mB 933) 108 = .ok (.aload_n 0, 1) := by decide +kernel
theorem d_933_109 : decode (mB 933) 109 = .ok (.iload_n 1, 1) := by decide +kernel
theorem d_933_110 : decode (mB 933) 110 = .ok (.aload_n 0, 1) := by decide +kernel
theorem d_933_111 : decode (mB 933) 111 = .ok (.getfield 7, 3) := by decide +kernel
theorem d_933_114 : decode (mB 933) 114 = .ok (.bipush 21, 2) := by decide +kernel
theorem d_933_116 : decode (mB 933) 116 = .ok (.iaload, 1) := by decide +kernel
theorem d_933_117 : decode (mB 933) 117 = .ok (.invokevirtual 241, 3) := by decide +kernel
theorem d_933_120 : decode (mB 933) 120 = .ok (.ireturn, 1) := by decide +kernel
theorem d_933_121 : decode (mB 933) 121 = .ok (.aload_n 0, 1) := by decide +kernel
theorem d_933_122 : decode (mB 933) 122 = .ok (.aload_n 0, 1) := by decide +kernel
theorem d_933_123 : decode (mB 933) 123 = .ok (.iload_n 1, 1) := by decide +kernel
theorem d_933_124 : decode (mB 933) 124 = .ok (.aload_n 0, 1) := by decide +kernel
theorem d_933_125 : decode (mB 933) 125 = .ok (.getfield 7, 3) := by decide +kernel
theorem d_933_128 : decode (mB 933) 128 = .ok (.bipush 21, 2) := by decide +kernel
theorem d_933_130 : decode (mB 933) 130 = .ok (.iaload, 1) := by decide +kernel
theorem d_933_131 : decode (mB 933) 131 = .ok (.invokevirtual 241, 3) := by decide +kernel
theorem d_933_134 : decode (mB 933) 134 = .ok (.aload_n 0, 1) := by decide +kernel
theorem d_933_135 : decode (mB 933) 135 = .ok (.invokevirtual 220, 3) := by decide +kernel
theorem d_933_138 : decode (mB 933) 138 = .ok (.invokevirtual 244, 3) := by decide +kernel
theorem d_933_141 : decode (mB 933) 141 = .ok (.invokestatic 223, 3) := by decide +kernel
theorem d_933_144 : decode (mB 933) 144 = .ok (.ireturn, 1) := by decide +kernel
theorem d_933_145 : decode (mB 933) 145 = .ok (.aload_n 0, 1) := by decide +kernel
theorem d_933_146 : decode (mB 933) 146 = .ok (.getfield 41, 3) := by decide +kernel
theorem d_933_149 : decode (mB 933) 149 = .ok (.iload_n 1, 1) := by decide +kernel
theorem d_933_150 : decode (mB 933) 150 = .ok (.iaload, 1) := by decide +kernel
theorem d_933_151 : decode (mB 933) 151 = .ok (.ireturn, 1) := by decide +kernel
theorem d_933_152 : decode (mB 933) 152 = .ok (.ldc 87, 2) := by decide +kernel
theorem d_933_154 : decode (mB 933) 154 = .ok (.ireturn, 1) := by decide +kernel
theorem d_934_0 : decode (mB 934) 0 = .ok (.aload_n 0, 1) := by decide +kernel
theorem d_934_1 : decode (mB 934) 1 = .ok (.iload_n 1, 1) := by decide +kernel
theorem d_934_2 : decode (mB 934) 2 = .ok (.invokevirtual 235, 3) := by decide +kernel
theorem d_934_5 : decode (mB 934) 5 = .ok (.ifCond .ne 8, 3) := by decide +kernel
theorem d_934_8 : decode (mB 934) 8 = .ok (.ldc 231, 2) := by decide +kernel
theorem d_934_10 : decode (mB 934) 10 = .ok (.goto 26, 3) := by decide +kernel
theorem d_934_13 : decode (mB 934) 13 = .ok (.iload_n 2, 1) := by decide +kernel
theorem d_934_14 : decode (mB 934) 14 = .ok (.i2l, 1) := by decide +kernel
theorem d_934_15 : decode (mB 934) 15 = .ok (.lconst 0, 1) := by decide +kernel
theorem d_934_16 : decode (mB 934) 16 = .ok (.ldc2_w 247, 3) := by decide +kernel
theorem d_934_19 : decode (mB 934) 19 = .ok (.invokestatic 83, 3) := by decide +kernel
theorem d_934_22 : decode (mB 934) 22 = .ok (.ifCond .eq 12, 3) := by decide +kernel
theorem d_934_25 : decode (mB 934) 25 = .ok (.aload_n 0, 1) := by decide +kernel
theorem d_934_26 : decode (mB 934) 26 = .ok (.iload_n 1, 1) := by decide +kernel
theorem d_934_27 : decode (mB 934) 27 = .ok (.iload_n 2, 1) := by decide +kernel
theorem d_934_28 : decode (mB 934) 28 = .ok (.invokevirtual 241, 3) := by decide +kernel
theorem d_934_31 : decode (mB 934) 31 = .ok (.goto 5, 3) := by decide +kernel
theorem d_934_34 : decode (mB 934) 34 = .ok (.ldc 87, 2) := by decide +kernel
theorem d_934_36 : decode (mB 934) 36 = .ok (.ireturn, 1) := by decide +kernel
theorem d_935_0 : decode (mB 935) 0 = .ok (.iload_n 1, 1) := by decide +kernel
theorem d_935_1 : decode (mB 935) 1 = .ok (.i2l, 1) := by decide +kernel
theorem d_935_2 : decode (mB 935) 2 = .ok (.lconst 1, 1) := by decide +kernel
theorem d_935_3 : decode (mB 935) 3 = .ok (.ldc2_w 249, 3) := by decide +kernel
theorem d_935_6 : decode (mB 935) 6 = .ok (.invokestatic 83, 3) := by decide +kernel
theorem d_935_9 : decode (mB 935) 9 = .ok (.ifCond .ne 6, 3) := by decide +kernel
theorem d_935_12 : decode (mB 935) 12 = .ok (.ldc 87, 2) := by decide +kernel
theorem d_935_14 : decode (mB 935) 14 = .ok (.ireturn, 1) := by decide +kernel
theorem d_935_15 : decode (mB 935) 15 = .ok (.aload_n 0, 1) := by decide +kernel
theorem d_935_16 : decode (mB 935) 16 = .ok (.getfield 7, 3) := by decide +kernel
theorem d_935_19 : decode (mB 935) 19 = .ok (.bipush 21, 2) := by decide +kernel
theorem d_935_21 : decode (mB 935) 21 = .ok (.dup2, 1) := by decide +kernel
theorem d_935_22 : decode (mB 935) 22 = .ok (.iaload, 1) := by decide +kernel
theorem d_935_23 : decode (mB 935) 23 = .ok (.iload_n 1, 1) := by decide +kernel
theorem d_935_24 : decode (mB 935) 24 = .ok (.iadd, 1) := by decide +kernel
theorem d_935_25 : decode (mB 935) 25 = .ok (.iastore, 1) := by decide +kernel
theorem d_935_26 : decode (mB 935) 26 = .ok (.aload_n 0, 1) := by decide +kernel
theorem d_935_27 : decode (mB 935) 27 = .ok (.getfield 7, 3) := by decide +kernel
theorem d_935_30 : decode (mB 935) 30 = .ok (.bipush 21, 2) := by decide +kernel
theorem d_935_32 : decode (mB 935) 32 = .ok (.iaload, 1) := by decide +kernel
theorem d_935_33 : decode (mB 935) 33 = .ok (.ireturn, 1) := by decide +kernel
theorem d_936_0 : decode (mB 936) 0 = .ok (.aload_n 0, 1) := by decide +kernel
theorem d_936_1 : decode (mB 936) 1 = .ok (.iload_n 1, 1) := by decide +kernel
theorem d_936_2 : decode (mB 936) 2 = .ok (.invokevirtual 227, 3) := by decide +kernel
theorem d_936_5 : decode (mB 936) 5 = .ok (.ifCond .ne 6, 3) := by decide +kernel
theorem d_936_8 : decode (mB 936) 8 = .ok (.ldc 231, 2) := by decide +kernel
theorem d_936_10 : decode (mB 936) 10 = .ok (.ireturn, 1) := by decide +kernel
theorem d_936_11 : decode (mB 936) 11 = .ok (.aload_n 0, 1) := by decide +kernel
theorem d_936_12 : decode (mB 936) 12 = .ok (.getfield 23, 3) := by decide +kernel
theorem d_936_15 : decode (mB 936) 15 = .ok (.aload_n 0, 1) := by decide +kernel
theorem d_936_16 : decode (mB 936) 16 = .ok (.getfield 7, 3) := by decide +kernel
theorem d_936_19 : decode (mB 936) 19 = .ok (.bipush 22, 2) := by decide +kernel
theorem d_936_21 : decode (mB 936) 21 = .ok (.iaload, 1) := by decide +kernel
theorem d_936_22 : decode (mB 936) 22 = .ok (.iaload, 1) := by decide +kernel
theorem d_936_23 : decode (mB 936) 23 = .ok (.iload_n 1, 1) := by decide +kernel
theorem d_936_24 : decode (mB 936) 24 = .ok (.invokestatic 124, 3) := by decide +kernel
theorem d_936_27 : decode (mB 936) 27 = .ok (.ifCond .ne 6, 3) := by decide +kernel
theorem d_936_30 : decode (mB 936) 30 = .ok (.ldc 251, 2) := by decide +kernel
theorem d_936_32 : decode (mB 936) 32 = .ok (.ireturn, 1) := by decide +kernel
theorem d_936_33 : decode (mB 936) 33 = .ok (.aload_n 0, 1) := by decide +kernel
theorem d_936_34 : decode (mB 936) 34 = .ok (.getfield 7, 3) := by decide +kernel
theorem d_936_37 : decode (mB 936) 37 = .ok (.bipush 22, 2) := by decide +kernel
theorem d_936_39 : decode (mB 936) 39 = .ok (.iload_n 1, 1) := by decide +kernel
theorem d_936_40 : decode (mB 936) 40 = .ok (.iastore, 1) := by decide +kernel
theorem d_936_41 : decode (mB 936) 41 = .ok (.aload_n 0, 1) := by decide +kernel
theorem d_936_42 : decode (mB 936) 42 = .ok (.getfield 7, 3) := by decide +kernel
theorem d_936_45 : decode (mB 936) 45 = .ok (.bipush 21, 2) := by decide +kernel
theorem d_936_47 : decode (mB 936) 47 = .ok (.dup2, 1) := by decide +kernel
theorem d_936_48 : decode (mB 936) 48 = .ok (.iaload, 1) := by decide +kernel
theorem d_936_49 : decode (mB 936) 49 = .ok (.iconst 1, 1) := by decide +kernel
theorem d_936_50 : decode (mB 936) 50 = .ok (.iadd, 1) := by decide +kernel
theorem d_936_51 : decode (mB 936) 51 = .ok (.iastore, 1) := by decide +kernel
theorem d_936_52 : decode (mB 936) 52 = .ok (.aload_n 0, 1) := by decide +kernel
theorem d_936_53 : decode (mB 936) 53 = .ok (.getfield 7, 3) := by decide +kernel
theorem d_936_56 : decode (mB 936) 56 = .ok (.bipush 21, 2) := by decide +kernel
theorem d_936_58 : decode (mB 936) 58 = .ok (.iaload, 1) := by decide +kernel
theorem d_936_59 : decode (mB 936) 59 = .ok (.ireturn, 1) := by decide +kernel
theorem d_937_0 : decode (mB 937) 0 = .ok (.aload_n 0, 1) := by decide +kernel
theorem d_937_1 : decode (mB 937) 1 = .ok (.getfield 188, 3) := by decide +kernel
theorem d_937_4 : decode (mB 937) 4 = .ok (.ifCond .ne 6, 3) := by decide +kernel
theorem d_937_7 : decode (mB 937) 7 = .ok (.ldc 251, 2) := by decide +kernel
theorem d_937_9 : decode (mB 937) 9 = .ok (.ireturn, 1) := by decide +kernel
theorem d_937_10 : decode (mB 937) 10 = .ok (.iconst 0, 1) := by decide +kernel
theorem d_937_11 : decode (mB 937) 11 = .ok (.istore_n 1, 1) := by decide +kernel
theorem d_937_12 : decode (mB 937) 12 = .ok (.iconst 0, 1) := by decide +kernel
theorem d_937_13 : decode (mB 937) 13 = .ok (.istore_n 2, 1) := by decide +kernel
theorem d_937_14 : decode (mB 937) 14 = .ok (.iload_n 2, 1) := by decide +kernel
theorem d_937_15 : decode (mB 937) 15 = .ok (.aload_n 0, 1) := by decide +kernel
theorem d_937_16 : decode (mB 937) 16 = .ok (.getfield 191, 3) := by decide +kernel
theorem d_937_19 : decode (mB 937) 19 = .ok (.if_icmp .ge 97, 3) := by decide +kernel
theorem d_937_22 : decode (mB 937) 22 = .ok (.aload_n 0, 1) := by decide +kernel
theorem d_937_23 : decode (mB 937) 23 = .ok (.getfield 7, 3) := by decide +kernel
theorem d_937_26 : decode (mB 937) 26 = .ok (.iload_n 2, 1) := by decide +kernel
theorem d_937_27 : decode (mB 937) 27 = .ok (.iaload, 1) := by decide +kernel
theorem d_937_28 : decode (mB 937) 28 = .ok (.aload_n 0, 1) := by decide +kernel
theorem d_937_29 : decode (mB 937) 29 = .ok (.getfield 7, 3) := by decide +kernel
theorem d_937_32 : decode (mB 937) 32 = .ok (.bipush 22, 2) := by decide +kernel
theorem d_937_34 : decode (mB 937) 34 = .ok (.iaload, 1) := by decide +kernel
theorem d_937_35 : decode (mB 937) 35 = .ok (.if_icmp .ne 75, 3) := by decide +kernel
theorem d_937_38 : decode (mB 937) 38 = .ok (.aload_n 0, 1) := by decide +kernel
theorem d_937_39 : decode (mB 937) 39 = .ok (.getfield 7, 3) := by decide +kernel
theorem d_937_42 : decode (mB 937) 42 = .ok (.bipush 18, 2) := by decide +kernel
theorem d_937_44 : decode (mB 937) 44 = .ok (.iaload, 1) := by decide +kernel
theorem d_937_45 : decode (mB 937) 45 = .ok (.iload_n 2, 1) := by decide +kernel
theorem d_937_46 : decode (mB 937) 46 = .ok (.invokestatic 124, 3) := by decide +kernel
theorem d_937_49 : decode (mB 937) 49 = .ok (.ifCond .ne 61, 3) := by decide +kernel
theorem d_937_52 : decode (mB 937) 52 = .ok (.aload_n 0, 1) := by decide +kernel
theorem d_937_53 : decode (mB 937) 53 = .ok (.aload_n 0, 1) := by decide +kernel
theorem d_937_54 : decode (mB 937) 54 = .ok (.iload_n 2, 1) := by decide +kernel
theorem d_937_55 : decode (mB 937) 55 = .ok (.aload_n 0, 1) := by decide +kernel
theorem d_937_56 : decode (mB 937) 56 = .ok (.getfield 7, 3) := by decide +kernel
theorem d_937_59 : decode (mB 937) 59 = .ok (.bipush 21, 2) := by decide +kernel
theorem d_937_61 : decode (mB 937) 61 = .ok (.iaload, 1) := by decide +kernel
theorem d_937_62 : decode (mB 937) 62 = .ok (.invokevirtual 241, 3) := by decide +kernel
theorem d_937_65 : decode (mB 937) 65 = .ok (.aload_n 0, 1) := by decide +kernel
theorem d_937_66 : decode (mB 937) 66 = .ok (.invokevirtual 220, 3) := by decide +kernel
theorem d_937_69 : decode (mB 937) 69 = .ok (.invokevirtual 244, 3) := by decide +kernel
theorem d_937_72 : decode (mB 937) 72 = .ok (.istore_n 3, 1) := by decide +kernel
theorem d_937_73 : decode (mB 937) 73 = .ok (.aload_n 0, 1) := by decide +kernel
theorem d_937_74 : decode (mB 937) 74 = .ok (.getfield 7, 3) := by decide +kernel
theorem d_937_77 : decode (mB 937) 77 = .ok (.bipush 20, 2) := by decide +kernel
theorem d_937_79 : decode (mB 937) 79 = .ok (.dup2, 1) := by decide +kernel
theorem d_937_80 : decode (mB 937) 80 = .ok (.iaload, 1) := by decide +kernel
theorem d_937_81 : decode (mB 937) 81 = .ok (.aload_n 0, 1) := by decide +kernel
theorem d_937_82 : decode (mB 937) 82 = .ok (.getfield 7, 3) := by decide +kernel
theorem d_937_85 : decode (mB 937) 85 = .ok (.bipush 20, 2) := by decide +kernel
theorem d_937_87 : decode (mB 937) 87 = .ok (.iaload, 1) := by decide +kernel
theorem d_937_88 : decode (mB 937) 88 = .ok (.sipush 9999, 3) := by decide +kernel
theorem d_937_91 : decode (mB 937) 91 = .ok (.if_icmp .ge 7, 3) := by decide +kernel
theorem d_937_94 : decode (mB 937) 94 = .ok (.iconst 1, 1) := by decide +kernel
theorem d_937_95 : decode (mB 937) 95 = .ok (.goto 4, 3) := by decide +kernel
theorem d_937_98 : decode (mB 937) 98 = .ok (.iconst 0, 1) := by decide +kernel
theorem d_937_99 : decode (mB 937) 99 = .ok (.iadd, 1) := by decide +kernel
theorem d_937_100 : decode (mB 937) 100 = .ok (.iastore, 1) := by decide +kernel
theorem d_937_101 : decode (mB 937) 101 = .ok (.iload_n 1, 1) := by decide +kernel
theorem d_937_102 : decode (mB 937) 102 = .ok (.iload_n 3, 1) := by decide +kernel
theorem d_937_103 : decode (mB 937) 103 = .ok (.invokestatic 223, 3) := by decide +kernel
theorem d_937_106 : decode (mB 937) 106 = .ok (.iload_n 2, 1) := by decide +kernel
theorem d_937_107 : decode (mB 937) 107 = .ok (.ishl, 1) := by decide +kernel
theorem d_937_108 : decode (mB 937) 108 = .ok (.ior, 1) := by decide +kernel
theorem d_937_109 : decode (mB 937) 109 = .ok (.istore_n 1, 1) := by decide +kernel
theorem d_937_110 : decode (mB 937) 110 = .ok (.iinc 2 1, 3) := by decide +kernel
theorem d_937_113 : decode (mB 937) 113 = .ok (.goto (-99), 3) := by decide +kernel
theorem d_937_116 : decode (mB 937) 116 = .ok (.aload_n 0, 1) := by decide +kernel
theorem d_937_117 : decode (mB 937) 117 = .ok (.getfield 7, 3) := by decide +kernel
theorem d_937_120 : decode (mB 937) 120 = .ok (.bipush 19, 2) := by decide +kernel
theorem d_937_122 : decode (mB 937) 122 = .ok (.aload_n 0, 1) := by decide +kernel
theorem d_937_123 : decode (mB 937) 123 = .ok (.getfield 191, 3) := by decide +kernel
theorem d_937_126 : decode (mB 937) 126 = .ok (.ifCond .le 18, 3) := by decide +kernel
theorem d_937_129 : decode (mB 937) 129 = .ok (.iload_n 1, 1) := by decide +kernel
theorem d_937_130 : decode (mB 937) 130 = .ok (.aload_n 0, 1) := by decide +kernel
theorem d_937_131 : decode (mB 937) 131 = .ok (.getfield 197, 3) := by decide +kernel
theorem d_937_134 : decode (mB 937) 134 = .ok (.invokestatic 124, 3) := by decide +kernel
theorem d_937_137 : decode (mB 937) 137 = .ok (.ifCond .eq 7, 3) := by decide +kernel
theorem d_937_140 : decode (mB 937) 140 = .ok (.iconst 1, 1) := by decide +kernel
theorem d_937_141 : decode (mB 937) 141 = .ok (.goto 10, 3) := by decide +kernel
theorem d_937_144 : decode (mB 937) 144 = .ok (.aload_n 0, 1) := by decide +kernel
theorem d_937_145 : decode (mB 937) 145 = .ok (.getfield 7, 3) := by decide +kernel
theorem d_937_148 : decode (mB 937) 148 = .ok (.bipush 19, 2) := by decide +kernel
theorem d_937_150 : decode (mB 937) 150 = .ok (.iaload, 1) := by decide +kernel
theorem d_937_151 : decode (mB 937) 151 = .ok (.iastore, 1) := by decide +kernel
theorem d_937_152 : decode (mB 937) 152 = .ok (.aload_n 0, 1) := by decide +kernel
theorem d_937_153 : decode (mB 937) 153 = .ok (.getfield 7, 3) := by decide +kernel
theorem d_937_156 : decode (mB 937) 156 = .ok (.bipush 18, 2) := by decide +kernel
theorem d_937_158 : decode (mB 937) 158 = .ok (.dup2, 1) := by decide +kernel
theorem d_937_159 : decode (mB 937) 159 = .ok (.iaload, 1) := by decide +kernel
theorem d_937_160 : decode (mB 937) 160 = .ok (.iload_n 1, 1) := by decide +kernel
theorem d_937_161 : decode (mB 937) 161 = .ok (.iconst 1, 1) := by decide +kernel
theorem d_937_162 : decode (mB 937) 162 = .ok (.aload_n 0, 1) := by decide +kernel
theorem d_937_163 : decode (mB 937) 163 = .ok (.getfield 197, 3) := by decide +kernel
theorem d_937_166 : decode (mB 937) 166 = .ok (.ishl, 1) := by decide +kernel
theorem d_937_167 : decode (mB 937) 167 = .ok (.iconst (-1), 1) := by decide +kernel
theorem d_937_168 : decode (mB 937) 168 = .ok (.ixor, 1) := by decide +kernel
theorem d_937_169 : decode (mB 937) 169 = .ok (.iand, 1) := by decide +kernel
theorem d_937_170 : decode (mB 937) 170 = .ok (.ior, 1) := by decide +kernel
theorem d_937_171 : decode (mB 937) 171 = .ok (.iastore, 1) := by decide +kernel
theorem d_937_172 : decode (mB 937) 172 = .ok (.iload_n 1, 1) := by decide +kernel
theorem d_937_173 : decode (mB 937) 173 = .ok (.ireturn, 1) := by decide +kernel
theorem d_938_0 : decode (mB 938) 0 = .ok (.aload_n 0, 1) := by decide +kernel
theorem d_938_1 : decode (mB 938) 1 = .ok (.iload_n 1, 1) := by decide +kernel
theorem d_938_2 : decode (mB 938) 2 = .ok (.invokevirtual 235, 3) := by decide +kernel
theorem d_938_5 : decode (mB 938) 5 = .ok (.ifCond .ne 6, 3) := by decide +kernel
theorem d_938_8 : decode (mB 938) 8 = .ok (.ldc 231, 2) := by decide +kernel
theorem d_938_10 : decode (mB 938) 10 = .ok (.ireturn, 1) := by decide +kernel
theorem d_938_11 : decode (mB 938) 11 = .ok (.aload_n 0, 1) := by decide +kernel
theorem d_938_12 : decode (mB 938) 12 = .ok (.iload_n 1, 1) := by decide +kernel
theorem d_938_13 : decode (mB 938) 13 = .ok (.aload_n 0, 1) := by decide +kernel
theorem d_938_14 : decode (mB 938) 14 = .ok (.getfield 7, 3) := by decide +kernel
theorem d_938_17 : decode (mB 938) 17 = .ok (.bipush 21, 2) := by decide +kernel
theorem d_938_19 : decode (mB 938) 19 = .ok (.iaload, 1) := by decide +kernel
theorem d_938_20 : decode (mB 938) 20 = .ok (.invokevirtual 213, 3) := by decide +kernel
theorem d_938_23 : decode (mB 938) 23 = .ok (.invokestatic 223, 3) := by decide +kernel
theorem d_938_26 : decode (mB 938) 26 = .ok (.istore_n 2, 1) := by decide +kernel
theorem d_938_27 : decode (mB 938) 27 = .ok (.aload_n 0, 1) := by decide +kernel
theorem d_938_28 : decode (mB 938) 28 = .ok (.getfield 7, 3) := by decide +kernel
theorem d_938_31 : decode (mB 938) 31 = .ok (.bipush 12, 2) := by decide +kernel
theorem d_938_33 : decode (mB 938) 33 = .ok (.iload_n 1, 1) := by decide +kernel
theorem d_938_34 : decode (mB 938) 34 = .ok (.iadd, 1) := by decide +kernel
theorem d_938_35 : decode (mB 938) 35 = .ok (.aload_n 0, 1) := by decide +kernel
theorem d_938_36 : decode (mB 938) 36 = .ok (.getfield 7, 3) := by decide +kernel
theorem d_938_39 : decode (mB 938) 39 = .ok (.bipush 21, 2) := by decide +kernel
theorem d_938_41 : decode (mB 938) 41 = .ok (.iaload, 1) := by decide +kernel
theorem d_938_42 : decode (mB 938) 42 = .ok (.iastore, 1) := by decide +kernel
theorem d_938_43 : decode (mB 938) 43 = .ok (.iload_n 2, 1) := by decide +kernel
theorem d_938_44 : decode (mB 938) 44 = .ok (.ireturn, 1) := by decide +kernel
theorem d_939_0 : decode (mB 939) 0 = .ok (.aload_n 0, 1) := by decide +kernel
theorem d_939_1 : decode (mB 939) 1 = .ok (.iload_n 1, 1) := by decide +kernel
theorem d_939_2 : decode (mB 939) 2 = .ok (.invokevirtual 235, 3) := by decide +kernel
theorem d_939_5 : decode (mB 939) 5 = .ok (.ifCond .ne 6, 3) := by decide +kernel
theorem d_939_8 : decode (mB 939) 8 = .ok (.ldc 231, 2) := by decide +kernel
theorem d_939_10 : decode (mB 939) 10 = .ok (.ireturn, 1) := by decide +kernel
theorem d_939_11 : decode (mB 939) 11 = .ok (.iload_n 2, 1) := by decide +kernel
theorem d_939_12 : decode (mB 939) 12 = .ok (.i2l, 1) := by decide +kernel
theorem d_939_13 : decode (mB 939) 13 = .ok (.lconst 0, 1) := by decide +kernel
theorem d_939_14 : decode (mB 939) 14 = .ok (.ldc2_w 252, 3) := by decide +kernel
theorem d_939_17 : decode (mB 939) 17 = .ok (.invokestatic 83, 3) := by decide +kernel
theorem d_939_20 : decode (mB 939) 20 = .ok (.ifCond .ne 6, 3) := by decide +kernel
theorem d_939_23 : decode (mB 939) 23 = .ok (.ldc 87, 2) := by decide +kernel
theorem d_939_25 : decode (mB 939) 25 = .ok (.ireturn, 1) := by decide +kernel
theorem d_939_26 : decode (mB 939) 26 = .ok (.aload_n 0, 1) := by decide +kernel
theorem d_939_27 : decode (mB 939) 27 = .ok (.getfield 7, 3) := by decide +kernel
theorem d_939_30 : decode (mB 939) 30 = .ok (.bipush 6, 2) := by decide +kernel
theorem d_939_32 : decode (mB 939) 32 = .ok (.iload_n 1, 1) := by decide +kernel
theorem d_939_33 : decode (mB 939) 33 = .ok (.iadd, 1) := by decide +kernel
theorem d_939_34 : decode (mB 939) 34 = .ok (.iaload, 1) := by decide +kernel
theorem d_939_35 : decode (mB 939) 35 = .ok (.istore_n 3, 1) := by decide +kernel
theorem d_939_36 : decode (mB 939) 36 = .ok (.aload_n 0, 1) := by decide +kernel
theorem d_939_37 : decode (mB 939) 37 = .ok (.getfield 7, 3) := by decide +kernel
theorem d_939_40 : decode (mB 939) 40 = .ok (.bipush 6, 2) := by decide +kernel
theorem d_939_42 : decode (mB 939) 42 = .ok (.iload_n 1, 1) := by decide +kernel
theorem d_939_43 : decode (mB 939) 43 = .ok (.iadd, 1) := by decide +kernel
theorem d_939_44 : decode (mB 939) 44 = .ok (.iload_n 2, 1) := by decide +kernel
theorem d_939_45 : decode (mB 939) 45 = .ok (.iastore, 1) := by decide +kernel
theorem d_939_46 : decode (mB 939) 46 = .ok (.iload_n 3, 1) := by decide +kernel
theorem d_939_47 : decode (mB 939) 47 = .ok (.ireturn, 1) := by decide +kernel
theorem d_940_0 : decode (mB 940) 0 = .ok (.aload_n 0, 1) := by decide +kernel
theorem d_940_1 : decode (mB 940) 1 = .ok (.iload_n 1, 1) := by decide +kernel
theorem d_940_2 : decode (mB 940) 2 = .ok (.invokevirtual 235, 3) := by decide +kernel
theorem d_940_5 : decode (mB 940) 5 = .ok (.ifCond .eq 11, 3) := by decide +kernel
theorem d_940_8 : decode (mB 940) 8 = .ok (.aload_n 0, 1) := by decide +kernel
theorem d_940_9 : decode (mB 940) 9 = .ok (.iload_n 2, 1) := by decide +kernel
theorem d_940_10 : decode (mB 940) 10 = .ok (.invokevirtual 227, 3) := by decide +kernel
theorem d_940_13 : decode (mB 940) 13 = .ok (.ifCond .ne 6, 3) := by decide +kernel
theorem d_940_16 : decode (mB 940) 16 = .ok (.ldc 231, 2) := by decide +kernel
theorem d_940_18 : decode (mB 940) 18 = .ok (.ireturn, 1) := by decide +kernel
theorem d_940_19 : decode (mB 940) 19 = .ok (.aload_n 0, 1) := by decide +kernel
theorem d_940_20 : decode (mB 940) 20 = .ok (.getfield 7, 3) := by decide +kernel
theorem d_940_23 : decode (mB 940) 23 = .ok (.iload_n 1, 1) := by decide +kernel
theorem d_940_24 : decode (mB 940) 24 = .ok (.iaload, 1) := by decide +kernel
theorem d_940_25 : decode (mB 940) 25 = .ok (.istore_n 3, 1) := by decide +kernel
theorem d_940_26 : decode (mB 940) 26 = .ok (.aload_n 0, 1) := by decide +kernel
theorem d_940_27 : decode (mB 940) 27 = .ok (.getfield 7, 3) := by decide +kernel
theorem d_940_30 : decode (mB 940) 30 = .ok (.iload_n 1, 1) := by decide +kernel
theorem d_940_31 : decode (mB 940) 31 = .ok (.iload_n 2, 1) := by decide +kernel
theorem d_940_32 : decode (mB 940) 32 = .ok (.iastore, 1) := by decide +kernel
theorem d_940_33 : decode (mB 940) 33 = .ok (.iload_n 3, 1) := by decide +kernel
theorem d_940_34 : decode (mB 940) 34 = .ok (.ireturn, 1) := by decide +kernel
theorem d_943_0 : decode (mB 943) 0 = .ok (.iload_n 1, 1) := by decide +kernel
theorem d_943_1 : decode (mB 943) 1 = .ok (.i2l, 1) := by decide +kernel
theorem d_943_2 : decode (mB 943) 2 = .ok (.lconst 1, 1) := by decide +kernel
theorem d_943_3 : decode (mB 943) 3 = .ok (.ldc2_w 147, 3) := by decide +kernel
theorem d_943_6 : decode (mB 943) 6 = .ok (.invokestatic 83, 3) := by decide +kernel
theorem d_943_9 : decode (mB 943) 9 = .ok (.ifCond .ne 6, 3) := by decide +kernel
theorem d_943_12 : decode (mB 943) 12 = .ok (.ldc 87, 2) := by decide +kernel
theorem d_943_14 : decode (mB 943) 14 = .ok (.ireturn, 1) := by decide +kernel
theorem d_943_15 : decode (mB 943) 15 = .ok (.aload_n 0, 1) := by decide +kernel
theorem d_943_16 : decode (mB 943) 16 = .ok (.getfield 191, 3) := by decide +kernel
theorem d_943_19 : decode (mB 943) 19 = .ok (.ifCond .ne 6, 3) := by decide +kernel
theorem d_943_22 : decode (mB 943) 22 = .ok (.ldc 251, 2) := by decide +kernel
theorem d_943_24 : decode (mB 943) 24 = .ok (.ireturn, 1) := by decide +kernel
theorem d_943_25 : decode (mB 943) 25 = .ok (.iconst 0, 1) := by decide +kernel
theorem d_943_26 : decode (mB 943) 26 = .ok (.istore_n 2, 1) := by decide +kernel
theorem d_943_27 : decode (mB 943) 27 = .ok (.iload_n 2, 1) := by decide +kernel
theorem d_943_28 : decode (mB 943) 28 = .ok (.iload_n 1, 1) := by decide +kernel
theorem d_943_29 : decode (mB 943) 29 = .ok (.if_icmp .ge 58, 3) := by decide +kernel
theorem d_943_32 : decode (mB 943) 32 = .ok (.aload_n 0, 1) := by decide +kernel
theorem d_943_33 : decode (mB 943) 33 = .ok (.invokevirtual 267, 3) := by decide +kernel
theorem d_943_36 : decode (mB 943) 36 = .ok (.aload_n 0, 1) := by decide +kernel
theorem d_943_37 : decode (mB 943) 37 = .ok (.getfield 7, 3) := by decide +kernel
theorem d_943_40 : decode (mB 943) 40 = .ok (.bipush 21, 2) := by decide +kernel
theorem d_943_42 : decode (mB 943) 42 = .ok (.dup2, 1) := by decide +kernel
theorem d_943_43 : decode (mB 943) 43 = .ok (.iaload, 1) := by decide +kernel
theorem d_943_44 : decode (mB 943) 44 = .ok (.iconst 1, 1) := by decide +kernel
theorem d_943_45 : decode (mB 943) 45 = .ok (.iadd, 1) := by decide +kernel
theorem d_943_46 : decode (mB 943) 46 = .ok (.iastore, 1) := by decide +kernel
theorem d_943_47 : decode (mB 943) 47 = .ok (.aload_n 0, 1) := by decide +kernel
theorem d_943_48 : decode (mB 943) 48 = .ok (.bipush 6, 2) := by decide +kernel
theorem d_943_50 : decode (mB 943) 50 = .ok (.invokevirtual 264, 3) := by decide +kernel
theorem d_943_53 : decode (mB 943) 53 = .ok (.ifCond .ne 28, 3) := by decide +kernel
theorem d_943_56 : decode (mB 943) 56 = .ok (.aload_n 0, 1) := by decide +kernel
theorem d_943_57 : decode (mB 943) 57 = .ok (.aload_n 0, 1) := by decide +kernel
theorem d_943_58 : decode (mB 943) 58 = .ok (.getfield 191, 3) := by decide +kernel
theorem d_943_61 : decode (mB 943) 61 = .ok (.invokevirtual 264, 3) := by decide +kernel
theorem d_943_64 : decode (mB 943) 64 = .ok (.istore_n 3, 1) := by decide +kernel
theorem d_943_65 : decode (mB 943) 65 = .ok (.aload_n 0, 1) := by decide +kernel
theorem d_943_66 : decode (mB 943) 66 = .ok (.getfield 7, 3) := by decide +kernel
theorem d_943_69 : decode (mB 943) 69 = .ok (.bipush 12, 2) := by decide +kernel
theorem d_943_71 : decode (mB 943) 71 = .ok (.iload_n 3, 1) := by decide +kernel
theorem d_943_72 : decode (mB 943) 72 = .ok (.iadd, 1) := by decide +kernel
theorem d_943_73 : decode (mB 943) 73 = .ok (.aload_n 0, 1) := by decide +kernel
theorem d_943_74 : decode (mB 943) 74 = .ok (.getfield 7, 3) := by decide +kernel
theorem d_943_77 : decode (mB 943) 77 = .ok (.bipush 21, 2) := by decide +kernel
theorem d_943_79 : decode (mB 943) 79 = .ok (.iaload, 1) := by decide +kernel
theorem d_943_80 : decode (mB 943) 80 = .ok (.iastore, 1) := by decide +kernel
theorem d_943_81 : decode (mB 943) 81 = .ok (.iinc 2 1, 3) := by decide +kernel
theorem d_943_84 : decode (mB 943) 84 = .ok (.goto (-57), 3) := by decide +kernel
theorem d_943_87 : decode (mB 943) 87 = .ok (.aload_n 0, 1) := by decide +kernel
theorem d_943_88 : decode (mB 943) 88 = .ok (.getfield 7, 3) := by decide +kernel
theorem d_943_91 : decode (mB 943) 91 = .ok (.aload_n 0, 1) := by decide +kernel
theorem d_943_92 : decode (mB 943) 92 = .ok (.getfield 197, 3) := by decide +kernel
theorem d_943_95 : decode (mB 943) 95 = .ok (.iaload, 1) := by decide +kernel
theorem d_943_96 : decode (mB 943) 96 = .ok (.ireturn, 1) := by decide +kernel
theorem d_946_0 : decode (mB 946) 0 = .ok (.aload_n 0, 1) := by decide +kernel
theorem d_946_1 : decode (mB 946) 1 = .ok (.iload_n 1, 1) := by decide +kernel
theorem d_946_2 : decode (mB 946) 2 = .ok (.invokevirtual 235, 3) := by decide +kernel
theorem d_946_5 : decode (mB 946) 5 = .ok (.ifCond .ne 6, 3) := by decide +kernel
theorem d_946_8 : decode (mB 946) 8 = .ok (.ldc 231, 2) := by decide +kernel
theorem d_946_10 : decode (mB 946) 10 = .ok (.ireturn, 1) := by decide +kernel
theorem d_946_11 : decode (mB 946) 11 = .ok (.aload_n 0, 1) := by decide +kernel
theorem d_946_12 : decode (mB 946) 12 = .ok (.iload_n 1, 1) := by decide +kernel
theorem d_946_13 : decode (mB 946) 13 = .ok (.invokevirtual 274, 3) := by decide +kernel
theorem d_946_16 : decode (mB 946) 16 = .ok (.istore_n 3, 1) := by decide +kernel
theorem d_946_17 : decode (mB 946) 17 = .ok (.iload_n 3, 1) := by decide +kernel
theorem d_946_18 : decode (mB 946) 18 = .ok (.ifCond .lt 12, 3) := by decide +kernel
theorem d_946_21 : decode (mB 946) 21 = .ok (.iload_n 2, 1) := by decide +kernel
theorem d_946_22 : decode (mB 946) 22 = .ok (.ifCond .lt 8, 3) := by decide +kernel
theorem d_946_25 : decode (mB 946) 25 = .ok (.iload_n 2, 1) := by decide +kernel
theorem d_946_26 : decode (mB 946) 26 = .ok (.iload_n 3, 1) := by decide +kernel
theorem d_946_27 : decode (mB 946) 27 = .ok (.if_icmp .le 18, 3) := by decide +kernel
theorem d_946_30 : decode (mB 946) 30 = .ok (.iload_n 3, 1) := by decide +kernel
theorem d_946_31 : decode (mB 946) 31 = .ok (.ifCond .lt 12, 3) := by decide +kernel
theorem d_946_34 : decode (mB 946) 34 = .ok (.iload_n 2, 1) := by decide +kernel
theorem d_946_35 : decode (mB 946) 35 = .ok (.iconst (-1), 1) := by decide +kernel
theorem d_946_36 : decode (mB 946) 36 = .ok (.if_icmp .ne 7, 3) := by decide +kernel
theorem d_946_39 : decode (mB 946) 39 = .ok (.iload_n 3, 1) := by decide +kernel
theorem d_946_40 : decode (mB 946) 40 = .ok (.goto 4, 3) := by decide +kernel
theorem d_946_43 : decode (mB 946) 43 = .ok (.iconst (-1), 1) := by decide +kernel
theorem d_946_44 : decode (mB 946) 44 = .ok (.ireturn, 1) := by decide +kernel
theorem d_946_45 : decode (mB 946) 45 = .ok (.aload_n 0, 1) := by decide +kernel
theorem d_946_46 : decode (mB 946) 46 = .ok (.getfield 7, 3) := by decide +kernel
theorem d_946_49 : decode (mB 946) 49 = .ok (.bipush 22, 2) := by decide +kernel
theorem d_946_51 : decode (mB 946) 51 = .ok (.iaload, 1) := by decide +kernel
theorem d_946_52 : decode (mB 946) 52 = .ok (.istore 4, 2) := by decide +kernel
theorem d_946_54 : decode (mB 946) 54 = .ok (.iconst 0, 1) := by decide +kernel
theorem d_946_55 : decode (mB 946) 55 = .ok (.istore 5, 2) := by decide +kernel
theorem d_946_57 : decode (mB 946) 57 = .ok (.iload 5, 2) := by decide +kernel
theorem d_946_59 : decode (mB 946) 59 = .ok (.iload_n 2, 1) := by decide +kernel
theorem d_946_60 : decode (mB 946) 60 = .ok (.if_icmp .ge 60, 3) := by decide +kernel
theorem d_946_63 : decode (mB 946) 63 = .ok (.iconst 0, 1) := by decide +kernel
theorem d_946_64 : decode (mB 946) 64 = .ok (.istore 6, 2) := by decide +kernel
theorem d_946_66 : decode (mB 946) 66 = .ok (.iload 6, 2) := by decide +kernel
theorem d_946_68 : decode (mB 946) 68 = .ok (.iload 4, 2) := by decide +kernel
theorem d_946_70 : decode (mB 946) 70 = .ok (.if_icmp .eq 18, 3) := by decide +kernel
theorem d_946_73 : decode (mB 946) 73 = .ok (.aload_n 0, 1) := by decide +kernel
theorem d_946_74 : decode (mB 946) 74 = .ok (.getfield 23, 3) := by decide +kernel
theorem d_946_77 : decode (mB 946) 77 = .ok (.iload 4, 2) := by decide +kernel
theorem d_946_79 : decode (mB 946) 79 = .ok (.iaload, 1) := by decide +kernel
theorem d_946_80 : decode (mB 946) 80 = .ok (.iload 6, 2) := by decide +kernel
theorem d_946_82 : decode (mB 946) 82 = .ok (.invokestatic 124, 3) := by decide +kernel
theorem d_946_85 : decode (mB 946) 85 = .ok (.ifCond .eq 19, 3) := by decide +kernel
theorem d_946_88 : decode (mB 946) 88 = .ok (.aload_n 0, 1) := by decide +kernel
theorem d_946_89 : decode (mB 946) 89 = .ok (.getfield 51, 3) := by decide +kernel
theorem d_946_92 : decode (mB 946) 92 = .ok (.iload 6, 2) := by decide +kernel
theorem d_946_94 : decode (mB 946) 94 = .ok (.iaload, 1) := by decide +kernel
theorem d_946_95 : decode (mB 946) 95 = .ok (.iload_n 3, 1) := by decide +kernel
theorem d_946_96 : decode (mB 946) 96 = .ok (.iload 5, 2) := by decide +kernel
theorem d_946_98 : decode (mB 946) 98 = .ok (.isub, 1) := by decide +kernel
theorem d_946_99 : decode (mB 946) 99 = .ok (.iconst 1, 1) := by decide +kernel
theorem d_946_100 : decode (mB 946) 100 = .ok (.isub, 1) := by decide +kernel
theorem d_946_101 : decode (mB 946) 101 = .ok (.if_icmp .le 9, 3) := by decide +kernel
theorem d_946_104 : decode (mB 946) 104 = .ok (.iinc 6 1, 3) := by decide +kernel
theorem d_946_107 : decode (mB 946) 107 = .ok (.goto (-41), 3) := by decide +kernel
theorem d_946_110 : decode (mB 946) 110 = .ok (.iload 6, 2) := by decide +kernel
theorem d_946_112 : decode (mB 946) 112 = .ok (.istore 4, 2) := by decide +kernel
theorem d_946_114 : decode (mB 946) 114 = .ok (.iinc 5 1, 3) := by decide +kernel
theorem d_946_117 : decode (mB 946) 117 = .ok (.goto (-60), 3) := by decide +kernel
theorem d_946_120 : decode (mB 946) 120 = .ok (.iload 4, 2) := by decide +kernel
theorem d_946_122 : decode (mB 946) 122 = .ok (.ireturn, 1) := by decide +kernel
theorem d_953_0 : decode (mB 953) 0 = .ok (.iload_n 1, 1) := by decide +kernel
theorem d_953_1 : decode (mB 953) 1 = .ok (.i2l, 1) := by decide +kernel
theorem d_953_2 : decode (mB 953) 2 = .ok (.lconst 1, 1) := by decide +kernel
theorem d_953_3 : decode (mB 953) 3 = .ok (.ldc2_w 293, 3) := by decide +kernel
theorem d_953_6 : decode (mB 953) 6 = .ok (.invokestatic 83, 3) := by decide +kernel
theorem d_953_9 : decode (mB 953) 9 = .ok (.ifCond .ne 6, 3) := by decide +kernel
theorem d_953_12 : decode (mB 953) 12 = .ok (.ldc 87, 2) := by decide +kernel
theorem d_953_14 : decode (mB 953) 14 = .ok (.ireturn, 1) := by decide +kernel
theorem d_953_15 : decode (mB 953) 15 = .ok (.aload_n 0, 1) := by decide +kernel
theorem d_953_16 : decode (mB 953) 16 = .ok (.getfield 188, 3) := by decide +kernel
theorem d_953_19 : decode (mB 953) 19 = .ok (.ifCond .ne 8, 3) := by decide +kernel
theorem d_953_22 : decode (mB 953) 22 = .ok (.ldc 251, 2) := by decide +kernel
theorem d_953_24 : decode (mB 953) 24 = .ok (.goto 8, 3) := by decide +kernel
theorem d_953_27 : decode (mB 953) 27 = .ok (.aload_n 0, 1) := by decide +kernel
theorem d_953_28 : decode (mB 953) 28 = .ok (.iload_n 1, 1) := by decide +kernel
theorem d_953_29 : decode (mB 953) 29 = .ok (.invokevirtual 295, 3) := by decide +kernel
theorem d_953_32 : decode (mB 953) 32 = .ok (.ireturn, 1) := by decide +kernel
theorem d_954_0 : decode (mB 954) 0 = .ok (.aload_n 0, 1) := by decide +kernel
theorem d_954_1 : decode (mB 954) 1 = .ok (.getfield 188, 3) := by decide +kernel
theorem d_954_4 : decode (mB 954) 4 = .ok (.ifCond .ne 5, 3) := by decide +kernel
theorem d_954_7 : decode (mB 954) 7 = .ok (.iconst (-1), 1) := by decide +kernel
theorem d_954_8 : decode (mB 954) 8 = .ok (.ireturn, 1) := by decide +kernel
theorem d_954_9 : decode (mB 954) 9 = .ok (.aload_n 0, 1) := by decide +kernel
theorem d_954_10 : decode (mB 954) 10 = .ok (.iconst 1, 1) := by decide +kernel
theorem d_954_11 : decode (mB 954) 11 = .ok (.invokevirtual 295, 3) := by decide +kernel
theorem d_954_14 : decode (mB 954) 14 = .ok (.ifCond .lt 7, 3) := by decide +kernel
theorem d_954_17 : decode (mB 954) 17 = .ok (.iconst 1, 1) := by decide +kernel
theorem d_954_18 : decode (mB 954) 18 = .ok (.goto 16, 3) := by decide +kernel
theorem d_954_21 : decode (mB 954) 21 = .ok (.aload_n 0, 1) := by decide +kernel
theorem d_954_22 : decode (mB 954) 22 = .ok (.iconst 2, 1) := by decide +kernel
theorem d_954_23 : decode (mB 954) 23 = .ok (.invokevirtual 295, 3) := by decide +kernel
theorem d_954_26 : decode (mB 954) 26 = .ok (.ifCond .lt 7, 3) := by decide +kernel
theorem d_954_29 : decode (mB 954) 29 = .ok (.iconst 2, 1) := by decide +kernel
theorem d_954_30 : decode (mB 954) 30 = .ok (.goto 4, 3) := by decide +kernel
theorem d_954_33 : decode (mB 954) 33 = .ok (.iconst (-1), 1) := by decide +kernel
theorem d_954_34 : decode (mB 954) 34 = .ok (.ireturn, 1) := by decide +kernel
theorem d_957_0 : decode (mB 957) 0 = .ok (.aload_n 0, 1) := by decide +kernel
theorem d_957_1 : decode (mB 957) 1 = .ok (.iload_n 1, 1) := by decide +kernel
theorem d_957_2 : decode (mB 957) 2 = .ok (.invokevirtual 235, 3) := by decide +kernel
theorem d_957_5 : decode (mB 957) 5 = .ok (.ifCond .ne 6, 3) := by decide +kernel
theorem d_957_8 : decode (mB 957) 8 = .ok (.ldc 231, 2) := by decide +kernel
theorem d_957_10 : decode (mB 957) 10 = .ok (.ireturn, 1) := by decide +kernel
theorem d_957_11 : decode (mB 957) 11 = .ok (.iload_n 2, 1) := by decide +kernel
theorem d_957_12 : decode (mB 957) 12 = .ok (.i2l, 1) := by decide +kernel
theorem d_957_13 : decode (mB 957) 13 = .ok (.lconst 0, 1) := by decide +kernel
theorem d_957_14 : decode (mB 957) 14 = .ok (.lconst 1, 1) := by decide +kernel
theorem d_957_15 : decode (mB 957) 15 = .ok (.invokestatic 83, 3) := by decide +kernel
theorem d_957_18 : decode (mB 957) 18 = .ok (.ifCond .ne 6, 3) := by decide +kernel
theorem d_957_21 : decode (mB 957) 21 = .ok (.ldc 87, 2) := by decide +kernel
theorem d_957_23 : decode (mB 957) 23 = .ok (.ireturn, 1) := by decide +kernel
theorem d_957_24 : decode (mB 957) 24 = .ok (.iconst 0, 1) := by decide +kernel
theorem d_957_25 : decode (mB 957) 25 = .ok (.istore_n 3, 1) := by decide +kernel
theorem d_957_26 : decode (mB 957) 26 = .ok (.iload_n 3, 1) := by decide +kernel
theorem d_957_27 : decode (mB 957) 27 = .ok (.bipush 24, 2) := by decide +kernel
theorem d_957_29 : decode (mB 957) 29 = .ok (.if_icmp .ge 49, 3) := by decide +kernel
theorem d_957_32 : decode (mB 957) 32 = .ok (.iload_n 3, 1) := by decide +kernel
theorem d_957_33 : decode (mB 957) 33 = .ok (.iconst 1, 1) := by decide +kernel
theorem d_957_34 : decode (mB 957) 34 = .ok (.iadd, 1) := by decide +kernel
theorem d_957_35 : decode (mB 957) 35 = .ok (.istore 4, 2) := by decide +kernel
theorem d_957_37 : decode (mB 957) 37 = .ok (.iload 4, 2) := by decide +kernel
theorem d_957_39 : decode (mB 957) 39 = .ok (.bipush 24, 2) := by decide +kernel
theorem d_957_41 : decode (mB 957) 41 = .ok (.if_icmp .ge 31, 3) := by decide +kernel
theorem d_957_44 : decode (mB 957) 44 = .ok (.aload_n 0, 1) := by decide +kernel
theorem d_957_45 : decode (mB 957) 45 = .ok (.iload_n 1, 1) := by decide +kernel
theorem d_957_46 : decode (mB 957) 46 = .ok (.iload_n 3, 1) := by decide +kernel
theorem d_957_47 : decode (mB 957) 47 = .ok (.iload 4, 2) := by decide +kernel
theorem d_957_49 : decode (mB 957) 49 = .ok (.invokevirtual 303, 3) := by decide +kernel
theorem d_957_52 : decode (mB 957) 52 = .ok (.ifCond .eq 14, 3) := by decide +kernel
theorem d_957_55 : decode (mB 957) 55 = .ok (.iload_n 2, 1) := by decide +kernel
theorem d_957_56 : decode (mB 957) 56 = .ok (.ifCond .ne 7, 3) := by decide +kernel
theorem d_957_59 : decode (mB 957) 59 = .ok (.iload_n 3, 1) := by decide +kernel
theorem d_957_60 : decode (mB 957) 60 = .ok (.goto 5, 3) := by decide +kernel
theorem d_957_63 : decode (mB 957) 63 = .ok (.iload 4, 2) := by decide +kernel
theorem d_957_65 : decode (mB 957) 65 = .ok (.ireturn, 1) := by decide +kernel
theorem d_957_66 : decode (mB 957) 66 = .ok (.iinc 4 1, 3) := by decide +kernel
theorem d_957_69 : decode (mB 957) 69 = .ok (.goto (-32), 3) := by decide +kernel
theorem d_957_72 : decode (mB 957) 72 = .ok (.iinc 3 1, 3) := by decide +kernel
theorem d_957_75 : decode (mB 957) 75 = .ok (.goto (-49), 3) := by decide +kernel
theorem d_957_78 : decode (mB 957) 78 = .ok (.iconst (-1), 1) := by decide +kernel
theorem d_957_79 : decode (mB 957) 79 = .ok (.ireturn, 1) := by decide +kernel
theorem d_955_0 : decode (mB 955) 0 = .ok (.aload_n 0, 1) := by decide +kernel
theorem d_955_1 : decode (mB 955) 1 = .ok (.iload_n 1, 1) := by decide +kernel
theorem d_955_2 : decode (mB 955) 2 = .ok (.invokevirtual 235, 3) := by decide +kernel
theorem d_955_5 : decode (mB 955) 5 = .ok (.ifCond .ne 6, 3) := by decide +kernel
theorem d_955_8 : decode (mB 955) 8 = .ok (.ldc 231, 2) := by decide +kernel
theorem d_955_10 : decode (mB 955) 10 = .ok (.ireturn, 1) := by decide +kernel
theorem d_955_11 : decode (mB 955) 11 = .ok (.iload_n 2, 1) := by decide +kernel
theorem d_955_12 : decode (mB 955) 12 = .ok (.i2l, 1) := by decide +kernel
theorem d_955_13 : decode (mB 955) 13 = .ok (.lconst 0, 1) := by decide +kernel
theorem d_955_14 : decode (mB 955) 14 = .ok (.ldc2_w 298, 3) := by decide +kernel
theorem d_955_17 : decode (mB 955) 17 = .ok (.invokestatic 83, 3) := by decide +kernel
theorem d_955_20 : decode (mB 955) 20 = .ok (.ifCond .eq 15, 3) := by decide +kernel
theorem d_955_23 : decode (mB 955) 23 = .ok (.iload_n 3, 1) := by decide +kernel
theorem d_955_24 : decode (mB 955) 24 = .ok (.i2l, 1) := by decide +kernel
theorem d_955_25 : decode (mB 955) 25 = .ok (.lconst 0, 1) := by decide +kernel
theorem d_955_26 : decode (mB 955) 26 = .ok (.ldc2_w 298, 3) := by decide +kernel
theorem d_955_29 : decode (mB 955) 29 = .ok (.invokestatic 83, 3) := by decide +kernel
theorem d_955_32 : decode (mB 955) 32 = .ok (.ifCond .ne 6, 3) := by decide +kernel
theorem d_955_35 : decode (mB 955) 35 = .ok (.ldc 87, 2) := by decide +kernel
theorem d_955_37 : decode (mB 955) 37 = .ok (.ireturn, 1) := by decide +kernel
theorem d_955_38 : decode (mB 955) 38 = .ok (.iconst 0, 1) := by decide +kernel
theorem d_955_39 : decode (mB 955) 39 = .ok (.istore 4, 2) := by decide +kernel
theorem d_955_41 : decode (mB 955) 41 = .ok (.iload 4, 2) := by decide +kernel
theorem d_955_43 : decode (mB 955) 43 = .ok (.iconst 5, 1) := by decide +kernel
theorem d_955_44 : decode (mB 955) 44 = .ok (.if_icmp .gt 54, 3) := by decide +kernel
theorem d_955_47 : decode (mB 955) 47 = .ok (.aload_n 0, 1) := by decide +kernel
theorem d_955_48 : decode (mB 955) 48 = .ok (.aload_n 0, 1) := by decide +kernel
theorem d_955_49 : decode (mB 955) 49 = .ok (.iload_n 1, 1) := by decide +kernel
theorem d_955_50 : decode (mB 955) 50 = .ok (.iload_n 2, 1) := by decide +kernel
theorem d_955_51 : decode (mB 955) 51 = .ok (.iload 4, 2) := by decide +kernel
theorem d_955_53 : decode (mB 955) 53 = .ok (.invokevirtual 209, 3) := by decide +kernel
theorem d_955_56 : decode (mB 955) 56 = .ok (.aload_n 0, 1) := by decide +kernel
theorem d_955_57 : decode (mB 955) 57 = .ok (.getfield 17, 3) := by decide +kernel
theorem d_955_60 : decode (mB 955) 60 = .ok (.iconst 0, 1) := by decide +kernel
theorem d_955_61 : decode (mB 955) 61 = .ok (.iaload, 1) := by decide +kernel
theorem d_955_62 : decode (mB 955) 62 = .ok (.invokevirtual 244, 3) := by decide +kernel
theorem d_955_65 : decode (mB 955) 65 = .ok (.ifCond .eq 27, 3) := by decide +kernel
theorem d_955_68 : decode (mB 955) 68 = .ok (.aload_n 0, 1) := by decide +kernel
theorem d_955_69 : decode (mB 955) 69 = .ok (.aload_n 0, 1) := by decide +kernel
theorem d_955_70 : decode (mB 955) 70 = .ok (.iload_n 1, 1) := by decide +kernel
theorem d_955_71 : decode (mB 955) 71 = .ok (.iload_n 3, 1) := by decide +kernel
theorem d_955_72 : decode (mB 955) 72 = .ok (.iload 4, 2) := by decide +kernel
theorem d_955_74 : decode (mB 955) 74 = .ok (.invokevirtual 209, 3) := by decide +kernel
theorem d_955_77 : decode (mB 955) 77 = .ok (.aload_n 0, 1) := by decide +kernel
theorem d_955_78 : decode (mB 955) 78 = .ok (.getfield 17, 3) := by decide +kernel
theorem d_955_81 : decode (mB 955) 81 = .ok (.iconst 0, 1) := by decide +kernel
theorem d_955_82 : decode (mB 955) 82 = .ok (.iaload, 1) := by decide +kernel
theorem d_955_83 : decode (mB 955) 83 = .ok (.invokevirtual 244, 3) := by decide +kernel
theorem d_955_86 : decode (mB 955) 86 = .ok (.ifCond .eq 6, 3) := by decide +kernel
theorem d_955_89 : decode (mB 955) 89 = .ok (.iload 4, 2) := by decide +kernel
theorem d_955_91 : decode (mB 955) 91 = .ok (.ireturn, 1) := by decide +kernel
theorem d_955_92 : decode (mB 955) 92 = .ok (.iinc 4 1, 3) := by decide +kernel
theorem d_955_95 : decode (mB 955) 95 = .ok (.goto (-54), 3) := by decide +kernel
theorem d_955_98 : decode (mB 955) 98 = .ok (.iconst (-1), 1) := by decide +kernel
theorem d_955_99 : decode (mB 955) 99 = .ok (.ireturn, 1) := by decide +kernel
theorem d_959_0 : decode (mB 959) 0 = .ok (.aload_n 0, 1) := by decide +kernel
theorem d_959_1 : decode (mB 959) 1 = .ok (.iload_n 1, 1) := by decide +kernel
theorem d_959_2 : decode (mB 959) 2 = .ok (.invokevirtual 235, 3) := by decide +kernel
theorem d_959_5 : decode (mB 959) 5 = .ok (.ifCond .eq 16, 3) := by decide +kernel
theorem d_959_8 : decode (mB 959) 8 = .ok (.aload_n 0, 1) := by decide +kernel
theorem d_959_9 : decode (mB 959) 9 = .ok (.iload_n 2, 1) := by decide +kernel
theorem d_959_10 : decode (mB 959) 10 = .ok (.invokevirtual 235, 3) := by decide +kernel
theorem d_959_13 : decode (mB 959) 13 = .ok (.ifCond .eq 8, 3) := by decide +kernel
theorem d_959_16 : decode (mB 959) 16 = .ok (.iload_n 1, 1) := by decide +kernel
theorem d_959_17 : decode (mB 959) 17 = .ok (.iload_n 2, 1) := by decide +kernel
theorem d_959_18 : decode (mB 959) 18 = .ok (.if_icmp .ne 6, 3) := by decide +kernel
theorem d_959_21 : decode (mB 959) 21 = .ok (.ldc 231, 2) := by decide +kernel
theorem d_959_23 : decode (mB 959) 23 = .ok (.ireturn, 1) := by decide +kernel
theorem d_959_24 : decode (mB 959) 24 = .ok (.iconst 0, 1) := by decide +kernel
theorem d_959_25 : decode (mB 959) 25 = .ok (.istore_n 3, 1) := by decide +kernel
theorem d_959_26 : decode (mB 959) 26 = .ok (.iconst 0, 1) := by decide +kernel
theorem d_959_27 : decode (mB 959) 27 = .ok (.istore 4, 2) := by decide +kernel
theorem d_959_29 : decode (mB 959) 29 = .ok (.iload 4, 2) := by decide +kernel
theorem d_959_31 : decode (mB 959) 31 = .ok (.bipush 24, 2) := by decide +kernel
theorem d_959_33 : decode (mB 959) 33 = .ok (.if_icmp .ge 48, 3) := by decide +kernel
theorem d_959_36 : decode (mB 959) 36 = .ok (.iload_n 3, 1) := by decide +kernel
theorem d_959_37 : decode (mB 959) 37 = .ok (.aload_n 0, 1) := by decide +kernel
theorem d_959_38 : decode (mB 959) 38 = .ok (.iload_n 1, 1) := by decide +kernel
theorem d_959_39 : decode (mB 959) 39 = .ok (.iload 4, 2) := by decide +kernel
theorem d_959_41 : decode (mB 959) 41 = .ok (.aload_n 0, 1) := by decide +kernel
theorem d_959_42 : decode (mB 959) 42 = .ok (.invokevirtual 220, 3) := by decide +kernel
theorem d_959_45 : decode (mB 959) 45 = .ok (.invokevirtual 307, 3) := by decide +kernel
theorem d_959_48 : decode (mB 959) 48 = .ok (.aload_n 0, 1) := by decide +kernel
theorem d_959_49 : decode (mB 959) 49 = .ok (.iload_n 2, 1) := by decide +kernel
theorem d_959_50 : decode (mB 959) 50 = .ok (.iload 4, 2) := by decide +kernel
theorem d_959_52 : decode (mB 959) 52 = .ok (.aload_n 0, 1) := by decide +kernel
theorem d_959_53 : decode (mB 959) 53 = .ok (.invokevirtual 220, 3) := by decide +kernel
theorem d_959_56 : decode (mB 959) 56 = .ok (.invokevirtual 307, 3) := by decide +kernel
theorem d_959_59 : decode (mB 959) 59 = .ok (.if_icmp .eq 7, 3) := by decide +kernel
theorem d_959_62 : decode (mB 959) 62 = .ok (.iconst 1, 1) := by decide +kernel
theorem d_959_63 : decode (mB 959) 63 = .ok (.goto 4, 3) := by decide +kernel
theorem d_959_66 : decode (mB 959) 66 = .ok (.iconst 0, 1) := by decide +kernel
theorem d_959_67 : decode (mB 959) 67 = .ok (.invokestatic 223, 3) := by decide +kernel
theorem d_959_70 : decode (mB 959) 70 = .ok (.iload 4, 2) := by decide +kernel
theorem d_959_72 : decode (mB 959) 72 = .ok (.ishl, 1) := by decide +kernel
theorem d_959_73 : decode (mB 959) 73 = .ok (.ior, 1) := by decide +kernel
theorem d_959_74 : decode (mB 959) 74 = .ok (.istore_n 3, 1) := by decide +kernel
theorem d_959_75 : decode (mB 959) 75 = .ok (.iinc 4 1, 3) := by decide +kernel
theorem d_959_78 : decode (mB 959) 78 = .ok (.goto (-49), 3) := by decide +kernel
theorem d_959_81 : decode (mB 959) 81 = .ok (.iload_n 3, 1) := by decide +kernel
theorem d_959_82 : decode (mB 959) 82 = .ok (.ireturn, 1) := by decide +kernel
theorem d_960_0 : decode (mB 960) 0 = .ok (.aload_n 0, 1) := by decide +kernel
theorem d_960_1 : decode (mB 960) 1 = .ok (.iload_n 1, 1) := by decide +kernel
theorem d_960_2 : decode (mB 960) 2 = .ok (.invokevirtual 235, 3) := by decide +kernel
theorem d_960_5 : decode (mB 960) 5 = .ok (.ifCond .eq 16, 3) := by decide +kernel
theorem d_960_8 : decode (mB 960) 8 = .ok (.aload_n 0, 1) := by decide +kernel
theorem d_960_9 : decode (mB 960) 9 = .ok (.iload_n 2, 1) := by decide +kernel
theorem d_960_10 : decode (mB 960) 10 = .ok (.invokevirtual 235, 3) := by decide +kernel
theorem d_960_13 : decode (mB 960) 13 = .ok (.ifCond .eq 8, 3) := by decide +kernel
theorem d_960_16 : decode (mB 960) 16 = .ok (.iload_n 1, 1) := by decide +kernel
theorem d_960_17 : decode (mB 960) 17 = .ok (.iload_n 2, 1) := by decide +kernel
theorem d_960_18 : decode (mB 960) 18 = .ok (.if_icmp .ne 6, 3) := by decide +kernel
theorem d_960_21 : decode (mB 960) 21 = .ok (.ldc 231, 2) := by decide +kernel
theorem d_960_23 : decode (mB 960) 23 = .ok (.ireturn, 1) := by decide +kernel
theorem d_960_24 : decode (mB 960) 24 = .ok (.iload_n 3, 1) := by decide +kernel
theorem d_960_25 : decode (mB 960) 25 = .ok (.i2l, 1) := by decide +kernel
theorem d_960_26 : decode (mB 960) 26 = .ok (.lconst 0, 1) := by decide +kernel
theorem d_960_27 : decode (mB 960) 27 = .ok (.ldc2_w 298, 3) := by decide +kernel
theorem d_960_30 : decode (mB 960) 30 = .ok (.invokestatic 83, 3) := by decide +kernel
theorem d_960_33 : decode (mB 960) 33 = .ok (.ifCond .ne 6, 3) := by decide +kernel
theorem d_960_36 : decode (mB 960) 36 = .ok (.ldc 87, 2) := by decide +kernel
theorem d_960_38 : decode (mB 960) 38 = .ok (.ireturn, 1) := by decide +kernel
theorem d_960_39 : decode (mB 960) 39 = .ok (.iconst 0, 1) := by decide +kernel
theorem d_960_40 : decode (mB 960) 40 = .ok (.istore 4, 2) := by decide +kernel
theorem d_960_42 : decode (mB 960) 42 = .ok (.iload 4, 2) := by decide +kernel
theorem d_960_44 : decode (mB 960) 44 = .ok (.sipush 9999, 3) := by decide +kernel
theorem d_960_47 : decode (mB 960) 47 = .ok (.if_icmp .gt 42, 3) := by decide +kernel
theorem d_960_50 : decode (mB 960) 50 = .ok (.aload_n 0, 1) := by decide +kernel
theorem d_960_51 : decode (mB 960) 51 = .ok (.iload_n 1, 1) := by decide +kernel
theorem d_960_52 : decode (mB 960) 52 = .ok (.iload_n 3, 1) := by decide +kernel
theorem d_960_53 : decode (mB 960) 53 = .ok (.aload_n 0, 1) := by decide +kernel
theorem d_960_54 : decode (mB 960) 54 = .ok (.iload 4, 2) := by decide +kernel
theorem d_960_56 : decode (mB 960) 56 = .ok (.invokevirtual 216, 3) := by decide +kernel
theorem d_960_59 : decode (mB 960) 59 = .ok (.invokevirtual 307, 3) := by decide +kernel
theorem d_960_62 : decode (mB 960) 62 = .ok (.ifCond .eq 21, 3) := by decide +kernel
theorem d_960_65 : decode (mB 960) 65 = .ok (.aload_n 0, 1) := by decide +kernel
theorem d_960_66 : decode (mB 960) 66 = .ok (.iload_n 2, 1) := by decide +kernel
theorem d_960_67 : decode (mB 960) 67 = .ok (.iload_n 3, 1) := by decide +kernel
theorem d_960_68 : decode (mB 960) 68 = .ok (.aload_n 0, 1) := by decide +kernel
theorem d_960_69 : decode (mB 960) 69 = .ok (.iload 4, 2) := by decide +kernel
theorem d_960_71 : decode (mB 960) 71 = .ok (.invokevirtual 216, 3) := by decide +kernel
theorem d_960_74 : decode (mB 960) 74 = .ok (.invokevirtual 307, 3) := by decide +kernel
theorem d_960_77 : decode (mB 960) 77 = .ok (.ifCond .eq 6, 3) := by decide +kernel
theorem d_960_80 : decode (mB 960) 80 = .ok (.iload 4, 2) := by decide +kernel
theorem d_960_82 : decode (mB 960) 82 = .ok (.ireturn, 1) := by decide +kernel
theorem d_960_83 : decode (mB 960) 83 = .ok (.iinc 4 1, 3) := by decide +kernel
theorem d_960_86 : decode (mB 960) 86 = .ok (.goto (-44), 3) := by decide +kernel
theorem d_960_89 : decode (mB 960) 89 = .ok (.iconst (-1), 1) := by decide +kernel
theorem d_960_90 : decode (mB 960) 90 = .ok (.ireturn, 1) := by decide +kernel
theorem d_963_0 : decode (mB 963) 0 = .ok (.iload_n 1, 1) := by decide +kernel
theorem d_963_1 : decode (mB 963) 1 = .ok (.iconst 2, 1) := by decide +kernel
theorem d_963_2 : decode (mB 963) 2 = .ok (.if_icmp .ne 14, 3) := by decide +kernel
theorem d_963_5 : decode (mB 963) 5 = .ok (.aload_n 0, 1) := by decide +kernel
theorem d_963_6 : decode (mB 963) 6 = .ok (.iload_n 2, 1) := by decide +kernel
theorem d_963_7 : decode (mB 963) 7 = .ok (.invokevirtual 235, 3) := by decide +kernel
theorem d_963_10 : decode (mB 963) 10 = .ok (.ifCond .ne 6, 3) := by decide +kernel
theorem d_963_13 : decode (mB 963) 13 = .ok (.ldc 231, 2) := by decide +kernel
theorem d_963_15 : decode (mB 963) 15 = .ok (.ireturn, 1) := by decide +kernel
theorem d_963_16 : decode (mB 963) 16 = .ok (.iload_n 1, 1) := by decide +kernel
theorem d_963_17 : decode (mB 963) 17 = .ok (.i2l, 1) := by decide +kernel
theorem d_963_18 : decode (mB 963) 18 = .ok (.lconst 0, 1) := by decide +kernel
theorem d_963_19 : decode (mB 963) 19 = .ok (.ldc2_w 293, 3) := by decide +kernel
theorem d_963_22 : decode (mB 963) 22 = .ok (.invokestatic 83, 3) := by decide +kernel
theorem d_963_25 : decode (mB 963) 25 = .ok (.ifCond .ne 6, 3) := by decide +kernel
theorem d_963_28 : decode (mB 963) 28 = .ok (.ldc 87, 2) := by decide +kernel
theorem d_963_30 : decode (mB 963) 30 = .ok (.ireturn, 1) := by decide +kernel
theorem d_963_31 : decode (mB 963) 31 = .ok (.iconst 0, 1) := by decide +kernel
theorem d_963_32 : decode (mB 963) 32 = .ok (.istore_n 3, 1) := by decide +kernel
theorem d_963_33 : decode (mB 963) 33 = .ok (.iload_n 3, 1) := by decide +kernel
theorem d_963_34 : decode (mB 963) 34 = .ok (.bipush 6, 2) := by decide +kernel
theorem d_963_36 : decode (mB 963) 36 = .ok (.if_icmp .ge 16, 3) := by decide +kernel
theorem d_963_39 : decode (mB 963) 39 = .ok (.aload_n 0, 1) := by decide +kernel
theorem d_963_40 : decode (mB 963) 40 = .ok (.getfield 57, 3) := by decide +kernel
theorem d_963_43 : decode (mB 963) 43 = .ok (.iload_n 3, 1) := by decide +kernel
theorem d_963_44 : decode (mB 963) 44 = .ok (.iconst 0, 1) := by decide +kernel
theorem d_963_45 : decode (mB 963) 45 = .ok (.iastore, 1) := by decide +kernel
theorem d_963_46 : decode (mB 963) 46 = .ok (.iinc 3 1, 3) := by decide +kernel
theorem d_963_49 : decode (mB 963) 49 = .ok (.goto (-16), 3) := by decide +kernel
theorem d_963_52 : decode (mB 963) 52 = .ok (.iconst 0, 1) := by decide +kernel
theorem d_963_53 : decode (mB 963) 53 = .ok (.istore_n 3, 1) := by decide +kernel
theorem d_963_54 : decode (mB 963) 54 = .ok (.iconst 1, 1) := by decide +kernel
theorem d_963_55 : decode (mB 963) 55 = .ok (.istore 4, 2) := by decide +kernel
theorem d_963_57 : decode (mB 963) 57 = .ok (.iload 4, 2) := by decide +kernel
theorem d_963_59 : decode (mB 963) 59 = .ok (.ifCond .eq 83, 3) := by decide +kernel
theorem d_963_62 : decode (mB 963) 62 = .ok (.iload_n 3, 1) := by decide +kernel
theorem d_963_63 : decode (mB 963) 63 = .ok (.bipush 30, 2) := by decide +kernel
theorem d_963_65 : decode (mB 963) 65 = .ok (.if_icmp .ge 77, 3) := by decide +kernel
theorem d_963_68 : decode (mB 963) 68 = .ok (.iconst 0, 1) := by decide +kernel
theorem d_963_69 : decode (mB 963) 69 = .ok (.istore 4, 2) := by decide +kernel
theorem d_963_71 : decode (mB 963) 71 = .ok (.iconst 0, 1) := by decide +kernel
theorem d_963_72 : decode (mB 963) 72 = .ok (.istore 5, 2) := by decide +kernel
theorem d_963_74 : decode (mB 963) 74 = .ok (.iload 5, 2) := by decide +kernel
theorem d_963_76 : decode (mB 963) 76 = .ok (.aload_n 0, 1) := by decide +kernel
theorem d_963_77 : decode (mB 963) 77 = .ok (.getfield 191, 3) := by decide +kernel
theorem d_963_80 : decode (mB 963) 80 = .ok (.if_icmp .ge 51, 3) := by decide +kernel
theorem d_963_83 : decode (mB 963) 83 = .ok (.aload_n 0, 1) := by decide +kernel
theorem d_963_84 : decode (mB 963) 84 = .ok (.invokevirtual 310, 3) := by decide +kernel
theorem d_963_87 : decode (mB 963) 87 = .ok (.iload 5, 2) := by decide +kernel
theorem d_963_89 : decode (mB 963) 89 = .ok (.if_icmp .eq 16, 3) := by decide +kernel
theorem d_963_92 : decode (mB 963) 92 = .ok (.aload_n 0, 1) := by decide +kernel
theorem d_963_93 : decode (mB 963) 93 = .ok (.iload 5, 2) := by decide +kernel
theorem d_963_95 : decode (mB 963) 95 = .ok (.invokevirtual 313, 3) := by decide +kernel
theorem d_963_98 : decode (mB 963) 98 = .ok (.ifCond .eq 7, 3) := by decide +kernel
theorem d_963_101 : decode (mB 963) 101 = .ok (.iconst 1, 1) := by decide +kernel
theorem d_963_102 : decode (mB 963) 102 = .ok (.goto 4, 3) := by decide +kernel
theorem d_963_105 : decode (mB 963) 105 = .ok (.iconst 0, 1) := by decide +kernel
theorem d_963_106 : decode (mB 963) 106 = .ok (.istore 6, 2) := by decide +kernel
theorem d_963_108 : decode (mB 963) 108 = .ok (.iload 4, 2) := by decide +kernel
theorem d_963_110 : decode (mB 963) 110 = .ok (.ifCond .ne 8, 3) := by decide +kernel
theorem d_963_113 : decode (mB 963) 113 = .ok (.iload 6, 2) := by decide +kernel
theorem d_963_115 : decode (mB 963) 115 = .ok (.ifCond .eq 7, 3) := by decide +kernel
theorem d_963_118 : decode (mB 963) 118 = .ok (.iconst 1, 1) := by decide +kernel
theorem d_963_119 : decode (mB 963) 119 = .ok (.goto 4, 3) := by decide +kernel
theorem d_963_122 : decode (mB 963) 122 = .ok (.iconst 0, 1) := by decide +kernel
theorem d_963_123 : decode (mB 963) 123 = .ok (.istore 4, 2) := by decide +kernel
theorem d_963_125 : decode (mB 963) 125 = .ok (.iinc 5 1, 3) := by decide +kernel
theorem d_963_128 : decode (mB 963) 128 = .ok (.goto (-54), 3) := by decide +kernel
theorem d_963_131 : decode (mB 963) 131 = .ok (.iload_n 3, 1) := by decide +kernel
theorem d_963_132 : decode (mB 963) 132 = .ok (.iload 4, 2) := by decide +kernel
theorem d_963_134 : decode (mB 963) 134 = .ok (.invokestatic 223, 3) := by decide +kernel
theorem d_963_137 : decode (mB 963) 137 = .ok (.iadd, 1) := by decide +kernel
theorem d_963_138 : decode (mB 963) 138 = .ok (.istore_n 3, 1) := by decide +kernel
theorem d_963_139 : decode (mB 963) 139 = .ok (.goto (-82), 3) := by decide +kernel
theorem d_963_142 : decode (mB 963) 142 = .ok (.iload_n 1, 1) := by decide +kernel
theorem d_963_143 : decode (mB 963) 143 = .ok (.ifCond .ne 7, 3) := by decide +kernel
theorem d_963_146 : decode (mB 963) 146 = .ok (.iload_n 3, 1) := by decide +kernel
theorem d_963_147 : decode (mB 963) 147 = .ok (.goto 21, 3) := by decide +kernel
theorem d_963_150 : decode (mB 963) 150 = .ok (.iload_n 1, 1) := by decide +kernel
theorem d_963_151 : decode (mB 963) 151 = .ok (.iconst 1, 1) := by decide +kernel
theorem d_963_152 : decode (mB 963) 152 = .ok (.if_icmp .ne 10, 3) := by decide +kernel
theorem d_963_155 : decode (mB 963) 155 = .ok (.aload_n 0, 1) := by decide +kernel
theorem d_963_156 : decode (mB 963) 156 = .ok (.invokevirtual 310, 3) := by decide +kernel
theorem d_963_159 : decode (mB 963) 159 = .ok (.goto 9, 3) := by decide +kernel
theorem d_963_162 : decode (mB 963) 162 = .ok (.aload_n 0, 1) := by decide +kernel
theorem d_963_163 : decode (mB 963) 163 = .ok (.getfield 57, 3) := by decide +kernel
theorem d_963_166 : decode (mB 963) 166 = .ok (.iload_n 2, 1) := by decide +kernel
theorem d_963_167 : decode (mB 963) 167 = .ok (.iaload, 1) := by decide +kernel
theorem d_963_168 : decode (mB 963) 168 = .ok (.ireturn, 1) := by decide +kernel
theorem d_964_0 : decode (mB 964) 0 = .ok (.aload_n 0, 1) := by decide +kernel
theorem d_964_1 : decode (mB 964) 1 = .ok (.iload_n 1, 1) := by decide +kernel
theorem d_964_2 : decode (mB 964) 2 = .ok (.invokevirtual 235, 3) := by decide +kernel
theorem d_964_5 : decode (mB 964) 5 = .ok (.ifCond .ne 6, 3) := by decide +kernel
theorem d_964_8 : decode (mB 964) 8 = .ok (.ldc 231, 2) := by decide +kernel
theorem d_964_10 : decode (mB 964) 10 = .ok (.ireturn, 1) := by decide +kernel
theorem d_964_11 : decode (mB 964) 11 = .ok (.iload_n 2, 1) := by decide +kernel
theorem d_964_12 : decode (mB 964) 12 = .ok (.i2l, 1) := by decide +kernel
theorem d_964_13 : decode (mB 964) 13 = .ok (.lconst 0, 1) := by decide +kernel
theorem d_964_14 : decode (mB 964) 14 = .ok (.ldc2_w 298, 3) := by decide +kernel
theorem d_964_17 : decode (mB 964) 17 = .ok (.invokestatic 83, 3) := by decide +kernel
theorem d_964_20 : decode (mB 964) 20 = .ok (.ifCond .eq 13, 3) := by decide +kernel
theorem d_964_23 : decode (mB 964) 23 = .ok (.iload_n 3, 1) := by decide +kernel
theorem d_964_24 : decode (mB 964) 24 = .ok (.i2l, 1) := by decide +kernel
theorem d_964_25 : decode (mB 964) 25 = .ok (.lconst 0, 1) := by decide +kernel
theorem d_964_26 : decode (mB 964) 26 = .ok (.lconst 1, 1) := by decide +kernel
theorem d_964_27 : decode (mB 964) 27 = .ok (.invokestatic 83, 3) := by decide +kernel
theorem d_964_30 : decode (mB 964) 30 = .ok (.ifCond .ne 6, 3) := by decide +kernel
theorem d_964_33 : decode (mB 964) 33 = .ok (.ldc 87, 2) := by decide +kernel
theorem d_964_35 : decode (mB 964) 35 = .ok (.ireturn, 1) := by decide +kernel
theorem d_964_36 : decode (mB 964) 36 = .ok (.aload_n 0, 1) := by decide +kernel
theorem d_964_37 : decode (mB 964) 37 = .ok (.iload_n 1, 1) := by decide +kernel
theorem d_964_38 : decode (mB 964) 38 = .ok (.iload_n 2, 1) := by decide +kernel
theorem d_964_39 : decode (mB 964) 39 = .ok (.aload_n 0, 1) := by decide +kernel
theorem d_964_40 : decode (mB 964) 40 = .ok (.getfield 7, 3) := by decide +kernel
theorem d_964_43 : decode (mB 964) 43 = .ok (.bipush 6, 2) := by decide +kernel
theorem d_964_45 : decode (mB 964) 45 = .ok (.iload_n 1, 1) := by decide +kernel
theorem d_964_46 : decode (mB 964) 46 = .ok (.iadd, 1) := by decide +kernel
theorem d_964_47 : decode (mB 964) 47 = .ok (.iaload, 1) := by decide +kernel
theorem d_964_48 : decode (mB 964) 48 = .ok (.invokevirtual 209, 3) := by decide +kernel
theorem d_964_51 : decode (mB 964) 51 = .ok (.istore 4, 2) := by decide +kernel
theorem d_964_53 : decode (mB 964) 53 = .ok (.iload_n 2, 1) := by decide +kernel
theorem d_964_54 : decode (mB 964) 54 = .ok (.aload_n 0, 1) := by decide +kernel
theorem d_964_55 : decode (mB 964) 55 = .ok (.getfield 78, 3) := by decide +kernel
theorem d_964_58 : decode (mB 964) 58 = .ok (.if_icmp .lt 15, 3) := by decide +kernel
theorem d_964_61 : decode (mB 964) 61 = .ok (.iload 4, 2) := by decide +kernel
theorem d_964_63 : decode (mB 964) 63 = .ok (.aload_n 0, 1) := by decide +kernel
theorem d_964_64 : decode (mB 964) 64 = .ok (.getfield 32, 3) := by decide +kernel
theorem d_964_67 : decode (mB 964) 67 = .ok (.iload_n 1, 1) := by decide +kernel
theorem d_964_68 : decode (mB 964) 68 = .ok (.iaload, 1) := by decide +kernel
theorem d_964_69 : decode (mB 964) 69 = .ok (.isub, 1) := by decide +kernel
theorem d_964_70 : decode (mB 964) 70 = .ok (.goto 5, 3) := by decide +kernel
theorem d_964_73 : decode (mB 964) 73 = .ok (.iload 4, 2) := by decide +kernel
theorem d_964_75 : decode (mB 964) 75 = .ok (.istore 5, 2) := by decide +kernel
theorem d_964_77 : decode (mB 964) 77 = .ok (.aload_n 0, 1) := by decide +kernel
theorem d_964_78 : decode (mB 964) 78 = .ok (.iload 4, 2) := by decide +kernel
theorem d_964_80 : decode (mB 964) 80 = .ok (.aload_n 0, 1) := by decide +kernel
theorem d_964_81 : decode (mB 964) 81 = .ok (.invokevirtual 220, 3) := by decide +kernel
theorem d_964_84 : decode (mB 964) 84 = .ok (.invokevirtual 244, 3) := by decide +kernel
theorem d_964_87 : decode (mB 964) 87 = .ok (.ifCond .eq 12, 3) := by decide +kernel
theorem d_964_90 : decode (mB 964) 90 = .ok (.aload_n 0, 1) := by decide +kernel
theorem d_964_91 : decode (mB 964) 91 = .ok (.getfield 35, 3) := by decide +kernel
theorem d_964_94 : decode (mB 964) 94 = .ok (.iload_n 1, 1) := by decide +kernel
theorem d_964_95 : decode (mB 964) 95 = .ok (.iaload, 1) := by decide +kernel
theorem d_964_96 : decode (mB 964) 96 = .ok (.goto 4, 3) := by decide +kernel
theorem d_964_99 : decode (mB 964) 99 = .ok (.iconst 0, 1) := by decide +kernel
theorem d_964_100 : decode (mB 964) 100 = .ok (.aload_n 0, 1) := by decide +kernel
theorem d_964_101 : decode (mB 964) 101 = .ok (.iload 5, 2) := by decide +kernel
theorem d_964_103 : decode (mB 964) 103 = .ok (.aload_n 0, 1) := by decide +kernel
theorem d_964_104 : decode (mB 964) 104 = .ok (.invokevirtual 220, 3) := by decide +kernel
theorem d_964_107 : decode (mB 964) 107 = .ok (.invokevirtual 244, 3) := by decide +kernel
theorem d_964_110 : decode (mB 964) 110 = .ok (.ifCond .eq 15, 3) := by decide +kernel
theorem d_964_113 : decode (mB 964) 113 = .ok (.bipush 8, 2) := by decide +kernel
theorem d_964_115 : decode (mB 964) 115 = .ok (.aload_n 0, 1) := by decide +kernel
theorem d_964_116 : decode (mB 964) 116 = .ok (.getfield 35, 3) := by decide +kernel
theorem d_964_119 : decode (mB 964) 119 = .ok (.iload_n 1, 1) := by decide +kernel
theorem d_964_120 : decode (mB 964) 120 = .ok (.iaload, 1) := by decide +kernel
theorem d_964_121 : decode (mB 964) 121 = .ok (.isub, 1) := by decide +kernel
theorem d_964_122 : decode (mB 964) 122 = .ok (.goto 4, 3) := by decide +kernel
theorem d_964_125 : decode (mB 964) 125 = .ok (.iconst 0, 1) := by decide +kernel
theorem d_964_126 : decode (mB 964) 126 = .ok (.iadd, 1) := by decide +kernel
theorem d_964_127 : decode (mB 964) 127 = .ok (.istore 6, 2) := by decide +kernel
theorem d_964_129 : decode (mB 964) 129 = .ok (.bipush 8, 2) := by decide +kernel
theorem d_964_131 : decode (mB 964) 131 = .ok (.istore 7, 2) := by decide +kernel
theorem d_964_133 : decode (mB 964) 133 = .ok (.iload 6, 2) := by decide +kernel
theorem d_964_135 : decode (mB 964) 135 = .ok (.iconst 2, 1) := by decide +kernel
theorem d_964_136 : decode (mB 964) 136 = .ok (.irem, 1) := by decide +kernel
theorem d_964_137 : decode (mB 964) 137 = .ok (.ifCond .ne 24, 3) := by decide +kernel
theorem d_964_140 : decode (mB 964) 140 = .ok (.iload 7, 2) := by decide +kernel
theorem d_964_142 : decode (mB 964) 142 = .ok (.iconst 1, 1) := by decide +kernel
theorem d_964_143 : decode (mB 964) 143 = .ok (.if_icmp .le 18, 3) := by decide +kernel
theorem d_964_146 : decode (mB 964) 146 = .ok (.iload 6, 2) := by decide +kernel
theorem d_964_148 : decode (mB 964) 148 = .ok (.iconst 2, 1) := by decide +kernel
theorem d_964_149 : decode (mB 964) 149 = .ok (.idiv, 1) := by decide +kernel
theorem d_964_150 : decode (mB 964) 150 = .ok (.istore 6, 2) := by decide +kernel
theorem d_964_152 : decode (mB 964) 152 = .ok (.iload 7, 2) := by decide +kernel
theorem d_964_154 : decode (mB 964) 154 = .ok (.iconst 2, 1) := by decide +kernel
theorem d_964_155 : decode (mB 964) 155 = .ok (.idiv, 1) := by decide +kernel
theorem d_964_156 : decode (mB 964) 156 = .ok (.istore 7, 2) := by decide +kernel
theorem d_964_158 : decode (mB 964) 158 = .ok (.goto (-25), 3) := by decide +kernel
theorem d_964_161 : decode (mB 964) 161 = .ok (.iload_n 3, 1) := by decide +kernel
theorem d_964_162 : decode (mB 964) 162 = .ok (.ifCond .ne 8, 3) := by decide +kernel
theorem d_964_165 : decode (mB 964) 165 = .ok (.iload 6, 2) := by decide +kernel
theorem d_964_167 : decode (mB 964) 167 = .ok (.goto 5, 3) := by decide +kernel
theorem d_964_170 : decode (mB 964) 170 = .ok (.iload 7, 2) := by decide +kernel
theorem d_964_172 : decode (mB 964) 172 = .ok (.ireturn, 1) := by decide +kernel
theorem d_965_0 : decode (mB 965) 0 = .ok (.iload_n 1, 1) := by decide +kernel
theorem d_965_1 : decode (mB 965) 1 = .ok (.i2l, 1) := by decide +kernel
theorem d_965_2 : decode (mB 965) 2 = .ok (.lconst 0, 1) := by decide +kernel
theorem d_965_3 : decode (mB 965) 3 = .ok (.ldc2_w 298, 3) := by decide +kernel
theorem d_965_6 : decode (mB 965) 6 = .ok (.invokestatic 83, 3) := by decide +kernel
theorem d_965_9 : decode (mB 965) 9 = .ok (.ifCond .ne 6, 3) := by decide +kernel
theorem d_965_12 : decode (mB 965) 12 = .ok (.ldc 87, 2) := by decide +kernel
theorem d_965_14 : decode (mB 965) 14 = .ok (.ireturn, 1) := by decide +kernel
theorem d_965_15 : decode (mB 965) 15 = .ok (.aload_n 0, 1) := by decide +kernel
theorem d_965_16 : decode (mB 965) 16 = .ok (.getfield 200, 3) := by decide +kernel
theorem d_965_19 : decode (mB 965) 19 = .ok (.bipush 20, 2) := by decide +kernel
theorem d_965_21 : decode (mB 965) 21 = .ok (.if_icmp .ne 6, 3) := by decide +kernel
theorem d_965_24 : decode (mB 965) 24 = .ok (.ldc 91, 2) := by decide +kernel
theorem d_965_26 : decode (mB 965) 26 = .ok (.ireturn, 1) := by decide +kernel
theorem d_965_27 : decode (mB 965) 27 = .ok (.aload_n 0, 1) := by decide +kernel
theorem d_965_28 : decode (mB 965) 28 = .ok (.getfield 60, 3) := by decide +kernel
theorem d_965_31 : decode (mB 965) 31 = .ok (.aload_n 0, 1) := by decide +kernel
theorem d_965_32 : decode (mB 965) 32 = .ok (.getfield 200, 3) := by decide +kernel
theorem d_965_35 : decode (mB 965) 35 = .ok (.iload_n 1, 1) := by decide +kernel
theorem d_965_36 : decode (mB 965) 36 = .ok (.iastore, 1) := by decide +kernel
theorem d_965_37 : decode (mB 965) 37 = .ok (.aload_n 0, 1) := by decide +kernel
theorem d_965_38 : decode (mB 965) 38 = .ok (.getfield 63, 3) := by decide +kernel
theorem d_965_41 : decode (mB 965) 41 = .ok (.aload_n 0, 1) := by decide +kernel
theorem d_965_42 : decode (mB 965) 42 = .ok (.getfield 200, 3) := by decide +kernel
theorem d_965_45 : decode (mB 965) 45 = .ok (.iload_n 2, 1) := by decide +kernel
theorem d_965_46 : decode (mB 965) 46 = .ok (.bastore, 1) := by decide +kernel
theorem d_965_47 : decode (mB 965) 47 = .ok (.aload_n 0, 1) := by decide +kernel
theorem d_965_48 : decode (mB 965) 48 = .ok (.dup, 1) := by decide +kernel
theorem d_965_49 : decode (mB 965) 49 = .ok (.getfield 200, 3) := by decide +kernel
theorem d_965_52 : decode (mB 965) 52 = .ok (.iconst 1, 1) := by decide +kernel
theorem d_965_53 : decode (mB 965) 53 = .ok (.iadd, 1) := by decide +kernel
theorem d_965_54 : decode (mB 965) 54 = .ok (.putfield 200, 3) := by decide +kernel
theorem d_965_57 : decode (mB 965) 57 = .ok (.aload_n 0, 1) := by decide +kernel
theorem d_965_58 : decode (mB 965) 58 = .ok (.getfield 200, 3) := by decide +kernel
theorem d_965_61 : decode (mB 965) 61 = .ok (.ireturn, 1) := by decide +kernel
theorem d_966_0 : decode (mB 966) 0 = .ok (.iconst 0, 1) := by decide +kernel
theorem d_966_1 : decode (mB 966) 1 = .ok (.istore_n 1, 1) := by decide +kernel
theorem d_966_2 : decode (mB 966) 2 = .ok (.iconst 0, 1) := by decide +kernel
theorem d_966_3 : decode (mB 966) 3 = .ok (.istore_n 2, 1) := by decide +kernel
theorem d_966_4 : decode (mB 966) 4 = .ok (.iload_n 2, 1) := by decide +kernel
theorem d_966_5 : decode (mB 966) 5 = .ok (.aload_n 0, 1) := by decide +kernel
theorem d_966_6 : decode (mB 966) 6 = .ok (.getfield 191, 3) := by decide +kernel
theorem d_966_9 : decode (mB 966) 9 = .ok (.if_icmp .ge 81, 3) := by decide +kernel
theorem d_966_12 : decode (mB 966) 12 = .ok (.iconst 1, 1) := by decide +kernel
theorem d_966_13 : decode (mB 966) 13 = .ok (.istore_n 3, 1) := by decide +kernel
theorem d_966_14 : decode (mB 966) 14 = .ok (.iconst 0, 1) := by decide +kernel
theorem d_966_15 : decode (mB 966) 15 = .ok (.istore 4, 2) := by decide +kernel
theorem d_966_17 : decode (mB 966) 17 = .ok (.iload 4, 2) := by decide +kernel
theorem d_966_19 : decode (mB 966) 19 = .ok (.aload_n 0, 1) := by decide +kernel
theorem d_966_20 : decode (mB 966) 20 = .ok (.getfield 200, 3) := by decide +kernel
theorem d_966_23 : decode (mB 966) 23 = .ok (.if_icmp .ge 52, 3) := by decide +kernel
theorem d_966_26 : decode (mB 966) 26 = .ok (.iload_n 3, 1) := by decide +kernel
theorem d_966_27 : decode (mB 966) 27 = .ok (.ifCond .eq 40, 3) := by decide +kernel
theorem d_966_30 : decode (mB 966) 30 = .ok (.aload_n 0, 1) := by decide +kernel
theorem d_966_31 : decode (mB 966) 31 = .ok (.aload_n 0, 1) := by decide +kernel
theorem d_966_32 : decode (mB 966) 32 = .ok (.iload_n 2, 1) := by decide +kernel
theorem d_966_33 : decode (mB 966) 33 = .ok (.aload_n 0, 1) := by decide +kernel
theorem d_966_34 : decode (mB 966) 34 = .ok (.getfield 60, 3) := by decide +kernel
theorem d_966_37 : decode (mB 966) 37 = .ok (.iload 4, 2) := by decide +kernel
theorem d_966_39 : decode (mB 966) 39 = .ok (.iaload, 1) := by decide +kernel
theorem d_966_40 : decode (mB 966) 40 = .ok (.iconst 0, 1) := by decide +kernel
theorem d_966_41 : decode (mB 966) 41 = .ok (.invokevirtual 209, 3) := by decide +kernel
theorem d_966_44 : decode (mB 966) 44 = .ok (.aload_n 0, 1) := by decide +kernel
theorem d_966_45 : decode (mB 966) 45 = .ok (.getfield 17, 3) := by decide +kernel
theorem d_966_48 : decode (mB 966) 48 = .ok (.iconst 0, 1) := by decide +kernel
theorem d_966_49 : decode (mB 966) 49 = .ok (.iaload, 1) := by decide +kernel
theorem d_966_50 : decode (mB 966) 50 = .ok (.invokevirtual 244, 3) := by decide +kernel
theorem d_966_53 : decode (mB 966) 53 = .ok (.aload_n 0, 1) := by decide +kernel
theorem d_966_54 : decode (mB 966) 54 = .ok (.getfield 63, 3) := by decide +kernel
theorem d_966_57 : decode (mB 966) 57 = .ok (.iload 4, 2) := by decide +kernel
theorem d_966_59 : decode (mB 966) 59 = .ok (.baload, 1) := by decide +kernel
theorem d_966_60 : decode (mB 966) 60 = .ok (.if_icmp .ne 7, 3) := by decide +kernel
theorem d_966_63 : decode (mB 966) 63 = .ok (.iconst 1, 1) := by decide +kernel
theorem d_966_64 : decode (mB 966) 64 = .ok (.goto 4, 3) := by decide +kernel
theorem d_966_67 : decode (mB 966) 67 = .ok (.iconst 0, 1) := by decide +kernel
theorem d_966_68 : decode (mB 966) 68 = .ok (.istore_n 3, 1) := by decide +kernel
theorem d_966_69 : decode (mB 966) 69 = .ok (.iinc 4 1, 3) := by decide +kernel
theorem d_966_72 : decode (mB 966) 72 = .ok (.goto (-55), 3) := by decide +kernel
theorem d_966_75 : decode (mB 966) 75 = .ok (.iload_n 1, 1) := by decide +kernel
theorem d_966_76 : decode (mB 966) 76 = .ok (.iload_n 3, 1) := by decide +kernel
theorem d_966_77 : decode (mB 966) 77 = .ok (.invokestatic 223, 3) := by decide +kernel
theorem d_966_80 : decode (mB 966) 80 = .ok (.iload_n 2, 1) := by decide +kernel
theorem d_966_81 : decode (mB 966) 81 = .ok (.ishl, 1) := by decide +kernel
theorem d_966_82 : decode (mB 966) 82 = .ok (.ior, 1) := by decide +kernel
theorem d_966_83 : decode (mB 966) 83 = .ok (.istore_n 1, 1) := by decide +kernel
theorem d_966_84 : decode (mB 966) 84 = .ok (.iinc 2 1, 3) := by decide +kernel
theorem d_966_87 : decode (mB 966) 87 = .ok (.goto (-83), 3) := by decide +kernel
theorem d_966_90 : decode (mB 966) 90 = .ok (.iload_n 1, 1) := by decide +kernel
theorem d_966_91 : decode (mB 966) 91 = .ok (.ireturn, 1) := by decide +kernel
theorem d_967_0 : decode (mB 967) 0 = .ok (.aload_n 0, 1) := by decide +kernel
theorem d_967_1 : decode (mB 967) 1 = .ok (.invokevirtual 316, 3) := by decide +kernel
theorem d_967_4 : decode (mB 967) 4 = .ok (.istore_n 1, 1) := by decide +kernel
theorem d_967_5 : decode (mB 967) 5 = .ok (.iload_n 1, 1) := by decide +kernel
theorem d_967_6 : decode (mB 967) 6 = .ok (.invokestatic 261, 3) := by decide +kernel
theorem d_967_9 : decode (mB 967) 9 = .ok (.istore_n 2, 1) := by decide +kernel
theorem d_967_10 : decode (mB 967) 10 = .ok (.iconst (-1), 1) := by decide +kernel
theorem d_967_11 : decode (mB 967) 11 = .ok (.istore_n 3, 1) := by decide +kernel
theorem d_967_12 : decode (mB 967) 12 = .ok (.iload_n 2, 1) := by decide +kernel
theorem d_967_13 : decode (mB 967) 13 = .ok (.istore 4, 2) := by decide +kernel
theorem d_967_15 : decode (mB 967) 15 = .ok (.iconst 0, 1) := by decide +kernel
theorem d_967_16 : decode (mB 967) 16 = .ok (.istore 5, 2) := by decide +kernel
theorem d_967_18 : decode (mB 967) 18 = .ok (.iload 5, 2) := by decide +kernel
theorem d_967_20 : decode (mB 967) 20 = .ok (.bipush 24, 2) := by decide +kernel
theorem d_967_22 : decode (mB 967) 22 = .ok (.if_icmp .ge 108, 3) := by decide +kernel
theorem d_967_25 : decode (mB 967) 25 = .ok (.iconst 0, 1) := by decide +kernel
theorem d_967_26 : decode (mB 967) 26 = .ok (.istore 6, 2) := by decide +kernel
theorem d_967_28 : decode (mB 967) 28 = .ok (.iconst 0, 1) := by decide +kernel
theorem d_967_29 : decode (mB 967) 29 = .ok (.istore 7, 2) := by decide +kernel
theorem d_967_31 : decode (mB 967) 31 = .ok (.iload 7, 2) := by decide +kernel
theorem d_967_33 : decode (mB 967) 33 = .ok (.aload_n 0, 1) := by decide +kernel
theorem d_967_34 : decode (mB 967) 34 = .ok (.getfield 191, 3) := by decide +kernel
theorem d_967_37 : decode (mB 967) 37 = .ok (.if_icmp .ge 53, 3) := by decide +kernel
theorem d_967_40 : decode (mB 967) 40 = .ok (.iload 6, 2) := by decide +kernel
theorem d_967_42 : decode (mB 967) 42 = .ok (.iload_n 1, 1) := by decide +kernel
theorem d_967_43 : decode (mB 967) 43 = .ok (.iload 7, 2) := by decide +kernel
theorem d_967_45 : decode (mB 967) 45 = .ok (.invokestatic 124, 3) := by decide +kernel
theorem d_967_48 : decode (mB 967) 48 = .ok (.ifCond .eq 29, 3) := by decide +kernel
theorem d_967_51 : decode (mB 967) 51 = .ok (.aload_n 0, 1) := by decide +kernel
theorem d_967_52 : decode (mB 967) 52 = .ok (.aload_n 0, 1) := by decide +kernel
theorem d_967_53 : decode (mB 967) 53 = .ok (.iload 7, 2) := by decide +kernel
theorem d_967_55 : decode (mB 967) 55 = .ok (.iload 5, 2) := by decide +kernel
theorem d_967_57 : decode (mB 967) 57 = .ok (.iconst 0, 1) := by decide +kernel
theorem d_967_58 : decode (mB 967) 58 = .ok (.invokevirtual 209, 3) := by decide +kernel
theorem d_967_61 : decode (mB 967) 61 = .ok (.aload_n 0, 1) := by decide +kernel
theorem d_967_62 : decode (mB 967) 62 = .ok (.getfield 17, 3) := by decide +kernel
theorem d_967_65 : decode (mB 967) 65 = .ok (.iconst 0, 1) := by decide +kernel
theorem d_967_66 : decode (mB 967) 66 = .ok (.iaload, 1) := by decide +kernel
theorem d_967_67 : decode (mB 967) 67 = .ok (.invokevirtual 244, 3) := by decide +kernel
theorem d_967_70 : decode (mB 967) 70 = .ok (.ifCond .eq 7, 3) := by decide +kernel
theorem d_967_73 : decode (mB 967) 73 = .ok (.iconst 1, 1) := by decide +kernel
theorem d_967_74 : decode (mB 967) 74 = .ok (.goto 4, 3) := by decide +kernel
theorem d_967_77 : decode (mB 967) 77 = .ok (.iconst 0, 1) := by decide +kernel
theorem d_967_78 : decode (mB 967) 78 = .ok (.invokestatic 223, 3) := by decide +kernel
theorem d_967_81 : decode (mB 967) 81 = .ok (.iadd, 1) := by decide +kernel
theorem d_967_82 : decode (mB 967) 82 = .ok (.istore 6, 2) := by decide +kernel
theorem d_967_84 : decode (mB 967) 84 = .ok (.iinc 7 1, 3) := by decide +kernel
theorem d_967_87 : decode (mB 967) 87 = .ok (.goto (-56), 3) := by decide +kernel
theorem d_967_90 : decode (mB 967) 90 = .ok (.iload 6, 2) := by decide +kernel
theorem d_967_92 : decode (mB 967) 92 = .ok (.iload_n 2, 1) := by decide +kernel
theorem d_967_93 : decode (mB 967) 93 = .ok (.iload 6, 2) := by decide +kernel
theorem d_967_95 : decode (mB 967) 95 = .ok (.isub, 1) := by decide +kernel
theorem d_967_96 : decode (mB 967) 96 = .ok (.if_icmp .le 8, 3) := by decide +kernel
theorem d_967_99 : decode (mB 967) 99 = .ok (.iload 6, 2) := by decide +kernel
theorem d_967_101 : decode (mB 967) 101 = .ok (.goto 7, 3) := by decide +kernel
theorem d_967_104 : decode (mB 967) 104 = .ok (.iload_n 2, 1) := by decide +kernel
theorem d_967_105 : decode (mB 967) 105 = .ok (.iload 6, 2) := by decide +kernel
theorem d_967_107 : decode (mB 967) 107 = .ok (.isub, 1) := by decide +kernel
theorem d_967_108 : decode (mB 967) 108 = .ok (.istore 7, 2) := by decide +kernel
theorem d_967_110 : decode (mB 967) 110 = .ok (.iload 7, 2) := by decide +kernel
theorem d_967_112 : decode (mB 967) 112 = .ok (.iload 4, 2) := by decide +kernel
theorem d_967_114 : decode (mB 967) 114 = .ok (.if_icmp .ge 10, 3) := by decide +kernel
theorem d_967_117 : decode (mB 967) 117 = .ok (.iload 5, 2) := by decide +kernel
theorem d_967_119 : decode (mB 967) 119 = .ok (.istore_n 3, 1) := by decide +kernel
theorem d_967_120 : decode (mB 967) 120 = .ok (.iload 7, 2) := by decide +kernel
theorem d_967_122 : decode (mB 967) 122 = .ok (.istore 4, 2) := by decide +kernel
theorem d_967_124 : decode (mB 967) 124 = .ok (.iinc 5 1, 3) := by decide +kernel
theorem d_967_127 : decode (mB 967) 127 = .ok (.goto (-109), 3) := by decide +kernel
theorem d_967_130 : decode (mB 967) 130 = .ok (.iload_n 3, 1) := by decide +kernel
theorem d_967_131 : decode (mB 967) 131 = .ok (.ireturn, 1) := by decide +kernel
theorem d_968_0 : decode (mB 968) 0 = .ok (.iload_n 1, 1) := by decide +kernel
theorem d_968_1 : decode (mB 968) 1 = .ok (.i2l, 1) := by decide +kernel
theorem d_968_2 : decode (mB 968) 2 = .ok (.lconst 0, 1) := by decide +kernel
theorem d_968_3 : decode (mB 968) 3 = .ok (.ldc2_w 293, 3) := by decide +kernel
theorem d_968_6 : decode (mB 968) 6 = .ok (.invokestatic 83, 3) := by decide +kernel
theorem d_968_9 : decode (mB 968) 9 = .ok (.ifCond .ne 6, 3) := by decide +kernel
theorem d_968_12 : decode (mB 968) 12 = .ok (.ldc 87, 2) := by decide +kernel
theorem d_968_14 : decode (mB 968) 14 = .ok (.ireturn, 1) := by decide +kernel
theorem d_968_15 : decode (mB 968) 15 = .ok (.aload_n 0, 1) := by decide +kernel
theorem d_968_16 : decode (mB 968) 16 = .ok (.getfield 203, 3) := by decide +kernel
theorem d_968_19 : decode (mB 968) 19 = .ok (.bipush 12, 2) := by decide +kernel
theorem d_968_21 : decode (mB 968) 21 = .ok (.if_icmp .ne 6, 3) := by decide +kernel
theorem d_968_24 : decode (mB 968) 24 = .ok (.ldc 91, 2) := by decide +kernel
theorem d_968_26 : decode (mB 968) 26 = .ok (.ireturn, 1) := by decide +kernel
theorem d_968_27 : decode (mB 968) 27 = .ok (.aload_n 0, 1) := by decide +kernel
theorem d_968_28 : decode (mB 968) 28 = .ok (.getfield 66, 3) := by decide +kernel
theorem d_968_31 : decode (mB 968) 31 = .ok (.aload_n 0, 1) := by decide +kernel
theorem d_968_32 : decode (mB 968) 32 = .ok (.getfield 203, 3) := by decide +kernel
theorem d_968_35 : decode (mB 968) 35 = .ok (.iload_n 1, 1) := by decide +kernel
theorem d_968_36 : decode (mB 968) 36 = .ok (.iastore, 1) := by decide +kernel
theorem d_968_37 : decode (mB 968) 37 = .ok (.aload_n 0, 1) := by decide +kernel
theorem d_968_38 : decode (mB 968) 38 = .ok (.dup, 1) := by decide +kernel
theorem d_968_39 : decode (mB 968) 39 = .ok (.getfield 203, 3) := by decide +kernel
theorem d_968_42 : decode (mB 968) 42 = .ok (.iconst 1, 1) := by decide +kernel
theorem d_968_43 : decode (mB 968) 43 = .ok (.iadd, 1) := by decide +kernel
theorem d_968_44 : decode (mB 968) 44 = .ok (.putfield 203, 3) := by decide +kernel
theorem d_968_47 : decode (mB 968) 47 = .ok (.aload_n 0, 1) := by decide +kernel
theorem d_968_48 : decode (mB 968) 48 = .ok (.getfield 203, 3) := by decide +kernel
theorem d_968_51 : decode (mB 968) 51 = .ok (.ireturn, 1) := by decide +kernel
theorem d_970_0 : decode (mB 970) 0 = .ok (.iconst 0, 1) := by decide +kernel
theorem d_970_1 : decode (mB 970) 1 = .ok (.istore_n 1, 1) := by decide +kernel
theorem d_970_2 : decode (mB 970) 2 = .ok (.iconst 0, 1) := by decide +kernel
theorem d_970_3 : decode (mB 970) 3 = .ok (.istore_n 2, 1) := by decide +kernel
theorem d_970_4 : decode (mB 970) 4 = .ok (.iload_n 2, 1) := by decide +kernel
theorem d_970_5 : decode (mB 970) 5 = .ok (.aload_n 0, 1) := by decide +kernel
theorem d_970_6 : decode (mB 970) 6 = .ok (.getfield 191, 3) := by decide +kernel
theorem d_970_9 : decode (mB 970) 9 = .ok (.if_icmp .ge 41, 3) := by decide +kernel
theorem d_970_12 : decode (mB 970) 12 = .ok (.iconst 0, 1) := by decide +kernel
theorem d_970_13 : decode (mB 970) 13 = .ok (.istore_n 3, 1) := by decide +kernel
theorem d_970_14 : decode (mB 970) 14 = .ok (.iload_n 3, 1) := by decide +kernel
theorem d_970_15 : decode (mB 970) 15 = .ok (.aload_n 0, 1) := by decide +kernel
theorem d_970_16 : decode (mB 970) 16 = .ok (.getfield 41, 3) := by decide +kernel
theorem d_970_19 : decode (mB 970) 19 = .ok (.iload_n 2, 1) := by decide +kernel
theorem d_970_20 : decode (mB 970) 20 = .ok (.iaload, 1) := by decide +kernel
theorem d_970_21 : decode (mB 970) 21 = .ok (.if_icmp .ge 23, 3) := by decide +kernel
theorem d_970_24 : decode (mB 970) 24 = .ok (.iload_n 1, 1) := by decide +kernel
theorem d_970_25 : decode (mB 970) 25 = .ok (.aload_n 0, 1) := by decide +kernel
theorem d_970_26 : decode (mB 970) 26 = .ok (.iload_n 2, 1) := by decide +kernel
theorem d_970_27 : decode (mB 970) 27 = .ok (.iload_n 3, 1) := by decide +kernel
theorem d_970_28 : decode (mB 970) 28 = .ok (.invokevirtual 319, 3) := by decide +kernel
theorem d_970_31 : decode (mB 970) 31 = .ok (.invokestatic 223, 3) := by decide +kernel
theorem d_970_34 : decode (mB 970) 34 = .ok (.iload_n 2, 1) := by decide +kernel
theorem d_970_35 : decode (mB 970) 35 = .ok (.ishl, 1) := by decide +kernel
theorem d_970_36 : decode (mB 970) 36 = .ok (.ior, 1) := by decide +kernel
theorem d_970_37 : decode (mB 970) 37 = .ok (.istore_n 1, 1) := by decide +kernel
theorem d_970_38 : decode (mB 970) 38 = .ok (.iinc 3 1, 3) := by decide +kernel
theorem d_970_41 : decode (mB 970) 41 = .ok (.goto (-27), 3) := by decide +kernel
theorem d_970_44 : decode (mB 970) 44 = .ok (.iinc 2 1, 3) := by decide +kernel
theorem d_970_47 : decode (mB 970) 47 = .ok (.goto (-43), 3) := by decide +kernel
theorem d_970_50 : decode (mB 970) 50 = .ok (.iload_n 1, 1) := by decide +kernel
theorem d_970_51 : decode (mB 970) 51 = .ok (.ireturn, 1) := by decide +kernel
theorem d_971_0 : decode (mB 971) 0 = .ok (.aload_n 0, 1) := by decide +kernel
theorem d_971_1 : decode (mB 971) 1 = .ok (.iload_n 2, 1) := by decide +kernel
theorem d_971_2 : decode (mB 971) 2 = .ok (.invokevirtual 235, 3) := by decide +kernel
theorem d_971_5 : decode (mB 971) 5 = .ok (.ifCond .ne 6, 3) := by decide +kernel
theorem d_971_8 : decode (mB 971) 8 = .ok (.ldc 231, 2) := by decide +kernel
theorem d_971_10 : decode (mB 971) 10 = .ok (.ireturn, 1) := by decide +kernel
theorem d_971_11 : decode (mB 971) 11 = .ok (.iload_n 1, 1) := by decide +kernel
theorem d_971_12 : decode (mB 971) 12 = .ok (.i2l, 1) := by decide +kernel
theorem d_971_13 : decode (mB 971) 13 = .ok (.lconst 0, 1) := by decide +kernel
theorem d_971_14 : decode (mB 971) 14 = .ok (.ldc2_w 247, 3) := by decide +kernel
theorem d_971_17 : decode (mB 971) 17 = .ok (.invokestatic 83, 3) := by decide +kernel
theorem d_971_20 : decode (mB 971) 20 = .ok (.ifCond .ne 6, 3) := by decide +kernel
theorem d_971_23 : decode (mB 971) 23 = .ok (.ldc 87, 2) := by decide +kernel
theorem d_971_25 : decode (mB 971) 25 = .ok (.ireturn, 1) := by decide +kernel
theorem d_971_26 : decode (mB 971) 26 = .ok (.aload_n 0, 1) := by decide +kernel
theorem d_971_27 : decode (mB 971) 27 = .ok (.getfield 206, 3) := by decide +kernel
theorem d_971_30 : decode (mB 971) 30 = .ok (.bipush 30, 2) := by decide +kernel
theorem d_971_32 : decode (mB 971) 32 = .ok (.if_icmp .ne 6, 3) := by decide +kernel
theorem d_971_35 : decode (mB 971) 35 = .ok (.ldc 91, 2) := by decide +kernel
theorem d_971_37 : decode (mB 971) 37 = .ok (.ireturn, 1) := by decide +kernel
theorem d_971_38 : decode (mB 971) 38 = .ok (.aload_n 0, 1) := by decide +kernel
theorem d_971_39 : decode (mB 971) 39 = .ok (.getfield 69, 3) := by decide +kernel
theorem d_971_42 : decode (mB 971) 42 = .ok (.aload_n 0, 1) := by decide +kernel
theorem d_971_43 : decode (mB 971) 43 = .ok (.getfield 206, 3) := by decide +kernel
theorem d_971_46 : decode (mB 971) 46 = .ok (.iload_n 1, 1) := by decide +kernel
theorem d_971_47 : decode (mB 971) 47 = .ok (.iastore, 1) := by decide +kernel
theorem d_971_48 : decode (mB 971) 48 = .ok (.aload_n 0, 1) := by decide +kernel
theorem d_971_49 : decode (mB 971) 49 = .ok (.getfield 72, 3) := by decide +kernel
theorem d_971_52 : decode (mB 971) 52 = .ok (.aload_n 0, 1) := by decide +kernel
theorem d_971_53 : decode (mB 971) 53 = .ok (.getfield 206, 3) := by decide +kernel
theorem d_971_56 : decode (mB 971) 56 = .ok (.iload_n 2, 1) := by decide +kernel
theorem d_971_57 : decode (mB 971) 57 = .ok (.iastore, 1) := by decide +kernel
theorem d_971_58 : decode (mB 971) 58 = .ok (.aload_n 0, 1) := by decide +kernel
theorem d_971_59 : decode (mB 971) 59 = .ok (.getfield 75, 3) := by decide +kernel
theorem d_971_62 : decode (mB 971) 62 = .ok (.aload_n 0, 1) := by decide +kernel
theorem d_971_63 : decode (mB 971) 63 = .ok (.getfield 206, 3) := by decide +kernel
theorem d_971_66 : decode (mB 971) 66 = .ok (.iload_n 3, 1) := by decide +kernel
theorem d_971_67 : decode (mB 971) 67 = .ok (.bastore, 1) := by decide +kernel
theorem d_971_68 : decode (mB 971) 68 = .ok (.aload_n 0, 1) := by decide +kernel
theorem d_971_69 : decode (mB 971) 69 = .ok (.dup, 1) := by decide +kernel
theorem d_971_70 : decode (mB 971) 70 = .ok (.getfield 206, 3) := by decide +kernel
theorem d_971_73 : decode (mB 971) 73 = .ok (.iconst 1, 1) := by decide +kernel
theorem d_971_74 : decode (mB 971) 74 = .ok (.iadd, 1) := by decide +kernel
theorem d_971_75 : decode (mB 971) 75 = .ok (.putfield 206, 3) := by decide +kernel
theorem d_971_78 : decode (mB 971) 78 = .ok (.aload_n 0, 1) := by decide +kernel
theorem d_971_79 : decode (mB 971) 79 = .ok (.getfield 206, 3) := by decide +kernel
theorem d_971_82 : decode (mB 971) 82 = .ok (.ireturn, 1) := by decide +kernel
theorem d_972_0 : decode (mB 972) 0 = .ok (.aload_n 0, 1) := by decide +kernel
theorem d_972_1 : decode (mB 972) 1 = .ok (.getfield 200, 3) := by decide +kernel
theorem d_972_4 : decode (mB 972) 4 = .ok (.aload_n 0, 1) := by decide +kernel
theorem d_972_5 : decode (mB 972) 5 = .ok (.getfield 203, 3) := by decide +kernel
theorem d_972_8 : decode (mB 972) 8 = .ok (.iadd, 1) := by decide +kernel
theorem d_972_9 : decode (mB 972) 9 = .ok (.aload_n 0, 1) := by decide +kernel
theorem d_972_10 : decode (mB 972) 10 = .ok (.getfield 206, 3) := by decide +kernel
theorem d_972_13 : decode (mB 972) 13 = .ok (.iadd, 1) := by decide +kernel
theorem d_972_14 : decode (mB 972) 14 = .ok (.istore_n 1, 1) := by decide +kernel
theorem d_972_15 : decode (mB 972) 15 = .ok (.aload_n 0, 1) := by decide +kernel
theorem d_972_16 : decode (mB 972) 16 = .ok (.iconst 0, 1) := by decide +kernel
theorem d_972_17 : decode (mB 972) 17 = .ok (.putfield 200, 3) := by decide +kernel
theorem d_972_20 : decode (mB 972) 20 = .ok (.aload_n 0, 1) := by decide +kernel
theorem d_972_21 : decode (mB 972) 21 = .ok (.iconst 0, 1) := by decide +kernel
theorem d_972_22 : decode (mB 972) 22 = .ok (.putfield 203, 3) := by decide +kernel
theorem d_972_25 : decode (mB 972) 25 = .ok (.aload_n 0, 1) := by decide +kernel
theorem d_972_26 : decode (mB 972) 26 = .ok (.iconst 0, 1) := by decide +kernel
theorem d_972_27 : decode (mB 972) 27 = .ok (.putfield 206, 3) := by decide +kernel
theorem d_972_30 : decode (mB 972) 30 = .ok (.iload_n 1, 1) := by decide +kernel
theorem d_972_31 : decode (mB 972) 31 = .ok (.ireturn, 1) := by decide +kernel
theorem d_973_0 : decode (mB 973) 0 = .ok (.iconst 0, 1) := by decide +kernel
theorem d_973_1 : decode (mB 973) 1 = .ok (.istore_n 1, 1) := by decide +kernel
theorem d_973_2 : decode (mB 973) 2 = .ok (.iload_n 1, 1) := by decide +kernel
theorem d_973_3 : decode (mB 973) 3 = .ok (.aload_n 0, 1) := by decide +kernel
theorem d_973_4 : decode (mB 973) 4 = .ok (.getfield 206, 3) := by decide +kernel
theorem d_973_7 : decode (mB 973) 7 = .ok (.if_icmp .ge 42, 3) := by decide +kernel
theorem d_973_10 : decode (mB 973) 10 = .ok (.aload_n 0, 1) := by decide +kernel
theorem d_973_11 : decode (mB 973) 11 = .ok (.aload_n 0, 1) := by decide +kernel
theorem d_973_12 : decode (mB 973) 12 = .ok (.getfield 72, 3) := by decide +kernel
theorem d_973_15 : decode (mB 973) 15 = .ok (.iload_n 1, 1) := by decide +kernel
theorem d_973_16 : decode (mB 973) 16 = .ok (.iaload, 1) := by decide +kernel
theorem d_973_17 : decode (mB 973) 17 = .ok (.aload_n 0, 1) := by decide +kernel
theorem d_973_18 : decode (mB 973) 18 = .ok (.getfield 69, 3) := by decide +kernel
theorem d_973_21 : decode (mB 973) 21 = .ok (.iload_n 1, 1) := by decide +kernel
theorem d_973_22 : decode (mB 973) 22 = .ok (.iaload, 1) := by decide +kernel
theorem d_973_23 : decode (mB 973) 23 = .ok (.aload_n 0, 1) := by decide +kernel
theorem d_973_24 : decode (mB 973) 24 = .ok (.getfield 17, 3) := by decide +kernel
theorem d_973_27 : decode (mB 973) 27 = .ok (.iconst 0, 1) := by decide +kernel
theorem d_973_28 : decode (mB 973) 28 = .ok (.iaload, 1) := by decide +kernel
theorem d_973_29 : decode (mB 973) 29 = .ok (.invokevirtual 307, 3) := by decide +kernel
theorem d_973_32 : decode (mB 973) 32 = .ok (.aload_n 0, 1) := by decide +kernel
theorem d_973_33 : decode (mB 973) 33 = .ok (.getfield 75, 3) := by decide +kernel
theorem d_973_36 : decode (mB 973) 36 = .ok (.iload_n 1, 1) := by decide +kernel
theorem d_973_37 : decode (mB 973) 37 = .ok (.baload, 1) := by decide +kernel
theorem d_973_38 : decode (mB 973) 38 = .ok (.if_icmp .eq 5, 3) := by decide +kernel
theorem d_973_41 : decode (mB 973) 41 = .ok (.iload_n 1, 1) := by decide +kernel
theorem d_973_42 : decode (mB 973) 42 = .ok (.ireturn, 1) := by decide +kernel
theorem d_973_43 : decode (mB 973) 43 = .ok (.iinc 1 1, 3) := by decide +kernel
theorem d_973_46 : decode (mB 973) 46 = .ok (.goto (-44), 3) := by decide +kernel
theorem d_973_49 : decode (mB 973) 49 = .ok (.iconst (-1), 1) := by decide +kernel
theorem d_973_50 : decode (mB 973) 50 = .ok (.ireturn, 1) := by decide +kernel
theorem d_974_0 : decode (mB 974) 0 = .ok (.iload_n 1, 1) := by decide +kernel
theorem d_974_1 : decode (mB 974) 1 = .ok (.ifCond .ge 6, 3) := by decide +kernel
theorem d_974_4 : decode (mB 974) 4 = .ok (.ldc 87, 2) := by decide +kernel
theorem d_974_6 : decode (mB 974) 6 = .ok (.ireturn, 1) := by decide +kernel
theorem d_974_7 : decode (mB 974) 7 = .ok (.aload_n 0, 1) := by decide +kernel
theorem d_974_8 : decode (mB 974) 8 = .ok (.getfield 7, 3) := by decide +kernel
theorem d_974_11 : decode (mB 974) 11 = .ok (.bipush 23, 2) := by decide +kernel
theorem d_974_13 : decode (mB 974) 13 = .ok (.iaload, 1) := by decide +kernel
theorem d_974_14 : decode (mB 974) 14 = .ok (.istore_n 2, 1) := by decide +kernel
theorem d_974_15 : decode (mB 974) 15 = .ok (.aload_n 0, 1) := by decide +kernel
theorem d_974_16 : decode (mB 974) 16 = .ok (.getfield 7, 3) := by decide +kernel
theorem d_974_19 : decode (mB 974) 19 = .ok (.bipush 23, 2) := by decide +kernel
theorem d_974_21 : decode (mB 974) 21 = .ok (.iload_n 1, 1) := by decide +kernel
theorem d_974_22 : decode (mB 974) 22 = .ok (.iastore, 1) := by decide +kernel
theorem d_974_23 : decode (mB 974) 23 = .ok (.iload_n 2, 1) := by decide +kernel
theorem d_974_24 : decode (mB 974) 24 = .ok (.ireturn, 1) := by decide +kernel
theorem d_976_0 : decode (mB 976) 0 = .ok (.iload_n 1, 1) := by decide +kernel
theorem d_976_1 : decode (mB 976) 1 = .ok (.i2l, 1) := by decide +kernel
theorem d_976_2 : decode (mB 976) 2 = .ok (.lconst 0, 1) := by decide +kernel
theorem d_976_3 : decode (mB 976) 3 = .ok (.lconst 1, 1) := by decide +kernel
theorem d_976_4 : decode (mB 976) 4 = .ok (.invokestatic 83, 3) := by decide +kernel
theorem d_976_7 : decode (mB 976) 7 = .ok (.ifCond .ne 6, 3) := by decide +kernel
theorem d_976_10 : decode (mB 976) 10 = .ok (.ldc 231, 2) := by decide +kernel
theorem d_976_12 : decode (mB 976) 12 = .ok (.ireturn, 1) := by decide +kernel
theorem d_976_13 : decode (mB 976) 13 = .ok (.aload_n 0, 1) := by decide +kernel
theorem d_976_14 : decode (mB 976) 14 = .ok (.iconst 0, 1) := by decide +kernel
theorem d_976_15 : decode (mB 976) 15 = .ok (.bipush 32, 2) := by decide +kernel
theorem d_976_17 : decode (mB 976) 17 = .ok (.iconst 1, 1) := by decide +kernel
theorem d_976_18 : decode (mB 976) 18 = .ok (.iload_n 1, 1) := by decide +kernel
theorem d_976_19 : decode (mB 976) 19 = .ok (.iadd, 1) := by decide +kernel
theorem d_976_20 : decode (mB 976) 20 = .ok (.imul, 1) := by decide +kernel
theorem d_976_21 : decode (mB 976) 21 = .ok (.invokevirtual 322, 3) := by decide +kernel
theorem d_976_24 : decode (mB 976) 24 = .ok (.aload_n 0, 1) := by decide +kernel
theorem d_976_25 : decode (mB 976) 25 = .ok (.getfield 13, 3) := by decide +kernel
theorem d_976_28 : decode (mB 976) 28 = .ok (.iload_n 1, 1) := by decide +kernel
theorem d_976_29 : decode (mB 976) 29 = .ok (.iconst 1, 1) := by decide +kernel
theorem d_976_30 : decode (mB 976) 30 = .ok (.bastore, 1) := by decide +kernel
theorem d_976_31 : decode (mB 976) 31 = .ok (.iconst 1, 1) := by decide +kernel
theorem d_976_32 : decode (mB 976) 32 = .ok (.ireturn, 1) := by decide +kernel
theorem d_977_0 : decode (mB 977) 0 = .ok (.iload_n 1, 1) := by decide +kernel
theorem d_977_1 : decode (mB 977) 1 = .ok (.i2l, 1) := by decide +kernel
theorem d_977_2 : decode (mB 977) 2 = .ok (.lconst 0, 1) := by decide +kernel
theorem d_977_3 : decode (mB 977) 3 = .ok (.lconst 1, 1) := by decide +kernel
theorem d_977_4 : decode (mB 977) 4 = .ok (.invokestatic 83, 3) := by decide +kernel
theorem d_977_7 : decode (mB 977) 7 = .ok (.ifCond .ne 6, 3) := by decide +kernel
theorem d_977_10 : decode (mB 977) 10 = .ok (.ldc 231, 2) := by decide +kernel
theorem d_977_12 : decode (mB 977) 12 = .ok (.ireturn, 1) := by decide +kernel
theorem d_977_13 : decode (mB 977) 13 = .ok (.aload_n 0, 1) := by decide +kernel
theorem d_977_14 : decode (mB 977) 14 = .ok (.getfield 13, 3) := by decide +kernel
theorem d_977_17 : decode (mB 977) 17 = .ok (.iload_n 1, 1) := by decide +kernel
theorem d_977_18 : decode (mB 977) 18 = .ok (.baload, 1) := by decide +kernel
theorem d_977_19 : decode (mB 977) 19 = .ok (.ifCond .ne 6, 3) := by decide +kernel
theorem d_977_22 : decode (mB 977) 22 = .ok (.ldc 251, 2) := by decide +kernel
theorem d_977_24 : decode (mB 977) 24 = .ok (.ireturn, 1) := by decide +kernel
theorem d_977_25 : decode (mB 977) 25 = .ok (.aload_n 0, 1) := by decide +kernel
theorem d_977_26 : decode (mB 977) 26 = .ok (.bipush 32, 2) := by decide +kernel
theorem d_977_28 : decode (mB 977) 28 = .ok (.iconst 1, 1) := by decide +kernel
theorem d_977_29 : decode (mB 977) 29 = .ok (.iload_n 1, 1) := by decide +kernel
theorem d_977_30 : decode (mB 977) 30 = .ok (.iadd, 1) := by decide +kernel
theorem d_977_31 : decode (mB 977) 31 = .ok (.imul, 1) := by decide +kernel
theorem d_977_32 : decode (mB 977) 32 = .ok (.iconst 0, 1) := by decide +kernel
theorem d_977_33 : decode (mB 977) 33 = .ok (.invokevirtual 322, 3) := by decide +kernel
theorem d_977_36 : decode (mB 977) 36 = .ok (.iconst 1, 1) := by decide +kernel
theorem d_977_37 : decode (mB 977) 37 = .ok (.ireturn, 1) := by decide +kernel
theorem d_900_0 : decode (mB 900) 0 = .ok (.lload_n 0, 1) := by decide +kernel
theorem d_900_1 : decode (mB 900) 1 = .ok (.lload_n 2, 1) := by decide +kernel
theorem d_900_2 : decode (mB 900) 2 = .ok (.lcmp, 1) := by decide +kernel
theorem d_900_3 : decode (mB 900) 3 = .ok (.ifCond .lt 14, 3) := by decide +kernel
theorem d_900_6 : decode (mB 900) 6 = .ok (.lload_n 0, 1) := by decide +kernel
theorem d_900_7 : decode (mB 900) 7 = .ok (.lload 4, 2) := by decide +kernel
theorem d_900_9 : decode (mB 900) 9 = .ok (.lcmp, 1) := by decide +kernel
theorem d_900_10 : decode (mB 900) 10 = .ok (.ifCond .gt 7, 3) := by decide +kernel
theorem d_900_13 : decode (mB 900) 13 = .ok (.iconst 1, 1) := by decide +kernel
theorem d_900_14 : decode (mB 900) 14 = .ok (.goto 4, 3) := by decide +kernel
theorem d_900_17 : decode (mB 900) 17 = .ok (.iconst 0, 1) := by decide +kernel
theorem d_900_18 : decode (mB 900) 18 = .ok (.ireturn, 1) := by decide +kernel
theorem d_905_0 : decode (mB 905) 0 = .ok (.aload_n 0, 1) := by decide +kernel
theorem d_905_1 : decode (mB 905) 1 = .ok (.getfield 92, 3) := by decide +kernel
theorem d_905_4 : decode (mB 905) 4 = .ok (.aload_n 0, 1) := by decide +kernel
theorem d_905_5 : decode (mB 905) 5 = .ok (.getfield 88, 3) := by decide +kernel
theorem d_905_8 : decode (mB 905) 8 = .ok (.if_icmp .ge 30, 3) := by decide +kernel
theorem d_905_11 : decode (mB 905) 11 = .ok (.aload_n 0, 1) := by decide +kernel
theorem d_905_12 : decode (mB 905) 12 = .ok (.getfield 44, 3) := by decide +kernel
theorem d_905_15 : decode (mB 905) 15 = .ok (.aload_n 0, 1) := by decide +kernel
theorem d_905_16 : decode (mB 905) 16 = .ok (.getfield 92, 3) := by decide +kernel
theorem d_905_19 : decode (mB 905) 19 = .ok (.iaload, 1) := by decide +kernel
theorem d_905_20 : decode (mB 905) 20 = .ok (.bipush 32, 2) := by decide +kernel
theorem d_905_22 : decode (mB 905) 22 = .ok (.if_icmp .ne 16, 3) := by decide +kernel
theorem d_905_25 : decode (mB 905) 25 = .ok (.aload_n 0, 1) := by decide +kernel
theorem d_905_26 : decode (mB 905) 26 = .ok (.dup, 1) := by decide +kernel
theorem d_905_27 : decode (mB 905) 27 = .ok (.getfield 92, 3) := by decide +kernel
theorem d_905_30 : decode (mB 905) 30 = .ok (.iconst 1, 1) := by decide +kernel
theorem d_905_31 : decode (mB 905) 31 = .ok (.iadd, 1) := by decide +kernel
theorem d_905_32 : decode (mB 905) 32 = .ok (.putfield 92, 3) := by decide +kernel
theorem d_905_35 : decode (mB 905) 35 = .ok (.goto (-35), 3) := by decide +kernel
theorem d_905_38 : decode (mB 905) 38 = .ok (.aload_n 0, 1) := by decide +kernel
theorem d_905_39 : decode (mB 905) 39 = .ok (.getfield 92, 3) := by decide +kernel
theorem d_905_42 : decode (mB 905) 42 = .ok (.aload_n 0, 1) := by decide +kernel
theorem d_905_43 : decode (mB 905) 43 = .ok (.getfield 88, 3) := by decide +kernel
theorem d_905_46 : decode (mB 905) 46 = .ok (.if_icmp .ge 15, 3) := by decide +kernel
theorem d_905_49 : decode (mB 905) 49 = .ok (.aload_n 0, 1) := by decide +kernel
theorem d_905_50 : decode (mB 905) 50 = .ok (.getfield 44, 3) := by decide +kernel
theorem d_905_53 : decode (mB 905) 53 = .ok (.aload_n 0, 1) := by decide +kernel
theorem d_905_54 : decode (mB 905) 54 = .ok (.getfield 92, 3) := by decide +kernel
theorem d_905_57 : decode (mB 905) 57 = .ok (.iaload, 1) := by decide +kernel
theorem d_905_58 : decode (mB 905) 58 = .ok (.goto 4, 3) := by decide +kernel
theorem d_905_61 : decode (mB 905) 61 = .ok (.iconst (-1), 1) := by decide +kernel
theorem d_905_62 : decode (mB 905) 62 = .ok (.ireturn, 1) := by decide +kernel
theorem d_918_0 : decode (mB 918) 0 = .ok (.aload_n 0, 1) := by decide +kernel
theorem d_918_1 : decode (mB 918) 1 = .ok (.invokevirtual 152, 3) := by decide +kernel
theorem d_918_4 : decode (mB 918) 4 = .ok (.aload_n 0, 1) := by decide +kernel
theorem d_918_5 : decode (mB 918) 5 = .ok (.getfield 102, 3) := by decide +kernel
theorem d_918_8 : decode (mB 918) 8 = .ok (.istore_n 1, 1) := by decide +kernel
theorem d_918_9 : decode (mB 918) 9 = .ok (.aload_n 0, 1) := by decide +kernel
theorem d_918_10 : decode (mB 918) 10 = .ok (.iconst 4, 1) := by decide +kernel
theorem d_918_11 : decode (mB 918) 11 = .ok (.bipush 115, 2) := by decide +kernel
theorem d_918_13 : decode (mB 918) 13 = .ok (.bipush 104, 2) := by decide +kernel
theorem d_918_15 : decode (mB 918) 15 = .ok (.bipush 111, 2) := by decide +kernel
theorem d_918_17 : decode (mB 918) 17 = .ok (.bipush 101, 2) := by decide +kernel
theorem d_918_19 : decode (mB 918) 19 = .ok (.iconst 0, 1) := by decide +kernel
theorem d_918_20 : decode (mB 918) 20 = .ok (.invokevirtual 159, 3) := by decide +kernel
theorem d_918_23 : decode (mB 918) 23 = .ok (.ifCond .eq 11, 3) := by decide +kernel
theorem d_918_26 : decode (mB 918) 26 = .ok (.aload_n 0, 1) := by decide +kernel
theorem d_918_27 : decode (mB 918) 27 = .ok (.iload_n 1, 1) := by decide +kernel
theorem d_918_28 : decode (mB 918) 28 = .ok (.invokevirtual 163, 3) := by decide +kernel
theorem d_918_31 : decode (mB 918) 31 = .ok (.goto 154, 3) := by decide +kernel
theorem d_918_34 : decode (mB 918) 34 = .ok (.aload_n 0, 1) := by decide +kernel
theorem d_918_35 : decode (mB 918) 35 = .ok (.iconst 4, 1) := by decide +kernel
theorem d_918_36 : decode (mB 918) 36 = .ok (.bipush 110, 2) := by decide +kernel
theorem d_918_38 : decode (mB 918) 38 = .ok (.bipush 111, 2) := by decide +kernel
theorem d_918_40 : decode (mB 918) 40 = .ok (.bipush 111, 2) := by decide +kernel
theorem d_918_42 : decode (mB 918) 42 = .ok (.bipush 110, 2) := by decide +kernel
theorem d_918_44 : decode (mB 918) 44 = .ok (.iconst 0, 1) := by decide +kernel
theorem d_918_45 : decode (mB 918) 45 = .ok (.invokevirtual 159, 3) := by decide +kernel
theorem d_918_48 : decode (mB 918) 48 = .ok (.ifCond .eq 11, 3) := by decide +kernel
theorem d_918_51 : decode (mB 918) 51 = .ok (.aload_n 0, 1) := by decide +kernel
theorem d_918_52 : decode (mB 918) 52 = .ok (.iload_n 1, 1) := by decide +kernel
theorem d_918_53 : decode (mB 918) 53 = .ok (.invokevirtual 167, 3) := by decide +kernel
theorem d_918_56 : decode (mB 918) 56 = .ok (.goto 129, 3) := by decide +kernel
theorem d_918_59 : decode (mB 918) 59 = .ok (.aload_n 0, 1) := by decide +kernel
theorem d_918_60 : decode (mB 918) 60 = .ok (.iconst 5, 1) := by decide +kernel
theorem d_918_61 : decode (mB 918) 61 = .ok (.bipush 104, 2) := by decide +kernel
theorem d_918_63 : decode (mB 918) 63 = .ok (.bipush 111, 2) := by decide +kernel
theorem d_918_65 : decode (mB 918) 65 = .ok (.bipush 117, 2) := by decide +kernel
theorem d_918_67 : decode (mB 918) 67 = .ok (.bipush 115, 2) := by decide +kernel
theorem d_918_69 : decode (mB 918) 69 = .ok (.bipush 101, 2) := by decide +kernel
theorem d_918_71 : decode (mB 918) 71 = .ok (.invokevirtual 159, 3) := by decide +kernel
theorem d_918_74 : decode (mB 918) 74 = .ok (.ifCond .eq 11, 3) := by decide +kernel
theorem d_918_77 : decode (mB 918) 77 = .ok (.aload_n 0, 1) := by decide +kernel
theorem d_918_78 : decode (mB 918) 78 = .ok (.iload_n 1, 1) := by decide +kernel
theorem d_918_79 : decode (mB 918) 79 = .ok (.invokevirtual 170, 3) := by decide +kernel
theorem d_918_82 : decode (mB 918) 82 = .ok (.goto 103, 3) := by decide +kernel
theorem d_918_85 : decode (mB 918) 85 = .ok (.aload_n 0, 1) := by decide +kernel
theorem d_918_86 : decode (mB 918) 86 = .ok (.iconst 3, 1) := by decide +kernel
theorem d_918_87 : decode (mB 918) 87 = .ok (.bipush 119, 2) := by decide +kernel
theorem d_918_89 : decode (mB 918) 89 = .ok (.bipush 97, 2) := by decide +kernel
theorem d_918_91 : decode (mB 918) 91 = .ok (.bipush 121, 2) := by decide +kernel
theorem d_918_93 : decode (mB 918) 93 = .ok (.iconst 0, 1) := by decide +kernel
theorem d_918_94 : decode (mB 918) 94 = .ok (.iconst 0, 1) := by decide +kernel
theorem d_918_95 : decode (mB 918) 95 = .ok (.invokevirtual 159, 3) := by decide +kernel
theorem d_918_98 : decode (mB 918) 98 = .ok (.ifCond .eq 11, 3) := by decide +kernel
theorem d_918_101 : decode (mB 918) 101 = .ok (.aload_n 0, 1) := by decide +kernel
theorem d_918_102 : decode (mB 918) 102 = .ok (.iload_n 1, 1) := by decide +kernel
theorem d_918_103 : decode (mB 918) 103 = .ok (.invokevirtual 173, 3) := by decide +kernel
theorem d_918_106 : decode (mB 918) 106 = .ok (.goto 79, 3) := by decide +kernel
theorem d_918_109 : decode (mB 918) 109 = .ok (.aload_n 0, 1) := by decide +kernel
theorem d_918_110 : decode (mB 918) 110 = .ok (.iconst 4, 1) := by decide +kernel
theorem d_918_111 : decode (mB 918) 111 = .ok (.bipush 103, 2) := by decide +kernel
theorem d_918_113 : decode (mB 918) 113 = .ok (.bipush 105, 2) := by decide +kernel
theorem d_918_115 : decode (mB 918) 115 = .ok (.bipush 114, 2) := by decide +kernel
theorem d_918_117 : decode (mB 918) 117 = .ok (.bipush 108, 2) := by decide +kernel
theorem d_918_119 : decode (mB 918) 119 = .ok (.iconst 0, 1) := by decide +kernel
theorem d_918_120 : decode (mB 918) 120 = .ok (.invokevirtual 159, 3) := by decide +kernel
theorem d_918_123 : decode (mB 918) 123 = .ok (.ifCond .eq 11, 3) := by decide +kernel
theorem d_918_126 : decode (mB 918) 126 = .ok (.aload_n 0, 1) := by decide +kernel
theorem d_918_127 : decode (mB 918) 127 = .ok (.iload_n 1, 1) := by decide +kernel
theorem d_918_128 : decode (mB 918) 128 = .ok (.invokevirtual 176, 3) := by decide +kernel
theorem d_918_131 : decode (mB 918) 131 = .ok (.goto 54, 3) := by decide +kernel
theorem d_918_134 : decode (mB 918) 134 = .ok (.aload_n 0, 1) := by decide +kernel
theorem d_918_135 : decode (mB 918) 135 = .ok (.iconst 4, 1) := by decide +kernel
theorem d_918_136 : decode (mB 918) 136 = .ok (.bipush 103, 2) := by decide +kernel
theorem d_918_138 : decode (mB 918) 138 = .ok (.bipush 97, 2) := by decide +kernel
theorem d_918_140 : decode (mB 918) 140 = .ok (.bipush 105, 2) := by decide +kernel
theorem d_918_142 : decode (mB 918) 142 = .ok (.bipush 116, 2) := by decide +kernel
theorem d_918_144 : decode (mB 918) 144 = .ok (.iconst 0, 1) := by decide +kernel
theorem d_918_145 : decode (mB 918) 145 = .ok (.invokevirtual 159, 3) := by decide +kernel
theorem d_918_148 : decode (mB 918) 148 = .ok (.ifCond .eq 10, 3) := by decide +kernel
theorem d_918_151 : decode (mB 918) 151 = .ok (.aload_n 0, 1) := by decide +kernel
theorem d_918_152 : decode (mB 918) 152 = .ok (.invokevirtual 179, 3) := by decide +kernel
theorem d_918_155 : decode (mB 918) 155 = .ok (.goto 30, 3) := by decide +kernel
theorem d_918_158 : decode (mB 918) 158 = .ok (.aload_n 0, 1) := by decide +kernel
theorem d_918_159 : decode (mB 918) 159 = .ok (.aload_n 0, 1) := by decide +kernel
theorem d_918_160 : decode (mB 918) 160 = .ok (.iconst 3, 1) := by decide +kernel
theorem d_918_161 : decode (mB 918) 161 = .ok (.bipush 115, 2) := by decide +kernel
theorem d_918_163 : decode (mB 918) 163 = .ok (.bipush 104, 2) := by decide +kernel
theorem d_918_165 : decode (mB 918) 165 = .ok (.bipush 101, 2) := by decide +kernel
theorem d_918_167 : decode (mB 918) 167 = .ok (.iconst 0, 1) := by decide +kernel
theorem d_918_168 : decode (mB 918) 168 = .ok (.iconst 0, 1) := by decide +kernel
theorem d_918_169 : decode (mB 918) 169 = .ok (.invokevirtual 159, 3) := by decide +kernel
theorem d_918_172 : decode (mB 918) 172 = .ok (.iconst 1, 1) := by decide +kernel
theorem d_918_173 : decode (mB 918) 173 = .ok (.iload_n 1, 1) := by decide +kernel
theorem d_918_174 : decode (mB 918) 174 = .ok (.invokevirtual 116, 3) := by decide +kernel
theorem d_918_177 : decode (mB 918) 177 = .ok (.ifCond .eq 8, 3) := by decide +kernel
theorem d_918_180 : decode (mB 918) 180 = .ok (.aload_n 0, 1) := by decide +kernel
theorem d_918_181 : decode (mB 918) 181 = .ok (.iload_n 1, 1) := by decide +kernel
theorem d_918_182 : decode (mB 918) 182 = .ok (.invokevirtual 182, 3) := by decide +kernel
theorem d_918_185 : decode (mB 918) 185 = .ok (.return_, 1) := by decide +kernel
theorem d_906_0 : decode (mB 906) 0 = .ok (.iload_n 1, 1) := by decide +kernel
theorem d_906_1 : decode (mB 906) 1 = .ok (.ifCond .ne 20, 3) := by decide +kernel
theorem d_906_4 : decode (mB 906) 4 = .ok (.aload_n 0, 1) := by decide +kernel
theorem d_906_5 : decode (mB 906) 5 = .ok (.getfield 95, 3) := by decide +kernel
theorem d_906_8 : decode (mB 906) 8 = .ok (.ifCond .ne 13, 3) := by decide +kernel
theorem d_906_11 : decode (mB 906) 11 = .ok (.aload_n 0, 1) := by decide +kernel
theorem d_906_12 : decode (mB 906) 12 = .ok (.iload_n 2, 1) := by decide +kernel
theorem d_906_13 : decode (mB 906) 13 = .ok (.putfield 95, 3) := by decide +kernel
theorem d_906_16 : decode (mB 906) 16 = .ok (.aload_n 0, 1) := by decide +kernel
theorem d_906_17 : decode (mB 906) 17 = .ok (.iload_n 3, 1) := by decide +kernel
theorem d_906_18 : decode (mB 906) 18 = .ok (.putfield 47, 3) := by decide +kernel
theorem d_906_21 : decode (mB 906) 21 = .ok (.aload_n 0, 1) := by decide +kernel
theorem d_906_22 : decode (mB 906) 22 = .ok (.getfield 95, 3) := by decide +kernel
theorem d_906_25 : decode (mB 906) 25 = .ok (.ifCond .ne 7, 3) := by decide +kernel
theorem d_906_28 : decode (mB 906) 28 = .ok (.iconst 1, 1) := by decide +kernel
theorem d_906_29 : decode (mB 906) 29 = .ok (.goto 4, 3) := by decide +kernel
theorem d_906_32 : decode (mB 906) 32 = .ok (.iconst 0, 1) := by decide +kernel
theorem d_906_33 : decode (mB 906) 33 = .ok (.ireturn, 1) := by decide +kernel
theorem d_928_0 : decode (mB 928) 0 = .ok (.aload_n 0, 1) := by decide +kernel
theorem d_928_1 : decode (mB 928) 1 = .ok (.aload_n 0, 1) := by decide +kernel
theorem d_928_2 : decode (mB 928) 2 = .ok (.getfield 7, 3) := by decide +kernel
theorem d_928_5 : decode (mB 928) 5 = .ok (.bipush 20, 2) := by decide +kernel
theorem d_928_7 : decode (mB 928) 7 = .ok (.iaload, 1) := by decide +kernel
theorem d_928_8 : decode (mB 928) 8 = .ok (.invokevirtual 216, 3) := by decide +kernel
theorem d_928_11 : decode (mB 928) 11 = .ok (.ireturn, 1) := by decide +kernel
theorem d_921_0 : decode (mB 921) 0 = .ok (.iload_n 1, 1) := by decide +kernel
theorem d_921_1 : decode (mB 921) 1 = .ok (.i2l, 1) := by decide +kernel
theorem d_921_2 : decode (mB 921) 2 = .ok (.lconst 0, 1) := by decide +kernel
theorem d_921_3 : decode (mB 921) 3 = .ok (.aload_n 0, 1) := by decide +kernel
theorem d_921_4 : decode (mB 921) 4 = .ok (.getfield 188, 3) := by decide +kernel
theorem d_921_7 : decode (mB 921) 7 = .ok (.iconst 1, 1) := by decide +kernel
theorem d_921_8 : decode (mB 921) 8 = .ok (.isub, 1) := by decide +kernel
theorem d_921_9 : decode (mB 921) 9 = .ok (.i2l, 1) := by decide +kernel
theorem d_921_10 : decode (mB 921) 10 = .ok (.invokestatic 83, 3) := by decide +kernel
theorem d_921_13 : decode (mB 921) 13 = .ok (.ireturn, 1) := by decide +kernel
theorem d_930_0 : decode (mB 930) 0 = .ok (.iconst 0, 1) := by decide +kernel
theorem d_930_1 : decode (mB 930) 1 = .ok (.istore_n 2, 1) := by decide +kernel
theorem d_930_2 : decode (mB 930) 2 = .ok (.iconst 0, 1) := by decide +kernel
theorem d_930_3 : decode (mB 930) 3 = .ok (.istore_n 3, 1) := by decide +kernel
theorem d_930_4 : decode (mB 930) 4 = .ok (.iload_n 3, 1) := by decide +kernel
theorem d_930_5 : decode (mB 930) 5 = .ok (.aload_n 0, 1) := by decide +kernel
theorem d_930_6 : decode (mB 930) 6 = .ok (.getfield 191, 3) := by decide +kernel
theorem d_930_9 : decode (mB 930) 9 = .ok (.if_icmp .ge 32, 3) := by decide +kernel
theorem d_930_12 : decode (mB 930) 12 = .ok (.iload_n 2, 1) := by decide +kernel
theorem d_930_13 : decode (mB 930) 13 = .ok (.aload_n 0, 1) := by decide +kernel
theorem d_930_14 : decode (mB 930) 14 = .ok (.getfield 7, 3) := by decide +kernel
theorem d_930_17 : decode (mB 930) 17 = .ok (.iload_n 3, 1) := by decide +kernel
theorem d_930_18 : decode (mB 930) 18 = .ok (.iaload, 1) := by decide +kernel
theorem d_930_19 : decode (mB 930) 19 = .ok (.iload_n 1, 1) := by decide +kernel
theorem d_930_20 : decode (mB 930) 20 = .ok (.if_icmp .ne 7, 3) := by decide +kernel
theorem d_930_23 : decode (mB 930) 23 = .ok (.iconst 1, 1) := by decide +kernel
theorem d_930_24 : decode (mB 930) 24 = .ok (.goto 4, 3) := by decide +kernel
theorem d_930_27 : decode (mB 930) 27 = .ok (.iconst 0, 1) := by decide +kernel
theorem d_930_28 : decode (mB 930) 28 = .ok (.invokestatic 223, 3) := by decide +kernel
theorem d_930_31 : decode (mB 930) 31 = .ok (.iload_n 3, 1) := by decide +kernel
theorem d_930_32 : decode (mB 930) 32 = .ok (.ishl, 1) := by decide +kernel
theorem d_930_33 : decode (mB 930) 33 = .ok (.ior, 1) := by decide +kernel
theorem d_930_34 : decode (mB 930) 34 = .ok (.istore_n 2, 1) := by decide +kernel
theorem d_930_35 : decode (mB 930) 35 = .ok (.iinc 3 1, 3) := by decide +kernel
theorem d_930_38 : decode (mB 930) 38 = .ok (.goto (-34), 3) := by decide +kernel
theorem d_930_41 : decode (mB 930) 41 = .ok (.iload_n 2, 1) := by decide +kernel
theorem d_930_42 : decode (mB 930) 42 = .ok (.ireturn, 1) := by decide +kernel
theorem d_922_0 : decode (mB 922) 0 = .ok (.iload_n 1, 1) := by decide +kernel
theorem d_922_1 : decode (mB 922) 1 = .ok (.i2l, 1) := by decide +kernel
theorem d_922_2 : decode (mB 922) 2 = .ok (.lconst 0, 1) := by decide +kernel
theorem d_922_3 : decode (mB 922) 3 = .ok (.aload_n 0, 1) := by decide +kernel
theorem d_922_4 : decode (mB 922) 4 = .ok (.getfield 191, 3) := by decide +kernel
theorem d_922_7 : decode (mB 922) 7 = .ok (.iconst 1, 1) := by decide +kernel
theorem d_922_8 : decode (mB 922) 8 = .ok (.isub, 1) := by decide +kernel
theorem d_922_9 : decode (mB 922) 9 = .ok (.i2l, 1) := by decide +kernel
theorem d_922_10 : decode (mB 922) 10 = .ok (.invokestatic 83, 3) := by decide +kernel
theorem d_922_13 : decode (mB 922) 13 = .ok (.ireturn, 1) := by decide +kernel
theorem d_925_0 : decode (mB 925) 0 = .ok (.aload_n 0, 1) := by decide +kernel
theorem d_925_1 : decode (mB 925) 1 = .ok (.iload_n 1, 1) := by decide +kernel
theorem d_925_2 : decode (mB 925) 2 = .ok (.iload_n 2, 1) := by decide +kernel
theorem d_925_3 : decode (mB 925) 3 = .ok (.aload_n 0, 1) := by decide +kernel
theorem d_925_4 : decode (mB 925) 4 = .ok (.getfield 7, 3) := by decide +kernel
theorem d_925_7 : decode (mB 925) 7 = .ok (.bipush 6, 2) := by decide +kernel
theorem d_925_9 : decode (mB 925) 9 = .ok (.iload_n 1, 1) := by decide +kernel
theorem d_925_10 : decode (mB 925) 10 = .ok (.iadd, 1) := by decide +kernel
theorem d_925_11 : decode (mB 925) 11 = .ok (.iaload, 1) := by decide +kernel
theorem d_925_12 : decode (mB 925) 12 = .ok (.invokevirtual 209, 3) := by decide +kernel
theorem d_925_15 : decode (mB 925) 15 = .ok (.aload_n 0, 1) := by decide +kernel
theorem d_925_16 : decode (mB 925) 16 = .ok (.iload_n 1, 1) := by decide +kernel
theorem d_925_17 : decode (mB 925) 17 = .ok (.iload_n 2, 1) := by decide +kernel
theorem d_925_18 : decode (mB 925) 18 = .ok (.invokevirtual 213, 3) := by decide +kernel
theorem d_925_21 : decode (mB 925) 21 = .ok (.ifCond .eq 7, 3) := by decide +kernel
theorem d_925_24 : decode (mB 925) 24 = .ok (.iconst 3, 1) := by decide +kernel
theorem d_925_25 : decode (mB 925) 25 = .ok (.goto 4, 3) := by decide +kernel
theorem d_925_28 : decode (mB 925) 28 = .ok (.iconst 0, 1) := by decide +kernel
theorem d_925_29 : decode (mB 925) 29 = .ok (.isub, 1) := by decide +kernel
theorem d_925_30 : decode (mB 925) 30 = .ok (.istore_n 3, 1) := by decide +kernel
theorem d_925_31 : decode (mB 925) 31 = .ok (.iload_n 3, 1) := by decide +kernel
theorem d_925_32 : decode (mB 925) 32 = .ok (.ifCond .ge 7, 3) := by decide +kernel
theorem d_925_35 : decode (mB 925) 35 = .ok (.iconst 0, 1) := by decide +kernel
theorem d_925_36 : decode (mB 925) 36 = .ok (.goto 4, 3) := by decide +kernel
theorem d_925_39 : decode (mB 925) 39 = .ok (.iload_n 3, 1) := by decide +kernel
theorem d_925_40 : decode (mB 925) 40 = .ok (.ireturn, 1) := by decide +kernel
theorem d_927_0 : decode (mB 927) 0 = .ok (.iload_n 2, 1) := by decide +kernel
theorem d_927_1 : decode (mB 927) 1 = .ok (.iload_n 1, 1) := by decide +kernel
theorem d_927_2 : decode (mB 927) 2 = .ok (.isub, 1) := by decide +kernel
theorem d_927_3 : decode (mB 927) 3 = .ok (.i2l, 1) := by decide +kernel
theorem d_927_4 : decode (mB 927) 4 = .ok (.lconst 0, 1) := by decide +kernel
theorem d_927_5 : decode (mB 927) 5 = .ok (.aload_n 0, 1) := by decide +kernel
theorem d_927_6 : decode (mB 927) 6 = .ok (.getfield 17, 3) := by decide +kernel
theorem d_927_9 : decode (mB 927) 9 = .ok (.iconst 1, 1) := by decide +kernel
theorem d_927_10 : decode (mB 927) 10 = .ok (.iaload, 1) := by decide +kernel
theorem d_927_11 : decode (mB 927) 11 = .ok (.i2l, 1) := by decide +kernel
theorem d_927_12 : decode (mB 927) 12 = .ok (.invokestatic 83, 3) := by decide +kernel
theorem d_927_15 : decode (mB 927) 15 = .ok (.ireturn, 1) := by decide +kernel
theorem d_901_0 : decode (mB 901) 0 = .ok (.iload_n 0, 1) := by decide +kernel
theorem d_901_1 : decode (mB 901) 1 = .ok (.ifCond .eq 7, 3) := by decide +kernel
theorem d_901_4 : decode (mB 901) 4 = .ok (.iconst 1, 1) := by decide +kernel
theorem d_901_5 : decode (mB 901) 5 = .ok (.goto 4, 3) := by decide +kernel
theorem d_901_8 : decode (mB 901) 8 = .ok (.iconst 0, 1) := by decide +kernel
theorem d_901_9 : decode (mB 901) 9 = .ok (.ireturn, 1) := by decide +kernel
theorem d_932_0 : decode (mB 932) 0 = .ok (.aload_n 0, 1) := by decide +kernel
theorem d_932_1 : decode (mB 932) 1 = .ok (.getfield 7, 3) := by decide +kernel
theorem d_932_4 : decode (mB 932) 4 = .ok (.bipush 12, 2) := by decide +kernel
theorem d_932_6 : decode (mB 932) 6 = .ok (.iload_n 1, 1) := by decide +kernel
theorem d_932_7 : decode (mB 932) 7 = .ok (.iadd, 1) := by decide +kernel
theorem d_932_8 : decode (mB 932) 8 = .ok (.iaload, 1) := by decide +kernel
theorem d_932_9 : decode (mB 932) 9 = .ok (.iconst 4, 1) := by decide +kernel
theorem d_932_10 : decode (mB 932) 10 = .ok (.iadd, 1) := by decide +kernel
theorem d_932_11 : decode (mB 932) 11 = .ok (.aload_n 0, 1) := by decide +kernel
theorem d_932_12 : decode (mB 932) 12 = .ok (.getfield 7, 3) := by decide +kernel
theorem d_932_15 : decode (mB 932) 15 = .ok (.bipush 21, 2) := by decide +kernel
theorem d_932_17 : decode (mB 932) 17 = .ok (.iaload, 1) := by decide +kernel
theorem d_932_18 : decode (mB 932) 18 = .ok (.isub, 1) := by decide +kernel
theorem d_932_19 : decode (mB 932) 19 = .ok (.istore_n 2, 1) := by decide +kernel
theorem d_932_20 : decode (mB 932) 20 = .ok (.iload_n 2, 1) := by decide +kernel
theorem d_932_21 : decode (mB 932) 21 = .ok (.ifCond .le 7, 3) := by decide +kernel
theorem d_932_24 : decode (mB 932) 24 = .ok (.iload_n 2, 1) := by decide +kernel
theorem d_932_25 : decode (mB 932) 25 = .ok (.goto 4, 3) := by decide +kernel
theorem d_932_28 : decode (mB 932) 28 = .ok (.iconst 0, 1) := by decide +kernel
theorem d_932_29 : decode (mB 932) 29 = .ok (.ireturn, 1) := by decide +kernel
theorem d_902_0 : decode (mB 902) 0 = .ok (.iload_n 0, 1) := by decide +kernel
theorem d_902_1 : decode (mB 902) 1 = .ok (.iload_n 1, 1) := by decide +kernel
theorem d_902_2 : decode (mB 902) 2 = .ok (.ishr, 1) := by decide +kernel
theorem d_902_3 : decode (mB 902) 3 = .ok (.iconst 1, 1) := by decide +kernel
theorem d_902_4 : decode (mB 902) 4 = .ok (.iand, 1) := by decide +kernel
theorem d_902_5 : decode (mB 902) 5 = .ok (.iconst 1, 1) := by decide +kernel
theorem d_902_6 : decode (mB 902) 6 = .ok (.if_icmp .ne 7, 3) := by decide +kernel
theorem d_902_9 : decode (mB 902) 9 = .ok (.iconst 1, 1) := by decide +kernel
theorem d_902_10 : decode (mB 902) 10 = .ok (.goto 4, 3) := by decide +kernel
theorem d_902_13 : decode (mB 902) 13 = .ok (.iconst 0, 1) := by decide +kernel
theorem d_902_14 : decode (mB 902) 14 = .ok (.ireturn, 1) := by decide +kernel
theorem d_924_0 : decode (mB 924) 0 = .ok (.iload_n 2, 1) := by decide +kernel
theorem d_924_1 : decode (mB 924) 1 = .ok (.i2l, 1) := by decide +kernel
theorem d_924_2 : decode (mB 924) 2 = .ok (.aload_n 0, 1) := by decide +kernel
theorem d_924_3 : decode (mB 924) 3 = .ok (.getfield 7, 3) := by decide +kernel
theorem d_924_6 : decode (mB 924) 6 = .ok (.bipush 12, 2) := by decide +kernel
theorem d_924_8 : decode (mB 924) 8 = .ok (.iload_n 1, 1) := by decide +kernel
theorem d_924_9 : decode (mB 924) 9 = .ok (.iadd, 1) := by decide +kernel
theorem d_924_10 : decode (mB 924) 10 = .ok (.iaload, 1) := by decide +kernel
theorem d_924_11 : decode (mB 924) 11 = .ok (.i2l, 1) := by decide +kernel
theorem d_924_12 : decode (mB 924) 12 = .ok (.aload_n 0, 1) := by decide +kernel
theorem d_924_13 : decode (mB 924) 13 = .ok (.getfield 7, 3) := by decide +kernel
theorem d_924_16 : decode (mB 924) 16 = .ok (.bipush 12, 2) := by decide +kernel
theorem d_924_18 : decode (mB 924) 18 = .ok (.iload_n 1, 1) := by decide +kernel
theorem d_924_19 : decode (mB 924) 19 = .ok (.iadd, 1) := by decide +kernel
theorem d_924_20 : decode (mB 924) 20 = .ok (.iaload, 1) := by decide +kernel
theorem d_924_21 : decode (mB 924) 21 = .ok (.iconst 3, 1) := by decide +kernel
theorem d_924_22 : decode (mB 924) 22 = .ok (.iadd, 1) := by decide +kernel
theorem d_924_23 : decode (mB 924) 23 = .ok (.i2l, 1) := by decide +kernel
theorem d_924_24 : decode (mB 924) 24 = .ok (.invokestatic 83, 3) := by decide +kernel
theorem d_924_27 : decode (mB 924) 27 = .ok (.ireturn, 1) := by decide +kernel
theorem d_942_0 : decode (mB 942) 0 = .ok (.aload_n 0, 1) := by decide +kernel
theorem d_942_1 : decode (mB 942) 1 = .ok (.getfield 23, 3) := by decide +kernel
theorem d_942_4 : decode (mB 942) 4 = .ok (.aload_n 0, 1) := by decide +kernel
theorem d_942_5 : decode (mB 942) 5 = .ok (.getfield 7, 3) := by decide +kernel
theorem d_942_8 : decode (mB 942) 8 = .ok (.aload_n 0, 1) := by decide +kernel
theorem d_942_9 : decode (mB 942) 9 = .ok (.getfield 197, 3) := by decide +kernel
theorem d_942_12 : decode (mB 942) 12 = .ok (.iaload, 1) := by decide +kernel
theorem d_942_13 : decode (mB 942) 13 = .ok (.iaload, 1) := by decide +kernel
theorem d_942_14 : decode (mB 942) 14 = .ok (.istore_n 1, 1) := by decide +kernel
theorem d_942_15 : decode (mB 942) 15 = .ok (.aload_n 0, 1) := by decide +kernel
theorem d_942_16 : decode (mB 942) 16 = .ok (.iload_n 1, 1) := by decide +kernel
theorem d_942_17 : decode (mB 942) 17 = .ok (.invokestatic 261, 3) := by decide +kernel
theorem d_942_20 : decode (mB 942) 20 = .ok (.iconst 1, 1) := by decide +kernel
theorem d_942_21 : decode (mB 942) 21 = .ok (.iadd, 1) := by decide +kernel
theorem d_942_22 : decode (mB 942) 22 = .ok (.invokevirtual 264, 3) := by decide +kernel
theorem d_942_25 : decode (mB 942) 25 = .ok (.istore_n 2, 1) := by decide +kernel
theorem d_942_26 : decode (mB 942) 26 = .ok (.iconst 0, 1) := by decide +kernel
theorem d_942_27 : decode (mB 942) 27 = .ok (.istore_n 3, 1) := by decide +kernel
theorem d_942_28 : decode (mB 942) 28 = .ok (.iload_n 3, 1) := by decide +kernel
theorem d_942_29 : decode (mB 942) 29 = .ok (.aload_n 0, 1) := by decide +kernel
theorem d_942_30 : decode (mB 942) 30 = .ok (.getfield 188, 3) := by decide +kernel
theorem d_942_33 : decode (mB 942) 33 = .ok (.if_icmp .ge 46, 3) := by decide +kernel
theorem d_942_36 : decode (mB 942) 36 = .ok (.iload_n 1, 1) := by decide +kernel
theorem d_942_37 : decode (mB 942) 37 = .ok (.iload_n 3, 1) := by decide +kernel
theorem d_942_38 : decode (mB 942) 38 = .ok (.invokestatic 124, 3) := by decide +kernel
theorem d_942_41 : decode (mB 942) 41 = .ok (.ifCond .eq 32, 3) := by decide +kernel
theorem d_942_44 : decode (mB 942) 44 = .ok (.aload_n 0, 1) := by decide +kernel
theorem d_942_45 : decode (mB 942) 45 = .ok (.getfield 7, 3) := by decide +kernel
theorem d_942_48 : decode (mB 942) 48 = .ok (.aload_n 0, 1) := by decide +kernel
theorem d_942_49 : decode (mB 942) 49 = .ok (.getfield 197, 3) := by decide +kernel
theorem d_942_52 : decode (mB 942) 52 = .ok (.iload_n 2, 1) := by decide +kernel
theorem d_942_53 : decode (mB 942) 53 = .ok (.ifCond .ne 7, 3) := by decide +kernel
theorem d_942_56 : decode (mB 942) 56 = .ok (.iload_n 3, 1) := by decide +kernel
theorem d_942_57 : decode (mB 942) 57 = .ok (.goto 12, 3) := by decide +kernel
theorem d_942_60 : decode (mB 942) 60 = .ok (.aload_n 0, 1) := by decide +kernel
theorem d_942_61 : decode (mB 942) 61 = .ok (.getfield 7, 3) := by decide +kernel
theorem d_942_64 : decode (mB 942) 64 = .ok (.aload_n 0, 1) := by decide +kernel
theorem d_942_65 : decode (mB 942) 65 = .ok (.getfield 197, 3) := by decide +kernel
theorem d_942_68 : decode (mB 942) 68 = .ok (.iaload, 1) := by decide +kernel
theorem d_942_69 : decode (mB 942) 69 = .ok (.iastore, 1) := by decide +kernel
theorem d_942_70 : decode (mB 942) 70 = .ok (.iinc 2 (-1), 3) := by decide +kernel
theorem d_942_73 : decode (mB 942) 73 = .ok (.iinc 3 1, 3) := by decide +kernel
theorem d_942_76 : decode (mB 942) 76 = .ok (.goto (-48), 3) := by decide +kernel
theorem d_942_79 : decode (mB 942) 79 = .ok (.return_, 1) := by decide +kernel
theorem d_941_0 : decode (mB 941) 0 = .ok (.aload_n 0, 1) := by decide +kernel
theorem d_941_1 : decode (mB 941) 1 = .ok (.getfield 7, 3) := by decide +kernel
theorem d_941_4 : decode (mB 941) 4 = .ok (.bipush 23, 2) := by decide +kernel
theorem d_941_6 : decode (mB 941) 6 = .ok (.aload_n 0, 1) := by decide +kernel
theorem d_941_7 : decode (mB 941) 7 = .ok (.getfield 7, 3) := by decide +kernel
theorem d_941_10 : decode (mB 941) 10 = .ok (.bipush 23, 2) := by decide +kernel
theorem d_941_12 : decode (mB 941) 12 = .ok (.iaload, 1) := by decide +kernel
theorem d_941_13 : decode (mB 941) 13 = .ok (.i2l, 1) := by decide +kernel
theorem d_941_14 : decode (mB 941) 14 = .ok (.ldc2_w 254, 3) := by decide +kernel
theorem d_941_17 : decode (mB 941) 17 = .ok (.lmul, 1) := by decide +kernel
theorem d_941_18 : decode (mB 941) 18 = .ok (.ldc2_w 256, 3) := by decide +kernel
theorem d_941_21 : decode (mB 941) 21 = .ok (.ladd, 1) := by decide +kernel
theorem d_941_22 : decode (mB 941) 22 = .ok (.ldc2_w 258, 3) := by decide +kernel
theorem d_941_25 : decode (mB 941) 25 = .ok (.lrem, 1) := by decide +kernel
theorem d_941_26 : decode (mB 941) 26 = .ok (.l2i, 1) := by decide +kernel
theorem d_941_27 : decode (mB 941) 27 = .ok (.iastore, 1) := by decide +kernel
theorem d_941_28 : decode (mB 941) 28 = .ok (.aload_n 0, 1) := by decide +kernel
theorem d_941_29 : decode (mB 941) 29 = .ok (.getfield 7, 3) := by decide +kernel
theorem d_941_32 : decode (mB 941) 32 = .ok (.bipush 23, 2) := by decide +kernel
theorem d_941_34 : decode (mB 941) 34 = .ok (.iaload, 1) := by decide +kernel
theorem d_941_35 : decode (mB 941) 35 = .ok (.ldc_w 260, 3) := by decide +kernel
theorem d_941_38 : decode (mB 941) 38 = .ok (.idiv, 1) := by decide +kernel
theorem d_941_39 : decode (mB 941) 39 = .ok (.iload_n 1, 1) := by decide +kernel
theorem d_941_40 : decode (mB 941) 40 = .ok (.irem, 1) := by decide +kernel
theorem d_941_41 : decode (mB 941) 41 = .ok (.ireturn, 1) := by decide +kernel
theorem d_945_0 : decode (mB 945) 0 = .ok (.aload_n 0, 1) := by decide +kernel
theorem d_945_1 : decode (mB 945) 1 = .ok (.aload_n 0, 1) := by decide +kernel
theorem d_945_2 : decode (mB 945) 2 = .ok (.getfield 7, 3) := by decide +kernel
theorem d_945_5 : decode (mB 945) 5 = .ok (.iload_n 1, 1) := by decide +kernel
theorem d_945_6 : decode (mB 945) 6 = .ok (.iaload, 1) := by decide +kernel
theorem d_945_7 : decode (mB 945) 7 = .ok (.invokevirtual 271, 3) := by decide +kernel
theorem d_945_10 : decode (mB 945) 10 = .ok (.iconst 0, 1) := by decide +kernel
theorem d_945_11 : decode (mB 945) 11 = .ok (.istore_n 2, 1) := by decide +kernel
theorem d_945_12 : decode (mB 945) 12 = .ok (.iload_n 2, 1) := by decide +kernel
theorem d_945_13 : decode (mB 945) 13 = .ok (.bipush 48, 2) := by decide +kernel
theorem d_945_15 : decode (mB 945) 15 = .ok (.if_icmp .gt 52, 3) := by decide +kernel
theorem d_945_18 : decode (mB 945) 18 = .ok (.aload_n 0, 1) := by decide +kernel
theorem d_945_19 : decode (mB 945) 19 = .ok (.getfield 51, 3) := by decide +kernel
theorem d_945_22 : decode (mB 945) 22 = .ok (.aload_n 0, 1) := by decide +kernel
theorem d_945_23 : decode (mB 945) 23 = .ok (.getfield 7, 3) := by decide +kernel
theorem d_945_26 : decode (mB 945) 26 = .ok (.bipush 22, 2) := by decide +kernel
theorem d_945_28 : decode (mB 945) 28 = .ok (.iaload, 1) := by decide +kernel
theorem d_945_29 : decode (mB 945) 29 = .ok (.iaload, 1) := by decide +kernel
theorem d_945_30 : decode (mB 945) 30 = .ok (.iload_n 2, 1) := by decide +kernel
theorem d_945_31 : decode (mB 945) 31 = .ok (.if_icmp .gt 30, 3) := by decide +kernel
theorem d_945_34 : decode (mB 945) 34 = .ok (.aload_n 0, 1) := by decide +kernel
theorem d_945_35 : decode (mB 945) 35 = .ok (.aload_n 0, 1) := by decide +kernel
theorem d_945_36 : decode (mB 945) 36 = .ok (.iload_n 1, 1) := by decide +kernel
theorem d_945_37 : decode (mB 945) 37 = .ok (.aload_n 0, 1) := by decide +kernel
theorem d_945_38 : decode (mB 945) 38 = .ok (.getfield 7, 3) := by decide +kernel
theorem d_945_41 : decode (mB 945) 41 = .ok (.bipush 21, 2) := by decide +kernel
theorem d_945_43 : decode (mB 945) 43 = .ok (.iaload, 1) := by decide +kernel
theorem d_945_44 : decode (mB 945) 44 = .ok (.iload_n 2, 1) := by decide +kernel
theorem d_945_45 : decode (mB 945) 45 = .ok (.iadd, 1) := by decide +kernel
theorem d_945_46 : decode (mB 945) 46 = .ok (.invokevirtual 241, 3) := by decide +kernel
theorem d_945_49 : decode (mB 945) 49 = .ok (.aload_n 0, 1) := by decide +kernel
theorem d_945_50 : decode (mB 945) 50 = .ok (.invokevirtual 220, 3) := by decide +kernel
theorem d_945_53 : decode (mB 945) 53 = .ok (.invokevirtual 244, 3) := by decide +kernel
theorem d_945_56 : decode (mB 945) 56 = .ok (.ifCond .eq 5, 3) := by decide +kernel
theorem d_945_59 : decode (mB 945) 59 = .ok (.iload_n 2, 1) := by decide +kernel
theorem d_945_60 : decode (mB 945) 60 = .ok (.ireturn, 1) := by decide +kernel
theorem d_945_61 : decode (mB 945) 61 = .ok (.iinc 2 1, 3) := by decide +kernel
theorem d_945_64 : decode (mB 945) 64 = .ok (.goto (-52), 3) := by decide +kernel
theorem d_945_67 : decode (mB 945) 67 = .ok (.iconst (-1), 1) := by decide +kernel
theorem d_945_68 : decode (mB 945) 68 = .ok (.ireturn, 1) := by decide +kernel
theorem d_952_0 : decode (mB 952) 0 = .ok (.aload_n 0, 1) := by decide +kernel
theorem d_952_1 : decode (mB 952) 1 = .ok (.iload_n 1, 1) := by decide +kernel
theorem d_952_2 : decode (mB 952) 2 = .ok (.invokevirtual 290, 3) := by decide +kernel
theorem d_952_5 : decode (mB 952) 5 = .ok (.ldc_w 270, 3) := by decide +kernel
theorem d_952_8 : decode (mB 952) 8 = .ok (.istore_n 2, 1) := by decide +kernel
theorem d_952_9 : decode (mB 952) 9 = .ok (.iconst 0, 1) := by decide +kernel
theorem d_952_10 : decode (mB 952) 10 = .ok (.istore_n 3, 1) := by decide +kernel
theorem d_952_11 : decode (mB 952) 11 = .ok (.iload_n 3, 1) := by decide +kernel
theorem d_952_12 : decode (mB 952) 12 = .ok (.aload_n 0, 1) := by decide +kernel
theorem d_952_13 : decode (mB 952) 13 = .ok (.getfield 188, 3) := by decide +kernel
theorem d_952_16 : decode (mB 952) 16 = .ok (.if_icmp .ge 110, 3) := by decide +kernel
theorem d_952_19 : decode (mB 952) 19 = .ok (.iconst 0, 1) := by decide +kernel
theorem d_952_20 : decode (mB 952) 20 = .ok (.istore 4, 2) := by decide +kernel
theorem d_952_22 : decode (mB 952) 22 = .ok (.iload 4, 2) := by decide +kernel
theorem d_952_24 : decode (mB 952) 24 = .ok (.aload_n 0, 1) := by decide +kernel
theorem d_952_25 : decode (mB 952) 25 = .ok (.getfield 188, 3) := by decide +kernel
theorem d_952_28 : decode (mB 952) 28 = .ok (.if_icmp .ge 92, 3) := by decide +kernel
theorem d_952_31 : decode (mB 952) 31 = .ok (.iconst 0, 1) := by decide +kernel
theorem d_952_32 : decode (mB 952) 32 = .ok (.istore 5, 2) := by decide +kernel
theorem d_952_34 : decode (mB 952) 34 = .ok (.iconst 0, 1) := by decide +kernel
theorem d_952_35 : decode (mB 952) 35 = .ok (.istore 6, 2) := by decide +kernel
theorem d_952_37 : decode (mB 952) 37 = .ok (.iload 6, 2) := by decide +kernel
theorem d_952_39 : decode (mB 952) 39 = .ok (.aload_n 0, 1) := by decide +kernel
theorem d_952_40 : decode (mB 952) 40 = .ok (.getfield 188, 3) := by decide +kernel
theorem d_952_43 : decode (mB 952) 43 = .ok (.if_icmp .ge 47, 3) := by decide +kernel
theorem d_952_46 : decode (mB 952) 46 = .ok (.aload_n 0, 1) := by decide +kernel
theorem d_952_47 : decode (mB 952) 47 = .ok (.getfield 54, 3) := by decide +kernel
theorem d_952_50 : decode (mB 952) 50 = .ok (.iload_n 3, 1) := by decide +kernel
theorem d_952_51 : decode (mB 952) 51 = .ok (.iload 4, 2) := by decide +kernel
theorem d_952_53 : decode (mB 952) 53 = .ok (.iload 6, 2) := by decide +kernel
theorem d_952_55 : decode (mB 952) 55 = .ok (.invokestatic 280, 3) := by decide +kernel
theorem d_952_58 : decode (mB 952) 58 = .ok (.iaload, 1) := by decide +kernel
theorem d_952_59 : decode (mB 952) 59 = .ok (.iload 5, 2) := by decide +kernel
theorem d_952_61 : decode (mB 952) 61 = .ok (.if_icmp .le 19, 3) := by decide +kernel
theorem d_952_64 : decode (mB 952) 64 = .ok (.aload_n 0, 1) := by decide +kernel
theorem d_952_65 : decode (mB 952) 65 = .ok (.getfield 54, 3) := by decide +kernel
theorem d_952_68 : decode (mB 952) 68 = .ok (.iload_n 3, 1) := by decide +kernel
theorem d_952_69 : decode (mB 952) 69 = .ok (.iload 4, 2) := by decide +kernel
theorem d_952_71 : decode (mB 952) 71 = .ok (.iload 6, 2) := by decide +kernel
theorem d_952_73 : decode (mB 952) 73 = .ok (.invokestatic 280, 3) := by decide +kernel
theorem d_952_76 : decode (mB 952) 76 = .ok (.iaload, 1) := by decide +kernel
theorem d_952_77 : decode (mB 952) 77 = .ok (.goto 5, 3) := by decide +kernel
theorem d_952_80 : decode (mB 952) 80 = .ok (.iload 5, 2) := by decide +kernel
theorem d_952_82 : decode (mB 952) 82 = .ok (.istore 5, 2) := by decide +kernel
theorem d_952_84 : decode (mB 952) 84 = .ok (.iinc 6 1, 3) := by decide +kernel
theorem d_952_87 : decode (mB 952) 87 = .ok (.goto (-50), 3) := by decide +kernel
theorem d_952_90 : decode (mB 952) 90 = .ok (.iload_n 1, 1) := by decide +kernel
theorem d_952_91 : decode (mB 952) 91 = .ok (.iconst 2, 1) := by decide +kernel
theorem d_952_92 : decode (mB 952) 92 = .ok (.if_icmp .eq 9, 3) := by decide +kernel
theorem d_952_95 : decode (mB 952) 95 = .ok (.iload_n 3, 1) := by decide +kernel
theorem d_952_96 : decode (mB 952) 96 = .ok (.iload 4, 2) := by decide +kernel
theorem d_952_98 : decode (mB 952) 98 = .ok (.if_icmp .ne 14, 3) := by decide +kernel
theorem d_952_101 : decode (mB 952) 101 = .ok (.iload 5, 2) := by decide +kernel
theorem d_952_103 : decode (mB 952) 103 = .ok (.iload_n 2, 1) := by decide +kernel
theorem d_952_104 : decode (mB 952) 104 = .ok (.if_icmp .ge 8, 3) := by decide +kernel
theorem d_952_107 : decode (mB 952) 107 = .ok (.iload 5, 2) := by decide +kernel
theorem d_952_109 : decode (mB 952) 109 = .ok (.goto 4, 3) := by decide +kernel
theorem d_952_112 : decode (mB 952) 112 = .ok (.iload_n 2, 1) := by decide +kernel
theorem d_952_113 : decode (mB 952) 113 = .ok (.istore_n 2, 1) := by decide +kernel
theorem d_952_114 : decode (mB 952) 114 = .ok (.iinc 4 1, 3) := by decide +kernel
theorem d_952_117 : decode (mB 952) 117 = .ok (.goto (-95), 3) := by decide +kernel
theorem d_952_120 : decode (mB 952) 120 = .ok (.iinc 3 1, 3) := by decide +kernel
theorem d_952_123 : decode (mB 952) 123 = .ok (.goto (-112), 3) := by decide +kernel
theorem d_952_126 : decode (mB 952) 126 = .ok (.iload_n 2, 1) := by decide +kernel
theorem d_952_127 : decode (mB 952) 127 = .ok (.ldc_w 270, 3) := by decide +kernel
theorem d_952_130 : decode (mB 952) 130 = .ok (.if_icmp .lt 7, 3) := by decide +kernel
theorem d_952_133 : decode (mB 952) 133 = .ok (.iconst (-1), 1) := by decide +kernel
theorem d_952_134 : decode (mB 952) 134 = .ok (.goto 4, 3) := by decide +kernel
theorem d_952_137 : decode (mB 952) 137 = .ok (.iload_n 2, 1) := by decide +kernel
theorem d_952_138 : decode (mB 952) 138 = .ok (.ireturn, 1) := by decide +kernel
theorem d_956_0 : decode (mB 956) 0 = .ok (.aload_n 0, 1) := by decide +kernel
theorem d_956_1 : decode (mB 956) 1 = .ok (.aload_n 0, 1) := by decide +kernel
theorem d_956_2 : decode (mB 956) 2 = .ok (.iload_n 1, 1) := by decide +kernel
theorem d_956_3 : decode (mB 956) 3 = .ok (.iload_n 2, 1) := by decide +kernel
theorem d_956_4 : decode (mB 956) 4 = .ok (.iconst 0, 1) := by decide +kernel
theorem d_956_5 : decode (mB 956) 5 = .ok (.invokevirtual 209, 3) := by decide +kernel
theorem d_956_8 : decode (mB 956) 8 = .ok (.aload_n 0, 1) := by decide +kernel
theorem d_956_9 : decode (mB 956) 9 = .ok (.getfield 17, 3) := by decide +kernel
theorem d_956_12 : decode (mB 956) 12 = .ok (.iconst 0, 1) := by decide +kernel
theorem d_956_13 : decode (mB 956) 13 = .ok (.iaload, 1) := by decide +kernel
theorem d_956_14 : decode (mB 956) 14 = .ok (.invokevirtual 244, 3) := by decide +kernel
theorem d_956_17 : decode (mB 956) 17 = .ok (.ifCond .eq 27, 3) := by decide +kernel
theorem d_956_20 : decode (mB 956) 20 = .ok (.aload_n 0, 1) := by decide +kernel
theorem d_956_21 : decode (mB 956) 21 = .ok (.aload_n 0, 1) := by decide +kernel
theorem d_956_22 : decode (mB 956) 22 = .ok (.iload_n 1, 1) := by decide +kernel
theorem d_956_23 : decode (mB 956) 23 = .ok (.iload_n 3, 1) := by decide +kernel
theorem d_956_24 : decode (mB 956) 24 = .ok (.iconst 0, 1) := by decide +kernel
theorem d_956_25 : decode (mB 956) 25 = .ok (.invokevirtual 209, 3) := by decide +kernel
theorem d_956_28 : decode (mB 956) 28 = .ok (.aload_n 0, 1) := by decide +kernel
theorem d_956_29 : decode (mB 956) 29 = .ok (.getfield 17, 3) := by decide +kernel
theorem d_956_32 : decode (mB 956) 32 = .ok (.iconst 0, 1) := by decide +kernel
theorem d_956_33 : decode (mB 956) 33 = .ok (.iaload, 1) := by decide +kernel
theorem d_956_34 : decode (mB 956) 34 = .ok (.invokevirtual 244, 3) := by decide +kernel
theorem d_956_37 : decode (mB 956) 37 = .ok (.ifCond .eq 7, 3) := by decide +kernel
theorem d_956_40 : decode (mB 956) 40 = .ok (.iconst 1, 1) := by decide +kernel
theorem d_956_41 : decode (mB 956) 41 = .ok (.goto 4, 3) := by decide +kernel
theorem d_956_44 : decode (mB 956) 44 = .ok (.iconst 0, 1) := by decide +kernel
theorem d_956_45 : decode (mB 956) 45 = .ok (.istore 4, 2) := by decide +kernel
theorem d_956_47 : decode (mB 956) 47 = .ok (.iconst 0, 1) := by decide +kernel
theorem d_956_48 : decode (mB 956) 48 = .ok (.istore 5, 2) := by decide +kernel
theorem d_956_50 : decode (mB 956) 50 = .ok (.iload 5, 2) := by decide +kernel
theorem d_956_52 : decode (mB 956) 52 = .ok (.aload_n 0, 1) := by decide +kernel
theorem d_956_53 : decode (mB 956) 53 = .ok (.getfield 191, 3) := by decide +kernel
theorem d_956_56 : decode (mB 956) 56 = .ok (.if_icmp .ge 38, 3) := by decide +kernel
theorem d_956_59 : decode (mB 956) 59 = .ok (.iload 4, 2) := by decide +kernel
theorem d_956_61 : decode (mB 956) 61 = .ok (.ifCond .eq 24, 3) := by decide +kernel
theorem d_956_64 : decode (mB 956) 64 = .ok (.iload 5, 2) := by decide +kernel
theorem d_956_66 : decode (mB 956) 66 = .ok (.iload_n 1, 1) := by decide +kernel
theorem d_956_67 : decode (mB 956) 67 = .ok (.if_icmp .eq 14, 3) := by decide +kernel
theorem d_956_70 : decode (mB 956) 70 = .ok (.aload_n 0, 1) := by decide +kernel
theorem d_956_71 : decode (mB 956) 71 = .ok (.iload 5, 2) := by decide +kernel
theorem d_956_73 : decode (mB 956) 73 = .ok (.iload_n 2, 1) := by decide +kernel
theorem d_956_74 : decode (mB 956) 74 = .ok (.iload_n 3, 1) := by decide +kernel
theorem d_956_75 : decode (mB 956) 75 = .ok (.invokevirtual 300, 3) := by decide +kernel
theorem d_956_78 : decode (mB 956) 78 = .ok (.ifCond .ge 7, 3) := by decide +kernel
theorem d_956_81 : decode (mB 956) 81 = .ok (.iconst 1, 1) := by decide +kernel
theorem d_956_82 : decode (mB 956) 82 = .ok (.goto 4, 3) := by decide +kernel
theorem d_956_85 : decode (mB 956) 85 = .ok (.iconst 0, 1) := by decide +kernel
theorem d_956_86 : decode (mB 956) 86 = .ok (.istore 4, 2) := by decide +kernel
theorem d_956_88 : decode (mB 956) 88 = .ok (.iinc 5 1, 3) := by decide +kernel
theorem d_956_91 : decode (mB 956) 91 = .ok (.goto (-41), 3) := by decide +kernel
theorem d_956_94 : decode (mB 956) 94 = .ok (.iload 4, 2) := by decide +kernel
theorem d_956_96 : decode (mB 956) 96 = .ok (.ireturn, 1) := by decide +kernel
theorem d_923_0 : decode (mB 923) 0 = .ok (.aload_n 0, 1) := by decide +kernel
theorem d_923_1 : decode (mB 923) 1 = .ok (.getfield 29, 3) := by decide +kernel
theorem d_923_4 : decode (mB 923) 4 = .ok (.iload_n 1, 1) := by decide +kernel
theorem d_923_5 : decode (mB 923) 5 = .ok (.iaload, 1) := by decide +kernel
theorem d_923_6 : decode (mB 923) 6 = .ok (.aload_n 0, 1) := by decide +kernel
theorem d_923_7 : decode (mB 923) 7 = .ok (.getfield 20, 3) := by decide +kernel
theorem d_923_10 : decode (mB 923) 10 = .ok (.aload_n 0, 1) := by decide +kernel
theorem d_923_11 : decode (mB 923) 11 = .ok (.getfield 7, 3) := by decide +kernel
theorem d_923_14 : decode (mB 923) 14 = .ok (.iload_n 1, 1) := by decide +kernel
theorem d_923_15 : decode (mB 923) 15 = .ok (.iaload, 1) := by decide +kernel
theorem d_923_16 : decode (mB 923) 16 = .ok (.iaload, 1) := by decide +kernel
theorem d_923_17 : decode (mB 923) 17 = .ok (.iadd, 1) := by decide +kernel
theorem d_923_18 : decode (mB 923) 18 = .ok (.iload_n 3, 1) := by decide +kernel
theorem d_923_19 : decode (mB 923) 19 = .ok (.iadd, 1) := by decide +kernel
theorem d_923_20 : decode (mB 923) 20 = .ok (.istore 4, 2) := by decide +kernel
theorem d_923_22 : decode (mB 923) 22 = .ok (.iload_n 2, 1) := by decide +kernel
theorem d_923_23 : decode (mB 923) 23 = .ok (.bipush 24, 2) := by decide +kernel
theorem d_923_25 : decode (mB 923) 25 = .ok (.irem, 1) := by decide +kernel
theorem d_923_26 : decode (mB 923) 26 = .ok (.aload_n 0, 1) := by decide +kernel
theorem d_923_27 : decode (mB 923) 27 = .ok (.getfield 78, 3) := by decide +kernel
theorem d_923_30 : decode (mB 923) 30 = .ok (.if_icmp .lt 15, 3) := by decide +kernel
theorem d_923_33 : decode (mB 923) 33 = .ok (.iload 4, 2) := by decide +kernel
theorem d_923_35 : decode (mB 923) 35 = .ok (.aload_n 0, 1) := by decide +kernel
theorem d_923_36 : decode (mB 923) 36 = .ok (.getfield 32, 3) := by decide +kernel
theorem d_923_39 : decode (mB 923) 39 = .ok (.iload_n 1, 1) := by decide +kernel
theorem d_923_40 : decode (mB 923) 40 = .ok (.iaload, 1) := by decide +kernel
theorem d_923_41 : decode (mB 923) 41 = .ok (.iadd, 1) := by decide +kernel
theorem d_923_42 : decode (mB 923) 42 = .ok (.goto 5, 3) := by decide +kernel
theorem d_923_45 : decode (mB 923) 45 = .ok (.iload 4, 2) := by decide +kernel
theorem d_923_47 : decode (mB 923) 47 = .ok (.ireturn, 1) := by decide +kernel
theorem d_958_0 : decode (mB 958) 0 = .ok (.aload_n 0, 1) := by decide +kernel
theorem d_958_1 : decode (mB 958) 1 = .ok (.aload_n 0, 1) := by decide +kernel
theorem d_958_2 : decode (mB 958) 2 = .ok (.iload_n 1, 1) := by decide +kernel
theorem d_958_3 : decode (mB 958) 3 = .ok (.iload_n 2, 1) := by decide +kernel
theorem d_958_4 : decode (mB 958) 4 = .ok (.aload_n 0, 1) := by decide +kernel
theorem d_958_5 : decode (mB 958) 5 = .ok (.getfield 7, 3) := by decide +kernel
theorem d_958_8 : decode (mB 958) 8 = .ok (.bipush 6, 2) := by decide +kernel
theorem d_958_10 : decode (mB 958) 10 = .ok (.iload_n 1, 1) := by decide +kernel
theorem d_958_11 : decode (mB 958) 11 = .ok (.iadd, 1) := by decide +kernel
theorem d_958_12 : decode (mB 958) 12 = .ok (.iaload, 1) := by decide +kernel
theorem d_958_13 : decode (mB 958) 13 = .ok (.invokevirtual 209, 3) := by decide +kernel
theorem d_958_16 : decode (mB 958) 16 = .ok (.iload_n 3, 1) := by decide +kernel
theorem d_958_17 : decode (mB 958) 17 = .ok (.invokevirtual 244, 3) := by decide +kernel
theorem d_958_20 : decode (mB 958) 20 = .ok (.ireturn, 1) := by decide +kernel
theorem d_926_0 : decode (mB 926) 0 = .ok (.aload_n 0, 1) := by decide +kernel
theorem d_926_1 : decode (mB 926) 1 = .ok (.getfield 17, 3) := by decide +kernel
theorem d_926_4 : decode (mB 926) 4 = .ok (.iconst 0, 1) := by decide +kernel
theorem d_926_5 : decode (mB 926) 5 = .ok (.iaload, 1) := by decide +kernel
theorem d_926_6 : decode (mB 926) 6 = .ok (.aload_n 0, 1) := by decide +kernel
theorem d_926_7 : decode (mB 926) 7 = .ok (.getfield 17, 3) := by decide +kernel
theorem d_926_10 : decode (mB 926) 10 = .ok (.iconst 2, 1) := by decide +kernel
theorem d_926_11 : decode (mB 926) 11 = .ok (.iaload, 1) := by decide +kernel
theorem d_926_12 : decode (mB 926) 12 = .ok (.ifCond .ne 7, 3) := by decide +kernel
theorem d_926_15 : decode (mB 926) 15 = .ok (.iconst 0, 1) := by decide +kernel
theorem d_926_16 : decode (mB 926) 16 = .ok (.goto 11, 3) := by decide +kernel
theorem d_926_19 : decode (mB 926) 19 = .ok (.iload_n 1, 1) := by decide +kernel
theorem d_926_20 : decode (mB 926) 20 = .ok (.aload_n 0, 1) := by decide +kernel
theorem d_926_21 : decode (mB 926) 21 = .ok (.getfield 17, 3) := by decide +kernel
theorem d_926_24 : decode (mB 926) 24 = .ok (.iconst 2, 1) := by decide +kernel
theorem d_926_25 : decode (mB 926) 25 = .ok (.iaload, 1) := by decide +kernel
theorem d_926_26 : decode (mB 926) 26 = .ok (.idiv, 1) := by decide +kernel
theorem d_926_27 : decode (mB 926) 27 = .ok (.iadd, 1) := by decide +kernel
theorem d_926_28 : decode (mB 926) 28 = .ok (.ireturn, 1) := by decide +kernel
theorem d_961_0 : decode (mB 961) 0 = .ok (.iconst (-1), 1) := by decide +kernel
theorem d_961_1 : decode (mB 961) 1 = .ok (.istore_n 1, 1) := by decide +kernel
theorem d_961_2 : decode (mB 961) 2 = .ok (.iconst 0, 1) := by decide +kernel
theorem d_961_3 : decode (mB 961) 3 = .ok (.istore_n 2, 1) := by decide +kernel
theorem d_961_4 : decode (mB 961) 4 = .ok (.iload_n 2, 1) := by decide +kernel
theorem d_961_5 : decode (mB 961) 5 = .ok (.aload_n 0, 1) := by decide +kernel
theorem d_961_6 : decode (mB 961) 6 = .ok (.getfield 191, 3) := by decide +kernel
theorem d_961_9 : decode (mB 961) 9 = .ok (.if_icmp .ge 54, 3) := by decide +kernel
theorem d_961_12 : decode (mB 961) 12 = .ok (.aload_n 0, 1) := by decide +kernel
theorem d_961_13 : decode (mB 961) 13 = .ok (.iload_n 2, 1) := by decide +kernel
theorem d_961_14 : decode (mB 961) 14 = .ok (.aload_n 0, 1) := by decide +kernel
theorem d_961_15 : decode (mB 961) 15 = .ok (.getfield 57, 3) := by decide +kernel
theorem d_961_18 : decode (mB 961) 18 = .ok (.iload_n 2, 1) := by decide +kernel
theorem d_961_19 : decode (mB 961) 19 = .ok (.iaload, 1) := by decide +kernel
theorem d_961_20 : decode (mB 961) 20 = .ok (.aload_n 0, 1) := by decide +kernel
theorem d_961_21 : decode (mB 961) 21 = .ok (.invokevirtual 220, 3) := by decide +kernel
theorem d_961_24 : decode (mB 961) 24 = .ok (.invokevirtual 307, 3) := by decide +kernel
theorem d_961_27 : decode (mB 961) 27 = .ok (.istore_n 3, 1) := by decide +kernel
theorem d_961_28 : decode (mB 961) 28 = .ok (.iload_n 3, 1) := by decide +kernel
theorem d_961_29 : decode (mB 961) 29 = .ok (.ifCond .eq 26, 3) := by decide +kernel
theorem d_961_32 : decode (mB 961) 32 = .ok (.iload_n 1, 1) := by decide +kernel
theorem d_961_33 : decode (mB 961) 33 = .ok (.ifCond .lt 18, 3) := by decide +kernel
theorem d_961_36 : decode (mB 961) 36 = .ok (.aload_n 0, 1) := by decide +kernel
theorem d_961_37 : decode (mB 961) 37 = .ok (.getfield 57, 3) := by decide +kernel
theorem d_961_40 : decode (mB 961) 40 = .ok (.iload_n 2, 1) := by decide +kernel
theorem d_961_41 : decode (mB 961) 41 = .ok (.iaload, 1) := by decide +kernel
theorem d_961_42 : decode (mB 961) 42 = .ok (.aload_n 0, 1) := by decide +kernel
theorem d_961_43 : decode (mB 961) 43 = .ok (.getfield 57, 3) := by decide +kernel
theorem d_961_46 : decode (mB 961) 46 = .ok (.iload_n 1, 1) := by decide +kernel
theorem d_961_47 : decode (mB 961) 47 = .ok (.iaload, 1) := by decide +kernel
theorem d_961_48 : decode (mB 961) 48 = .ok (.if_icmp .ge 7, 3) := by decide +kernel
theorem d_961_51 : decode (mB 961) 51 = .ok (.iload_n 2, 1) := by decide +kernel
theorem d_961_52 : decode (mB 961) 52 = .ok (.goto 4, 3) := by decide +kernel
theorem d_961_55 : decode (mB 961) 55 = .ok (.iload_n 1, 1) := by decide +kernel
theorem d_961_56 : decode (mB 961) 56 = .ok (.istore_n 1, 1) := by decide +kernel
theorem d_961_57 : decode (mB 961) 57 = .ok (.iinc 2 1, 3) := by decide +kernel
theorem d_961_60 : decode (mB 961) 60 = .ok (.goto (-56), 3) := by decide +kernel
theorem d_961_63 : decode (mB 961) 63 = .ok (.iload_n 1, 1) := by decide +kernel
theorem d_961_64 : decode (mB 961) 64 = .ok (.ireturn, 1) := by decide +kernel
theorem d_962_0 : decode (mB 962) 0 = .ok (.aload_n 0, 1) := by decide +kernel
theorem d_962_1 : decode (mB 962) 1 = .ok (.getfield 57, 3) := by decide +kernel
theorem d_962_4 : decode (mB 962) 4 = .ok (.iload_n 1, 1) := by decide +kernel
theorem d_962_5 : decode (mB 962) 5 = .ok (.iaload, 1) := by decide +kernel
theorem d_962_6 : decode (mB 962) 6 = .ok (.istore_n 2, 1) := by decide +kernel
theorem d_962_7 : decode (mB 962) 7 = .ok (.iconst 0, 1) := by decide +kernel
theorem d_962_8 : decode (mB 962) 8 = .ok (.istore_n 3, 1) := by decide +kernel
theorem d_962_9 : decode (mB 962) 9 = .ok (.iload_n 3, 1) := by decide +kernel
theorem d_962_10 : decode (mB 962) 10 = .ok (.bipush 24, 2) := by decide +kernel
theorem d_962_12 : decode (mB 962) 12 = .ok (.if_icmp .ge 24, 3) := by decide +kernel
theorem d_962_15 : decode (mB 962) 15 = .ok (.aload_n 0, 1) := by decide +kernel
theorem d_962_16 : decode (mB 962) 16 = .ok (.invokevirtual 310, 3) := by decide +kernel
theorem d_962_19 : decode (mB 962) 19 = .ok (.iload_n 1, 1) := by decide +kernel
theorem d_962_20 : decode (mB 962) 20 = .ok (.if_icmp .eq 16, 3) := by decide +kernel
theorem d_962_23 : decode (mB 962) 23 = .ok (.aload_n 0, 1) := by decide +kernel
theorem d_962_24 : decode (mB 962) 24 = .ok (.getfield 57, 3) := by decide +kernel
theorem d_962_27 : decode (mB 962) 27 = .ok (.iload_n 1, 1) := by decide +kernel
theorem d_962_28 : decode (mB 962) 28 = .ok (.iload_n 3, 1) := by decide +kernel
theorem d_962_29 : decode (mB 962) 29 = .ok (.iastore, 1) := by decide +kernel
theorem d_962_30 : decode (mB 962) 30 = .ok (.iinc 3 1, 3) := by decide +kernel
theorem d_962_33 : decode (mB 962) 33 = .ok (.goto (-24), 3) := by decide +kernel
theorem d_962_36 : decode (mB 962) 36 = .ok (.aload_n 0, 1) := by decide +kernel
theorem d_962_37 : decode (mB 962) 37 = .ok (.invokevirtual 310, 3) := by decide +kernel
theorem d_962_40 : decode (mB 962) 40 = .ok (.iload_n 1, 1) := by decide +kernel
theorem d_962_41 : decode (mB 962) 41 = .ok (.if_icmp .ne 7, 3) := by decide +kernel
theorem d_962_44 : decode (mB 962) 44 = .ok (.iconst 1, 1) := by decide +kernel
theorem d_962_45 : decode (mB 962) 45 = .ok (.goto 4, 3) := by decide +kernel
theorem d_962_48 : decode (mB 962) 48 = .ok (.iconst 0, 1) := by decide +kernel
theorem d_962_49 : decode (mB 962) 49 = .ok (.istore_n 3, 1) := by decide +kernel
theorem d_962_50 : decode (mB 962) 50 = .ok (.aload_n 0, 1) := by decide +kernel
theorem d_962_51 : decode (mB 962) 51 = .ok (.getfield 57, 3) := by decide +kernel
theorem d_962_54 : decode (mB 962) 54 = .ok (.iload_n 1, 1) := by decide +kernel
theorem d_962_55 : decode (mB 962) 55 = .ok (.iload_n 3, 1) := by decide +kernel
theorem d_962_56 : decode (mB 962) 56 = .ok (.ifCond .eq 12, 3) := by decide +kernel
theorem d_962_59 : decode (mB 962) 59 = .ok (.aload_n 0, 1) := by decide +kernel
theorem d_962_60 : decode (mB 962) 60 = .ok (.getfield 57, 3) := by decide +kernel
theorem d_962_63 : decode (mB 962) 63 = .ok (.iload_n 1, 1) := by decide +kernel
theorem d_962_64 : decode (mB 962) 64 = .ok (.iaload, 1) := by decide +kernel
theorem d_962_65 : decode (mB 962) 65 = .ok (.goto 4, 3) := by decide +kernel
theorem d_962_68 : decode (mB 962) 68 = .ok (.iload_n 2, 1) := by decide +kernel
theorem d_962_69 : decode (mB 962) 69 = .ok (.iastore, 1) := by decide +kernel
theorem d_962_70 : decode (mB 962) 70 = .ok (.aload_n 0, 1) := by decide +kernel
theorem d_962_71 : decode (mB 962) 71 = .ok (.getfield 57, 3) := by decide +kernel
theorem d_962_74 : decode (mB 962) 74 = .ok (.iload_n 1, 1) := by decide +kernel
theorem d_962_75 : decode (mB 962) 75 = .ok (.iaload, 1) := by decide +kernel
theorem d_962_76 : decode (mB 962) 76 = .ok (.iload_n 2, 1) := by decide +kernel
theorem d_962_77 : decode (mB 962) 77 = .ok (.if_icmp .eq 7, 3) := by decide +kernel
theorem d_962_80 : decode (mB 962) 80 = .ok (.iconst 1, 1) := by decide +kernel
theorem d_962_81 : decode (mB 962) 81 = .ok (.goto 4, 3) := by decide +kernel
theorem d_962_84 : decode (mB 962) 84 = .ok (.iconst 0, 1) := by decide +kernel
theorem d_962_85 : decode (mB 962) 85 = .ok (.ireturn, 1) := by decide +kernel
theorem d_903_0 : decode (mB 903) 0 = .ok (.iconst 0, 1) := by decide +kernel
theorem d_903_1 : decode (mB 903) 1 = .ok (.istore_n 1, 1) := by decide +kernel
theorem d_903_2 : decode (mB 903) 2 = .ok (.iconst 0, 1) := by decide +kernel
theorem d_903_3 : decode (mB 903) 3 = .ok (.istore_n 2, 1) := by decide +kernel
theorem d_903_4 : decode (mB 903) 4 = .ok (.iload_n 2, 1) := by decide +kernel
theorem d_903_5 : decode (mB 903) 5 = .ok (.bipush 6, 2) := by decide +kernel
theorem d_903_7 : decode (mB 903) 7 = .ok (.if_icmp .ge 17, 3) := by decide +kernel
theorem d_903_10 : decode (mB 903) 10 = .ok (.iload_n 1, 1) := by decide +kernel
theorem d_903_11 : decode (mB 903) 11 = .ok (.iload_n 0, 1) := by decide +kernel
theorem d_903_12 : decode (mB 903) 12 = .ok (.iload_n 2, 1) := by decide +kernel
theorem d_903_13 : decode (mB 903) 13 = .ok (.ishr, 1) := by decide +kernel
theorem d_903_14 : decode (mB 903) 14 = .ok (.iconst 1, 1) := by decide +kernel
theorem d_903_15 : decode (mB 903) 15 = .ok (.iand, 1) := by decide +kernel
theorem d_903_16 : decode (mB 903) 16 = .ok (.iadd, 1) := by decide +kernel
theorem d_903_17 : decode (mB 903) 17 = .ok (.istore_n 1, 1) := by decide +kernel
theorem d_903_18 : decode (mB 903) 18 = .ok (.iinc 2 1, 3) := by decide +kernel
theorem d_903_21 : decode (mB 903) 21 = .ok (.goto (-17), 3) := by decide +kernel
theorem d_903_24 : decode (mB 903) 24 = .ok (.iload_n 1, 1) := by decide +kernel
theorem d_903_25 : decode (mB 903) 25 = .ok (.ireturn, 1) := by decide +kernel
theorem d_969_0 : decode (mB 969) 0 = .ok (.iconst 1, 1) := by decide +kernel
theorem d_969_1 : decode (mB 969) 1 = .ok (.istore_n 3, 1) := by decide +kernel
theorem d_969_2 : decode (mB 969) 2 = .ok (.iconst 0, 1) := by decide +kernel
theorem d_969_3 : decode (mB 969) 3 = .ok (.istore 4, 2) := by decide +kernel
theorem d_969_5 : decode (mB 969) 5 = .ok (.iload 4, 2) := by decide +kernel
theorem d_969_7 : decode (mB 969) 7 = .ok (.aload_n 0, 1) := by decide +kernel
theorem d_969_8 : decode (mB 969) 8 = .ok (.getfield 203, 3) := by decide +kernel
theorem d_969_11 : decode (mB 969) 11 = .ok (.if_icmp .ge 50, 3) := by decide +kernel
theorem d_969_14 : decode (mB 969) 14 = .ok (.iload_n 3, 1) := by decide +kernel
theorem d_969_15 : decode (mB 969) 15 = .ok (.ifCond .eq 46, 3) := by decide +kernel
theorem d_969_18 : decode (mB 969) 18 = .ok (.aload_n 0, 1) := by decide +kernel
theorem d_969_19 : decode (mB 969) 19 = .ok (.getfield 38, 3) := by decide +kernel
theorem d_969_22 : decode (mB 969) 22 = .ok (.bipush 6, 2) := by decide +kernel
theorem d_969_24 : decode (mB 969) 24 = .ok (.iload_n 1, 1) := by decide +kernel
theorem d_969_25 : decode (mB 969) 25 = .ok (.imul, 1) := by decide +kernel
theorem d_969_26 : decode (mB 969) 26 = .ok (.iload_n 2, 1) := by decide +kernel
theorem d_969_27 : decode (mB 969) 27 = .ok (.iload 4, 2) := by decide +kernel
theorem d_969_29 : decode (mB 969) 29 = .ok (.iadd, 1) := by decide +kernel
theorem d_969_30 : decode (mB 969) 30 = .ok (.aload_n 0, 1) := by decide +kernel
theorem d_969_31 : decode (mB 969) 31 = .ok (.getfield 41, 3) := by decide +kernel
theorem d_969_34 : decode (mB 969) 34 = .ok (.iload_n 1, 1) := by decide +kernel
theorem d_969_35 : decode (mB 969) 35 = .ok (.iaload, 1) := by decide +kernel
theorem d_969_36 : decode (mB 969) 36 = .ok (.irem, 1) := by decide +kernel
theorem d_969_37 : decode (mB 969) 37 = .ok (.iadd, 1) := by decide +kernel
theorem d_969_38 : decode (mB 969) 38 = .ok (.iaload, 1) := by decide +kernel
theorem d_969_39 : decode (mB 969) 39 = .ok (.aload_n 0, 1) := by decide +kernel
theorem d_969_40 : decode (mB 969) 40 = .ok (.getfield 66, 3) := by decide +kernel
theorem d_969_43 : decode (mB 969) 43 = .ok (.iload 4, 2) := by decide +kernel
theorem d_969_45 : decode (mB 969) 45 = .ok (.iaload, 1) := by decide +kernel
theorem d_969_46 : decode (mB 969) 46 = .ok (.if_icmp .ne 7, 3) := by decide +kernel
theorem d_969_49 : decode (mB 969) 49 = .ok (.iconst 1, 1) := by decide +kernel
theorem d_969_50 : decode (mB 969) 50 = .ok (.goto 4, 3) := by decide +kernel
theorem d_969_53 : decode (mB 969) 53 = .ok (.iconst 0, 1) := by decide +kernel
theorem d_969_54 : decode (mB 969) 54 = .ok (.istore_n 3, 1) := by decide +kernel
theorem d_969_55 : decode (mB 969) 55 = .ok (.iinc 4 1, 3) := by decide +kernel
theorem d_969_58 : decode (mB 969) 58 = .ok (.goto (-53), 3) := by decide +kernel
theorem d_969_61 : decode (mB 969) 61 = .ok (.iload_n 3, 1) := by decide +kernel
theorem d_969_62 : decode (mB 969) 62 = .ok (.ireturn, 1) := by decide +kernel
theorem d_975_0 : decode (mB 975) 0 = .ok (.iconst 0, 1) := by decide +kernel
theorem d_975_1 : decode (mB 975) 1 = .ok (.istore_n 3, 1) := by decide +kernel
theorem d_975_2 : decode (mB 975) 2 = .ok (.iload_n 3, 1) := by decide +kernel
theorem d_975_3 : decode (mB 975) 3 = .ok (.bipush 32, 2) := by decide +kernel
theorem d_975_5 : decode (mB 975) 5 = .ok (.if_icmp .ge 25, 3) := by decide +kernel
theorem d_975_8 : decode (mB 975) 8 = .ok (.aload_n 0, 1) := by decide +kernel
theorem d_975_9 : decode (mB 975) 9 = .ok (.getfield 7, 3) := by decide +kernel
theorem d_975_12 : decode (mB 975) 12 = .ok (.iload_n 2, 1) := by decide +kernel
theorem d_975_13 : decode (mB 975) 13 = .ok (.iload_n 3, 1) := by decide +kernel
theorem d_975_14 : decode (mB 975) 14 = .ok (.iadd, 1) := by decide +kernel
theorem d_975_15 : decode (mB 975) 15 = .ok (.aload_n 0, 1) := by decide +kernel
theorem d_975_16 : decode (mB 975) 16 = .ok (.getfield 7, 3) := by decide +kernel
theorem d_975_19 : decode (mB 975) 19 = .ok (.iload_n 1, 1) := by decide +kernel
theorem d_975_20 : decode (mB 975) 20 = .ok (.iload_n 3, 1) := by decide +kernel
theorem d_975_21 : decode (mB 975) 21 = .ok (.iadd, 1) := by decide +kernel
theorem d_975_22 : decode (mB 975) 22 = .ok (.iaload, 1) := by decide +kernel
theorem d_975_23 : decode (mB 975) 23 = .ok (.iastore, 1) := by decide +kernel
theorem d_975_24 : decode (mB 975) 24 = .ok (.iinc 3 1, 3) := by decide +kernel
theorem d_975_27 : decode (mB 975) 27 = .ok (.goto (-25), 3) := by decide +kernel
theorem d_975_30 : decode (mB 975) 30 = .ok (.return_, 1) := by decide +kernel
theorem d_907_0 : decode (mB 907) 0 = .ok (.aload_n 0, 1) := by decide +kernel
theorem d_907_1 : decode (mB 907) 1 = .ok (.invokevirtual 98, 3) := by decide +kernel
theorem d_907_4 : decode (mB 907) 4 = .ok (.istore_n 1, 1) := by decide +kernel
theorem d_907_5 : decode (mB 907) 5 = .ok (.aload_n 0, 1) := by decide +kernel
theorem d_907_6 : decode (mB 907) 6 = .ok (.aload_n 0, 1) := by decide +kernel
theorem d_907_7 : decode (mB 907) 7 = .ok (.getfield 92, 3) := by decide +kernel
theorem d_907_10 : decode (mB 907) 10 = .ok (.putfield 102, 3) := by decide +kernel
theorem d_907_13 : decode (mB 907) 13 = .ok (.aload_n 0, 1) := by decide +kernel
theorem d_907_14 : decode (mB 907) 14 = .ok (.getfield 92, 3) := by decide +kernel
theorem d_907_17 : decode (mB 907) 17 = .ok (.aload_n 0, 1) := by decide +kernel
theorem d_907_18 : decode (mB 907) 18 = .ok (.getfield 88, 3) := by decide +kernel
theorem d_907_21 : decode (mB 907) 21 = .ok (.if_icmp .ge 38, 3) := by decide +kernel
theorem d_907_24 : decode (mB 907) 24 = .ok (.aload_n 0, 1) := by decide +kernel
theorem d_907_25 : decode (mB 907) 25 = .ok (.getfield 44, 3) := by decide +kernel
theorem d_907_28 : decode (mB 907) 28 = .ok (.aload_n 0, 1) := by decide +kernel
theorem d_907_29 : decode (mB 907) 29 = .ok (.getfield 92, 3) := by decide +kernel
theorem d_907_32 : decode (mB 907) 32 = .ok (.iaload, 1) := by decide +kernel
theorem d_907_33 : decode (mB 907) 33 = .ok (.i2l, 1) := by decide +kernel
theorem d_907_34 : decode (mB 907) 34 = .ok (.ldc2_w 105, 3) := by decide +kernel
theorem d_907_37 : decode (mB 907) 37 = .ok (.ldc2_w 107, 3) := by decide +kernel
theorem d_907_40 : decode (mB 907) 40 = .ok (.invokestatic 83, 3) := by decide +kernel
theorem d_907_43 : decode (mB 907) 43 = .ok (.ifCond .eq 16, 3) := by decide +kernel
theorem d_907_46 : decode (mB 907) 46 = .ok (.aload_n 0, 1) := by decide +kernel
theorem d_907_47 : decode (mB 907) 47 = .ok (.dup, 1) := by decide +kernel
theorem d_907_48 : decode (mB 907) 48 = .ok (.getfield 92, 3) := by decide +kernel
theorem d_907_51 : decode (mB 907) 51 = .ok (.iconst 1, 1) := by decide +kernel
theorem d_907_52 : decode (mB 907) 52 = .ok (.iadd, 1) := by decide +kernel
theorem d_907_53 : decode (mB 907) 53 = .ok (.putfield 92, 3) := by decide +kernel
theorem d_907_56 : decode (mB 907) 56 = .ok (.goto (-43), 3) := by decide +kernel
theorem d_907_59 : decode (mB 907) 59 = .ok (.aload_n 0, 1) := by decide +kernel
theorem d_907_60 : decode (mB 907) 60 = .ok (.aload_n 0, 1) := by decide +kernel
theorem d_907_61 : decode (mB 907) 61 = .ok (.getfield 92, 3) := by decide +kernel
theorem d_907_64 : decode (mB 907) 64 = .ok (.aload_n 0, 1) := by decide +kernel
theorem d_907_65 : decode (mB 907) 65 = .ok (.getfield 102, 3) := by decide +kernel
theorem d_907_68 : decode (mB 907) 68 = .ok (.isub, 1) := by decide +kernel
theorem d_907_69 : decode (mB 907) 69 = .ok (.putfield 109, 3) := by decide +kernel
theorem d_907_72 : decode (mB 907) 72 = .ok (.return_, 1) := by decide +kernel
theorem d_908_0 : decode (mB 908) 0 = .ok (.aload_n 0, 1) := by decide +kernel
theorem d_908_1 : decode (mB 908) 1 = .ok (.getfield 109, 3) := by decide +kernel
theorem d_908_4 : decode (mB 908) 4 = .ok (.iload_n 1, 1) := by decide +kernel
theorem d_908_5 : decode (mB 908) 5 = .ok (.if_icmp .ne 7, 3) := by decide +kernel
theorem d_908_8 : decode (mB 908) 8 = .ok (.iconst 1, 1) := by decide +kernel
theorem d_908_9 : decode (mB 908) 9 = .ok (.goto 4, 3) := by decide +kernel
theorem d_908_12 : decode (mB 908) 12 = .ok (.iconst 0, 1) := by decide +kernel
theorem d_908_13 : decode (mB 908) 13 = .ok (.istore 7, 2) := by decide +kernel
theorem d_908_15 : decode (mB 908) 15 = .ok (.iconst 0, 1) := by decide +kernel
theorem d_908_16 : decode (mB 908) 16 = .ok (.istore 8, 2) := by decide +kernel
theorem d_908_18 : decode (mB 908) 18 = .ok (.iload 8, 2) := by decide +kernel
theorem d_908_20 : decode (mB 908) 20 = .ok (.iload_n 1, 1) := by decide +kernel
theorem d_908_21 : decode (mB 908) 21 = .ok (.if_icmp .ge 79, 3) := by decide +kernel
theorem d_908_24 : decode (mB 908) 24 = .ok (.iload 7, 2) := by decide +kernel
theorem d_908_26 : decode (mB 908) 26 = .ok (.ifCond .eq 74, 3) := by decide +kernel
theorem d_908_29 : decode (mB 908) 29 = .ok (.aload_n 0, 1) := by decide +kernel
theorem d_908_30 : decode (mB 908) 30 = .ok (.getfield 44, 3) := by decide +kernel
theorem d_908_33 : decode (mB 908) 33 = .ok (.aload_n 0, 1) := by decide +kernel
theorem d_908_34 : decode (mB 908) 34 = .ok (.getfield 102, 3) := by decide +kernel
theorem d_908_37 : decode (mB 908) 37 = .ok (.iload 8, 2) := by decide +kernel
theorem d_908_39 : decode (mB 908) 39 = .ok (.iadd, 1) := by decide +kernel
theorem d_908_40 : decode (mB 908) 40 = .ok (.iaload, 1) := by decide +kernel
theorem d_908_41 : decode (mB 908) 41 = .ok (.iload 8, 2) := by decide +kernel
theorem d_908_43 : decode (mB 908) 43 = .ok (.ifCond .ne 7, 3) := by decide +kernel
theorem d_908_46 : decode (mB 908) 46 = .ok (.iload_n 2, 1) := by decide +kernel
theorem d_908_47 : decode (mB 908) 47 = .ok (.goto 37, 3) := by decide +kernel
theorem d_908_50 : decode (mB 908) 50 = .ok (.iload 8, 2) := by decide +kernel
theorem d_908_52 : decode (mB 908) 52 = .ok (.iconst 1, 1) := by decide +kernel
theorem d_908_53 : decode (mB 908) 53 = .ok (.if_icmp .ne 7, 3) := by decide +kernel
theorem d_908_56 : decode (mB 908) 56 = .ok (.iload_n 3, 1) := by decide +kernel
theorem d_908_57 : decode (mB 908) 57 = .ok (.goto 27, 3) := by decide +kernel
theorem d_908_60 : decode (mB 908) 60 = .ok (.iload 8, 2) := by decide +kernel
theorem d_908_62 : decode (mB 908) 62 = .ok (.iconst 2, 1) := by decide +kernel
theorem d_908_63 : decode (mB 908) 63 = .ok (.if_icmp .ne 8, 3) := by decide +kernel
theorem d_908_66 : decode (mB 908) 66 = .ok (.iload 4, 2) := by decide +kernel
theorem d_908_68 : decode (mB 908) 68 = .ok (.goto 16, 3) := by decide +kernel
theorem d_908_71 : decode (mB 908) 71 = .ok (.iload 8, 2) := by decide +kernel
theorem d_908_73 : decode (mB 908) 73 = .ok (.iconst 3, 1) := by decide +kernel
theorem d_908_74 : decode (mB 908) 74 = .ok (.if_icmp .ne 8, 3) := by decide +kernel
theorem d_908_77 : decode (mB 908) 77 = .ok (.iload 5, 2) := by decide +kernel
theorem d_908_79 : decode (mB 908) 79 = .ok (.goto 5, 3) := by decide +kernel
theorem d_908_82 : decode (mB 908) 82 = .ok (.iload 6, 2) := by decide +kernel
theorem d_908_84 : decode (mB 908) 84 = .ok (.if_icmp .ne 7, 3) := by decide +kernel
theorem d_908_87 : decode (mB 908) 87 = .ok (.iconst 1, 1) := by decide +kernel
theorem d_908_88 : decode (mB 908) 88 = .ok (.goto 4, 3) := by decide +kernel
theorem d_908_91 : decode (mB 908) 91 = .ok (.iconst 0, 1) := by decide +kernel
theorem d_908_92 : decode (mB 908) 92 = .ok (.istore 7, 2) := by decide +kernel
theorem d_908_94 : decode (mB 908) 94 = .ok (.iinc 8 1, 3) := by decide +kernel
theorem d_908_97 : decode (mB 908) 97 = .ok (.goto (-79), 3) := by decide +kernel
theorem d_908_100 : decode (mB 908) 100 = .ok (.iload 7, 2) := by decide +kernel
theorem d_908_102 : decode (mB 908) 102 = .ok (.ireturn, 1) := by decide +kernel
theorem d_910_0 : decode (mB 910) 0 = .ok (.aload_n 0, 1) := by decide +kernel
theorem d_910_1 : decode (mB 910) 1 = .ok (.aload_n 0, 1) := by decide +kernel
theorem d_910_2 : decode (mB 910) 2 = .ok (.getfield 121, 3) := by decide +kernel
theorem d_910_5 : decode (mB 910) 5 = .ok (.iconst 0, 1) := by decide +kernel
theorem d_910_6 : decode (mB 910) 6 = .ok (.invokestatic 124, 3) := by decide +kernel
theorem d_910_9 : decode (mB 910) 9 = .ok (.ifCond .ne 7, 3) := by decide +kernel
theorem d_910_12 : decode (mB 910) 12 = .ok (.iconst 1, 1) := by decide +kernel
theorem d_910_13 : decode (mB 910) 13 = .ok (.goto 4, 3) := by decide +kernel
theorem d_910_16 : decode (mB 910) 16 = .ok (.iconst 0, 1) := by decide +kernel
theorem d_910_17 : decode (mB 910) 17 = .ok (.iconst 3, 1) := by decide +kernel
theorem d_910_18 : decode (mB 910) 18 = .ok (.iload_n 1, 1) := by decide +kernel
theorem d_910_19 : decode (mB 910) 19 = .ok (.invokevirtual 116, 3) := by decide +kernel
theorem d_910_22 : decode (mB 910) 22 = .ok (.ifCond .eq 52, 3) := by decide +kernel
theorem d_910_25 : decode (mB 910) 25 = .ok (.aload_n 0, 1) := by decide +kernel
theorem d_910_26 : decode (mB 910) 26 = .ok (.dup, 1) := by decide +kernel
theorem d_910_27 : decode (mB 910) 27 = .ok (.getfield 121, 3) := by decide +kernel
theorem d_910_30 : decode (mB 910) 30 = .ok (.iconst 1, 1) := by decide +kernel
theorem d_910_31 : decode (mB 910) 31 = .ok (.ior, 1) := by decide +kernel
theorem d_910_32 : decode (mB 910) 32 = .ok (.putfield 121, 3) := by decide +kernel
theorem d_910_35 : decode (mB 910) 35 = .ok (.aload_n 0, 1) := by decide +kernel
theorem d_910_36 : decode (mB 910) 36 = .ok (.getfield 17, 3) := by decide +kernel
theorem d_910_39 : decode (mB 910) 39 = .ok (.iconst 3, 1) := by decide +kernel
theorem d_910_40 : decode (mB 910) 40 = .ok (.aload_n 0, 1) := by decide +kernel
theorem d_910_41 : decode (mB 910) 41 = .ok (.iconst 1, 1) := by decide +kernel
theorem d_910_42 : decode (mB 910) 42 = .ok (.bipush 99, 2) := by decide +kernel
theorem d_910_44 : decode (mB 910) 44 = .ok (.invokevirtual 128, 3) := by decide +kernel
theorem d_910_47 : decode (mB 910) 47 = .ok (.iastore, 1) := by decide +kernel
theorem d_910_48 : decode (mB 910) 48 = .ok (.aload_n 0, 1) := by decide +kernel
theorem d_910_49 : decode (mB 910) 49 = .ok (.getfield 17, 3) := by decide +kernel
theorem d_910_52 : decode (mB 910) 52 = .ok (.iconst 4, 1) := by decide +kernel
theorem d_910_53 : decode (mB 910) 53 = .ok (.aload_n 0, 1) := by decide +kernel
theorem d_910_54 : decode (mB 910) 54 = .ok (.iconst 0, 1) := by decide +kernel
theorem d_910_55 : decode (mB 910) 55 = .ok (.bipush 9, 2) := by decide +kernel
theorem d_910_57 : decode (mB 910) 57 = .ok (.invokevirtual 128, 3) := by decide +kernel
theorem d_910_60 : decode (mB 910) 60 = .ok (.iastore, 1) := by decide +kernel
theorem d_910_61 : decode (mB 910) 61 = .ok (.aload_n 0, 1) := by decide +kernel
theorem d_910_62 : decode (mB 910) 62 = .ok (.getfield 17, 3) := by decide +kernel
theorem d_910_65 : decode (mB 910) 65 = .ok (.iconst 5, 1) := by decide +kernel
theorem d_910_66 : decode (mB 910) 66 = .ok (.aload_n 0, 1) := by decide +kernel
theorem d_910_67 : decode (mB 910) 67 = .ok (.iconst 0, 1) := by decide +kernel
theorem d_910_68 : decode (mB 910) 68 = .ok (.bipush 99, 2) := by decide +kernel
theorem d_910_70 : decode (mB 910) 70 = .ok (.invokevirtual 128, 3) := by decide +kernel
theorem d_910_73 : decode (mB 910) 73 = .ok (.iastore, 1) := by decide +kernel
theorem d_910_74 : decode (mB 910) 74 = .ok (.return_, 1) := by decide +kernel
theorem d_911_0 : decode (mB 911) 0 = .ok (.aload_n 0, 1) := by decide +kernel
theorem d_911_1 : decode (mB 911) 1 = .ok (.aload_n 0, 1) := by decide +kernel
theorem d_911_2 : decode (mB 911) 2 = .ok (.getfield 121, 3) := by decide +kernel
theorem d_911_5 : decode (mB 911) 5 = .ok (.iconst 1, 1) := by decide +kernel
theorem d_911_6 : decode (mB 911) 6 = .ok (.invokestatic 124, 3) := by decide +kernel
theorem d_911_9 : decode (mB 911) 9 = .ok (.ifCond .ne 7, 3) := by decide +kernel
theorem d_911_12 : decode (mB 911) 12 = .ok (.iconst 1, 1) := by decide +kernel
theorem d_911_13 : decode (mB 911) 13 = .ok (.goto 4, 3) := by decide +kernel
theorem d_911_16 : decode (mB 911) 16 = .ok (.iconst 0, 1) := by decide +kernel
theorem d_911_17 : decode (mB 911) 17 = .ok (.iconst 3, 1) := by decide +kernel
theorem d_911_18 : decode (mB 911) 18 = .ok (.iload_n 1, 1) := by decide +kernel
theorem d_911_19 : decode (mB 911) 19 = .ok (.invokevirtual 116, 3) := by decide +kernel
theorem d_911_22 : decode (mB 911) 22 = .ok (.ifCond .eq 24, 3) := by decide +kernel
theorem d_911_25 : decode (mB 911) 25 = .ok (.aload_n 0, 1) := by decide +kernel
theorem d_911_26 : decode (mB 911) 26 = .ok (.dup, 1) := by decide +kernel
theorem d_911_27 : decode (mB 911) 27 = .ok (.getfield 121, 3) := by decide +kernel
theorem d_911_30 : decode (mB 911) 30 = .ok (.iconst 2, 1) := by decide +kernel
theorem d_911_31 : decode (mB 911) 31 = .ok (.ior, 1) := by decide +kernel
theorem d_911_32 : decode (mB 911) 32 = .ok (.putfield 121, 3) := by decide +kernel
theorem d_911_35 : decode (mB 911) 35 = .ok (.aload_n 0, 1) := by decide +kernel
theorem d_911_36 : decode (mB 911) 36 = .ok (.aload_n 0, 1) := by decide +kernel
theorem d_911_37 : decode (mB 911) 37 = .ok (.iconst 0, 1) := by decide +kernel
theorem d_911_38 : decode (mB 911) 38 = .ok (.bipush 23, 2) := by decide +kernel
theorem d_911_40 : decode (mB 911) 40 = .ok (.invokevirtual 128, 3) := by decide +kernel
theorem d_911_43 : decode (mB 911) 43 = .ok (.putfield 132, 3) := by decide +kernel
theorem d_911_46 : decode (mB 911) 46 = .ok (.return_, 1) := by decide +kernel
theorem d_913_0 : decode (mB 913) 0 = .ok (.aload_n 0, 1) := by decide +kernel
theorem d_913_1 : decode (mB 913) 1 = .ok (.aload_n 0, 1) := by decide +kernel
theorem d_913_2 : decode (mB 913) 2 = .ok (.getfield 141, 3) := by decide +kernel
theorem d_913_5 : decode (mB 913) 5 = .ok (.bipush 6, 2) := by decide +kernel
theorem d_913_7 : decode (mB 913) 7 = .ok (.if_icmp .ge 7, 3) := by decide +kernel
theorem d_913_10 : decode (mB 913) 10 = .ok (.iconst 1, 1) := by decide +kernel
theorem d_913_11 : decode (mB 913) 11 = .ok (.goto 4, 3) := by decide +kernel
theorem d_913_14 : decode (mB 913) 14 = .ok (.iconst 0, 1) := by decide +kernel
theorem d_913_15 : decode (mB 913) 15 = .ok (.iconst 3, 1) := by decide +kernel
theorem d_913_16 : decode (mB 913) 16 = .ok (.iload_n 1, 1) := by decide +kernel
theorem d_913_17 : decode (mB 913) 17 = .ok (.invokevirtual 116, 3) := by decide +kernel
theorem d_913_20 : decode (mB 913) 20 = .ok (.ifCond .eq 45, 3) := by decide +kernel
theorem d_913_23 : decode (mB 913) 23 = .ok (.aload_n 0, 1) := by decide +kernel
theorem d_913_24 : decode (mB 913) 24 = .ok (.getfield 20, 3) := by decide +kernel
theorem d_913_27 : decode (mB 913) 27 = .ok (.bipush 6, 2) := by decide +kernel
theorem d_913_29 : decode (mB 913) 29 = .ok (.aload_n 0, 1) := by decide +kernel
theorem d_913_30 : decode (mB 913) 30 = .ok (.getfield 141, 3) := by decide +kernel
theorem d_913_33 : decode (mB 913) 33 = .ok (.iadd, 1) := by decide +kernel
theorem d_913_34 : decode (mB 913) 34 = .ok (.aload_n 0, 1) := by decide +kernel
theorem d_913_35 : decode (mB 913) 35 = .ok (.iconst 0, 1) := by decide +kernel
theorem d_913_36 : decode (mB 913) 36 = .ok (.bipush 9, 2) := by decide +kernel
theorem d_913_38 : decode (mB 913) 38 = .ok (.invokevirtual 128, 3) := by decide +kernel
theorem d_913_41 : decode (mB 913) 41 = .ok (.iastore, 1) := by decide +kernel
theorem d_913_42 : decode (mB 913) 42 = .ok (.aload_n 0, 1) := by decide +kernel
theorem d_913_43 : decode (mB 913) 43 = .ok (.getfield 23, 3) := by decide +kernel
theorem d_913_46 : decode (mB 913) 46 = .ok (.bipush 6, 2) := by decide +kernel
theorem d_913_48 : decode (mB 913) 48 = .ok (.aload_n 0, 1) := by decide +kernel
theorem d_913_49 : decode (mB 913) 49 = .ok (.getfield 141, 3) := by decide +kernel
theorem d_913_52 : decode (mB 913) 52 = .ok (.iadd, 1) := by decide +kernel
theorem d_913_53 : decode (mB 913) 53 = .ok (.iconst 0, 1) := by decide +kernel
theorem d_913_54 : decode (mB 913) 54 = .ok (.iastore, 1) := by decide +kernel
theorem d_913_55 : decode (mB 913) 55 = .ok (.aload_n 0, 1) := by decide +kernel
theorem d_913_56 : decode (mB 913) 56 = .ok (.dup, 1) := by decide +kernel
theorem d_913_57 : decode (mB 913) 57 = .ok (.getfield 141, 3) := by decide +kernel
theorem d_913_60 : decode (mB 913) 60 = .ok (.iconst 1, 1) := by decide +kernel
theorem d_913_61 : decode (mB 913) 61 = .ok (.iadd, 1) := by decide +kernel
theorem d_913_62 : decode (mB 913) 62 = .ok (.putfield 141, 3) := by decide +kernel
theorem d_913_65 : decode (mB 913) 65 = .ok (.return_, 1) := by decide +kernel
theorem d_914_0 : decode (mB 914) 0 = .ok (.aload_n 0, 1) := by decide +kernel
theorem d_914_1 : decode (mB 914) 1 = .ok (.aload_n 0, 1) := by decide +kernel
theorem d_914_2 : decode (mB 914) 2 = .ok (.getfield 144, 3) := by decide +kernel
theorem d_914_5 : decode (mB 914) 5 = .ok (.bipush 9, 2) := by decide +kernel
theorem d_914_7 : decode (mB 914) 7 = .ok (.if_icmp .ge 7, 3) := by decide +kernel
theorem d_914_10 : decode (mB 914) 10 = .ok (.iconst 1, 1) := by decide +kernel
theorem d_914_11 : decode (mB 914) 11 = .ok (.goto 4, 3) := by decide +kernel
theorem d_914_14 : decode (mB 914) 14 = .ok (.iconst 0, 1) := by decide +kernel
theorem d_914_15 : decode (mB 914) 15 = .ok (.iconst 3, 1) := by decide +kernel
theorem d_914_16 : decode (mB 914) 16 = .ok (.iload_n 1, 1) := by decide +kernel
theorem d_914_17 : decode (mB 914) 17 = .ok (.invokevirtual 116, 3) := by decide +kernel
theorem d_914_20 : decode (mB 914) 20 = .ok (.ifCond .eq 112, 3) := by decide +kernel
theorem d_914_23 : decode (mB 914) 23 = .ok (.aload_n 0, 1) := by decide +kernel
theorem d_914_24 : decode (mB 914) 24 = .ok (.iconst 0, 1) := by decide +kernel
theorem d_914_25 : decode (mB 914) 25 = .ok (.aload_n 0, 1) := by decide +kernel
theorem d_914_26 : decode (mB 914) 26 = .ok (.getfield 141, 3) := by decide +kernel
theorem d_914_29 : decode (mB 914) 29 = .ok (.iconst 1, 1) := by decide +kernel
theorem d_914_30 : decode (mB 914) 30 = .ok (.isub, 1) := by decide +kernel
theorem d_914_31 : decode (mB 914) 31 = .ok (.invokevirtual 128, 3) := by decide +kernel
theorem d_914_34 : decode (mB 914) 34 = .ok (.istore_n 2, 1) := by decide +kernel
theorem d_914_35 : decode (mB 914) 35 = .ok (.aload_n 0, 1) := by decide +kernel
theorem d_914_36 : decode (mB 914) 36 = .ok (.iconst 0, 1) := by decide +kernel
theorem d_914_37 : decode (mB 914) 37 = .ok (.aload_n 0, 1) := by decide +kernel
theorem d_914_38 : decode (mB 914) 38 = .ok (.getfield 141, 3) := by decide +kernel
theorem d_914_41 : decode (mB 914) 41 = .ok (.iconst 1, 1) := by decide +kernel
theorem d_914_42 : decode (mB 914) 42 = .ok (.isub, 1) := by decide +kernel
theorem d_914_43 : decode (mB 914) 43 = .ok (.invokevirtual 128, 3) := by decide +kernel
theorem d_914_46 : decode (mB 914) 46 = .ok (.istore_n 3, 1) := by decide +kernel
theorem d_914_47 : decode (mB 914) 47 = .ok (.aload_n 0, 1) := by decide +kernel
theorem d_914_48 : decode (mB 914) 48 = .ok (.getfield 95, 3) := by decide +kernel
theorem d_914_51 : decode (mB 914) 51 = .ok (.ifCond .ne 81, 3) := by decide +kernel
theorem d_914_54 : decode (mB 914) 54 = .ok (.aload_n 0, 1) := by decide +kernel
theorem d_914_55 : decode (mB 914) 55 = .ok (.iload_n 2, 1) := by decide +kernel
theorem d_914_56 : decode (mB 914) 56 = .ok (.iload_n 3, 1) := by decide +kernel
theorem d_914_57 : decode (mB 914) 57 = .ok (.if_icmp .eq 23, 3) := by decide +kernel
theorem d_914_60 : decode (mB 914) 60 = .ok (.aload_n 0, 1) := by decide +kernel
theorem d_914_61 : decode (mB 914) 61 = .ok (.getfield 23, 3) := by decide +kernel
theorem d_914_64 : decode (mB 914) 64 = .ok (.bipush 6, 2) := by decide +kernel
theorem d_914_66 : decode (mB 914) 66 = .ok (.iload_n 2, 1) := by decide +kernel
theorem d_914_67 : decode (mB 914) 67 = .ok (.iadd, 1) := by decide +kernel
theorem d_914_68 : decode (mB 914) 68 = .ok (.iaload, 1) := by decide +kernel
theorem d_914_69 : decode (mB 914) 69 = .ok (.iload_n 3, 1) := by decide +kernel
theorem d_914_70 : decode (mB 914) 70 = .ok (.invokestatic 124, 3) := by decide +kernel
theorem d_914_73 : decode (mB 914) 73 = .ok (.ifCond .ne 7, 3) := by decide +kernel
theorem d_914_76 : decode (mB 914) 76 = .ok (.iconst 1, 1) := by decide +kernel
theorem d_914_77 : decode (mB 914) 77 = .ok (.goto 4, 3) := by decide +kernel
theorem d_914_80 : decode (mB 914) 80 = .ok (.iconst 0, 1) := by decide +kernel
theorem d_914_81 : decode (mB 914) 81 = .ok (.iconst 4, 1) := by decide +kernel
theorem d_914_82 : decode (mB 914) 82 = .ok (.aload_n 0, 1) := by decide +kernel
theorem d_914_83 : decode (mB 914) 83 = .ok (.getfield 102, 3) := by decide +kernel
theorem d_914_86 : decode (mB 914) 86 = .ok (.invokevirtual 116, 3) := by decide +kernel
theorem d_914_89 : decode (mB 914) 89 = .ok (.ifCond .eq 43, 3) := by decide +kernel
theorem d_914_92 : decode (mB 914) 92 = .ok (.aload_n 0, 1) := by decide +kernel
theorem d_914_93 : decode (mB 914) 93 = .ok (.getfield 23, 3) := by decide +kernel
theorem d_914_96 : decode (mB 914) 96 = .ok (.bipush 6, 2) := by decide +kernel
theorem d_914_98 : decode (mB 914) 98 = .ok (.iload_n 2, 1) := by decide +kernel
theorem d_914_99 : decode (mB 914) 99 = .ok (.iadd, 1) := by decide +kernel
theorem d_914_100 : decode (mB 914) 100 = .ok (.dup2, 1) := by decide +kernel
theorem d_914_101 : decode (mB 914) 101 = .ok (.iaload, 1) := by decide +kernel
theorem d_914_102 : decode (mB 914) 102 = .ok (.iconst 1, 1) := by decide +kernel
theorem d_914_103 : decode (mB 914) 103 = .ok (.iload_n 3, 1) := by decide +kernel
theorem d_914_104 : decode (mB 914) 104 = .ok (.ishl, 1) := by decide +kernel
theorem d_914_105 : decode (mB 914) 105 = .ok (.ior, 1) := by decide +kernel
theorem d_914_106 : decode (mB 914) 106 = .ok (.iastore, 1) := by decide +kernel
theorem d_914_107 : decode (mB 914) 107 = .ok (.aload_n 0, 1) := by decide +kernel
theorem d_914_108 : decode (mB 914) 108 = .ok (.getfield 23, 3) := by decide +kernel
theorem d_914_111 : decode (mB 914) 111 = .ok (.bipush 6, 2) := by decide +kernel
theorem d_914_113 : decode (mB 914) 113 = .ok (.iload_n 3, 1) := by decide +kernel
theorem d_914_114 : decode (mB 914) 114 = .ok (.iadd, 1) := by decide +kernel
theorem d_914_115 : decode (mB 914) 115 = .ok (.dup2, 1) := by decide +kernel
theorem d_914_116 : decode (mB 914) 116 = .ok (.iaload, 1) := by decide +kernel
theorem d_914_117 : decode (mB 914) 117 = .ok (.iconst 1, 1) := by decide +kernel
theorem d_914_118 : decode (mB 914) 118 = .ok (.iload_n 2, 1) := by decide +kernel
theorem d_914_119 : decode (mB 914) 119 = .ok (.ishl, 1) := by decide +kernel
theorem d_914_120 : decode (mB 914) 120 = .ok (.ior, 1) := by decide +kernel
theorem d_914_121 : decode (mB 914) 121 = .ok (.iastore, 1) := by decide +kernel
theorem d_914_122 : decode (mB 914) 122 = .ok (.aload_n 0, 1) := by decide +kernel
theorem d_914_123 : decode (mB 914) 123 = .ok (.dup, 1) := by decide +kernel
theorem d_914_124 : decode (mB 914) 124 = .ok (.getfield 144, 3) := by decide +kernel
theorem d_914_127 : decode (mB 914) 127 = .ok (.iconst 1, 1) := by decide +kernel
theorem d_914_128 : decode (mB 914) 128 = .ok (.iadd, 1) := by decide +kernel
theorem d_914_129 : decode (mB 914) 129 = .ok (.putfield 144, 3) := by decide +kernel
theorem d_914_132 : decode (mB 914) 132 = .ok (.return_, 1) := by decide +kernel
theorem d_915_0 : decode (mB 915) 0 = .ok (.aload_n 0, 1) := by decide +kernel
theorem d_915_1 : decode (mB 915) 1 = .ok (.aload_n 0, 1) := by decide +kernel
theorem d_915_2 : decode (mB 915) 2 = .ok (.getfield 135, 3) := by decide +kernel
theorem d_915_5 : decode (mB 915) 5 = .ok (.bipush 6, 2) := by decide +kernel
theorem d_915_7 : decode (mB 915) 7 = .ok (.if_icmp .ge 7, 3) := by decide +kernel
theorem d_915_10 : decode (mB 915) 10 = .ok (.iconst 1, 1) := by decide +kernel
theorem d_915_11 : decode (mB 915) 11 = .ok (.goto 4, 3) := by decide +kernel
theorem d_915_14 : decode (mB 915) 14 = .ok (.iconst 0, 1) := by decide +kernel
theorem d_915_15 : decode (mB 915) 15 = .ok (.iconst 3, 1) := by decide +kernel
theorem d_915_16 : decode (mB 915) 16 = .ok (.iload_n 1, 1) := by decide +kernel
theorem d_915_17 : decode (mB 915) 17 = .ok (.invokevirtual 116, 3) := by decide +kernel
theorem d_915_20 : decode (mB 915) 20 = .ok (.ifCond .eq 94, 3) := by decide +kernel
theorem d_915_23 : decode (mB 915) 23 = .ok (.bipush 6, 2) := by decide +kernel
theorem d_915_25 : decode (mB 915) 25 = .ok (.aload_n 0, 1) := by decide +kernel
theorem d_915_26 : decode (mB 915) 26 = .ok (.getfield 135, 3) := by decide +kernel
theorem d_915_29 : decode (mB 915) 29 = .ok (.iadd, 1) := by decide +kernel
theorem d_915_30 : decode (mB 915) 30 = .ok (.istore_n 2, 1) := by decide +kernel
theorem d_915_31 : decode (mB 915) 31 = .ok (.aload_n 0, 1) := by decide +kernel
theorem d_915_32 : decode (mB 915) 32 = .ok (.getfield 26, 3) := by decide +kernel
theorem d_915_35 : decode (mB 915) 35 = .ok (.iload_n 2, 1) := by decide +kernel
theorem d_915_36 : decode (mB 915) 36 = .ok (.aload_n 0, 1) := by decide +kernel
theorem d_915_37 : decode (mB 915) 37 = .ok (.iconst 0, 1) := by decide +kernel
theorem d_915_38 : decode (mB 915) 38 = .ok (.aload_n 0, 1) := by decide +kernel
theorem d_915_39 : decode (mB 915) 39 = .ok (.getfield 141, 3) := by decide +kernel
theorem d_915_42 : decode (mB 915) 42 = .ok (.iconst 1, 1) := by decide +kernel
theorem d_915_43 : decode (mB 915) 43 = .ok (.isub, 1) := by decide +kernel
theorem d_915_44 : decode (mB 915) 44 = .ok (.invokevirtual 128, 3) := by decide +kernel
theorem d_915_47 : decode (mB 915) 47 = .ok (.iastore, 1) := by decide +kernel
theorem d_915_48 : decode (mB 915) 48 = .ok (.aload_n 0, 1) := by decide +kernel
theorem d_915_49 : decode (mB 915) 49 = .ok (.getfield 29, 3) := by decide +kernel
theorem d_915_52 : decode (mB 915) 52 = .ok (.iload_n 2, 1) := by decide +kernel
theorem d_915_53 : decode (mB 915) 53 = .ok (.aload_n 0, 1) := by decide +kernel
theorem d_915_54 : decode (mB 915) 54 = .ok (.iconst 1, 1) := by decide +kernel
theorem d_915_55 : decode (mB 915) 55 = .ok (.bipush 99, 2) := by decide +kernel
theorem d_915_57 : decode (mB 915) 57 = .ok (.invokevirtual 128, 3) := by decide +kernel
theorem d_915_60 : decode (mB 915) 60 = .ok (.iastore, 1) := by decide +kernel
theorem d_915_61 : decode (mB 915) 61 = .ok (.aload_n 0, 1) := by decide +kernel
theorem d_915_62 : decode (mB 915) 62 = .ok (.getfield 32, 3) := by decide +kernel
theorem d_915_65 : decode (mB 915) 65 = .ok (.iload_n 2, 1) := by decide +kernel
theorem d_915_66 : decode (mB 915) 66 = .ok (.aload_n 0, 1) := by decide +kernel
theorem d_915_67 : decode (mB 915) 67 = .ok (.iconst 0, 1) := by decide +kernel
theorem d_915_68 : decode (mB 915) 68 = .ok (.bipush 9, 2) := by decide +kernel
theorem d_915_70 : decode (mB 915) 70 = .ok (.invokevirtual 128, 3) := by decide +kernel
theorem d_915_73 : decode (mB 915) 73 = .ok (.iastore, 1) := by decide +kernel
theorem d_915_74 : decode (mB 915) 74 = .ok (.aload_n 0, 1) := by decide +kernel
theorem d_915_75 : decode (mB 915) 75 = .ok (.getfield 35, 3) := by decide +kernel
theorem d_915_78 : decode (mB 915) 78 = .ok (.iload_n 2, 1) := by decide +kernel
theorem d_915_79 : decode (mB 915) 79 = .ok (.aload_n 0, 1) := by decide +kernel
theorem d_915_80 : decode (mB 915) 80 = .ok (.iconst 0, 1) := by decide +kernel
theorem d_915_81 : decode (mB 915) 81 = .ok (.bipush 8, 2) := by decide +kernel
theorem d_915_83 : decode (mB 915) 83 = .ok (.invokevirtual 128, 3) := by decide +kernel
theorem d_915_86 : decode (mB 915) 86 = .ok (.iastore, 1) := by decide +kernel
theorem d_915_87 : decode (mB 915) 87 = .ok (.aload_n 0, 1) := by decide +kernel
theorem d_915_88 : decode (mB 915) 88 = .ok (.getfield 38, 3) := by decide +kernel
theorem d_915_91 : decode (mB 915) 91 = .ok (.bipush 6, 2) := by decide +kernel
theorem d_915_93 : decode (mB 915) 93 = .ok (.iload_n 2, 1) := by decide +kernel
theorem d_915_94 : decode (mB 915) 94 = .ok (.imul, 1) := by decide +kernel
theorem d_915_95 : decode (mB 915) 95 = .ok (.iconst 0, 1) := by decide +kernel
theorem d_915_96 : decode (mB 915) 96 = .ok (.iastore, 1) := by decide +kernel
theorem d_915_97 : decode (mB 915) 97 = .ok (.aload_n 0, 1) := by decide +kernel
theorem d_915_98 : decode (mB 915) 98 = .ok (.getfield 41, 3) := by decide +kernel
theorem d_915_101 : decode (mB 915) 101 = .ok (.iload_n 2, 1) := by decide +kernel
theorem d_915_102 : decode (mB 915) 102 = .ok (.iconst 1, 1) := by decide +kernel
theorem d_915_103 : decode (mB 915) 103 = .ok (.iastore, 1) := by decide +kernel
theorem d_915_104 : decode (mB 915) 104 = .ok (.aload_n 0, 1) := by decide +kernel
theorem d_915_105 : decode (mB 915) 105 = .ok (.dup, 1) := by decide +kernel
theorem d_915_106 : decode (mB 915) 106 = .ok (.getfield 135, 3) := by decide +kernel
theorem d_915_109 : decode (mB 915) 109 = .ok (.iconst 1, 1) := by decide +kernel
theorem d_915_110 : decode (mB 915) 110 = .ok (.iadd, 1) := by decide +kernel
theorem d_915_111 : decode (mB 915) 111 = .ok (.putfield 135, 3) := by decide +kernel
theorem d_915_114 : decode (mB 915) 114 = .ok (.return_, 1) := by decide +kernel
theorem d_917_0 : decode (mB 917) 0 = .ok (.aload_n 0, 1) := by decide +kernel
theorem d_917_1 : decode (mB 917) 1 = .ok (.iconst 0, 1) := by decide +kernel
theorem d_917_2 : decode (mB 917) 2 = .ok (.aload_n 0, 1) := by decide +kernel
theorem d_917_3 : decode (mB 917) 3 = .ok (.getfield 135, 3) := by decide +kernel
theorem d_917_6 : decode (mB 917) 6 = .ok (.iconst 1, 1) := by decide +kernel
theorem d_917_7 : decode (mB 917) 7 = .ok (.isub, 1) := by decide +kernel
theorem d_917_8 : decode (mB 917) 8 = .ok (.invokevirtual 128, 3) := by decide +kernel
theorem d_917_11 : decode (mB 917) 11 = .ok (.istore_n 1, 1) := by decide +kernel
theorem d_917_12 : decode (mB 917) 12 = .ok (.aload_n 0, 1) := by decide +kernel
theorem d_917_13 : decode (mB 917) 13 = .ok (.getfield 95, 3) := by decide +kernel
theorem d_917_16 : decode (mB 917) 16 = .ok (.ifCond .gt 31, 3) := by decide +kernel
theorem d_917_19 : decode (mB 917) 19 = .ok (.aload_n 0, 1) := by decide +kernel
theorem d_917_20 : decode (mB 917) 20 = .ok (.aload_n 0, 1) := by decide +kernel
theorem d_917_21 : decode (mB 917) 21 = .ok (.getfield 149, 3) := by decide +kernel
theorem d_917_24 : decode (mB 917) 24 = .ok (.iload_n 1, 1) := by decide +kernel
theorem d_917_25 : decode (mB 917) 25 = .ok (.invokestatic 124, 3) := by decide +kernel
theorem d_917_28 : decode (mB 917) 28 = .ok (.ifCond .ne 7, 3) := by decide +kernel
theorem d_917_31 : decode (mB 917) 31 = .ok (.iconst 1, 1) := by decide +kernel
theorem d_917_32 : decode (mB 917) 32 = .ok (.goto 4, 3) := by decide +kernel
theorem d_917_35 : decode (mB 917) 35 = .ok (.iconst 0, 1) := by decide +kernel
theorem d_917_36 : decode (mB 917) 36 = .ok (.iconst 4, 1) := by decide +kernel
theorem d_917_37 : decode (mB 917) 37 = .ok (.aload_n 0, 1) := by decide +kernel
theorem d_917_38 : decode (mB 917) 38 = .ok (.getfield 102, 3) := by decide +kernel
theorem d_917_41 : decode (mB 917) 41 = .ok (.invokevirtual 116, 3) := by decide +kernel
theorem d_917_44 : decode (mB 917) 44 = .ok (.ifCond .ne 4, 3) := by decide +kernel
theorem d_917_47 : decode (mB 917) 47 = .ok (.return_, 1) := by decide +kernel
theorem d_917_48 : decode (mB 917) 48 = .ok (.aload_n 0, 1) := by decide +kernel
theorem d_917_49 : decode (mB 917) 49 = .ok (.dup, 1) := by decide +kernel
theorem d_917_50 : decode (mB 917) 50 = .ok (.getfield 149, 3) := by decide +kernel
theorem d_917_53 : decode (mB 917) 53 = .ok (.iconst 1, 1) := by decide +kernel
theorem d_917_54 : decode (mB 917) 54 = .ok (.iload_n 1, 1) := by decide +kernel
theorem d_917_55 : decode (mB 917) 55 = .ok (.ishl, 1) := by decide +kernel
theorem d_917_56 : decode (mB 917) 56 = .ok (.ior, 1) := by decide +kernel
theorem d_917_57 : decode (mB 917) 57 = .ok (.putfield 149, 3) := by decide +kernel
theorem d_917_60 : decode (mB 917) 60 = .ok (.aload_n 0, 1) := by decide +kernel
theorem d_917_61 : decode (mB 917) 61 = .ok (.invokevirtual 152, 3) := by decide +kernel
theorem d_917_64 : decode (mB 917) 64 = .ok (.aload_n 0, 1) := by decide +kernel
theorem d_917_65 : decode (mB 917) 65 = .ok (.aload_n 0, 1) := by decide +kernel
theorem d_917_66 : decode (mB 917) 66 = .ok (.getfield 109, 3) := by decide +kernel
theorem d_917_69 : decode (mB 917) 69 = .ok (.ifCond .le 7, 3) := by decide +kernel
theorem d_917_72 : decode (mB 917) 72 = .ok (.iconst 1, 1) := by decide +kernel
theorem d_917_73 : decode (mB 917) 73 = .ok (.goto 4, 3) := by decide +kernel
theorem d_917_76 : decode (mB 917) 76 = .ok (.iconst 0, 1) := by decide +kernel
theorem d_917_77 : decode (mB 917) 77 = .ok (.iconst 1, 1) := by decide +kernel
theorem d_917_78 : decode (mB 917) 78 = .ok (.aload_n 0, 1) := by decide +kernel
theorem d_917_79 : decode (mB 917) 79 = .ok (.getfield 102, 3) := by decide +kernel
theorem d_917_82 : decode (mB 917) 82 = .ok (.invokevirtual 116, 3) := by decide +kernel
theorem d_917_85 : decode (mB 917) 85 = .ok (.ifCond .eq 76, 3) := by decide +kernel
theorem d_917_88 : decode (mB 917) 88 = .ok (.aload_n 0, 1) := by decide +kernel
theorem d_917_89 : decode (mB 917) 89 = .ok (.aload_n 0, 1) := by decide +kernel
theorem d_917_90 : decode (mB 917) 90 = .ok (.invokevirtual 155, 3) := by decide +kernel
theorem d_917_93 : decode (mB 917) 93 = .ok (.iconst 4, 1) := by decide +kernel
theorem d_917_94 : decode (mB 917) 94 = .ok (.aload_n 0, 1) := by decide +kernel
theorem d_917_95 : decode (mB 917) 95 = .ok (.getfield 102, 3) := by decide +kernel
theorem d_917_98 : decode (mB 917) 98 = .ok (.invokevirtual 116, 3) := by decide +kernel
theorem d_917_101 : decode (mB 917) 101 = .ok (.ifCond .eq 60, 3) := by decide +kernel
theorem d_917_104 : decode (mB 917) 104 = .ok (.aload_n 0, 1) := by decide +kernel
theorem d_917_105 : decode (mB 917) 105 = .ok (.getfield 41, 3) := by decide +kernel
theorem d_917_108 : decode (mB 917) 108 = .ok (.bipush 6, 2) := by decide +kernel
theorem d_917_110 : decode (mB 917) 110 = .ok (.iload_n 1, 1) := by decide +kernel
theorem d_917_111 : decode (mB 917) 111 = .ok (.iadd, 1) := by decide +kernel
theorem d_917_112 : decode (mB 917) 112 = .ok (.aload_n 0, 1) := by decide +kernel
theorem d_917_113 : decode (mB 917) 113 = .ok (.getfield 109, 3) := by decide +kernel
theorem d_917_116 : decode (mB 917) 116 = .ok (.iastore, 1) := by decide +kernel
theorem d_917_117 : decode (mB 917) 117 = .ok (.iconst 0, 1) := by decide +kernel
theorem d_917_118 : decode (mB 917) 118 = .ok (.istore_n 2, 1) := by decide +kernel
theorem d_917_119 : decode (mB 917) 119 = .ok (.iload_n 2, 1) := by decide +kernel
theorem d_917_120 : decode (mB 917) 120 = .ok (.aload_n 0, 1) := by decide +kernel
theorem d_917_121 : decode (mB 917) 121 = .ok (.getfield 109, 3) := by decide +kernel
theorem d_917_124 : decode (mB 917) 124 = .ok (.if_icmp .ge 37, 3) := by decide +kernel
theorem d_917_127 : decode (mB 917) 127 = .ok (.aload_n 0, 1) := by decide +kernel
theorem d_917_128 : decode (mB 917) 128 = .ok (.getfield 38, 3) := by decide +kernel
theorem d_917_131 : decode (mB 917) 131 = .ok (.bipush 6, 2) := by decide +kernel
theorem d_917_133 : decode (mB 917) 133 = .ok (.bipush 6, 2) := by decide +kernel
theorem d_917_135 : decode (mB 917) 135 = .ok (.iload_n 1, 1) := by decide +kernel
theorem d_917_136 : decode (mB 917) 136 = .ok (.iadd, 1) := by decide +kernel
theorem d_917_137 : decode (mB 917) 137 = .ok (.imul, 1) := by decide +kernel
theorem d_917_138 : decode (mB 917) 138 = .ok (.iload_n 2, 1) := by decide +kernel
theorem d_917_139 : decode (mB 917) 139 = .ok (.iadd, 1) := by decide +kernel
theorem d_917_140 : decode (mB 917) 140 = .ok (.aload_n 0, 1) := by decide +kernel
theorem d_917_141 : decode (mB 917) 141 = .ok (.getfield 44, 3) := by decide +kernel
theorem d_917_144 : decode (mB 917) 144 = .ok (.aload_n 0, 1) := by decide +kernel
theorem d_917_145 : decode (mB 917) 145 = .ok (.getfield 102, 3) := by decide +kernel
theorem d_917_148 : decode (mB 917) 148 = .ok (.iload_n 2, 1) := by decide +kernel
theorem d_917_149 : decode (mB 917) 149 = .ok (.iadd, 1) := by decide +kernel
theorem d_917_150 : decode (mB 917) 150 = .ok (.iaload, 1) := by decide +kernel
theorem d_917_151 : decode (mB 917) 151 = .ok (.bipush 97, 2) := by decide +kernel
theorem d_917_153 : decode (mB 917) 153 = .ok (.isub, 1) := by decide +kernel
theorem d_917_154 : decode (mB 917) 154 = .ok (.iastore, 1) := by decide +kernel
theorem d_917_155 : decode (mB 917) 155 = .ok (.iinc 2 1, 3) := by decide +kernel
theorem d_917_158 : decode (mB 917) 158 = .ok (.goto (-39), 3) := by decide +kernel
theorem d_917_161 : decode (mB 917) 161 = .ok (.return_, 1) := by decide +kernel
theorem d_912_0 : decode (mB 912) 0 = .ok (.aload_n 0, 1) := by decide +kernel
theorem d_912_1 : decode (mB 912) 1 = .ok (.aload_n 0, 1) := by decide +kernel
theorem d_912_2 : decode (mB 912) 2 = .ok (.getfield 121, 3) := by decide +kernel
theorem d_912_5 : decode (mB 912) 5 = .ok (.iconst 2, 1) := by decide +kernel
theorem d_912_6 : decode (mB 912) 6 = .ok (.invokestatic 124, 3) := by decide +kernel
theorem d_912_9 : decode (mB 912) 9 = .ok (.ifCond .ne 7, 3) := by decide +kernel
theorem d_912_12 : decode (mB 912) 12 = .ok (.iconst 1, 1) := by decide +kernel
theorem d_912_13 : decode (mB 912) 13 = .ok (.goto 4, 3) := by decide +kernel
theorem d_912_16 : decode (mB 912) 16 = .ok (.iconst 0, 1) := by decide +kernel
theorem d_912_17 : decode (mB 912) 17 = .ok (.iconst 3, 1) := by decide +kernel
theorem d_912_18 : decode (mB 912) 18 = .ok (.iload_n 1, 1) := by decide +kernel
theorem d_912_19 : decode (mB 912) 19 = .ok (.invokevirtual 116, 3) := by decide +kernel
theorem d_912_22 : decode (mB 912) 22 = .ok (.ifCond .eq 28, 3) := by decide +kernel
theorem d_912_25 : decode (mB 912) 25 = .ok (.aload_n 0, 1) := by decide +kernel
theorem d_912_26 : decode (mB 912) 26 = .ok (.dup, 1) := by decide +kernel
theorem d_912_27 : decode (mB 912) 27 = .ok (.getfield 121, 3) := by decide +kernel
theorem d_912_30 : decode (mB 912) 30 = .ok (.iconst 4, 1) := by decide +kernel
theorem d_912_31 : decode (mB 912) 31 = .ok (.ior, 1) := by decide +kernel
theorem d_912_32 : decode (mB 912) 32 = .ok (.putfield 121, 3) := by decide +kernel
theorem d_912_35 : decode (mB 912) 35 = .ok (.aload_n 0, 1) := by decide +kernel
theorem d_912_36 : decode (mB 912) 36 = .ok (.aload_n 0, 1) := by decide +kernel
theorem d_912_37 : decode (mB 912) 37 = .ok (.iconst 0, 1) := by decide +kernel
theorem d_912_38 : decode (mB 912) 38 = .ok (.aload_n 0, 1) := by decide +kernel
theorem d_912_39 : decode (mB 912) 39 = .ok (.getfield 135, 3) := by decide +kernel
theorem d_912_42 : decode (mB 912) 42 = .ok (.iconst 1, 1) := by decide +kernel
theorem d_912_43 : decode (mB 912) 43 = .ok (.isub, 1) := by decide +kernel
theorem d_912_44 : decode (mB 912) 44 = .ok (.invokevirtual 128, 3) := by decide +kernel
theorem d_912_47 : decode (mB 912) 47 = .ok (.putfield 138, 3) := by decide +kernel
theorem d_912_50 : decode (mB 912) 50 = .ok (.return_, 1) := by decide +kernel
theorem d_944_0 : decode (mB 944) 0 = .ok (.iconst 0, 1) := by decide +kernel
theorem d_944_1 : decode (mB 944) 1 = .ok (.istore_n 2, 1) := by decide +kernel
theorem d_944_2 : decode (mB 944) 2 = .ok (.iload_n 2, 1) := by decide +kernel
theorem d_944_3 : decode (mB 944) 3 = .ok (.bipush 6, 2) := by decide +kernel
theorem d_944_5 : decode (mB 944) 5 = .ok (.if_icmp .ge 27, 3) := by decide +kernel
theorem d_944_8 : decode (mB 944) 8 = .ok (.aload_n 0, 1) := by decide +kernel
theorem d_944_9 : decode (mB 944) 9 = .ok (.getfield 51, 3) := by decide +kernel
theorem d_944_12 : decode (mB 944) 12 = .ok (.iload_n 2, 1) := by decide +kernel
theorem d_944_13 : decode (mB 944) 13 = .ok (.iload_n 2, 1) := by decide +kernel
theorem d_944_14 : decode (mB 944) 14 = .ok (.iload_n 1, 1) := by decide +kernel
theorem d_944_15 : decode (mB 944) 15 = .ok (.if_icmp .ne 7, 3) := by decide +kernel
theorem d_944_18 : decode (mB 944) 18 = .ok (.iconst 0, 1) := by decide +kernel
theorem d_944_19 : decode (mB 944) 19 = .ok (.goto 6, 3) := by decide +kernel
theorem d_944_22 : decode (mB 944) 22 = .ok (.ldc_w 270, 3) := by decide +kernel
theorem d_944_25 : decode (mB 944) 25 = .ok (.iastore, 1) := by decide +kernel
theorem d_944_26 : decode (mB 944) 26 = .ok (.iinc 2 1, 3) := by decide +kernel
theorem d_944_29 : decode (mB 944) 29 = .ok (.goto (-27), 3) := by decide +kernel
theorem d_944_32 : decode (mB 944) 32 = .ok (.iconst 0, 1) := by decide +kernel
theorem d_944_33 : decode (mB 944) 33 = .ok (.istore_n 2, 1) := by decide +kernel
theorem d_944_34 : decode (mB 944) 34 = .ok (.iload_n 2, 1) := by decide +kernel
theorem d_944_35 : decode (mB 944) 35 = .ok (.bipush 6, 2) := by decide +kernel
theorem d_944_37 : decode (mB 944) 37 = .ok (.if_icmp .ge 99, 3) := by decide +kernel
theorem d_944_40 : decode (mB 944) 40 = .ok (.iconst 0, 1) := by decide +kernel
theorem d_944_41 : decode (mB 944) 41 = .ok (.istore_n 3, 1) := by decide +kernel
theorem d_944_42 : decode (mB 944) 42 = .ok (.iload_n 3, 1) := by decide +kernel
theorem d_944_43 : decode (mB 944) 43 = .ok (.aload_n 0, 1) := by decide +kernel
theorem d_944_44 : decode (mB 944) 44 = .ok (.getfield 188, 3) := by decide +kernel
theorem d_944_47 : decode (mB 944) 47 = .ok (.if_icmp .ge 83, 3) := by decide +kernel
theorem d_944_50 : decode (mB 944) 50 = .ok (.iconst 0, 1) := by decide +kernel
theorem d_944_51 : decode (mB 944) 51 = .ok (.istore 4, 2) := by decide +kernel
theorem d_944_53 : decode (mB 944) 53 = .ok (.iload 4, 2) := by decide +kernel
theorem d_944_55 : decode (mB 944) 55 = .ok (.aload_n 0, 1) := by decide +kernel
theorem d_944_56 : decode (mB 944) 56 = .ok (.getfield 188, 3) := by decide +kernel
theorem d_944_59 : decode (mB 944) 59 = .ok (.if_icmp .ge 65, 3) := by decide +kernel
theorem d_944_62 : decode (mB 944) 62 = .ok (.aload_n 0, 1) := by decide +kernel
theorem d_944_63 : decode (mB 944) 63 = .ok (.getfield 51, 3) := by decide +kernel
theorem d_944_66 : decode (mB 944) 66 = .ok (.iload_n 3, 1) := by decide +kernel
theorem d_944_67 : decode (mB 944) 67 = .ok (.aload_n 0, 1) := by decide +kernel
theorem d_944_68 : decode (mB 944) 68 = .ok (.getfield 23, 3) := by decide +kernel
theorem d_944_71 : decode (mB 944) 71 = .ok (.iload_n 3, 1) := by decide +kernel
theorem d_944_72 : decode (mB 944) 72 = .ok (.iaload, 1) := by decide +kernel
theorem d_944_73 : decode (mB 944) 73 = .ok (.iload 4, 2) := by decide +kernel
theorem d_944_75 : decode (mB 944) 75 = .ok (.invokestatic 124, 3) := by decide +kernel
theorem d_944_78 : decode (mB 944) 78 = .ok (.ifCond .eq 33, 3) := by decide +kernel
theorem d_944_81 : decode (mB 944) 81 = .ok (.aload_n 0, 1) := by decide +kernel
theorem d_944_82 : decode (mB 944) 82 = .ok (.getfield 51, 3) := by decide +kernel
theorem d_944_85 : decode (mB 944) 85 = .ok (.iload 4, 2) := by decide +kernel
theorem d_944_87 : decode (mB 944) 87 = .ok (.iaload, 1) := by decide +kernel
theorem d_944_88 : decode (mB 944) 88 = .ok (.iconst 1, 1) := by decide +kernel
theorem d_944_89 : decode (mB 944) 89 = .ok (.iadd, 1) := by decide +kernel
theorem d_944_90 : decode (mB 944) 90 = .ok (.aload_n 0, 1) := by decide +kernel
theorem d_944_91 : decode (mB 944) 91 = .ok (.getfield 51, 3) := by decide +kernel
theorem d_944_94 : decode (mB 944) 94 = .ok (.iload_n 3, 1) := by decide +kernel
theorem d_944_95 : decode (mB 944) 95 = .ok (.iaload, 1) := by decide +kernel
theorem d_944_96 : decode (mB 944) 96 = .ok (.if_icmp .ge 15, 3) := by decide +kernel
theorem d_944_99 : decode (mB 944) 99 = .ok (.aload_n 0, 1) := by decide +kernel
theorem d_944_100 : decode (mB 944) 100 = .ok (.getfield 51, 3) := by decide +kernel
theorem d_944_103 : decode (mB 944) 103 = .ok (.iload 4, 2) := by decide +kernel
theorem d_944_105 : decode (mB 944) 105 = .ok (.iaload, 1) := by decide +kernel
theorem d_944_106 : decode (mB 944) 106 = .ok (.iconst 1, 1) := by decide +kernel
theorem d_944_107 : decode (mB 944) 107 = .ok (.iadd, 1) := by decide +kernel
theorem d_944_108 : decode (mB 944) 108 = .ok (.goto 9, 3) := by decide +kernel
theorem d_944_111 : decode (mB 944) 111 = .ok (.aload_n 0, 1) := by decide +kernel
theorem d_944_112 : decode (mB 944) 112 = .ok (.getfield 51, 3) := by decide +kernel
theorem d_944_115 : decode (mB 944) 115 = .ok (.iload_n 3, 1) := by decide +kernel
theorem d_944_116 : decode (mB 944) 116 = .ok (.iaload, 1) := by decide +kernel
theorem d_944_117 : decode (mB 944) 117 = .ok (.iastore, 1) := by decide +kernel
theorem d_944_118 : decode (mB 944) 118 = .ok (.iinc 4 1, 3) := by decide +kernel
theorem d_944_121 : decode (mB 944) 121 = .ok (.goto (-68), 3) := by decide +kernel
theorem d_944_124 : decode (mB 944) 124 = .ok (.iinc 3 1, 3) := by decide +kernel
theorem d_944_127 : decode (mB 944) 127 = .ok (.goto (-85), 3) := by decide +kernel
theorem d_944_130 : decode (mB 944) 130 = .ok (.iinc 2 1, 3) := by decide +kernel
theorem d_944_133 : decode (mB 944) 133 = .ok (.goto (-99), 3) := by decide +kernel
theorem d_944_136 : decode (mB 944) 136 = .ok (.return_, 1) := by decide +kernel
theorem d_951_0 : decode (mB 951) 0 = .ok (.iconst 0, 1) := by decide +kernel
theorem d_951_1 : decode (mB 951) 1 = .ok (.istore_n 2, 1) := by decide +kernel
theorem d_951_2 : decode (mB 951) 2 = .ok (.iload_n 2, 1) := by decide +kernel
theorem d_951_3 : decode (mB 951) 3 = .ok (.sipush 216, 3) := by decide +kernel
theorem d_951_6 : decode (mB 951) 6 = .ok (.if_icmp .ge 46, 3) := by decide +kernel
theorem d_951_9 : decode (mB 951) 9 = .ok (.iload_n 2, 1) := by decide +kernel
theorem d_951_10 : decode (mB 951) 10 = .ok (.bipush 6, 2) := by decide +kernel
theorem d_951_12 : decode (mB 951) 12 = .ok (.irem, 1) := by decide +kernel
theorem d_951_13 : decode (mB 951) 13 = .ok (.istore_n 3, 1) := by decide +kernel
theorem d_951_14 : decode (mB 951) 14 = .ok (.aload_n 0, 1) := by decide +kernel
theorem d_951_15 : decode (mB 951) 15 = .ok (.getfield 54, 3) := by decide +kernel
theorem d_951_18 : decode (mB 951) 18 = .ok (.iload_n 2, 1) := by decide +kernel
theorem d_951_19 : decode (mB 951) 19 = .ok (.iload_n 3, 1) := by decide +kernel
theorem d_951_20 : decode (mB 951) 20 = .ok (.iload_n 2, 1) := by decide +kernel
theorem d_951_21 : decode (mB 951) 21 = .ok (.bipush 6, 2) := by decide +kernel
theorem d_951_23 : decode (mB 951) 23 = .ok (.idiv, 1) := by decide +kernel
theorem d_951_24 : decode (mB 951) 24 = .ok (.bipush 6, 2) := by decide +kernel
theorem d_951_26 : decode (mB 951) 26 = .ok (.irem, 1) := by decide +kernel
theorem d_951_27 : decode (mB 951) 27 = .ok (.if_icmp .eq 11, 3) := by decide +kernel
theorem d_951_30 : decode (mB 951) 30 = .ok (.iload_n 3, 1) := by decide +kernel
theorem d_951_31 : decode (mB 951) 31 = .ok (.iload_n 2, 1) := by decide +kernel
theorem d_951_32 : decode (mB 951) 32 = .ok (.bipush 36, 2) := by decide +kernel
theorem d_951_34 : decode (mB 951) 34 = .ok (.idiv, 1) := by decide +kernel
theorem d_951_35 : decode (mB 951) 35 = .ok (.if_icmp .ne 7, 3) := by decide +kernel
theorem d_951_38 : decode (mB 951) 38 = .ok (.iconst 0, 1) := by decide +kernel
theorem d_951_39 : decode (mB 951) 39 = .ok (.goto 6, 3) := by decide +kernel
theorem d_951_42 : decode (mB 951) 42 = .ok (.ldc_w 270, 3) := by decide +kernel
theorem d_951_45 : decode (mB 951) 45 = .ok (.iastore, 1) := by decide +kernel
theorem d_951_46 : decode (mB 951) 46 = .ok (.iinc 2 1, 3) := by decide +kernel
theorem d_951_49 : decode (mB 951) 49 = .ok (.goto (-47), 3) := by decide +kernel
theorem d_951_52 : decode (mB 951) 52 = .ok (.iconst 1, 1) := by decide +kernel
theorem d_951_53 : decode (mB 951) 53 = .ok (.istore_n 2, 1) := by decide +kernel
theorem d_951_54 : decode (mB 951) 54 = .ok (.iload_n 2, 1) := by decide +kernel
theorem d_951_55 : decode (mB 951) 55 = .ok (.ifCond .eq 152, 3) := by decide +kernel
theorem d_951_58 : decode (mB 951) 58 = .ok (.iconst 0, 1) := by decide +kernel
theorem d_951_59 : decode (mB 951) 59 = .ok (.istore_n 2, 1) := by decide +kernel
theorem d_951_60 : decode (mB 951) 60 = .ok (.iconst 0, 1) := by decide +kernel
theorem d_951_61 : decode (mB 951) 61 = .ok (.istore_n 3, 1) := by decide +kernel
theorem d_951_62 : decode (mB 951) 62 = .ok (.iload_n 3, 1) := by decide +kernel
theorem d_951_63 : decode (mB 951) 63 = .ok (.aload_n 0, 1) := by decide +kernel
theorem d_951_64 : decode (mB 951) 64 = .ok (.getfield 188, 3) := by decide +kernel
theorem d_951_67 : decode (mB 951) 67 = .ok (.if_icmp .ge 137, 3) := by decide +kernel
theorem d_951_70 : decode (mB 951) 70 = .ok (.iconst 0, 1) := by decide +kernel
theorem d_951_71 : decode (mB 951) 71 = .ok (.istore 4, 2) := by decide +kernel
theorem d_951_73 : decode (mB 951) 73 = .ok (.iload 4, 2) := by decide +kernel
theorem d_951_75 : decode (mB 951) 75 = .ok (.aload_n 0, 1) := by decide +kernel
theorem d_951_76 : decode (mB 951) 76 = .ok (.getfield 188, 3) := by decide +kernel
theorem d_951_79 : decode (mB 951) 79 = .ok (.if_icmp .ge 119, 3) := by decide +kernel
theorem d_951_82 : decode (mB 951) 82 = .ok (.iconst 0, 1) := by decide +kernel
theorem d_951_83 : decode (mB 951) 83 = .ok (.istore 5, 2) := by decide +kernel
theorem d_951_85 : decode (mB 951) 85 = .ok (.iload 5, 2) := by decide +kernel
theorem d_951_87 : decode (mB 951) 87 = .ok (.aload_n 0, 1) := by decide +kernel
theorem d_951_88 : decode (mB 951) 88 = .ok (.getfield 188, 3) := by decide +kernel
theorem d_951_91 : decode (mB 951) 91 = .ok (.if_icmp .ge 101, 3) := by decide +kernel
theorem d_951_94 : decode (mB 951) 94 = .ok (.iload_n 1, 1) := by decide +kernel
theorem d_951_95 : decode (mB 951) 95 = .ok (.iconst 2, 1) := by decide +kernel
theorem d_951_96 : decode (mB 951) 96 = .ok (.if_icmp .eq 9, 3) := by decide +kernel
theorem d_951_99 : decode (mB 951) 99 = .ok (.iload_n 3, 1) := by decide +kernel
theorem d_951_100 : decode (mB 951) 100 = .ok (.iload 4, 2) := by decide +kernel
theorem d_951_102 : decode (mB 951) 102 = .ok (.if_icmp .ne 7, 3) := by decide +kernel
theorem d_951_105 : decode (mB 951) 105 = .ok (.iconst 1, 1) := by decide +kernel
theorem d_951_106 : decode (mB 951) 106 = .ok (.goto 4, 3) := by decide +kernel
theorem d_951_109 : decode (mB 951) 109 = .ok (.iconst 0, 1) := by decide +kernel
theorem d_951_110 : decode (mB 951) 110 = .ok (.istore 6, 2) := by decide +kernel
theorem d_951_112 : decode (mB 951) 112 = .ok (.iload 6, 2) := by decide +kernel
theorem d_951_114 : decode (mB 951) 114 = .ok (.ifCond .eq 32, 3) := by decide +kernel
theorem d_951_117 : decode (mB 951) 117 = .ok (.aload_n 0, 1) := by decide +kernel
theorem d_951_118 : decode (mB 951) 118 = .ok (.getfield 54, 3) := by decide +kernel
theorem d_951_121 : decode (mB 951) 121 = .ok (.iload_n 3, 1) := by decide +kernel
theorem d_951_122 : decode (mB 951) 122 = .ok (.iload 4, 2) := by decide +kernel
theorem d_951_124 : decode (mB 951) 124 = .ok (.iload 5, 2) := by decide +kernel
theorem d_951_126 : decode (mB 951) 126 = .ok (.invokestatic 280, 3) := by decide +kernel
theorem d_951_129 : decode (mB 951) 129 = .ok (.iaload, 1) := by decide +kernel
theorem d_951_130 : decode (mB 951) 130 = .ok (.ifCond .le 16, 3) := by decide +kernel
theorem d_951_133 : decode (mB 951) 133 = .ok (.aload_n 0, 1) := by decide +kernel
theorem d_951_134 : decode (mB 951) 134 = .ok (.iload_n 1, 1) := by decide +kernel
theorem d_951_135 : decode (mB 951) 135 = .ok (.iload_n 3, 1) := by decide +kernel
theorem d_951_136 : decode (mB 951) 136 = .ok (.iload 4, 2) := by decide +kernel
theorem d_951_138 : decode (mB 951) 138 = .ok (.iload 5, 2) := by decide +kernel
theorem d_951_140 : decode (mB 951) 140 = .ok (.invokevirtual 286, 3) := by decide +kernel
theorem d_951_143 : decode (mB 951) 143 = .ok (.goto 6, 3) := by decide +kernel
theorem d_951_146 : decode (mB 951) 146 = .ok (.ldc_w 270, 3) := by decide +kernel
theorem d_951_149 : decode (mB 951) 149 = .ok (.istore 7, 2) := by decide +kernel
theorem d_951_151 : decode (mB 951) 151 = .ok (.iload 7, 2) := by decide +kernel
theorem d_951_153 : decode (mB 951) 153 = .ok (.aload_n 0, 1) := by decide +kernel
theorem d_951_154 : decode (mB 951) 154 = .ok (.getfield 54, 3) := by decide +kernel
theorem d_951_157 : decode (mB 951) 157 = .ok (.iload_n 3, 1) := by decide +kernel
theorem d_951_158 : decode (mB 951) 158 = .ok (.iload 4, 2) := by decide +kernel
theorem d_951_160 : decode (mB 951) 160 = .ok (.iload 5, 2) := by decide +kernel
theorem d_951_162 : decode (mB 951) 162 = .ok (.invokestatic 280, 3) := by decide +kernel
theorem d_951_165 : decode (mB 951) 165 = .ok (.iaload, 1) := by decide +kernel
theorem d_951_166 : decode (mB 951) 166 = .ok (.if_icmp .ge 20, 3) := by decide +kernel
theorem d_951_169 : decode (mB 951) 169 = .ok (.aload_n 0, 1) := by decide +kernel
theorem d_951_170 : decode (mB 951) 170 = .ok (.getfield 54, 3) := by decide +kernel
theorem d_951_173 : decode (mB 951) 173 = .ok (.iload_n 3, 1) := by decide +kernel
theorem d_951_174 : decode (mB 951) 174 = .ok (.iload 4, 2) := by decide +kernel
theorem d_951_176 : decode (mB 951) 176 = .ok (.iload 5, 2) := by decide +kernel
theorem d_951_178 : decode (mB 951) 178 = .ok (.invokestatic 280, 3) := by decide +kernel
theorem d_951_181 : decode (mB 951) 181 = .ok (.iload 7, 2) := by decide +kernel
theorem d_951_183 : decode (mB 951) 183 = .ok (.iastore, 1) := by decide +kernel
theorem d_951_184 : decode (mB 951) 184 = .ok (.iconst 1, 1) := by decide +kernel
theorem d_951_185 : decode (mB 951) 185 = .ok (.istore_n 2, 1) := by decide +kernel
theorem d_951_186 : decode (mB 951) 186 = .ok (.iinc 5 1, 3) := by decide +kernel
theorem d_951_189 : decode (mB 951) 189 = .ok (.goto (-104), 3) := by decide +kernel
theorem d_951_192 : decode (mB 951) 192 = .ok (.iinc 4 1, 3) := by decide +kernel
theorem d_951_195 : decode (mB 951) 195 = .ok (.goto (-122), 3) := by decide +kernel
theorem d_951_198 : decode (mB 951) 198 = .ok (.iinc 3 1, 3) := by decide +kernel
theorem d_951_201 : decode (mB 951) 201 = .ok (.goto (-139), 3) := by decide +kernel
theorem d_951_204 : decode (mB 951) 204 = .ok (.goto (-150), 3) := by decide +kernel
theorem d_951_207 : decode (mB 951) 207 = .ok (.return_, 1) := by decide +kernel
theorem d_948_0 : decode (mB 948) 0 = .ok (.iload_n 0, 1) := by decide +kernel
theorem d_948_1 : decode (mB 948) 1 = .ok (.bipush 6, 2) := by decide +kernel
theorem d_948_3 : decode (mB 948) 3 = .ok (.imul, 1) := by decide +kernel
theorem d_948_4 : decode (mB 948) 4 = .ok (.iload_n 1, 1) := by decide +kernel
theorem d_948_5 : decode (mB 948) 5 = .ok (.iadd, 1) := by decide +kernel
theorem d_948_6 : decode (mB 948) 6 = .ok (.bipush 6, 2) := by decide +kernel
theorem d_948_8 : decode (mB 948) 8 = .ok (.imul, 1) := by decide +kernel
theorem d_948_9 : decode (mB 948) 9 = .ok (.iload_n 2, 1) := by decide +kernel
theorem d_948_10 : decode (mB 948) 10 = .ok (.iadd, 1) := by decide +kernel
theorem d_948_11 : decode (mB 948) 11 = .ok (.ireturn, 1) := by decide +kernel
theorem d_909_0 : decode (mB 909) 0 = .ok (.aload_n 0, 1) := by decide +kernel
theorem d_909_1 : decode (mB 909) 1 = .ok (.getfield 95, 3) := by decide +kernel
theorem d_909_4 : decode (mB 909) 4 = .ok (.ifCond .le 5, 3) := by decide +kernel
theorem d_909_7 : decode (mB 909) 7 = .ok (.iconst 0, 1) := by decide +kernel
theorem d_909_8 : decode (mB 909) 8 = .ok (.ireturn, 1) := by decide +kernel
theorem d_909_9 : decode (mB 909) 9 = .ok (.aload_n 0, 1) := by decide +kernel
theorem d_909_10 : decode (mB 909) 10 = .ok (.invokevirtual 98, 3) := by decide +kernel
theorem d_909_13 : decode (mB 909) 13 = .ok (.istore_n 3, 1) := by decide +kernel
theorem d_909_14 : decode (mB 909) 14 = .ok (.aload_n 0, 1) := by decide +kernel
theorem d_909_15 : decode (mB 909) 15 = .ok (.aload_n 0, 1) := by decide +kernel
theorem d_909_16 : decode (mB 909) 16 = .ok (.getfield 92, 3) := by decide +kernel
theorem d_909_19 : decode (mB 909) 19 = .ok (.putfield 102, 3) := by decide +kernel
theorem d_909_22 : decode (mB 909) 22 = .ok (.aload_n 0, 1) := by decide +kernel
theorem d_909_23 : decode (mB 909) 23 = .ok (.iload_n 3, 1) := by decide +kernel
theorem d_909_24 : decode (mB 909) 24 = .ok (.i2l, 1) := by decide +kernel
theorem d_909_25 : decode (mB 909) 25 = .ok (.ldc2_w 112, 3) := by decide +kernel
theorem d_909_28 : decode (mB 909) 28 = .ok (.ldc2_w 114, 3) := by decide +kernel
theorem d_909_31 : decode (mB 909) 31 = .ok (.invokestatic 83, 3) := by decide +kernel
theorem d_909_34 : decode (mB 909) 34 = .ok (.iconst 1, 1) := by decide +kernel
theorem d_909_35 : decode (mB 909) 35 = .ok (.aload_n 0, 1) := by decide +kernel
theorem d_909_36 : decode (mB 909) 36 = .ok (.getfield 92, 3) := by decide +kernel
theorem d_909_39 : decode (mB 909) 39 = .ok (.invokevirtual 116, 3) := by decide +kernel
theorem d_909_42 : decode (mB 909) 42 = .ok (.ifCond .ne 5, 3) := by decide +kernel
theorem d_909_45 : decode (mB 909) 45 = .ok (.iconst 0, 1) := by decide +kernel
theorem d_909_46 : decode (mB 909) 46 = .ok (.ireturn, 1) := by decide +kernel
theorem d_909_47 : decode (mB 909) 47 = .ok (.iconst 0, 1) := by decide +kernel
theorem d_909_48 : decode (mB 909) 48 = .ok (.istore 4, 2) := by decide +kernel
theorem d_909_50 : decode (mB 909) 50 = .ok (.aload_n 0, 1) := by decide +kernel
theorem d_909_51 : decode (mB 909) 51 = .ok (.getfield 92, 3) := by decide +kernel
theorem d_909_54 : decode (mB 909) 54 = .ok (.aload_n 0, 1) := by decide +kernel
theorem d_909_55 : decode (mB 909) 55 = .ok (.getfield 88, 3) := by decide +kernel
theorem d_909_58 : decode (mB 909) 58 = .ok (.if_icmp .ge 70, 3) := by decide +kernel
theorem d_909_61 : decode (mB 909) 61 = .ok (.aload_n 0, 1) := by decide +kernel
theorem d_909_62 : decode (mB 909) 62 = .ok (.getfield 44, 3) := by decide +kernel
theorem d_909_65 : decode (mB 909) 65 = .ok (.aload_n 0, 1) := by decide +kernel
theorem d_909_66 : decode (mB 909) 66 = .ok (.getfield 92, 3) := by decide +kernel
theorem d_909_69 : decode (mB 909) 69 = .ok (.iaload, 1) := by decide +kernel
theorem d_909_70 : decode (mB 909) 70 = .ok (.i2l, 1) := by decide +kernel
theorem d_909_71 : decode (mB 909) 71 = .ok (.ldc2_w 112, 3) := by decide +kernel
theorem d_909_74 : decode (mB 909) 74 = .ok (.ldc2_w 114, 3) := by decide +kernel
theorem d_909_77 : decode (mB 909) 77 = .ok (.invokestatic 83, 3) := by decide +kernel
theorem d_909_80 : decode (mB 909) 80 = .ok (.ifCond .eq 48, 3) := by decide +kernel
theorem d_909_83 : decode (mB 909) 83 = .ok (.iload 4, 2) := by decide +kernel
theorem d_909_85 : decode (mB 909) 85 = .ok (.ldc 120, 2) := by decide +kernel
theorem d_909_87 : decode (mB 909) 87 = .ok (.if_icmp .le 8, 3) := by decide +kernel
theorem d_909_90 : decode (mB 909) 90 = .ok (.iload 4, 2) := by decide +kernel
theorem d_909_92 : decode (mB 909) 92 = .ok (.goto 21, 3) := by decide +kernel
theorem d_909_95 : decode (mB 909) 95 = .ok (.bipush 10, 2) := by decide +kernel
theorem d_909_97 : decode (mB 909) 97 = .ok (.iload 4, 2) := by decide +kernel
theorem d_909_99 : decode (mB 909) 99 = .ok (.imul, 1) := by decide +kernel
theorem d_909_100 : decode (mB 909) 100 = .ok (.aload_n 0, 1) := by decide +kernel
theorem d_909_101 : decode (mB 909) 101 = .ok (.getfield 44, 3) := by decide +kernel
theorem d_909_104 : decode (mB 909) 104 = .ok (.aload_n 0, 1) := by decide +kernel
theorem d_909_105 : decode (mB 909) 105 = .ok (.getfield 92, 3) := by decide +kernel
theorem d_909_108 : decode (mB 909) 108 = .ok (.iaload, 1) := by decide +kernel
theorem d_909_109 : decode (mB 909) 109 = .ok (.iadd, 1) := by decide +kernel
theorem d_909_110 : decode (mB 909) 110 = .ok (.bipush 48, 2) := by decide +kernel
theorem d_909_112 : decode (mB 909) 112 = .ok (.isub, 1) := by decide +kernel
theorem d_909_113 : decode (mB 909) 113 = .ok (.istore 4, 2) := by decide +kernel
theorem d_909_115 : decode (mB 909) 115 = .ok (.aload_n 0, 1) := by decide +kernel
theorem d_909_116 : decode (mB 909) 116 = .ok (.dup, 1) := by decide +kernel
theorem d_909_117 : decode (mB 909) 117 = .ok (.getfield 92, 3) := by decide +kernel
theorem d_909_120 : decode (mB 909) 120 = .ok (.iconst 1, 1) := by decide +kernel
theorem d_909_121 : decode (mB 909) 121 = .ok (.iadd, 1) := by decide +kernel
theorem d_909_122 : decode (mB 909) 122 = .ok (.putfield 92, 3) := by decide +kernel
theorem d_909_125 : decode (mB 909) 125 = .ok (.goto (-75), 3) := by decide +kernel
theorem d_909_128 : decode (mB 909) 128 = .ok (.aload_n 0, 1) := by decide +kernel
theorem d_909_129 : decode (mB 909) 129 = .ok (.aload_n 0, 1) := by decide +kernel
theorem d_909_130 : decode (mB 909) 130 = .ok (.getfield 92, 3) := by decide +kernel
theorem d_909_133 : decode (mB 909) 133 = .ok (.aload_n 0, 1) := by decide +kernel
theorem d_909_134 : decode (mB 909) 134 = .ok (.getfield 102, 3) := by decide +kernel
theorem d_909_137 : decode (mB 909) 137 = .ok (.isub, 1) := by decide +kernel
theorem d_909_138 : decode (mB 909) 138 = .ok (.iconst 4, 1) := by decide +kernel
theorem d_909_139 : decode (mB 909) 139 = .ok (.if_icmp .ge 20, 3) := by decide +kernel
theorem d_909_142 : decode (mB 909) 142 = .ok (.iload 4, 2) := by decide +kernel
theorem d_909_144 : decode (mB 909) 144 = .ok (.i2l, 1) := by decide +kernel
theorem d_909_145 : decode (mB 909) 145 = .ok (.iload_n 1, 1) := by decide +kernel
theorem d_909_146 : decode (mB 909) 146 = .ok (.i2l, 1) := by decide +kernel
theorem d_909_147 : decode (mB 909) 147 = .ok (.iload_n 2, 1) := by decide +kernel
theorem d_909_148 : decode (mB 909) 148 = .ok (.i2l, 1) := by decide +kernel
theorem d_909_149 : decode (mB 909) 149 = .ok (.invokestatic 83, 3) := by decide +kernel
theorem d_909_152 : decode (mB 909) 152 = .ok (.ifCond .eq 7, 3) := by decide +kernel
theorem d_909_155 : decode (mB 909) 155 = .ok (.iconst 1, 1) := by decide +kernel
theorem d_909_156 : decode (mB 909) 156 = .ok (.goto 4, 3) := by decide +kernel
theorem d_909_159 : decode (mB 909) 159 = .ok (.iconst 0, 1) := by decide +kernel
theorem d_909_160 : decode (mB 909) 160 = .ok (.iconst 2, 1) := by decide +kernel
theorem d_909_161 : decode (mB 909) 161 = .ok (.aload_n 0, 1) := by decide +kernel
theorem d_909_162 : decode (mB 909) 162 = .ok (.getfield 102, 3) := by decide +kernel
theorem d_909_165 : decode (mB 909) 165 = .ok (.invokevirtual 116, 3) := by decide +kernel
theorem d_909_168 : decode (mB 909) 168 = .ok (.istore 5, 2) := by decide +kernel
theorem d_909_170 : decode (mB 909) 170 = .ok (.iload 4, 2) := by decide +kernel
theorem d_909_172 : decode (mB 909) 172 = .ok (.ireturn, 1) := by decide +kernel
theorem d_916_0 : decode (mB 916) 0 = .ok (.aload_n 0, 1) := by decide +kernel
theorem d_916_1 : decode (mB 916) 1 = .ok (.getfield 109, 3) := by decide +kernel
theorem d_916_4 : decode (mB 916) 4 = .ok (.bipush 6, 2) := by decide +kernel
theorem d_916_6 : decode (mB 916) 6 = .ok (.if_icmp .gt 7, 3) := by decide +kernel
theorem d_916_9 : decode (mB 916) 9 = .ok (.iconst 1, 1) := by decide +kernel
theorem d_916_10 : decode (mB 916) 10 = .ok (.goto 4, 3) := by decide +kernel
theorem d_916_13 : decode (mB 916) 13 = .ok (.iconst 0, 1) := by decide +kernel
theorem d_916_14 : decode (mB 916) 14 = .ok (.istore_n 1, 1) := by decide +kernel
theorem d_916_15 : decode (mB 916) 15 = .ok (.iconst 0, 1) := by decide +kernel
theorem d_916_16 : decode (mB 916) 16 = .ok (.istore_n 2, 1) := by decide +kernel
theorem d_916_17 : decode (mB 916) 17 = .ok (.iload_n 2, 1) := by decide +kernel
theorem d_916_18 : decode (mB 916) 18 = .ok (.aload_n 0, 1) := by decide +kernel
theorem d_916_19 : decode (mB 916) 19 = .ok (.getfield 109, 3) := by decide +kernel
theorem d_916_22 : decode (mB 916) 22 = .ok (.if_icmp .ge 35, 3) := by decide +kernel
theorem d_916_25 : decode (mB 916) 25 = .ok (.iload_n 1, 1) := by decide +kernel
theorem d_916_26 : decode (mB 916) 26 = .ok (.ifCond .eq 31, 3) := by decide +kernel
theorem d_916_29 : decode (mB 916) 29 = .ok (.aload_n 0, 1) := by decide +kernel
theorem d_916_30 : decode (mB 916) 30 = .ok (.getfield 44, 3) := by decide +kernel
theorem d_916_33 : decode (mB 916) 33 = .ok (.aload_n 0, 1) := by decide +kernel
theorem d_916_34 : decode (mB 916) 34 = .ok (.getfield 102, 3) := by decide +kernel
theorem d_916_37 : decode (mB 916) 37 = .ok (.iload_n 2, 1) := by decide +kernel
theorem d_916_38 : decode (mB 916) 38 = .ok (.iadd, 1) := by decide +kernel
theorem d_916_39 : decode (mB 916) 39 = .ok (.iaload, 1) := by decide +kernel
theorem d_916_40 : decode (mB 916) 40 = .ok (.i2l, 1) := by decide +kernel
theorem d_916_41 : decode (mB 916) 41 = .ok (.ldc2_w 105, 3) := by decide +kernel
theorem d_916_44 : decode (mB 916) 44 = .ok (.ldc2_w 147, 3) := by decide +kernel
theorem d_916_47 : decode (mB 916) 47 = .ok (.invokestatic 83, 3) := by decide +kernel
theorem d_916_50 : decode (mB 916) 50 = .ok (.istore_n 1, 1) := by decide +kernel
theorem d_916_51 : decode (mB 916) 51 = .ok (.iinc 2 1, 3) := by decide +kernel
theorem d_916_54 : decode (mB 916) 54 = .ok (.goto (-37), 3) := by decide +kernel
theorem d_916_57 : decode (mB 916) 57 = .ok (.iload_n 1, 1) := by decide +kernel
theorem d_916_58 : decode (mB 916) 58 = .ok (.ireturn, 1) := by decide +kernel
theorem d_950_0 : decode (mB 950) 0 = .ok (.ldc_w 270, 3) := by decide +kernel
theorem d_950_3 : decode (mB 950) 3 = .ok (.istore 5, 2) := by decide +kernel
theorem d_950_5 : decode (mB 950) 5 = .ok (.iconst 0, 1) := by decide +kernel
theorem d_950_6 : decode (mB 950) 6 = .ok (.istore 6, 2) := by decide +kernel
theorem d_950_8 : decode (mB 950) 8 = .ok (.iload 6, 2) := by decide +kernel
theorem d_950_10 : decode (mB 950) 10 = .ok (.aload_n 0, 1) := by decide +kernel
theorem d_950_11 : decode (mB 950) 11 = .ok (.getfield 188, 3) := by decide +kernel
theorem d_950_14 : decode (mB 950) 14 = .ok (.if_icmp .ge 122, 3) := by decide +kernel
theorem d_950_17 : decode (mB 950) 17 = .ok (.iconst 0, 1) := by decide +kernel
theorem d_950_18 : decode (mB 950) 18 = .ok (.istore 7, 2) := by decide +kernel
theorem d_950_20 : decode (mB 950) 20 = .ok (.iload 7, 2) := by decide +kernel
theorem d_950_22 : decode (mB 950) 22 = .ok (.aload_n 0, 1) := by decide +kernel
theorem d_950_23 : decode (mB 950) 23 = .ok (.getfield 188, 3) := by decide +kernel
theorem d_950_26 : decode (mB 950) 26 = .ok (.if_icmp .ge 104, 3) := by decide +kernel
theorem d_950_29 : decode (mB 950) 29 = .ok (.aload_n 0, 1) := by decide +kernel
theorem d_950_30 : decode (mB 950) 30 = .ok (.iload_n 2, 1) := by decide +kernel
theorem d_950_31 : decode (mB 950) 31 = .ok (.iload 6, 2) := by decide +kernel
theorem d_950_33 : decode (mB 950) 33 = .ok (.invokevirtual 277, 3) := by decide +kernel
theorem d_950_36 : decode (mB 950) 36 = .ok (.ifCond .eq 32, 3) := by decide +kernel
theorem d_950_39 : decode (mB 950) 39 = .ok (.iload_n 1, 1) := by decide +kernel
theorem d_950_40 : decode (mB 950) 40 = .ok (.iconst 1, 1) := by decide +kernel
theorem d_950_41 : decode (mB 950) 41 = .ok (.if_icmp .ne 13, 3) := by decide +kernel
theorem d_950_44 : decode (mB 950) 44 = .ok (.iload 6, 2) := by decide +kernel
theorem d_950_46 : decode (mB 950) 46 = .ok (.iload 7, 2) := by decide +kernel
theorem d_950_48 : decode (mB 950) 48 = .ok (.if_icmp .ne 20, 3) := by decide +kernel
theorem d_950_51 : decode (mB 950) 51 = .ok (.goto 13, 3) := by decide +kernel
theorem d_950_54 : decode (mB 950) 54 = .ok (.aload_n 0, 1) := by decide +kernel
theorem d_950_55 : decode (mB 950) 55 = .ok (.iload_n 3, 1) := by decide +kernel
theorem d_950_56 : decode (mB 950) 56 = .ok (.iload 7, 2) := by decide +kernel
theorem d_950_58 : decode (mB 950) 58 = .ok (.invokevirtual 277, 3) := by decide +kernel
theorem d_950_61 : decode (mB 950) 61 = .ok (.ifCond .eq 7, 3) := by decide +kernel
theorem d_950_64 : decode (mB 950) 64 = .ok (.iconst 1, 1) := by decide +kernel
theorem d_950_65 : decode (mB 950) 65 = .ok (.goto 4, 3) := by decide +kernel
theorem d_950_68 : decode (mB 950) 68 = .ok (.iconst 0, 1) := by decide +kernel
theorem d_950_69 : decode (mB 950) 69 = .ok (.istore 8, 2) := by decide +kernel
theorem d_950_71 : decode (mB 950) 71 = .ok (.iload 8, 2) := by decide +kernel
theorem d_950_73 : decode (mB 950) 73 = .ok (.ifCond .eq 51, 3) := by decide +kernel
theorem d_950_76 : decode (mB 950) 76 = .ok (.iload 6, 2) := by decide +kernel
theorem d_950_78 : decode (mB 950) 78 = .ok (.iload 4, 2) := by decide +kernel
theorem d_950_80 : decode (mB 950) 80 = .ok (.if_icmp .eq 10, 3) := by decide +kernel
theorem d_950_83 : decode (mB 950) 83 = .ok (.iload 7, 2) := by decide +kernel
theorem d_950_85 : decode (mB 950) 85 = .ok (.iload 4, 2) := by decide +kernel
theorem d_950_87 : decode (mB 950) 87 = .ok (.if_icmp .ne 7, 3) := by decide +kernel
theorem d_950_90 : decode (mB 950) 90 = .ok (.iconst 1, 1) := by decide +kernel
theorem d_950_91 : decode (mB 950) 91 = .ok (.goto 15, 3) := by decide +kernel
theorem d_950_94 : decode (mB 950) 94 = .ok (.iconst 1, 1) := by decide +kernel
theorem d_950_95 : decode (mB 950) 95 = .ok (.aload_n 0, 1) := by decide +kernel
theorem d_950_96 : decode (mB 950) 96 = .ok (.iload 6, 2) := by decide +kernel
theorem d_950_98 : decode (mB 950) 98 = .ok (.iload 7, 2) := by decide +kernel
theorem d_950_100 : decode (mB 950) 100 = .ok (.iload 4, 2) := by decide +kernel
theorem d_950_102 : decode (mB 950) 102 = .ok (.invokevirtual 283, 3) := by decide +kernel
theorem d_950_105 : decode (mB 950) 105 = .ok (.iadd, 1) := by decide +kernel
theorem d_950_106 : decode (mB 950) 106 = .ok (.istore 9, 2) := by decide +kernel
theorem d_950_108 : decode (mB 950) 108 = .ok (.iload 9, 2) := by decide +kernel
theorem d_950_110 : decode (mB 950) 110 = .ok (.iload 5, 2) := by decide +kernel
theorem d_950_112 : decode (mB 950) 112 = .ok (.if_icmp .ge 8, 3) := by decide +kernel
theorem d_950_115 : decode (mB 950) 115 = .ok (.iload 9, 2) := by decide +kernel
theorem d_950_117 : decode (mB 950) 117 = .ok (.goto 5, 3) := by decide +kernel
theorem d_950_120 : decode (mB 950) 120 = .ok (.iload 5, 2) := by decide +kernel
theorem d_950_122 : decode (mB 950) 122 = .ok (.istore 5, 2) := by decide +kernel
theorem d_950_124 : decode (mB 950) 124 = .ok (.iinc 7 1, 3) := by decide +kernel
theorem d_950_127 : decode (mB 950) 127 = .ok (.goto (-107), 3) := by decide +kernel
theorem d_950_130 : decode (mB 950) 130 = .ok (.iinc 6 1, 3) := by decide +kernel
theorem d_950_133 : decode (mB 950) 133 = .ok (.goto (-125), 3) := by decide +kernel
theorem d_950_136 : decode (mB 950) 136 = .ok (.iload 5, 2) := by decide +kernel
theorem d_950_138 : decode (mB 950) 138 = .ok (.ireturn, 1) := by decide +kernel
theorem d_947_0 : decode (mB 947) 0 = .ok (.iload_n 1, 1) := by decide +kernel
theorem d_947_1 : decode (mB 947) 1 = .ok (.iload_n 2, 1) := by decide +kernel
theorem d_947_2 : decode (mB 947) 2 = .ok (.if_icmp .eq 16, 3) := by decide +kernel
theorem d_947_5 : decode (mB 947) 5 = .ok (.aload_n 0, 1) := by decide +kernel
theorem d_947_6 : decode (mB 947) 6 = .ok (.getfield 23, 3) := by decide +kernel
theorem d_947_9 : decode (mB 947) 9 = .ok (.iload_n 1, 1) := by decide +kernel
theorem d_947_10 : decode (mB 947) 10 = .ok (.iaload, 1) := by decide +kernel
theorem d_947_11 : decode (mB 947) 11 = .ok (.iload_n 2, 1) := by decide +kernel
theorem d_947_12 : decode (mB 947) 12 = .ok (.invokestatic 124, 3) := by decide +kernel
theorem d_947_15 : decode (mB 947) 15 = .ok (.ifCond .eq 7, 3) := by decide +kernel
theorem d_947_18 : decode (mB 947) 18 = .ok (.iconst 1, 1) := by decide +kernel
theorem d_947_19 : decode (mB 947) 19 = .ok (.goto 4, 3) := by decide +kernel
theorem d_947_22 : decode (mB 947) 22 = .ok (.iconst 0, 1) := by decide +kernel
theorem d_947_23 : decode (mB 947) 23 = .ok (.ireturn, 1) := by decide +kernel
theorem d_949_0 : decode (mB 949) 0 = .ok (.iconst 0, 1) := by decide +kernel
theorem d_949_1 : decode (mB 949) 1 = .ok (.istore 4, 2) := by decide +kernel
theorem d_949_3 : decode (mB 949) 3 = .ok (.iconst 0, 1) := by decide +kernel
theorem d_949_4 : decode (mB 949) 4 = .ok (.istore 5, 2) := by decide +kernel
theorem d_949_6 : decode (mB 949) 6 = .ok (.iload 5, 2) := by decide +kernel
theorem d_949_8 : decode (mB 949) 8 = .ok (.aload_n 0, 1) := by decide +kernel
theorem d_949_9 : decode (mB 949) 9 = .ok (.getfield 188, 3) := by decide +kernel
theorem d_949_12 : decode (mB 949) 12 = .ok (.if_icmp .ge 55, 3) := by decide +kernel
theorem d_949_15 : decode (mB 949) 15 = .ok (.aload_n 0, 1) := by decide +kernel
theorem d_949_16 : decode (mB 949) 16 = .ok (.iload_n 3, 1) := by decide +kernel
theorem d_949_17 : decode (mB 949) 17 = .ok (.iload 5, 2) := by decide +kernel
theorem d_949_19 : decode (mB 949) 19 = .ok (.invokevirtual 277, 3) := by decide +kernel
theorem d_949_22 : decode (mB 949) 22 = .ok (.ifCond .eq 35, 3) := by decide +kernel
theorem d_949_25 : decode (mB 949) 25 = .ok (.aload_n 0, 1) := by decide +kernel
theorem d_949_26 : decode (mB 949) 26 = .ok (.getfield 54, 3) := by decide +kernel
theorem d_949_29 : decode (mB 949) 29 = .ok (.iload_n 1, 1) := by decide +kernel
theorem d_949_30 : decode (mB 949) 30 = .ok (.iload_n 2, 1) := by decide +kernel
theorem d_949_31 : decode (mB 949) 31 = .ok (.iload 5, 2) := by decide +kernel
theorem d_949_33 : decode (mB 949) 33 = .ok (.invokestatic 280, 3) := by decide +kernel
theorem d_949_36 : decode (mB 949) 36 = .ok (.iaload, 1) := by decide +kernel
theorem d_949_37 : decode (mB 949) 37 = .ok (.iload 4, 2) := by decide +kernel
theorem d_949_39 : decode (mB 949) 39 = .ok (.if_icmp .le 18, 3) := by decide +kernel
theorem d_949_42 : decode (mB 949) 42 = .ok (.aload_n 0, 1) := by decide +kernel
theorem d_949_43 : decode (mB 949) 43 = .ok (.getfield 54, 3) := by decide +kernel
theorem d_949_46 : decode (mB 949) 46 = .ok (.iload_n 1, 1) := by decide +kernel
theorem d_949_47 : decode (mB 949) 47 = .ok (.iload_n 2, 1) := by decide +kernel
theorem d_949_48 : decode (mB 949) 48 = .ok (.iload 5, 2) := by decide +kernel
theorem d_949_50 : decode (mB 949) 50 = .ok (.invokestatic 280, 3) := by decide +kernel
theorem d_949_53 : decode (mB 949) 53 = .ok (.iaload, 1) := by decide +kernel
theorem d_949_54 : decode (mB 949) 54 = .ok (.goto 5, 3) := by decide +kernel
theorem d_949_57 : decode (mB 949) 57 = .ok (.iload 4, 2) := by decide +kernel
theorem d_949_59 : decode (mB 949) 59 = .ok (.istore 4, 2) := by decide +kernel
theorem d_949_61 : decode (mB 949) 61 = .ok (.iinc 5 1, 3) := by decide +kernel
theorem d_949_64 : decode (mB 949) 64 = .ok (.goto (-58), 3) := by decide +kernel
theorem d_949_67 : decode (mB 949) 67 = .ok (.iload 4, 2) := by decide +kernel
theorem d_949_69 : decode (mB 949) 69 = .ok (.ireturn, 1) := by decide +kernel
theorem b904_0 {x1 : Int} {σ : SS} : ev 904 0 [qR 50, qI x1] [] σ = (ev 900 0 [qL x1, qU, qL 0, qU, qL 255, qU] [] σ).bind (fun x => ev 904 9 [qR 50, qI x1] (q_push x.1 []) x.2) :=
  Eq.trans (e_iload_n d_904_0 rfl) (Eq.trans (e_i2l d_904_1) (Eq.trans (e_lconst d_904_2 rfl) (Eq.trans (e_ldc2 d_904_3 ll_9_81.1 ll_9_81.2) (e_callS d_904_6 (by decide) ml_9_83 fit_904_900 par_900 rfl rfl (Nat.le_of_ble_eq_true rfl) (Nat.le_of_ble_eq_true rfl) (Nat.le_of_ble_eq_true rfl) rfl (by decide) rfl))))
theorem b904_9 {x1 y0 : Int} {σ : SS} : ev 904 9 [qR 50, qI x1] [qI y0] σ = if y0 = 0 then ev 904 12 [qR 50, qI x1] [] σ else ev 904 15 [qR 50, qI x1] [] σ :=
  e_if_ne d_904_9 (by decide)
theorem b904_12 {x1 : Int} {σ : SS} : ev 904 12 [qR 50, qI x1] [] σ = some (some (qI (-1000000002)), σ) :=
  Eq.trans (e_ldc d_904_12 ld_9_87 k_m1000000002) (e_iret d_904_14 (q_okrI rfl))
theorem b904_15 {x1 : Int} {σ : SS} : ev 904 15 [qR 50, qI x1] [] σ = if (σ 50 24) = 300 then ev 904 25 [qR 50, qI x1] [] σ else ev 904 28 [qR 50, qI x1] [] σ :=
  Eq.trans (e_aload_n d_904_15 rfl) (Eq.trans (e_getI d_904_16 fl_9_88 sh_50 rfl) (Eq.trans (e_sipush d_904_19 ks_300) (e_icmp_ne d_904_22 (by decide))))
theorem b904_25 {x1 : Int} {σ : SS} : ev 904 25 [qR 50, qI x1] [] σ = some (some (qI (-1000000004)), σ) :=
  Eq.trans (e_ldc d_904_25 ld_9_91 k_m1000000004) (e_iret d_904_27 (q_okrI rfl))
theorem b904_28 {x1 : Int} {σ : SS} (h : (0 ≤ (σ 50 24) ∧ (σ 50 24) < 300) ∧ (-2147483648 ≤ ((σ 50 24) + 1) ∧ ((σ 50 24) + 1) ≤ 2147483647)) : ev 904 28 [qR 50, qI x1] [] σ = some (some (qI ((σ 50 24) + 1)), (q_put (q_put σ 62 (σ 50 24).toNat x1) 50 24 ((σ 50 24) + 1))) :=
  Eq.trans (e_aload_n d_904_28 rfl) (Eq.trans (e_getR d_904_29 fl_9_44 sh_50 rfl) (Eq.trans (e_aload_n d_904_32 rfl) (Eq.trans (e_getI d_904_33 fl_9_88 sh_50 rfl) (Eq.trans (e_iload_n d_904_36 rfl) (Eq.trans (e_iast d_904_37 sh_62 h.1) (Eq.trans (e_aload_n d_904_38 rfl) (Eq.trans (e_dup d_904_39 rfl) (Eq.trans (e_getI d_904_40 fl_9_88 sh_50 rfl) (Eq.trans (e_iconst d_904_43 k_1) (Eq.trans (e_iadd d_904_44 h.2) (Eq.trans (e_put d_904_45 fl_9_88 sh_50 rfl rfl rfl) (Eq.trans (e_aload_n d_904_48 rfl) (Eq.trans (e_getI d_904_49 fl_9_88 sh_50 rfl) (e_iret d_904_52 (q_okrI rfl)))))))))))))))
theorem b919_0 {σ : SS} : ev 919 0 [qR 50, qU] [] σ = ev 919 73 [qR 50, qU] [] (q_put (q_put (q_put (q_put (q_put (q_put (q_put (q_put (q_put (q_put (q_put (q_put (q_put σ 50 25 0) 50 28 0) 50 29 (-1)) 50 17 0) 50 18 0) 50 19 0) 50 20 0) 50 4 12) 50 21 0) 50 22 0) 53 3 30) 53 4 1) 53 5 0) :=
  Eq.trans (e_aload_n d_919_0 rfl) (Eq.trans (e_iconst d_919_1 k_0) (Eq.trans (e_put d_919_2 fl_9_92 sh_50 rfl rfl rfl) (Eq.trans (e_aload_n d_919_5 rfl) (Eq.trans (e_iconst d_919_6 k_0) (Eq.trans (e_put d_919_7 fl_9_95 sh_50 rfl rfl rfl) (Eq.trans (e_aload_n d_919_10 rfl) (Eq.trans (e_iconst d_919_11 k_m1) (Eq.trans (e_put d_919_12 fl_9_47 sh_50 rfl rfl rfl) (Eq.trans (e_aload_n d_919_15 rfl) (Eq.trans (e_iconst d_919_16 k_0) (Eq.trans (e_put d_919_17 fl_9_141 sh_50 rfl rfl rfl) (Eq.trans (e_aload_n d_919_20 rfl) (Eq.trans (e_iconst d_919_21 k_0) (Eq.trans (e_put d_919_22 fl_9_135 sh_50 rfl rfl rfl) (Eq.trans (e_aload_n d_919_25 rfl) (Eq.trans (e_iconst d_919_26 k_0) (Eq.trans (e_put d_919_27 fl_9_144 sh_50 rfl rfl rfl) (Eq.trans (e_aload_n d_919_30 rfl) (Eq.trans (e_iconst d_919_31 k_0) (Eq.trans (e_put d_919_32 fl_9_138 sh_50 rfl rfl rfl) (Eq.trans (e_aload_n d_919_35 rfl) (Eq.trans (e_bipush d_919_36 kb_12) (Eq.trans (e_put d_919_38 fl_9_132 sh_50 rfl rfl rfl) (Eq.trans (e_aload_n d_919_41 rfl) (Eq.trans (e_iconst d_919_42 k_0) (Eq.trans (e_put d_919_43 fl_9_121 sh_50 rfl rfl rfl) (Eq.trans (e_aload_n d_919_46 rfl) (Eq.trans (e_iconst d_919_47 k_0) (Eq.trans (e_put d_919_48 fl_9_149 sh_50 rfl rfl rfl) (Eq.trans (e_aload_n d_919_51 rfl) (Eq.trans (e_getR d_919_52 fl_9_17 sh_50 rfl) (Eq.trans (e_iconst d_919_55 k_3) (Eq.trans (e_bipush d_919_56 kb_30) (Eq.trans (e_iast d_919_58 sh_53 (by decide)) (Eq.trans (e_aload_n d_919_59 rfl) (Eq.trans (e_getR d_919_60 fl_9_17 sh_50 rfl) (Eq.trans (e_iconst d_919_63 k_4) (Eq.trans (e_iconst d_919_64 k_1) (Eq.trans (e_iast d_919_65 sh_53 (by decide)) (Eq.trans (e_aload_n d_919_66 rfl) (Eq.trans (e_getR d_919_67 fl_9_17 sh_50 rfl) (Eq.trans (e_iconst d_919_70 k_5) (Eq.trans (e_iconst d_919_71 k_0) (e_iast d_919_72 sh_53 (by decide)))))))))))))))))))))))))))))))))))))))))))))
theorem b919_73 {σ : SS} : ev 919 73 [qR 50, qU] [] σ = if (σ 50 28) = 0 then ev 919 80 [qR 50, qU] [] σ else ev 919 137 [qR 50, qU] [] σ :=
  Eq.trans (e_aload_n d_919_73 rfl) (Eq.trans (e_getI d_919_74 fl_9_95 sh_50 rfl) (e_if_ne d_919_77 (by decide)))
theorem b919_80 {σ : SS} : ev 919 80 [qR 50, qU] [] σ = (ev 905 0 [qR 50] [] σ).bind (fun x => ev 919 84 [qR 50, qU] (q_push x.1 []) x.2) :=
  Eq.trans (e_aload_n d_919_80 rfl) (e_callV d_919_81 ml_9_98 fit_919_905 par_905 rfl rfl sh_50 (Nat.le_of_ble_eq_true rfl) (Nat.le_of_ble_eq_true rfl) (Nat.le_of_ble_eq_true rfl) rfl (by decide) rfl)
theorem b919_84 {y0 : Int} {σ : SS} : ev 919 84 [qR 50, qU] [qI y0] σ = if y0 < 0 then ev 919 137 [qR 50, qU] [] σ else ev 919 87 [qR 50, qU] [] σ :=
  e_if_lt d_919_84 (by decide)
theorem b919_87 {σ : SS} : ev 919 87 [qR 50, qU] [] σ = (ev 918 0 [qR 50, qU] [] σ).bind (fun x => ev 919 91 [qR 50, qU] (q_push x.1 []) x.2) :=
  Eq.trans (e_aload_n d_919_87 rfl) (e_callV d_919_88 ml_9_185 fit_919_918 par_918 rfl rfl sh_50 (Nat.le_of_ble_eq_true rfl) (Nat.le_of_ble_eq_true rfl) (Nat.le_of_ble_eq_true rfl) rfl (by decide) rfl)
theorem b919_91 {σ : SS} : ev 919 91 [qR 50, qU] [] σ = if (σ 50 28) = 0 then ev 919 98 [qR 50, qU] [] σ else ev 919 73 [qR 50, qU] [] σ :=
  Eq.trans (e_aload_n d_919_91 rfl) (Eq.trans (e_getI d_919_92 fl_9_95 sh_50 rfl) (e_if_ne d_919_95 (by decide)))
theorem b919_98 {σ : SS} : ev 919 98 [qR 50, qU] [] σ = (ev 905 0 [qR 50] [] σ).bind (fun x => ev 919 103 [qR 50, qU] (q_push x.1 [qR 50]) x.2) :=
  Eq.trans (e_aload_n d_919_98 rfl) (Eq.trans (e_aload_n d_919_99 rfl) (e_callV d_919_100 ml_9_98 fit_919_905 par_905 rfl rfl sh_50 (Nat.le_of_ble_eq_true rfl) (Nat.le_of_ble_eq_true rfl) (Nat.le_of_ble_eq_true rfl) rfl (by decide) rfl))
theorem b919_103 {y0 : Int} {σ : SS} : ev 919 103 [qR 50, qU] [qI y0, qR 50] σ = if y0 = 59 then ev 919 108 [qR 50, qU] [qR 50] σ else ev 919 112 [qR 50, qU] [qR 50] σ :=
  Eq.trans (e_bipush d_919_103 kb_59) (e_icmp_ne d_919_105 (by decide))
theorem b919_108 {σ : SS} : ev 919 108 [qR 50, qU] [qR 50] σ = ev 919 113 [qR 50, qU] [qI 1, qR 50] σ :=
  Eq.trans (e_iconst d_919_108 k_1) (e_goto d_919_109 (by decide))
theorem b919_112 {σ : SS} : ev 919 112 [qR 50, qU] [qR 50] σ = ev 919 113 [qR 50, qU] [qI 0, qR 50] σ :=
  e_iconst d_919_112 k_0
theorem b919_113 {y0 : Int} {σ : SS} : ev 919 113 [qR 50, qU] [qI y0, qR 50] σ = (ev 906 0 [qR 50, qI y0, qI 1, qI (σ 50 25)] [] σ).bind (fun x => ev 919 121 [qR 50, qU] (q_push x.1 []) x.2) :=
  Eq.trans (e_iconst d_919_113 k_1) (Eq.trans (e_aload_n d_919_114 rfl) (Eq.trans (e_getI d_919_115 fl_9_92 sh_50 rfl) (e_callV d_919_118 ml_9_116 fit_919_906 par_906 rfl rfl sh_50 (Nat.le_of_ble_eq_true rfl) (Nat.le_of_ble_eq_true rfl) (Nat.le_of_ble_eq_true rfl) rfl (by decide) rfl)))
theorem b919_121 {y0 : Int} {σ : SS} : ev 919 121 [qR 50, qU] [qI y0] σ = if y0 = 0 then ev 919 73 [qR 50, qU] [] σ else ev 919 124 [qR 50, qU] [] σ :=
  e_if_eq d_919_121 (by decide)
theorem b919_124 {σ : SS} (h : -2147483648 ≤ ((σ 50 25) + 1) ∧ ((σ 50 25) + 1) ≤ 2147483647) : ev 919 124 [qR 50, qU] [] σ = ev 919 73 [qR 50, qU] [] (q_put σ 50 25 ((σ 50 25) + 1)) :=
  Eq.trans (e_aload_n d_919_124 rfl) (Eq.trans (e_dup d_919_125 rfl) (Eq.trans (e_getI d_919_126 fl_9_92 sh_50 rfl) (Eq.trans (e_iconst d_919_129 k_1) (Eq.trans (e_iadd d_919_130 h) (Eq.trans (e_put d_919_131 fl_9_92 sh_50 rfl rfl rfl) (e_goto d_919_134 (by decide)))))))
theorem b919_137 {σ : SS} : ev 919 137 [qR 50, qU] [] σ = if 0 < (σ 50 28) then ev 919 149 [qR 50, qU] [] (q_put σ 50 24 0) else ev 919 157 [qR 50, qU] [] (q_put σ 50 24 0) :=
  Eq.trans (e_aload_n d_919_137 rfl) (Eq.trans (e_iconst d_919_138 k_0) (Eq.trans (e_put d_919_139 fl_9_88 sh_50 rfl rfl rfl) (Eq.trans (e_aload_n d_919_142 rfl) (Eq.trans (e_getI d_919_143 fl_9_95 sh_50 rfl) (e_if_le d_919_146 (by decide))))))
theorem b919_149 {σ : SS} (h : -2147483648 ≤ ((-10) - (σ 50 28)) ∧ ((-10) - (σ 50 28)) ≤ 2147483647) : ev 919 149 [qR 50, qU] [] σ = some (some (qI ((-10) - (σ 50 28))), σ) :=
  Eq.trans (e_bipush d_919_149 kb_m10) (Eq.trans (e_aload_n d_919_151 rfl) (Eq.trans (e_getI d_919_152 fl_9_95 sh_50 rfl) (Eq.trans (e_isub d_919_155 h) (e_iret d_919_156 (q_okrI rfl)))))
theorem b919_157 {σ : SS} : ev 919 157 [qR 50, qU] [] σ = ev 919 159 [qR 50, qI 0] [] σ :=
  Eq.trans (e_iconst d_919_157 k_0) (e_istore_n d_919_158 (by decide) (Nat.le_of_ble_eq_true rfl) rfl)
theorem b919_159 {x1 : Int} {σ : SS} : ev 919 159 [qR 50, qI x1] [] σ = if x1 < 3 then ev 919 164 [qR 50, qI x1] [] σ else ev 919 184 [qR 50, qI x1] [] σ :=
  Eq.trans (e_iload_n d_919_159 rfl) (Eq.trans (e_iconst d_919_160 k_3) (e_icmp_ge d_919_161 (by decide)))
theorem b919_164 {x1 : Int} {σ : SS} (h : (-2147483648 ≤ (3 + x1) ∧ (3 + x1) ≤ 2147483647) ∧ (0 ≤ (3 + x1) ∧ (3 + x1) < 6) ∧ (0 ≤ x1 ∧ x1 < 6) ∧ (-2147483648 ≤ (x1 + 1) ∧ (x1 + 1) ≤ 2147483647)) : ev 919 164 [qR 50, qI x1] [] σ = ev 919 159 [qR 50, qI (x1 + 1)] [] (q_put σ 53 x1.toNat (σ 53 (3 + x1).toNat)) :=
  Eq.trans (e_aload_n d_919_164 rfl) (Eq.trans (e_getR d_919_165 fl_9_17 sh_50 rfl) (Eq.trans (e_iload_n d_919_168 rfl) (Eq.trans (e_aload_n d_919_169 rfl) (Eq.trans (e_getR d_919_170 fl_9_17 sh_50 rfl) (Eq.trans (e_iconst d_919_173 k_3) (Eq.trans (e_iload_n d_919_174 rfl) (Eq.trans (e_iadd d_919_175 h.1) (Eq.trans (e_iald d_919_176 sh_53 h.2.1) (Eq.trans (e_iast d_919_177 sh_53 h.2.2.1) (Eq.trans (e_iinc d_919_178 (by decide) rfl h.2.2.2 rfl) (e_goto d_919_181 (by decide))))))))))))
theorem b919_184 {x1 : Int} {σ : SS} : ev 919 184 [qR 50, qI x1] [] σ = ev 919 226 [qR 50, qI 0] [] (q_put (q_put (q_put (q_put (q_put σ 50 3 (σ 50 4)) 50 13 (σ 50 17)) 50 14 (σ 50 18)) 50 15 (σ 50 19)) 50 16 (σ 50 20)) :=
  Eq.trans (e_aload_n d_919_184 rfl) (Eq.trans (e_aload_n d_919_185 rfl) (Eq.trans (e_getI d_919_186 fl_9_132 sh_50 rfl) (Eq.trans (e_put d_919_189 fl_9_78 sh_50 rfl rfl rfl) (Eq.trans (e_aload_n d_919_192 rfl) (Eq.trans (e_aload_n d_919_193 rfl) (Eq.trans (e_getI d_919_194 fl_9_141 sh_50 rfl) (Eq.trans (e_put d_919_197 fl_9_188 sh_50 rfl rfl rfl) (Eq.trans (e_aload_n d_919_200 rfl) (Eq.trans (e_aload_n d_919_201 rfl) (Eq.trans (e_getI d_919_202 fl_9_135 sh_50 rfl) (Eq.trans (e_put d_919_205 fl_9_191 sh_50 rfl rfl rfl) (Eq.trans (e_aload_n d_919_208 rfl) (Eq.trans (e_aload_n d_919_209 rfl) (Eq.trans (e_getI d_919_210 fl_9_144 sh_50 rfl) (Eq.trans (e_put d_919_213 fl_9_194 sh_50 rfl rfl rfl) (Eq.trans (e_aload_n d_919_216 rfl) (Eq.trans (e_aload_n d_919_217 rfl) (Eq.trans (e_getI d_919_218 fl_9_138 sh_50 rfl) (Eq.trans (e_put d_919_221 fl_9_197 sh_50 rfl rfl rfl) (Eq.trans (e_iconst d_919_224 k_0) (e_istore_n d_919_225 (by decide) (Nat.le_of_ble_eq_true rfl) rfl)))))))))))))))))))))
theorem b919_226 {x1 : Int} {σ : SS} : ev 919 226 [qR 50, qI x1] [] σ = if x1 < 6 then ev 919 232 [qR 50, qI x1] [] σ else ev 919 364 [qR 50, qI x1] [] σ :=
  Eq.trans (e_iload_n d_919_226 rfl) (Eq.trans (e_bipush d_919_227 kb_6) (e_icmp_ge d_919_229 (by decide)))
theorem b919_232 {x1 : Int} {σ : SS} (h : (-2147483648 ≤ (6 + x1) ∧ (6 + x1) ≤ 2147483647) ∧ (0 ≤ (6 + x1) ∧ (6 + x1) < 12) ∧ (0 ≤ x1 ∧ x1 < 12) ∧ (0 ≤ x1 ∧ x1 < 96) ∧ (0 ≤ (6 + x1) ∧ (6 + x1) < 96) ∧ (-2147483648 ≤ (12 + x1) ∧ (12 + x1) ≤ 2147483647) ∧ (0 ≤ (12 + x1) ∧ (12 + x1) < 96) ∧ (-2147483648 ≤ (x1 + 1) ∧ (x1 + 1) ≤ 2147483647)) : ev 919 232 [qR 50, qI x1] [] σ = ev 919 226 [qR 50, qI (x1 + 1)] [] (q_put (q_put (q_put (q_put (q_put (q_put (q_put (q_put (q_put σ 54 x1.toNat (σ 54 (6 + x1).toNat)) 55 x1.toNat (σ 55 (6 + x1).toNat)) 57 x1.toNat (σ 57 (6 + x1).toNat)) 58 x1.toNat (σ 58 (6 + x1).toNat)) 59 x1.toNat (σ 59 (6 + x1).toNat)) 61 x1.toNat (σ 61 (6 + x1).toNat)) 51 x1.toNat (σ 56 (6 + x1).toNat)) 51 (6 + x1).toNat 0) 51 (12 + x1).toNat (-100)) :=
  Eq.trans (e_aload_n d_919_232 rfl) (Eq.trans (e_getR d_919_233 fl_9_20 sh_50 rfl) (Eq.trans (e_iload_n d_919_236 rfl) (Eq.trans (e_aload_n d_919_237 rfl) (Eq.trans (e_getR d_919_238 fl_9_20 sh_50 rfl) (Eq.trans (e_bipush d_919_241 kb_6) (Eq.trans (e_iload_n d_919_243 rfl) (Eq.trans (e_iadd d_919_244 h.1) (Eq.trans (e_iald d_919_245 sh_54 h.2.1) (Eq.trans (e_iast d_919_246 sh_54 h.2.2.1) (Eq.trans (e_aload_n d_919_247 rfl) (Eq.trans (e_getR d_919_248 fl_9_23 sh_50 rfl) (Eq.trans (e_iload_n d_919_251 rfl) (Eq.trans (e_aload_n d_919_252 rfl) (Eq.trans (e_getR d_919_253 fl_9_23 sh_50 rfl) (Eq.trans (e_bipush d_919_256 kb_6) (Eq.trans (e_iload_n d_919_258 rfl) (Eq.trans (e_iadd d_919_259 h.1) (Eq.trans (e_iald d_919_260 sh_55 h.2.1) (Eq.trans (e_iast d_919_261 sh_55 h.2.2.1) (Eq.trans (e_aload_n d_919_262 rfl) (Eq.trans (e_getR d_919_263 fl_9_29 sh_50 rfl) (Eq.trans (e_iload_n d_919_266 rfl) (Eq.trans (e_aload_n d_919_267 rfl) (Eq.trans (e_getR d_919_268 fl_9_29 sh_50 rfl) (Eq.trans (e_bipush d_919_271 kb_6) (Eq.trans (e_iload_n d_919_273 rfl) (Eq.trans (e_iadd d_919_274 h.1) (Eq.trans (e_iald d_919_275 sh_57 h.2.1) (Eq.trans (e_iast d_919_276 sh_57 h.2.2.1) (Eq.trans (e_aload_n d_919_277 rfl) (Eq.trans (e_getR d_919_278 fl_9_32 sh_50 rfl) (Eq.trans (e_iload_n d_919_281 rfl) (Eq.trans (e_aload_n d_919_282 rfl) (Eq.trans (e_getR d_919_283 fl_9_32 sh_50 rfl) (Eq.trans (e_bipush d_919_286 kb_6) (Eq.trans (e_iload_n d_919_288 rfl) (Eq.trans (e_iadd d_919_289 h.1) (Eq.trans (e_iald d_919_290 sh_58 h.2.1) (Eq.trans (e_iast d_919_291 sh_58 h.2.2.1) (Eq.trans (e_aload_n d_919_292 rfl) (Eq.trans (e_getR d_919_293 fl_9_35 sh_50 rfl) (Eq.trans (e_iload_n d_919_296 rfl) (Eq.trans (e_aload_n d_919_297 rfl) (Eq.trans (e_getR d_919_298 fl_9_35 sh_50 rfl) (Eq.trans (e_bipush d_919_301 kb_6) (Eq.trans (e_iload_n d_919_303 rfl) (Eq.trans (e_iadd d_919_304 h.1) (Eq.trans (e_iald d_919_305 sh_59 h.2.1) (Eq.trans (e_iast d_919_306 sh_59 h.2.2.1) (Eq.trans (e_aload_n d_919_307 rfl) (Eq.trans (e_getR d_919_308 fl_9_41 sh_50 rfl) (Eq.trans (e_iload_n d_919_311 rfl) (Eq.trans (e_aload_n d_919_312 rfl) (Eq.trans (e_getR d_919_313 fl_9_41 sh_50 rfl) (Eq.trans (e_bipush d_919_316 kb_6) (Eq.trans (e_iload_n d_919_318 rfl) (Eq.trans (e_iadd d_919_319 h.1) (Eq.trans (e_iald d_919_320 sh_61 h.2.1) (Eq.trans (e_iast d_919_321 sh_61 h.2.2.1) (Eq.trans (e_aload_n d_919_322 rfl) (Eq.trans (e_getR d_919_323 fl_9_7 sh_50 rfl) (Eq.trans (e_iload_n d_919_326 rfl) (Eq.trans (e_aload_n d_919_327 rfl) (Eq.trans (e_getR d_919_328 fl_9_26 sh_50 rfl) (Eq.trans (e_bipush d_919_331 kb_6) (Eq.trans (e_iload_n d_919_333 rfl) (Eq.trans (e_iadd d_919_334 h.1) (Eq.trans (e_iald d_919_335 sh_56 h.2.1) (Eq.trans (e_iast d_919_336 sh_51 h.2.2.2.1) (Eq.trans (e_aload_n d_919_337 rfl) (Eq.trans (e_getR d_919_338 fl_9_7 sh_50 rfl) (Eq.trans (e_bipush d_919_341 kb_6) (Eq.trans (e_iload_n d_919_343 rfl) (Eq.trans (e_iadd d_919_344 h.1) (Eq.trans (e_iconst d_919_345 k_0) (Eq.trans (e_iast d_919_346 sh_51 h.2.2.2.2.1) (Eq.trans (e_aload_n d_919_347 rfl) (Eq.trans (e_getR d_919_348 fl_9_7 sh_50 rfl) (Eq.trans (e_bipush d_919_351 kb_12) (Eq.trans (e_iload_n d_919_353 rfl) (Eq.trans (e_iadd d_919_354 h.2.2.2.2.2.1) (Eq.trans (e_bipush d_919_355 kb_m100) (Eq.trans (e_iast d_919_357 sh_51 h.2.2.2.2.2.2.1) (Eq.trans (e_iinc d_919_358 (by decide) rfl h.2.2.2.2.2.2.2 rfl) (e_goto d_919_361 (by decide))))))))))))))))))))))))))))))))))))))))))))))))))))))))))))))))))))))))))))))))))))))
theorem b919_364 {x1 : Int} {σ : SS} : ev 919 364 [qR 50, qI x1] [] σ = ev 919 366 [qR 50, qI 0] [] σ :=
  Eq.trans (e_iconst d_919_364 k_0) (e_istore_n d_919_365 (by decide) (Nat.le_of_ble_eq_true rfl) rfl)
theorem b919_366 {x1 : Int} {σ : SS} : ev 919 366 [qR 50, qI x1] [] σ = if x1 < 36 then ev 919 372 [qR 50, qI x1] [] σ else ev 919 393 [qR 50, qI x1] [] σ :=
  Eq.trans (e_iload_n d_919_366 rfl) (Eq.trans (e_bipush d_919_367 kb_36) (e_icmp_ge d_919_369 (by decide)))
theorem b919_372 {x1 : Int} {σ : SS} (h : (-2147483648 ≤ (36 + x1) ∧ (36 + x1) ≤ 2147483647) ∧ (0 ≤ (36 + x1) ∧ (36 + x1) < 72) ∧ (0 ≤ x1 ∧ x1 < 72) ∧ (-2147483648 ≤ (x1 + 1) ∧ (x1 + 1) ≤ 2147483647)) : ev 919 372 [qR 50, qI x1] [] σ = ev 919 366 [qR 50, qI (x1 + 1)] [] (q_put σ 60 x1.toNat (σ 60 (36 + x1).toNat)) :=
  Eq.trans (e_aload_n d_919_372 rfl) (Eq.trans (e_getR d_919_373 fl_9_38 sh_50 rfl) (Eq.trans (e_iload_n d_919_376 rfl) (Eq.trans (e_aload_n d_919_377 rfl) (Eq.trans (e_getR d_919_378 fl_9_38 sh_50 rfl) (Eq.trans (e_bipush d_919_381 kb_36) (Eq.trans (e_iload_n d_919_383 rfl) (Eq.trans (e_iadd d_919_384 h.1) (Eq.trans (e_iald d_919_385 sh_60 h.2.1) (Eq.trans (e_iast d_919_386 sh_60 h.2.2.1) (Eq.trans (e_iinc d_919_387 (by decide) rfl h.2.2.2 rfl) (e_goto d_919_390 (by decide))))))))))))
theorem b919_393 {x1 : Int} {σ : SS} : ev 919 393 [qR 50, qI x1] [] σ = some (some (qI (σ 50 14)), (q_put (q_put (q_put (q_put (q_put (q_put (q_put (q_put (q_put (q_put σ 51 18 0) 51 19 0) 51 20 0) 51 21 0) 51 22 0) 50 35 0) 50 37 0) 50 41 0) 52 0 0) 52 1 0)) :=
  Eq.trans (e_aload_n d_919_393 rfl) (Eq.trans (e_getR d_919_394 fl_9_7 sh_50 rfl) (Eq.trans (e_bipush d_919_397 kb_18) (Eq.trans (e_iconst d_919_399 k_0) (Eq.trans (e_iast d_919_400 sh_51 (by decide)) (Eq.trans (e_aload_n d_919_401 rfl) (Eq.trans (e_getR d_919_402 fl_9_7 sh_50 rfl) (Eq.trans (e_bipush d_919_405 kb_19) (Eq.trans (e_iconst d_919_407 k_0) (Eq.trans (e_iast d_919_408 sh_51 (by decide)) (Eq.trans (e_aload_n d_919_409 rfl) (Eq.trans (e_getR d_919_410 fl_9_7 sh_50 rfl) (Eq.trans (e_bipush d_919_413 kb_20) (Eq.trans (e_iconst d_919_415 k_0) (Eq.trans (e_iast d_919_416 sh_51 (by decide)) (Eq.trans (e_aload_n d_919_417 rfl) (Eq.trans (e_getR d_919_418 fl_9_7 sh_50 rfl) (Eq.trans (e_bipush d_919_421 kb_21) (Eq.trans (e_iconst d_919_423 k_0) (Eq.trans (e_iast d_919_424 sh_51 (by decide)) (Eq.trans (e_aload_n d_919_425 rfl) (Eq.trans (e_getR d_919_426 fl_9_7 sh_50 rfl) (Eq.trans (e_bipush d_919_429 kb_22) (Eq.trans (e_iconst d_919_431 k_0) (Eq.trans (e_iast d_919_432 sh_51 (by decide)) (Eq.trans (e_aload_n d_919_433 rfl) (Eq.trans (e_iconst d_919_434 k_0) (Eq.trans (e_put d_919_435 fl_9_200 sh_50 rfl rfl rfl) (Eq.trans (e_aload_n d_919_438 rfl) (Eq.trans (e_iconst d_919_439 k_0) (Eq.trans (e_put d_919_440 fl_9_203 sh_50 rfl rfl rfl) (Eq.trans (e_aload_n d_919_443 rfl) (Eq.trans (e_iconst d_919_444 k_0) (Eq.trans (e_put d_919_445 fl_9_206 sh_50 rfl rfl rfl) (Eq.trans (e_aload_n d_919_448 rfl) (Eq.trans (e_getR d_919_449 fl_9_13 sh_50 rfl) (Eq.trans (e_iconst d_919_452 k_0) (Eq.trans (e_iconst d_919_453 k_0) (Eq.trans (e_bast d_919_454 sh_52 (by decide) (by decide)) (Eq.trans (e_aload_n d_919_455 rfl) (Eq.trans (e_getR d_919_456 fl_9_13 sh_50 rfl) (Eq.trans (e_iconst d_919_459 k_1) (Eq.trans (e_iconst d_919_460 k_0) (Eq.trans (e_bast d_919_461 sh_52 (by decide) (by decide)) (Eq.trans (e_aload_n d_919_462 rfl) (Eq.trans (e_getI d_919_463 fl_9_191 sh_50 rfl) (e_iret d_919_466 (q_okrI rfl)))))))))))))))))))))))))))))))))))))))))))))))
theorem b920_0 {σ : SS} : ev 920 0 [qR 50] [] σ = some (some (qI (σ 50 29)), σ) :=
  Eq.trans (e_aload_n d_920_0 rfl) (Eq.trans (e_getI d_920_1 fl_9_47 sh_50 rfl) (e_iret d_920_4 (q_okrI rfl)))
theorem b929_0_c0 {x1 : Int} {σ : SS} (h : x1 = 0) : ev 929 0 [qR 50, qI x1] [] σ = ev 929 88 [qR 50, qI x1] [] σ :=
  Eq.trans (e_iload_n d_929_0 rfl) (e_tswI (k := 0) d_929_1 (by have := h; omega) (by decide) rfl (by decide))
theorem b929_0_c1 {x1 : Int} {σ : SS} (h : x1 = 1) : ev 929 0 [qR 50, qI x1] [] σ = ev 929 93 [qR 50, qI x1] [] σ :=
  Eq.trans (e_iload_n d_929_0 rfl) (e_tswI (k := 1) d_929_1 (by have := h; omega) (by decide) rfl (by decide))
theorem b929_0_c2 {x1 : Int} {σ : SS} (h : x1 = 2) : ev 929 0 [qR 50, qI x1] [] σ = ev 929 98 [qR 50, qI x1] [] σ :=
  Eq.trans (e_iload_n d_929_0 rfl) (e_tswI (k := 2) d_929_1 (by have := h; omega) (by decide) rfl (by decide))
theorem b929_0_c3 {x1 : Int} {σ : SS} (h : x1 = 3) : ev 929 0 [qR 50, qI x1] [] σ = ev 929 103 [qR 50, qI x1] [] σ :=
  Eq.trans (e_iload_n d_929_0 rfl) (e_tswI (k := 3) d_929_1 (by have := h; omega) (by decide) rfl (by decide))
theorem b929_0_c4 {x1 : Int} {σ : SS} (h : x1 = 4) : ev 929 0 [qR 50, qI x1] [] σ = ev 929 108 [qR 50, qI x1] [] σ :=
  Eq.trans (e_iload_n d_929_0 rfl) (e_tswI (k := 4) d_929_1 (by have := h; omega) (by decide) rfl (by decide))
theorem b929_0_c5 {x1 : Int} {σ : SS} (h : x1 = 5) : ev 929 0 [qR 50, qI x1] [] σ = ev 929 115 [qR 50, qI x1] [] σ :=
  Eq.trans (e_iload_n d_929_0 rfl) (e_tswI (k := 5) d_929_1 (by have := h; omega) (by decide) rfl (by decide))
theorem b929_0_c6 {x1 : Int} {σ : SS} (h : x1 = 6) : ev 929 0 [qR 50, qI x1] [] σ = ev 929 122 [qR 50, qI x1] [] σ :=
  Eq.trans (e_iload_n d_929_0 rfl) (e_tswI (k := 6) d_929_1 (by have := h; omega) (by decide) rfl (by decide))
theorem b929_0_c7 {x1 : Int} {σ : SS} (h : x1 = 7) : ev 929 0 [qR 50, qI x1] [] σ = ev 929 129 [qR 50, qI x1] [] σ :=
  Eq.trans (e_iload_n d_929_0 rfl) (e_tswI (k := 7) d_929_1 (by have := h; omega) (by decide) rfl (by decide))
theorem b929_0_c8 {x1 : Int} {σ : SS} (h : x1 = 8) : ev 929 0 [qR 50, qI x1] [] σ = ev 929 134 [qR 50, qI x1] [] σ :=
  Eq.trans (e_iload_n d_929_0 rfl) (e_tswI (k := 8) d_929_1 (by have := h; omega) (by decide) rfl (by decide))
theorem b929_0_c9 {x1 : Int} {σ : SS} (h : x1 = 9) : ev 929 0 [qR 50, qI x1] [] σ = ev 929 150 [qR 50, qI x1] [] σ :=
  Eq.trans (e_iload_n d_929_0 rfl) (e_tswI (k := 9) d_929_1 (by have := h; omega) (by decide) rfl (by decide))
theorem b929_0_c10 {x1 : Int} {σ : SS} (h : x1 = 10) : ev 929 0 [qR 50, qI x1] [] σ = ev 929 158 [qR 50, qI x1] [] σ :=
  Eq.trans (e_iload_n d_929_0 rfl) (e_tswI (k := 10) d_929_1 (by have := h; omega) (by decide) rfl (by decide))
theorem b929_0_c11 {x1 : Int} {σ : SS} (h : x1 = 11) : ev 929 0 [qR 50, qI x1] [] σ = ev 929 177 [qR 50, qI x1] [] σ :=
  Eq.trans (e_iload_n d_929_0 rfl) (e_tswI (k := 11) d_929_1 (by have := h; omega) (by decide) rfl (by decide))
theorem b929_0_c12 {x1 : Int} {σ : SS} (h : x1 = 12) : ev 929 0 [qR 50, qI x1] [] σ = ev 929 185 [qR 50, qI x1] [] σ :=
  Eq.trans (e_iload_n d_929_0 rfl) (e_tswI (k := 12) d_929_1 (by have := h; omega) (by decide) rfl (by decide))
theorem b929_0_c13 {x1 : Int} {σ : SS} (h : x1 = 13) : ev 929 0 [qR 50, qI x1] [] σ = ev 929 190 [qR 50, qI x1] [] σ :=
  Eq.trans (e_iload_n d_929_0 rfl) (e_tswI (k := 13) d_929_1 (by have := h; omega) (by decide) rfl (by decide))
theorem b929_0_c14 {x1 : Int} {σ : SS} (h : x1 = 14) : ev 929 0 [qR 50, qI x1] [] σ = ev 929 198 [qR 50, qI x1] [] σ :=
  Eq.trans (e_iload_n d_929_0 rfl) (e_tswI (k := 14) d_929_1 (by have := h; omega) (by decide) rfl (by decide))
theorem b929_0_c15 {x1 : Int} {σ : SS} (h : x1 = 15) : ev 929 0 [qR 50, qI x1] [] σ = ev 929 206 [qR 50, qI x1] [] σ :=
  Eq.trans (e_iload_n d_929_0 rfl) (e_tswI (k := 15) d_929_1 (by have := h; omega) (by decide) rfl (by decide))
theorem b929_0_c16 {x1 : Int} {σ : SS} (h : x1 = 16) : ev 929 0 [qR 50, qI x1] [] σ = ev 929 211 [qR 50, qI x1] [] σ :=
  Eq.trans (e_iload_n d_929_0 rfl) (e_tswI (k := 16) d_929_1 (by have := h; omega) (by decide) rfl (by decide))
theorem b929_0_c17 {x1 : Int} {σ : SS} (h : x1 = 17) : ev 929 0 [qR 50, qI x1] [] σ = ev 929 216 [qR 50, qI x1] [] σ :=
  Eq.trans (e_iload_n d_929_0 rfl) (e_tswI (k := 17) d_929_1 (by have := h; omega) (by decide) rfl (by decide))
theorem b929_0_cd {x1 : Int} {σ : SS} (h : x1 < 0 ∨ 17 < x1) : ev 929 0 [qR 50, qI x1] [] σ = ev 929 221 [qR 50, qI x1] [] σ :=
  Eq.trans (e_iload_n d_929_0 rfl) (e_tswO d_929_1 h (by decide))
theorem b929_88 {x1 : Int} {σ : SS} : ev 929 88 [qR 50, qI x1] [] σ = some (some (qI (σ 50 13)), σ) :=
  Eq.trans (e_aload_n d_929_88 rfl) (Eq.trans (e_getI d_929_89 fl_9_188 sh_50 rfl) (e_iret d_929_92 (q_okrI rfl)))
theorem b929_93 {x1 : Int} {σ : SS} : ev 929 93 [qR 50, qI x1] [] σ = some (some (qI (σ 50 15)), σ) :=
  Eq.trans (e_aload_n d_929_93 rfl) (Eq.trans (e_getI d_929_94 fl_9_194 sh_50 rfl) (e_iret d_929_97 (q_okrI rfl)))
theorem b929_98 {x1 : Int} {σ : SS} : ev 929 98 [qR 50, qI x1] [] σ = some (some (qI (σ 50 14)), σ) :=
  Eq.trans (e_aload_n d_929_98 rfl) (Eq.trans (e_getI d_929_99 fl_9_191 sh_50 rfl) (e_iret d_929_102 (q_okrI rfl)))
theorem b929_103 {x1 : Int} {σ : SS} : ev 929 103 [qR 50, qI x1] [] σ = some (some (qI (σ 50 24)), σ) :=
  Eq.trans (e_aload_n d_929_103 rfl) (Eq.trans (e_getI d_929_104 fl_9_88 sh_50 rfl) (e_iret d_929_107 (q_okrI rfl)))
theorem b929_108 {x1 : Int} {σ : SS} : ev 929 108 [qR 50, qI x1] [] σ = some (some (qI (σ 53 0)), σ) :=
  Eq.trans (e_aload_n d_929_108 rfl) (Eq.trans (e_getR d_929_109 fl_9_17 sh_50 rfl) (Eq.trans (e_iconst d_929_112 k_0) (Eq.trans (e_iald d_929_113 sh_53 (by decide)) (e_iret d_929_114 (q_okrI rfl)))))
theorem b929_115 {x1 : Int} {σ : SS} : ev 929 115 [qR 50, qI x1] [] σ = some (some (qI (σ 53 1)), σ) :=
  Eq.trans (e_aload_n d_929_115 rfl) (Eq.trans (e_getR d_929_116 fl_9_17 sh_50 rfl) (Eq.trans (e_iconst d_929_119 k_1) (Eq.trans (e_iald d_929_120 sh_53 (by decide)) (e_iret d_929_121 (q_okrI rfl)))))
theorem b929_122 {x1 : Int} {σ : SS} : ev 929 122 [qR 50, qI x1] [] σ = some (some (qI (σ 53 2)), σ) :=
  Eq.trans (e_aload_n d_929_122 rfl) (Eq.trans (e_getR d_929_123 fl_9_17 sh_50 rfl) (Eq.trans (e_iconst d_929_126 k_2) (Eq.trans (e_iald d_929_127 sh_53 (by decide)) (e_iret d_929_128 (q_okrI rfl)))))
theorem b929_129 {x1 : Int} {σ : SS} : ev 929 129 [qR 50, qI x1] [] σ = some (some (qI (σ 50 3)), σ) :=
  Eq.trans (e_aload_n d_929_129 rfl) (Eq.trans (e_getI d_929_130 fl_9_78 sh_50 rfl) (e_iret d_929_133 (q_okrI rfl)))
theorem b929_134 {x1 : Int} {σ : SS} : ev 929 134 [qR 50, qI x1] [] σ = if (σ 50 14) = 0 then ev 929 141 [qR 50, qI x1] [] σ else ev 929 145 [qR 50, qI x1] [] σ :=
  Eq.trans (e_aload_n d_929_134 rfl) (Eq.trans (e_getI d_929_135 fl_9_191 sh_50 rfl) (e_if_ne d_929_138 (by decide)))
theorem b929_141 {x1 : Int} {σ : SS} : ev 929 141 [qR 50, qI x1] [] σ = ev 929 149 [qR 50, qI x1] [qI (-1)] σ :=
  Eq.trans (e_iconst d_929_141 k_m1) (e_goto d_929_142 (by decide))
theorem b929_145 {x1 : Int} {σ : SS} : ev 929 145 [qR 50, qI x1] [] σ = ev 929 149 [qR 50, qI x1] [qI (σ 50 16)] σ :=
  Eq.trans (e_aload_n d_929_145 rfl) (e_getI d_929_146 fl_9_197 sh_50 rfl)
theorem b929_149 {x1 y0 : Int} {σ : SS} : ev 929 149 [qR 50, qI x1] [qI y0] σ = some (some (qI y0), σ) :=
  e_iret d_929_149 (q_okrI rfl)
theorem b929_150 {x1 : Int} {σ : SS} : ev 929 150 [qR 50, qI x1] [] σ = some (some (qI (σ 51 21)), σ) :=
  Eq.trans (e_aload_n d_929_150 rfl) (Eq.trans (e_getR d_929_151 fl_9_7 sh_50 rfl) (Eq.trans (e_bipush d_929_154 kb_21) (Eq.trans (e_iald d_929_156 sh_51 (by decide)) (e_iret d_929_157 (q_okrI rfl)))))
theorem b929_158 {x1 : Int} {σ : SS} : ev 929 158 [qR 50, qI x1] [] σ = if (σ 50 13) = 0 then ev 929 165 [qR 50, qI x1] [] σ else ev 929 169 [qR 50, qI x1] [] σ :=
  Eq.trans (e_aload_n d_929_158 rfl) (Eq.trans (e_getI d_929_159 fl_9_188 sh_50 rfl) (e_if_ne d_929_162 (by decide)))
theorem b929_165 {x1 : Int} {σ : SS} : ev 929 165 [qR 50, qI x1] [] σ = ev 929 176 [qR 50, qI x1] [qI (-1)] σ :=
  Eq.trans (e_iconst d_929_165 k_m1) (e_goto d_929_166 (by decide))
theorem b929_169 {x1 : Int} {σ : SS} : ev 929 169 [qR 50, qI x1] [] σ = ev 929 176 [qR 50, qI x1] [qI (σ 51 22)] σ :=
  Eq.trans (e_aload_n d_929_169 rfl) (Eq.trans (e_getR d_929_170 fl_9_7 sh_50 rfl) (Eq.trans (e_bipush d_929_173 kb_22) (e_iald d_929_175 sh_51 (by decide))))
theorem b929_176 {x1 y0 : Int} {σ : SS} : ev 929 176 [qR 50, qI x1] [qI y0] σ = some (some (qI y0), σ) :=
  e_iret d_929_176 (q_okrI rfl)
theorem b929_177 {x1 : Int} {σ : SS} : ev 929 177 [qR 50, qI x1] [] σ = some (some (qI (σ 51 20)), σ) :=
  Eq.trans (e_aload_n d_929_177 rfl) (Eq.trans (e_getR d_929_178 fl_9_7 sh_50 rfl) (Eq.trans (e_bipush d_929_181 kb_20) (Eq.trans (e_iald d_929_183 sh_51 (by decide)) (e_iret d_929_184 (q_okrI rfl)))))
theorem b929_185 {x1 : Int} {σ : SS} : ev 929 185 [qR 50, qI x1] [] σ = (ev 928 0 [qR 50] [] σ).bind (fun x => ev 929 189 [qR 50, qI x1] (q_push x.1 []) x.2) :=
  Eq.trans (e_aload_n d_929_185 rfl) (e_callV d_929_186 ml_9_220 fit_929_928 par_928 rfl rfl sh_50 (Nat.le_of_ble_eq_true rfl) (Nat.le_of_ble_eq_true rfl) (Nat.le_of_ble_eq_true rfl) rfl (by decide) rfl)
theorem b929_189 {x1 y0 : Int} {σ : SS} : ev 929 189 [qR 50, qI x1] [qI y0] σ = some (some (qI y0), σ) :=
  e_iret d_929_189 (q_okrI rfl)
theorem b929_190 {x1 : Int} {σ : SS} : ev 929 190 [qR 50, qI x1] [] σ = some (some (qI (σ 51 18)), σ) :=
  Eq.trans (e_aload_n d_929_190 rfl) (Eq.trans (e_getR d_929_191 fl_9_7 sh_50 rfl) (Eq.trans (e_bipush d_929_194 kb_18) (Eq.trans (e_iald d_929_196 sh_51 (by decide)) (e_iret d_929_197 (q_okrI rfl)))))
theorem b929_198 {x1 : Int} {σ : SS} : ev 929 198 [qR 50, qI x1] [] σ = some (some (qI (σ 51 19)), σ) :=
  Eq.trans (e_aload_n d_929_198 rfl) (Eq.trans (e_getR d_929_199 fl_9_7 sh_50 rfl) (Eq.trans (e_bipush d_929_202 kb_19) (Eq.trans (e_iald d_929_204 sh_51 (by decide)) (e_iret d_929_205 (q_okrI rfl)))))
theorem b929_206 {x1 : Int} {σ : SS} : ev 929 206 [qR 50, qI x1] [] σ = some (some (qI (σ 50 35)), σ) :=
  Eq.trans (e_aload_n d_929_206 rfl) (Eq.trans (e_getI d_929_207 fl_9_200 sh_50 rfl) (e_iret d_929_210 (q_okrI rfl)))
theorem b929_211 {x1 : Int} {σ : SS} : ev 929 211 [qR 50, qI x1] [] σ = some (some (qI (σ 50 37)), σ) :=
  Eq.trans (e_aload_n d_929_211 rfl) (Eq.trans (e_getI d_929_212 fl_9_203 sh_50 rfl) (e_iret d_929_215 (q_okrI rfl)))
theorem b929_216 {x1 : Int} {σ : SS} : ev 929 216 [qR 50, qI x1] [] σ = some (some (qI (σ 50 41)), σ) :=
  Eq.trans (e_aload_n d_929_216 rfl) (Eq.trans (e_getI d_929_217 fl_9_206 sh_50 rfl) (e_iret d_929_220 (q_okrI rfl)))
theorem b929_221 {x1 : Int} {σ : SS} : ev 929 221 [qR 50, qI x1] [] σ = some (some (qI (-1000000002)), σ) :=
  Eq.trans (e_ldc d_929_221 ld_9_87 k_m1000000002) (e_iret d_929_223 (q_okrI rfl))
theorem b931_0 {x1 x2 : Int} {σ : SS} : ev 931 0 [qR 50, qI x1, qI x2] [] σ = (ev 921 0 [qR 50, qI x1] [] σ).bind (fun x => ev 931 5 [qR 50, qI x1, qI x2] (q_push x.1 []) x.2) :=
  Eq.trans (e_aload_n d_931_0 rfl) (Eq.trans (e_iload_n d_931_1 rfl) (e_callV d_931_2 ml_9_227 fit_931_921 par_921 rfl rfl sh_50 (Nat.le_of_ble_eq_true rfl) (Nat.le_of_ble_eq_true rfl) (Nat.le_of_ble_eq_true rfl) rfl (by decide) rfl))
theorem b931_5 {x1 x2 y0 : Int} {σ : SS} : ev 931 5 [qR 50, qI x1, qI x2] [qI y0] σ = if y0 = 0 then ev 931 8 [qR 50, qI x1, qI x2] [] σ else ev 931 11 [qR 50, qI x1, qI x2] [] σ :=
  e_if_ne d_931_5 (by decide)
theorem b931_8 {x1 x2 : Int} {σ : SS} : ev 931 8 [qR 50, qI x1, qI x2] [] σ = some (some (qI (-1000000001)), σ) :=
  Eq.trans (e_ldc d_931_8 ld_9_231 k_m1000000001) (e_iret d_931_10 (q_okrI rfl))
theorem b931_11 {x1 x2 : Int} {σ : SS} : ev 931 11 [qR 50, qI x1, qI x2] [] σ = if x2 = 0 then ev 931 15 [qR 50, qI x1, qI x2] [] σ else ev 931 24 [qR 50, qI x1, qI x2] [] σ :=
  Eq.trans (e_iload_n d_931_11 rfl) (e_if_ne d_931_12 (by decide))
theorem b931_15 {x1 x2 : Int} {σ : SS} (h : 0 ≤ x1 ∧ x1 < 12) : ev 931 15 [qR 50, qI x1, qI x2] [] σ = ev 931 53 [qR 50, qI x1, qI x2] [qI (σ 54 x1.toNat)] σ :=
  Eq.trans (e_aload_n d_931_15 rfl) (Eq.trans (e_getR d_931_16 fl_9_20 sh_50 rfl) (Eq.trans (e_iload_n d_931_19 rfl) (Eq.trans (e_iald d_931_20 sh_54 h) (e_goto d_931_21 (by decide)))))
theorem b931_24 {x1 x2 : Int} {σ : SS} : ev 931 24 [qR 50, qI x1, qI x2] [] σ = if x2 = 1 then ev 931 29 [qR 50, qI x1, qI x2] [] σ else ev 931 38 [qR 50, qI x1, qI x2] [] σ :=
  Eq.trans (e_iload_n d_931_24 rfl) (Eq.trans (e_iconst d_931_25 k_1) (e_icmp_ne d_931_26 (by decide)))
theorem b931_29 {x1 x2 : Int} {σ : SS} (h : 0 ≤ x1 ∧ x1 < 12) : ev 931 29 [qR 50, qI x1, qI x2] [] σ = ev 931 53 [qR 50, qI x1, qI x2] [qI (σ 55 x1.toNat)] σ :=
  Eq.trans (e_aload_n d_931_29 rfl) (Eq.trans (e_getR d_931_30 fl_9_23 sh_50 rfl) (Eq.trans (e_iload_n d_931_33 rfl) (Eq.trans (e_iald d_931_34 sh_55 h) (e_goto d_931_35 (by decide)))))
theorem b931_38 {x1 x2 : Int} {σ : SS} : ev 931 38 [qR 50, qI x1, qI x2] [] σ = if x2 = 2 then ev 931 43 [qR 50, qI x1, qI x2] [] σ else ev 931 51 [qR 50, qI x1, qI x2] [] σ :=
  Eq.trans (e_iload_n d_931_38 rfl) (Eq.trans (e_iconst d_931_39 k_2) (e_icmp_ne d_931_40 (by decide)))
theorem b931_43 {x1 x2 : Int} {σ : SS} : ev 931 43 [qR 50, qI x1, qI x2] [] σ = (ev 930 0 [qR 50, qI x1, qU, qU] [] σ).bind (fun x => ev 931 48 [qR 50, qI x1, qI x2] (q_push x.1 []) x.2) :=
  Eq.trans (e_aload_n d_931_43 rfl) (Eq.trans (e_iload_n d_931_44 rfl) (e_callV d_931_45 ml_9_232 fit_931_930 par_930 rfl rfl sh_50 (Nat.le_of_ble_eq_true rfl) (Nat.le_of_ble_eq_true rfl) (Nat.le_of_ble_eq_true rfl) rfl (by decide) rfl))
theorem b931_48 {x1 x2 y0 : Int} {σ : SS} : ev 931 48 [qR 50, qI x1, qI x2] [qI y0] σ = ev 931 53 [qR 50, qI x1, qI x2] [qI y0] σ :=
  e_goto d_931_48 (by decide)
theorem b931_51 {x1 x2 : Int} {σ : SS} : ev 931 51 [qR 50, qI x1, qI x2] [] σ = ev 931 53 [qR 50, qI x1, qI x2] [qI (-1000000002)] σ :=
  e_ldc d_931_51 ld_9_87 k_m1000000002
theorem b931_53 {x1 x2 y0 : Int} {σ : SS} : ev 931 53 [qR 50, qI x1, qI x2] [qI y0] σ = some (some (qI y0), σ) :=
  e_iret d_931_53 (q_okrI rfl)
theorem b933_0 {x1 x2 : Int} {σ : SS} : ev 933 0 [qR 50, qI x1, qI x2] [] σ = (ev 922 0 [qR 50, qI x1] [] σ).bind (fun x => ev 933 5 [qR 50, qI x1, qI x2] (q_push x.1 []) x.2) :=
  Eq.trans (e_aload_n d_933_0 rfl) (Eq.trans (e_iload_n d_933_1 rfl) (e_callV d_933_2 ml_9_235 fit_933_922 par_922 rfl rfl sh_50 (Nat.le_of_ble_eq_true rfl) (Nat.le_of_ble_eq_true rfl) (Nat.le_of_ble_eq_true rfl) rfl (by decide) rfl))
theorem b933_5 {x1 x2 y0 : Int} {σ : SS} : ev 933 5 [qR 50, qI x1, qI x2] [qI y0] σ = if y0 = 0 then ev 933 8 [qR 50, qI x1, qI x2] [] σ else ev 933 11 [qR 50, qI x1, qI x2] [] σ :=
  e_if_ne d_933_5 (by decide)
theorem b933_8 {x1 x2 : Int} {σ : SS} : ev 933 8 [qR 50, qI x1, qI x2] [] σ = some (some (qI (-1000000001)), σ) :=
  Eq.trans (e_ldc d_933_8 ld_9_231 k_m1000000001) (e_iret d_933_10 (q_okrI rfl))
theorem b933_11_c0 {x1 x2 : Int} {σ : SS} (h : x2 = 0) : ev 933 11 [qR 50, qI x1, qI x2] [] σ = ev 933 64 [qR 50, qI x1, qI x2] [] σ :=
  Eq.trans (e_iload_n d_933_11 rfl) (e_tswI (k := 0) d_933_12 (by have := h; omega) (by decide) rfl (by decide))
theorem b933_11_c1 {x1 x2 : Int} {σ : SS} (h : x2 = 1) : ev 933 11 [qR 50, qI x1, qI x2] [] σ = ev 933 71 [qR 50, qI x1, qI x2] [] σ :=
  Eq.trans (e_iload_n d_933_11 rfl) (e_tswI (k := 1) d_933_12 (by have := h; omega) (by decide) rfl (by decide))
theorem b933_11_c2 {x1 x2 : Int} {σ : SS} (h : x2 = 2) : ev 933 11 [qR 50, qI x1, qI x2] [] σ = ev 933 78 [qR 50, qI x1, qI x2] [] σ :=
  Eq.trans (e_iload_n d_933_11 rfl) (e_tswI (k := 2) d_933_12 (by have := h; omega) (by decide) rfl (by decide))
theorem b933_11_c3 {x1 x2 : Int} {σ : SS} (h : x2 = 3) : ev 933 11 [qR 50, qI x1, qI x2] [] σ = ev 933 85 [qR 50, qI x1, qI x2] [] σ :=
  Eq.trans (e_iload_n d_933_11 rfl) (e_tswI (k := 3) d_933_12 (by have := h; omega) (by decide) rfl (by decide))
theorem b933_11_c4 {x1 x2 : Int} {σ : SS} (h : x2 = 4) : ev 933 11 [qR 50, qI x1, qI x2] [] σ = ev 933 92 [qR 50, qI x1, qI x2] [] σ :=
  Eq.trans (e_iload_n d_933_11 rfl) (e_tswI (k := 4) d_933_12 (by have := h; omega) (by decide) rfl (by decide))
theorem b933_11_c5 {x1 x2 : Int} {σ : SS} (h : x2 = 5) : ev 933 11 [qR 50, qI x1, qI x2] [] σ = ev 933 102 [qR 50, qI x1, qI x2] [] σ :=
  Eq.trans (e_iload_n d_933_11 rfl) (e_tswI (k := 5) d_933_12 (by have := h; omega) (by decide) rfl (by decide))
theorem b933_11_c6 {x1 x2 : Int} {σ : SS} (h : x2 = 6) : ev 933 11 [qR 50, qI x1, qI x2] [] σ = ev 933 108 [qR 50, qI x1, qI x2] [] σ :=
  Eq.trans (e_iload_n d_933_11 rfl) (e_tswI (k := 6) d_933_12 (by have := h; omega) (by decide) rfl (by decide))
theorem b933_11_c7 {x1 x2 : Int} {σ : SS} (h : x2 = 7) : ev 933 11 [qR 50, qI x1, qI x2] [] σ = ev 933 121 [qR 50, qI x1, qI x2] [] σ :=
  Eq.trans (e_iload_n d_933_11 rfl) (e_tswI (k := 7) d_933_12 (by have := h; omega) (by decide) rfl (by decide))
theorem b933_11_c8 {x1 x2 : Int} {σ : SS} (h : x2 = 8) : ev 933 11 [qR 50, qI x1, qI x2] [] σ = ev 933 145 [qR 50, qI x1, qI x2] [] σ :=
  Eq.trans (e_iload_n d_933_11 rfl) (e_tswI (k := 8) d_933_12 (by have := h; omega) (by decide) rfl (by decide))
theorem b933_11_cd {x1 x2 : Int} {σ : SS} (h : x2 < 0 ∨ 8 < x2) : ev 933 11 [qR 50, qI x1, qI x2] [] σ = ev 933 152 [qR 50, qI x1, qI x2] [] σ :=
  Eq.trans (e_iload_n d_933_11 rfl) (e_tswO d_933_12 h (by decide))
theorem b933_64 {x1 x2 : Int} {σ : SS} (h : 0 ≤ x1 ∧ x1 < 96) : ev 933 64 [qR 50, qI x1, qI x2] [] σ = some (some (qI (σ 51 x1.toNat)), σ) :=
  Eq.trans (e_aload_n d_933_64 rfl) (Eq.trans (e_getR d_933_65 fl_9_7 sh_50 rfl) (Eq.trans (e_iload_n d_933_68 rfl) (Eq.trans (e_iald d_933_69 sh_51 h) (e_iret d_933_70 (q_okrI rfl)))))
theorem b933_71 {x1 x2 : Int} {σ : SS} (h : 0 ≤ x1 ∧ x1 < 12) : ev 933 71 [qR 50, qI x1, qI x2] [] σ = some (some (qI (σ 57 x1.toNat)), σ) :=
  Eq.trans (e_aload_n d_933_71 rfl) (Eq.trans (e_getR d_933_72 fl_9_29 sh_50 rfl) (Eq.trans (e_iload_n d_933_75 rfl) (Eq.trans (e_iald d_933_76 sh_57 h) (e_iret d_933_77 (q_okrI rfl)))))
theorem b933_78 {x1 x2 : Int} {σ : SS} (h : 0 ≤ x1 ∧ x1 < 12) : ev 933 78 [qR 50, qI x1, qI x2] [] σ = some (some (qI (σ 58 x1.toNat)), σ) :=
  Eq.trans (e_aload_n d_933_78 rfl) (Eq.trans (e_getR d_933_79 fl_9_32 sh_50 rfl) (Eq.trans (e_iload_n d_933_82 rfl) (Eq.trans (e_iald d_933_83 sh_58 h) (e_iret d_933_84 (q_okrI rfl)))))
theorem b933_85 {x1 x2 : Int} {σ : SS} (h : 0 ≤ x1 ∧ x1 < 12) : ev 933 85 [qR 50, qI x1, qI x2] [] σ = some (some (qI (σ 59 x1.toNat)), σ) :=
  Eq.trans (e_aload_n d_933_85 rfl) (Eq.trans (e_getR d_933_86 fl_9_35 sh_50 rfl) (Eq.trans (e_iload_n d_933_89 rfl) (Eq.trans (e_iald d_933_90 sh_59 h) (e_iret d_933_91 (q_okrI rfl)))))
theorem b933_92 {x1 x2 : Int} {σ : SS} (h : (-2147483648 ≤ (6 + x1) ∧ (6 + x1) ≤ 2147483647) ∧ (0 ≤ (6 + x1) ∧ (6 + x1) < 96)) : ev 933 92 [qR 50, qI x1, qI x2] [] σ = some (some (qI (σ 51 (6 + x1).toNat)), σ) :=
  Eq.trans (e_aload_n d_933_92 rfl) (Eq.trans (e_getR d_933_93 fl_9_7 sh_50 rfl) (Eq.trans (e_bipush d_933_96 kb_6) (Eq.trans (e_iload_n d_933_98 rfl) (Eq.trans (e_iadd d_933_99 h.1) (Eq.trans (e_iald d_933_100 sh_51 h.2) (e_iret d_933_101 (q_okrI rfl)))))))
theorem b933_102 {x1 x2 : Int} {σ : SS} : ev 933 102 [qR 50, qI x1, qI x2] [] σ = (ev 932 0 [qR 50, qI x1, qU] [] σ).bind (fun x => ev 933 107 [qR 50, qI x1, qI x2] (q_push x.1 []) x.2) :=
  Eq.trans (e_aload_n d_933_102 rfl) (Eq.trans (e_iload_n d_933_103 rfl) (e_callV d_933_104 ml_9_238 fit_933_932 par_932 rfl rfl sh_50 (Nat.le_of_ble_eq_true rfl) (Nat.le_of_ble_eq_true rfl) (Nat.le_of_ble_eq_true rfl) rfl (by decide) rfl))
theorem b933_107 {x1 x2 y0 : Int} {σ : SS} : ev 933 107 [qR 50, qI x1, qI x2] [qI y0] σ = some (some (qI y0), σ) :=
  e_iret d_933_107 (q_okrI rfl)
theorem b933_108 {x1 x2 : Int} {σ : SS} : ev 933 108 [qR 50, qI x1, qI x2] [] σ = (ev 925 0 [qR 50, qI x1, qI (σ 51 21), qU] [] σ).bind (fun x => ev 933 120 [qR 50, qI x1, qI x2] (q_push x.1 []) x.2) :=
  Eq.trans (e_aload_n d_933_108 rfl) (Eq.trans (e_iload_n d_933_109 rfl) (Eq.trans (e_aload_n d_933_110 rfl) (Eq.trans (e_getR d_933_111 fl_9_7 sh_50 rfl) (Eq.trans (e_bipush d_933_114 kb_21) (Eq.trans (e_iald d_933_116 sh_51 (by decide)) (e_callV d_933_117 ml_9_241 fit_933_925 par_925 rfl rfl sh_50 (Nat.le_of_ble_eq_true rfl) (Nat.le_of_ble_eq_true rfl) (Nat.le_of_ble_eq_true rfl) rfl (by decide) rfl))))))
theorem b933_120 {x1 x2 y0 : Int} {σ : SS} : ev 933 120 [qR 50, qI x1, qI x2] [qI y0] σ = some (some (qI y0), σ) :=
  e_iret d_933_120 (q_okrI rfl)
theorem b933_121 {x1 x2 : Int} {σ : SS} : ev 933 121 [qR 50, qI x1, qI x2] [] σ = (ev 925 0 [qR 50, qI x1, qI (σ 51 21), qU] [] σ).bind (fun x => ev 933 134 [qR 50, qI x1, qI x2] (q_push x.1 [qR 50]) x.2) :=
  Eq.trans (e_aload_n d_933_121 rfl) (Eq.trans (e_aload_n d_933_122 rfl) (Eq.trans (e_iload_n d_933_123 rfl) (Eq.trans (e_aload_n d_933_124 rfl) (Eq.trans (e_getR d_933_125 fl_9_7 sh_50 rfl) (Eq.trans (e_bipush d_933_128 kb_21) (Eq.trans (e_iald d_933_130 sh_51 (by decide)) (e_callV d_933_131 ml_9_241 fit_933_925 par_925 rfl rfl sh_50 (Nat.le_of_ble_eq_true rfl) (Nat.le_of_ble_eq_true rfl) (Nat.le_of_ble_eq_true rfl) rfl (by decide) rfl)))))))
theorem b933_134 {x1 x2 y0 : Int} {σ : SS} : ev 933 134 [qR 50, qI x1, qI x2] [qI y0, qR 50] σ = (ev 928 0 [qR 50] [] σ).bind (fun x => ev 933 138 [qR 50, qI x1, qI x2] (q_push x.1 [qI y0, qR 50]) x.2) :=
  Eq.trans (e_aload_n d_933_134 rfl) (e_callV d_933_135 ml_9_220 fit_933_928 par_928 rfl rfl sh_50 (Nat.le_of_ble_eq_true rfl) (Nat.le_of_ble_eq_true rfl) (Nat.le_of_ble_eq_true rfl) rfl (by decide) rfl)
theorem b933_138 {x1 x2 y0 y1 : Int} {σ : SS} : ev 933 138 [qR 50, qI x1, qI x2] [qI y0, qI y1, qR 50] σ = (ev 927 0 [qR 50, qI y1, qI y0] [] σ).bind (fun x => ev 933 141 [qR 50, qI x1, qI x2] (q_push x.1 []) x.2) :=
  e_callV d_933_138 ml_9_244 fit_933_927 par_927 rfl rfl sh_50 (Nat.le_of_ble_eq_true rfl) (Nat.le_of_ble_eq_true rfl) (Nat.le_of_ble_eq_true rfl) rfl (by decide) rfl
theorem b933_141 {x1 x2 y0 : Int} {σ : SS} : ev 933 141 [qR 50, qI x1, qI x2] [qI y0] σ = (ev 901 0 [qI y0] [] σ).bind (fun x => ev 933 144 [qR 50, qI x1, qI x2] (q_push x.1 []) x.2) :=
  e_callS d_933_141 (by decide) ml_9_223 fit_933_901 par_901 rfl rfl (Nat.le_of_ble_eq_true rfl) (Nat.le_of_ble_eq_true rfl) (Nat.le_of_ble_eq_true rfl) rfl (by decide) rfl
theorem b933_144 {x1 x2 y0 : Int} {σ : SS} : ev 933 144 [qR 50, qI x1, qI x2] [qI y0] σ = some (some (qI y0), σ) :=
  e_iret d_933_144 (q_okrI rfl)
theorem b933_145 {x1 x2 : Int} {σ : SS} (h : 0 ≤ x1 ∧ x1 < 12) : ev 933 145 [qR 50, qI x1, qI x2] [] σ = some (some (qI (σ 61 x1.toNat)), σ) :=
  Eq.trans (e_aload_n d_933_145 rfl) (Eq.trans (e_getR d_933_146 fl_9_41 sh_50 rfl) (Eq.trans (e_iload_n d_933_149 rfl) (Eq.trans (e_iald d_933_150 sh_61 h) (e_iret d_933_151 (q_okrI rfl)))))
theorem b933_152 {x1 x2 : Int} {σ : SS} : ev 933 152 [qR 50, qI x1, qI x2] [] σ = some (some (qI (-1000000002)), σ) :=
  Eq.trans (e_ldc d_933_152 ld_9_87 k_m1000000002) (e_iret d_933_154 (q_okrI rfl))
theorem b934_0 {x1 x2 : Int} {σ : SS} : ev 934 0 [qR 50, qI x1, qI x2] [] σ = (ev 922 0 [qR 50, qI x1] [] σ).bind (fun x => ev 934 5 [qR 50, qI x1, qI x2] (q_push x.1 []) x.2) :=
  Eq.trans (e_aload_n d_934_0 rfl) (Eq.trans (e_iload_n d_934_1 rfl) (e_callV d_934_2 ml_9_235 fit_934_922 par_922 rfl rfl sh_50 (Nat.le_of_ble_eq_true rfl) (Nat.le_of_ble_eq_true rfl) (Nat.le_of_ble_eq_true rfl) rfl (by decide) rfl))
theorem b934_5 {x1 x2 y0 : Int} {σ : SS} : ev 934 5 [qR 50, qI x1, qI x2] [qI y0] σ = if y0 = 0 then ev 934 8 [qR 50, qI x1, qI x2] [] σ else ev 934 13 [qR 50, qI x1, qI x2] [] σ :=
  e_if_ne d_934_5 (by decide)
theorem b934_8 {x1 x2 : Int} {σ : SS} : ev 934 8 [qR 50, qI x1, qI x2] [] σ = ev 934 36 [qR 50, qI x1, qI x2] [qI (-1000000001)] σ :=
  Eq.trans (e_ldc d_934_8 ld_9_231 k_m1000000001) (e_goto d_934_10 (by decide))
theorem b934_13 {x1 x2 : Int} {σ : SS} : ev 934 13 [qR 50, qI x1, qI x2] [] σ = (ev 900 0 [qL x2, qU, qL 0, qU, qL 99999, qU] [] σ).bind (fun x => ev 934 22 [qR 50, qI x1, qI x2] (q_push x.1 []) x.2) :=
  Eq.trans (e_iload_n d_934_13 rfl) (Eq.trans (e_i2l d_934_14) (Eq.trans (e_lconst d_934_15 rfl) (Eq.trans (e_ldc2 d_934_16 ll_9_247.1 ll_9_247.2) (e_callS d_934_19 (by decide) ml_9_83 fit_934_900 par_900 rfl rfl (Nat.le_of_ble_eq_true rfl) (Nat.le_of_ble_eq_true rfl) (Nat.le_of_ble_eq_true rfl) rfl (by decide) rfl))))
theorem b934_22 {x1 x2 y0 : Int} {σ : SS} : ev 934 22 [qR 50, qI x1, qI x2] [qI y0] σ = if y0 = 0 then ev 934 34 [qR 50, qI x1, qI x2] [] σ else ev 934 25 [qR 50, qI x1, qI x2] [] σ :=
  e_if_eq d_934_22 (by decide)
theorem b934_25 {x1 x2 : Int} {σ : SS} : ev 934 25 [qR 50, qI x1, qI x2] [] σ = (ev 925 0 [qR 50, qI x1, qI x2, qU] [] σ).bind (fun x => ev 934 31 [qR 50, qI x1, qI x2] (q_push x.1 []) x.2) :=
  Eq.trans (e_aload_n d_934_25 rfl) (Eq.trans (e_iload_n d_934_26 rfl) (Eq.trans (e_iload_n d_934_27 rfl) (e_callV d_934_28 ml_9_241 fit_934_925 par_925 rfl rfl sh_50 (Nat.le_of_ble_eq_true rfl) (Nat.le_of_ble_eq_true rfl) (Nat.le_of_ble_eq_true rfl) rfl (by decide) rfl)))
theorem b934_31 {x1 x2 y0 : Int} {σ : SS} : ev 934 31 [qR 50, qI x1, qI x2] [qI y0] σ = ev 934 36 [qR 50, qI x1, qI x2] [qI y0] σ :=
  e_goto d_934_31 (by decide)
theorem b934_34 {x1 x2 : Int} {σ : SS} : ev 934 34 [qR 50, qI x1, qI x2] [] σ = ev 934 36 [qR 50, qI x1, qI x2] [qI (-1000000002)] σ :=
  e_ldc d_934_34 ld_9_87 k_m1000000002
theorem b934_36 {x1 x2 y0 : Int} {σ : SS} : ev 934 36 [qR 50, qI x1, qI x2] [qI y0] σ = some (some (qI y0), σ) :=
  e_iret d_934_36 (q_okrI rfl)
theorem b935_0 {x1 : Int} {σ : SS} : ev 935 0 [qR 50, qI x1] [] σ = (ev 900 0 [qL x1, qU, qL 1, qU, qL 999, qU] [] σ).bind (fun x => ev 935 9 [qR 50, qI x1] (q_push x.1 []) x.2) :=
  Eq.trans (e_iload_n d_935_0 rfl) (Eq.trans (e_i2l d_935_1) (Eq.trans (e_lconst d_935_2 rfl) (Eq.trans (e_ldc2 d_935_3 ll_9_249.1 ll_9_249.2) (e_callS d_935_6 (by decide) ml_9_83 fit_935_900 par_900 rfl rfl (Nat.le_of_ble_eq_true rfl) (Nat.le_of_ble_eq_true rfl) (Nat.le_of_ble_eq_true rfl) rfl (by decide) rfl))))
theorem b935_9 {x1 y0 : Int} {σ : SS} : ev 935 9 [qR 50, qI x1] [qI y0] σ = if y0 = 0 then ev 935 12 [qR 50, qI x1] [] σ else ev 935 15 [qR 50, qI x1] [] σ :=
  e_if_ne d_935_9 (by decide)
theorem b935_12 {x1 : Int} {σ : SS} : ev 935 12 [qR 50, qI x1] [] σ = some (some (qI (-1000000002)), σ) :=
  Eq.trans (e_ldc d_935_12 ld_9_87 k_m1000000002) (e_iret d_935_14 (q_okrI rfl))
theorem b935_15 {x1 : Int} {σ : SS} (h : -2147483648 ≤ ((σ 51 21) + x1) ∧ ((σ 51 21) + x1) ≤ 2147483647) : ev 935 15 [qR 50, qI x1] [] σ = some (some (qI ((σ 51 21) + x1)), (q_put σ 51 21 ((σ 51 21) + x1))) :=
  Eq.trans (e_aload_n d_935_15 rfl) (Eq.trans (e_getR d_935_16 fl_9_7 sh_50 rfl) (Eq.trans (e_bipush d_935_19 kb_21) (Eq.trans (e_dup2 d_935_21 rfl rfl) (Eq.trans (e_iald d_935_22 sh_51 (by decide)) (Eq.trans (e_iload_n d_935_23 rfl) (Eq.trans (e_iadd d_935_24 h) (Eq.trans (e_iast d_935_25 sh_51 (by decide)) (Eq.trans (e_aload_n d_935_26 rfl) (Eq.trans (e_getR d_935_27 fl_9_7 sh_50 rfl) (Eq.trans (e_bipush d_935_30 kb_21) (Eq.trans (e_iald d_935_32 sh_51 (by decide)) (e_iret d_935_33 (q_okrI rfl)))))))))))))
theorem b936_0 {x1 : Int} {σ : SS} : ev 936 0 [qR 50, qI x1] [] σ = (ev 921 0 [qR 50, qI x1] [] σ).bind (fun x => ev 936 5 [qR 50, qI x1] (q_push x.1 []) x.2) :=
  Eq.trans (e_aload_n d_936_0 rfl) (Eq.trans (e_iload_n d_936_1 rfl) (e_callV d_936_2 ml_9_227 fit_936_921 par_921 rfl rfl sh_50 (Nat.le_of_ble_eq_true rfl) (Nat.le_of_ble_eq_true rfl) (Nat.le_of_ble_eq_true rfl) rfl (by decide) rfl))
theorem b936_5 {x1 y0 : Int} {σ : SS} : ev 936 5 [qR 50, qI x1] [qI y0] σ = if y0 = 0 then ev 936 8 [qR 50, qI x1] [] σ else ev 936 11 [qR 50, qI x1] [] σ :=
  e_if_ne d_936_5 (by decide)
theorem b936_8 {x1 : Int} {σ : SS} : ev 936 8 [qR 50, qI x1] [] σ = some (some (qI (-1000000001)), σ) :=
  Eq.trans (e_ldc d_936_8 ld_9_231 k_m1000000001) (e_iret d_936_10 (q_okrI rfl))
theorem b936_11 {x1 : Int} {σ : SS} (h : 0 ≤ (σ 51 22) ∧ (σ 51 22) < 12) : ev 936 11 [qR 50, qI x1] [] σ = (ev 902 0 [qI (σ 55 (σ 51 22).toNat), qI x1] [] σ).bind (fun x => ev 936 27 [qR 50, qI x1] (q_push x.1 []) x.2) :=
  Eq.trans (e_aload_n d_936_11 rfl) (Eq.trans (e_getR d_936_12 fl_9_23 sh_50 rfl) (Eq.trans (e_aload_n d_936_15 rfl) (Eq.trans (e_getR d_936_16 fl_9_7 sh_50 rfl) (Eq.trans (e_bipush d_936_19 kb_22) (Eq.trans (e_iald d_936_21 sh_51 (by decide)) (Eq.trans (e_iald d_936_22 sh_55 h) (Eq.trans (e_iload_n d_936_23 rfl) (e_callS d_936_24 (by decide) ml_9_124 fit_936_902 par_902 rfl rfl (Nat.le_of_ble_eq_true rfl) (Nat.le_of_ble_eq_true rfl) (Nat.le_of_ble_eq_true rfl) rfl (by decide) rfl))))))))
theorem b936_27 {x1 y0 : Int} {σ : SS} : ev 936 27 [qR 50, qI x1] [qI y0] σ = if y0 = 0 then ev 936 30 [qR 50, qI x1] [] σ else ev 936 33 [qR 50, qI x1] [] σ :=
  e_if_ne d_936_27 (by decide)
theorem b936_30 {x1 : Int} {σ : SS} : ev 936 30 [qR 50, qI x1] [] σ = some (some (qI (-1000000003)), σ) :=
  Eq.trans (e_ldc d_936_30 ld_9_251 k_m1000000003) (e_iret d_936_32 (q_okrI rfl))
theorem b936_33 {x1 : Int} {σ : SS} (h : -2147483648 ≤ ((σ 51 21) + 1) ∧ ((σ 51 21) + 1) ≤ 2147483647) : ev 936 33 [qR 50, qI x1] [] σ = some (some (qI ((σ 51 21) + 1)), (q_put (q_put σ 51 22 x1) 51 21 ((σ 51 21) + 1))) :=
  Eq.trans (e_aload_n d_936_33 rfl) (Eq.trans (e_getR d_936_34 fl_9_7 sh_50 rfl) (Eq.trans (e_bipush d_936_37 kb_22) (Eq.trans (e_iload_n d_936_39 rfl) (Eq.trans (e_iast d_936_40 sh_51 (by decide)) (Eq.trans (e_aload_n d_936_41 rfl) (Eq.trans (e_getR d_936_42 fl_9_7 sh_50 rfl) (Eq.trans (e_bipush d_936_45 kb_21) (Eq.trans (e_dup2 d_936_47 rfl rfl) (Eq.trans (e_iald d_936_48 sh_51 (by decide)) (Eq.trans (e_iconst d_936_49 k_1) (Eq.trans (e_iadd d_936_50 h) (Eq.trans (e_iast d_936_51 sh_51 (by decide)) (Eq.trans (e_aload_n d_936_52 rfl) (Eq.trans (e_getR d_936_53 fl_9_7 sh_50 rfl) (Eq.trans (e_bipush d_936_56 kb_21) (Eq.trans (e_iald d_936_58 sh_51 (by decide)) (e_iret d_936_59 (q_okrI rfl))))))))))))))))))
theorem b937_0 {σ : SS} : ev 937 0 [qR 50, qU, qU, qU] [] σ = if (σ 50 13) = 0 then ev 937 7 [qR 50, qU, qU, qU] [] σ else ev 937 10 [qR 50, qU, qU, qU] [] σ :=
  Eq.trans (e_aload_n d_937_0 rfl) (Eq.trans (e_getI d_937_1 fl_9_188 sh_50 rfl) (e_if_ne d_937_4 (by decide)))
theorem b937_7 {σ : SS} : ev 937 7 [qR 50, qU, qU, qU] [] σ = some (some (qI (-1000000003)), σ) :=
  Eq.trans (e_ldc d_937_7 ld_9_251 k_m1000000003) (e_iret d_937_9 (q_okrI rfl))
theorem b937_10 {σ : SS} : ev 937 10 [qR 50, qU, qU, qU] [] σ = ev 937 14 [qR 50, qI 0, qI 0, qU] [] σ :=
  Eq.trans (e_iconst d_937_10 k_0) (Eq.trans (e_istore_n d_937_11 (by decide) (Nat.le_of_ble_eq_true rfl) rfl) (Eq.trans (e_iconst d_937_12 k_0) (e_istore_n d_937_13 (by decide) (Nat.le_of_ble_eq_true rfl) rfl)))
theorem b937_14 {x1 x2 : Int} {vx3 : AV} {σ : SS} : ev 937 14 [qR 50, qI x1, qI x2, vx3] [] σ = if x2 < (σ 50 14) then ev 937 22 [qR 50, qI x1, qI x2, vx3] [] σ else ev 937 116 [qR 50, qI x1, qI x2, vx3] [] σ :=
  Eq.trans (e_iload_n d_937_14 rfl) (Eq.trans (e_aload_n d_937_15 rfl) (Eq.trans (e_getI d_937_16 fl_9_191 sh_50 rfl) (e_icmp_ge d_937_19 (by decide))))
theorem b937_22 {x1 x2 : Int} {vx3 : AV} {σ : SS} (h : 0 ≤ x2 ∧ x2 < 96) : ev 937 22 [qR 50, qI x1, qI x2, vx3] [] σ = if (σ 51 x2.toNat) = (σ 51 22) then ev 937 38 [qR 50, qI x1, qI x2, vx3] [] σ else ev 937 110 [qR 50, qI x1, qI x2, vx3] [] σ :=
  Eq.trans (e_aload_n d_937_22 rfl) (Eq.trans (e_getR d_937_23 fl_9_7 sh_50 rfl) (Eq.trans (e_iload_n d_937_26 rfl) (Eq.trans (e_iald d_937_27 sh_51 h) (Eq.trans (e_aload_n d_937_28 rfl) (Eq.trans (e_getR d_937_29 fl_9_7 sh_50 rfl) (Eq.trans (e_bipush d_937_32 kb_22) (Eq.trans (e_iald d_937_34 sh_51 (by decide)) (e_icmp_ne d_937_35 (by decide)))))))))
theorem b937_38 {x1 x2 : Int} {vx3 : AV} {σ : SS} : ev 937 38 [qR 50, qI x1, qI x2, vx3] [] σ = (ev 902 0 [qI (σ 51 18), qI x2] [] σ).bind (fun x => ev 937 49 [qR 50, qI x1, qI x2, vx3] (q_push x.1 []) x.2) :=
  Eq.trans (e_aload_n d_937_38 rfl) (Eq.trans (e_getR d_937_39 fl_9_7 sh_50 rfl) (Eq.trans (e_bipush d_937_42 kb_18) (Eq.trans (e_iald d_937_44 sh_51 (by decide)) (Eq.trans (e_iload_n d_937_45 rfl) (e_callS d_937_46 (by decide) ml_9_124 fit_937_902 par_902 rfl rfl (Nat.le_of_ble_eq_true rfl) (Nat.le_of_ble_eq_true rfl) (Nat.le_of_ble_eq_true rfl) rfl (by decide) rfl)))))
theorem b937_49 {x1 x2 y0 : Int} {vx3 : AV} {σ : SS} : ev 937 49 [qR 50, qI x1, qI x2, vx3] [qI y0] σ = if y0 = 0 then ev 937 52 [qR 50, qI x1, qI x2, vx3] [] σ else ev 937 110 [qR 50, qI x1, qI x2, vx3] [] σ :=
  e_if_ne d_937_49 (by decide)
theorem b937_52 {x1 x2 : Int} {vx3 : AV} {σ : SS} : ev 937 52 [qR 50, qI x1, qI x2, vx3] [] σ = (ev 925 0 [qR 50, qI x2, qI (σ 51 21), qU] [] σ).bind (fun x => ev 937 65 [qR 50, qI x1, qI x2, vx3] (q_push x.1 [qR 50]) x.2) :=
  Eq.trans (e_aload_n d_937_52 rfl) (Eq.trans (e_aload_n d_937_53 rfl) (Eq.trans (e_iload_n d_937_54 rfl) (Eq.trans (e_aload_n d_937_55 rfl) (Eq.trans (e_getR d_937_56 fl_9_7 sh_50 rfl) (Eq.trans (e_bipush d_937_59 kb_21) (Eq.trans (e_iald d_937_61 sh_51 (by decide)) (e_callV d_937_62 ml_9_241 fit_937_925 par_925 rfl rfl sh_50 (Nat.le_of_ble_eq_true rfl) (Nat.le_of_ble_eq_true rfl) (Nat.le_of_ble_eq_true rfl) rfl (by decide) rfl)))))))
theorem b937_65 {x1 x2 y0 : Int} {vx3 : AV} {σ : SS} : ev 937 65 [qR 50, qI x1, qI x2, vx3] [qI y0, qR 50] σ = (ev 928 0 [qR 50] [] σ).bind (fun x => ev 937 69 [qR 50, qI x1, qI x2, vx3] (q_push x.1 [qI y0, qR 50]) x.2) :=
  Eq.trans (e_aload_n d_937_65 rfl) (e_callV d_937_66 ml_9_220 fit_937_928 par_928 rfl rfl sh_50 (Nat.le_of_ble_eq_true rfl) (Nat.le_of_ble_eq_true rfl) (Nat.le_of_ble_eq_true rfl) rfl (by decide) rfl)
theorem b937_69 {x1 x2 y0 y1 : Int} {vx3 : AV} {σ : SS} : ev 937 69 [qR 50, qI x1, qI x2, vx3] [qI y0, qI y1, qR 50] σ = (ev 927 0 [qR 50, qI y1, qI y0] [] σ).bind (fun x => ev 937 72 [qR 50, qI x1, qI x2, vx3] (q_push x.1 []) x.2) :=
  e_callV d_937_69 ml_9_244 fit_937_927 par_927 rfl rfl sh_50 (Nat.le_of_ble_eq_true rfl) (Nat.le_of_ble_eq_true rfl) (Nat.le_of_ble_eq_true rfl) rfl (by decide) rfl
theorem b937_72 {x1 x2 y0 : Int} {vx3 : AV} {σ : SS} : ev 937 72 [qR 50, qI x1, qI x2, vx3] [qI y0] σ = if (σ 51 20) < 9999 then ev 937 94 [qR 50, qI x1, qI x2, qI y0] [qI (σ 51 20), qI 20, qR 51] σ else ev 937 98 [qR 50, qI x1, qI x2, qI y0] [qI (σ 51 20), qI 20, qR 51] σ :=
  Eq.trans (e_istore_n d_937_72 (by decide) (Nat.le_of_ble_eq_true rfl) rfl) (Eq.trans (e_aload_n d_937_73 rfl) (Eq.trans (e_getR d_937_74 fl_9_7 sh_50 rfl) (Eq.trans (e_bipush d_937_77 kb_20) (Eq.trans (e_dup2 d_937_79 rfl rfl) (Eq.trans (e_iald d_937_80 sh_51 (by decide)) (Eq.trans (e_aload_n d_937_81 rfl) (Eq.trans (e_getR d_937_82 fl_9_7 sh_50 rfl) (Eq.trans (e_bipush d_937_85 kb_20) (Eq.trans (e_iald d_937_87 sh_51 (by decide)) (Eq.trans (e_sipush d_937_88 ks_9999) (e_icmp_ge d_937_91 (by decide))))))))))))
theorem b937_94 {x1 x2 x3 y0 y1 : Int} {σ : SS} : ev 937 94 [qR 50, qI x1, qI x2, qI x3] [qI y0, qI y1, qR 51] σ = ev 937 99 [qR 50, qI x1, qI x2, qI x3] [qI 1, qI y0, qI y1, qR 51] σ :=
  Eq.trans (e_iconst d_937_94 k_1) (e_goto d_937_95 (by decide))
theorem b937_98 {x1 x2 x3 y0 y1 : Int} {σ : SS} : ev 937 98 [qR 50, qI x1, qI x2, qI x3] [qI y0, qI y1, qR 51] σ = ev 937 99 [qR 50, qI x1, qI x2, qI x3] [qI 0, qI y0, qI y1, qR 51] σ :=
  e_iconst d_937_98 k_0
theorem b937_99 {x1 x2 x3 y0 y1 y2 : Int} {σ : SS} (h : (-2147483648 ≤ (y1 + y0) ∧ (y1 + y0) ≤ 2147483647) ∧ (0 ≤ y2 ∧ y2 < 96)) : ev 937 99 [qR 50, qI x1, qI x2, qI x3] [qI y0, qI y1, qI y2, qR 51] σ = (ev 901 0 [qI x3] [] (q_put σ 51 y2.toNat (y1 + y0))).bind (fun x => ev 937 106 [qR 50, qI x1, qI x2, qI x3] (q_push x.1 [qI x1]) x.2) :=
  Eq.trans (e_iadd d_937_99 h.1) (Eq.trans (e_iast d_937_100 sh_51 h.2) (Eq.trans (e_iload_n d_937_101 rfl) (Eq.trans (e_iload_n d_937_102 rfl) (e_callS d_937_103 (by decide) ml_9_223 fit_937_901 par_901 rfl rfl (Nat.le_of_ble_eq_true rfl) (Nat.le_of_ble_eq_true rfl) (Nat.le_of_ble_eq_true rfl) rfl (by decide) rfl))))
theorem b937_106 {x1 x2 x3 y0 y1 : Int} {σ : SS} : ev 937 106 [qR 50, qI x1, qI x2, qI x3] [qI y0, qI y1] σ = ev 937 110 [qR 50, qI (q_or y1 (q_shl y0 x2)), qI x2, qI x3] [] σ :=
  Eq.trans (e_iload_n d_937_106 rfl) (Eq.trans (e_ishl d_937_107) (Eq.trans (e_ior d_937_108) (e_istore_n d_937_109 (by decide) (Nat.le_of_ble_eq_true rfl) rfl)))
theorem b937_110 {x1 x2 : Int} {vx3 : AV} {σ : SS} (h : -2147483648 ≤ (x2 + 1) ∧ (x2 + 1) ≤ 2147483647) : ev 937 110 [qR 50, qI x1, qI x2, vx3] [] σ = ev 937 14 [qR 50, qI x1, qI (x2 + 1), vx3] [] σ :=
  Eq.trans (e_iinc d_937_110 (by decide) rfl h rfl) (e_goto d_937_113 (by decide))
theorem b937_116 {x1 x2 : Int} {vx3 : AV} {σ : SS} : ev 937 116 [qR 50, qI x1, qI x2, vx3] [] σ = if 0 < (σ 50 14) then ev 937 129 [qR 50, qI x1, qI x2, vx3] [qI 19, qR 51] σ else ev 937 144 [qR 50, qI x1, qI x2, vx3] [qI 19, qR 51] σ :=
  Eq.trans (e_aload_n d_937_116 rfl) (Eq.trans (e_getR d_937_117 fl_9_7 sh_50 rfl) (Eq.trans (e_bipush d_937_120 kb_19) (Eq.trans (e_aload_n d_937_122 rfl) (Eq.trans (e_getI d_937_123 fl_9_191 sh_50 rfl) (e_if_le d_937_126 (by decide))))))
theorem b937_129 {x1 x2 y0 : Int} {vx3 : AV} {σ : SS} : ev 937 129 [qR 50, qI x1, qI x2, vx3] [qI y0, qR 51] σ = (ev 902 0 [qI x1, qI (σ 50 16)] [] σ).bind (fun x => ev 937 137 [qR 50, qI x1, qI x2, vx3] (q_push x.1 [qI y0, qR 51]) x.2) :=
  Eq.trans (e_iload_n d_937_129 rfl) (Eq.trans (e_aload_n d_937_130 rfl) (Eq.trans (e_getI d_937_131 fl_9_197 sh_50 rfl) (e_callS d_937_134 (by decide) ml_9_124 fit_937_902 par_902 rfl rfl (Nat.le_of_ble_eq_true rfl) (Nat.le_of_ble_eq_true rfl) (Nat.le_of_ble_eq_true rfl) rfl (by decide) rfl)))
theorem b937_137 {x1 x2 y0 y1 : Int} {vx3 : AV} {σ : SS} : ev 937 137 [qR 50, qI x1, qI x2, vx3] [qI y0, qI y1, qR 51] σ = if y0 = 0 then ev 937 144 [qR 50, qI x1, qI x2, vx3] [qI y1, qR 51] σ else ev 937 140 [qR 50, qI x1, qI x2, vx3] [qI y1, qR 51] σ :=
  e_if_eq d_937_137 (by decide)
theorem b937_140 {x1 x2 y0 : Int} {vx3 : AV} {σ : SS} : ev 937 140 [qR 50, qI x1, qI x2, vx3] [qI y0, qR 51] σ = ev 937 151 [qR 50, qI x1, qI x2, vx3] [qI 1, qI y0, qR 51] σ :=
  Eq.trans (e_iconst d_937_140 k_1) (e_goto d_937_141 (by decide))
theorem b937_144 {x1 x2 y0 : Int} {vx3 : AV} {σ : SS} : ev 937 144 [qR 50, qI x1, qI x2, vx3] [qI y0, qR 51] σ = ev 937 151 [qR 50, qI x1, qI x2, vx3] [qI (σ 51 19), qI y0, qR 51] σ :=
  Eq.trans (e_aload_n d_937_144 rfl) (Eq.trans (e_getR d_937_145 fl_9_7 sh_50 rfl) (Eq.trans (e_bipush d_937_148 kb_19) (e_iald d_937_150 sh_51 (by decide))))
theorem b937_151 {x1 x2 y0 y1 : Int} {vx3 : AV} {σ : SS} (h : 0 ≤ y1 ∧ y1 < 96) : ev 937 151 [qR 50, qI x1, qI x2, vx3] [qI y0, qI y1, qR 51] σ = some (some (qI x1), (q_put (q_put σ 51 y1.toNat y0) 51 18 (q_or ((q_put σ 51 y1.toNat y0) 51 18) (q_and x1 (q_xor (q_shl 1 (σ 50 16)) (-1)))))) :=
  Eq.trans (e_iast d_937_151 sh_51 h) (Eq.trans (e_aload_n d_937_152 rfl) (Eq.trans (e_getR d_937_153 fl_9_7 sh_50 rfl) (Eq.trans (e_bipush d_937_156 kb_18) (Eq.trans (e_dup2 d_937_158 rfl rfl) (Eq.trans (e_iald d_937_159 sh_51 (by decide)) (Eq.trans (e_iload_n d_937_160 rfl) (Eq.trans (e_iconst d_937_161 k_1) (Eq.trans (e_aload_n d_937_162 rfl) (Eq.trans (e_getI d_937_163 fl_9_197 sh_50 rfl) (Eq.trans (e_ishl d_937_166) (Eq.trans (e_iconst d_937_167 k_m1) (Eq.trans (e_ixor d_937_168) (Eq.trans (e_iand d_937_169) (Eq.trans (e_ior d_937_170) (Eq.trans (e_iast d_937_171 sh_51 (by decide)) (Eq.trans (e_iload_n d_937_172 rfl) (e_iret d_937_173 (q_okrI rfl))))))))))))))))))
theorem b938_0 {x1 : Int} {σ : SS} : ev 938 0 [qR 50, qI x1, qU] [] σ = (ev 922 0 [qR 50, qI x1] [] σ).bind (fun x => ev 938 5 [qR 50, qI x1, qU] (q_push x.1 []) x.2) :=
  Eq.trans (e_aload_n d_938_0 rfl) (Eq.trans (e_iload_n d_938_1 rfl) (e_callV d_938_2 ml_9_235 fit_938_922 par_922 rfl rfl sh_50 (Nat.le_of_ble_eq_true rfl) (Nat.le_of_ble_eq_true rfl) (Nat.le_of_ble_eq_true rfl) rfl (by decide) rfl))
theorem b938_5 {x1 y0 : Int} {σ : SS} : ev 938 5 [qR 50, qI x1, qU] [qI y0] σ = if y0 = 0 then ev 938 8 [qR 50, qI x1, qU] [] σ else ev 938 11 [qR 50, qI x1, qU] [] σ :=
  e_if_ne d_938_5 (by decide)
theorem b938_8 {x1 : Int} {σ : SS} : ev 938 8 [qR 50, qI x1, qU] [] σ = some (some (qI (-1000000001)), σ) :=
  Eq.trans (e_ldc d_938_8 ld_9_231 k_m1000000001) (e_iret d_938_10 (q_okrI rfl))
theorem b938_11 {x1 : Int} {σ : SS} : ev 938 11 [qR 50, qI x1, qU] [] σ = (ev 924 0 [qR 50, qI x1, qI (σ 51 21)] [] σ).bind (fun x => ev 938 23 [qR 50, qI x1, qU] (q_push x.1 []) x.2) :=
  Eq.trans (e_aload_n d_938_11 rfl) (Eq.trans (e_iload_n d_938_12 rfl) (Eq.trans (e_aload_n d_938_13 rfl) (Eq.trans (e_getR d_938_14 fl_9_7 sh_50 rfl) (Eq.trans (e_bipush d_938_17 kb_21) (Eq.trans (e_iald d_938_19 sh_51 (by decide)) (e_callV d_938_20 ml_9_213 fit_938_924 par_924 rfl rfl sh_50 (Nat.le_of_ble_eq_true rfl) (Nat.le_of_ble_eq_true rfl) (Nat.le_of_ble_eq_true rfl) rfl (by decide) rfl))))))
theorem b938_23 {x1 y0 : Int} {σ : SS} : ev 938 23 [qR 50, qI x1, qU] [qI y0] σ = (ev 901 0 [qI y0] [] σ).bind (fun x => ev 938 26 [qR 50, qI x1, qU] (q_push x.1 []) x.2) :=
  e_callS d_938_23 (by decide) ml_9_223 fit_938_901 par_901 rfl rfl (Nat.le_of_ble_eq_true rfl) (Nat.le_of_ble_eq_true rfl) (Nat.le_of_ble_eq_true rfl) rfl (by decide) rfl
theorem b938_26 {x1 y0 : Int} {σ : SS} (h : (-2147483648 ≤ (12 + x1) ∧ (12 + x1) ≤ 2147483647) ∧ (0 ≤ (12 + x1) ∧ (12 + x1) < 96)) : ev 938 26 [qR 50, qI x1, qU] [qI y0] σ = some (some (qI y0), (q_put σ 51 (12 + x1).toNat (σ 51 21))) :=
  Eq.trans (e_istore_n d_938_26 (by decide) (Nat.le_of_ble_eq_true rfl) rfl) (Eq.trans (e_aload_n d_938_27 rfl) (Eq.trans (e_getR d_938_28 fl_9_7 sh_50 rfl) (Eq.trans (e_bipush d_938_31 kb_12) (Eq.trans (e_iload_n d_938_33 rfl) (Eq.trans (e_iadd d_938_34 h.1) (Eq.trans (e_aload_n d_938_35 rfl) (Eq.trans (e_getR d_938_36 fl_9_7 sh_50 rfl) (Eq.trans (e_bipush d_938_39 kb_21) (Eq.trans (e_iald d_938_41 sh_51 (by decide)) (Eq.trans (e_iast d_938_42 sh_51 h.2) (Eq.trans (e_iload_n d_938_43 rfl) (e_iret d_938_44 (q_okrI rfl)))))))))))))
theorem b939_0 {x1 x2 : Int} {σ : SS} : ev 939 0 [qR 50, qI x1, qI x2, qU] [] σ = (ev 922 0 [qR 50, qI x1] [] σ).bind (fun x => ev 939 5 [qR 50, qI x1, qI x2, qU] (q_push x.1 []) x.2) :=
  Eq.trans (e_aload_n d_939_0 rfl) (Eq.trans (e_iload_n d_939_1 rfl) (e_callV d_939_2 ml_9_235 fit_939_922 par_922 rfl rfl sh_50 (Nat.le_of_ble_eq_true rfl) (Nat.le_of_ble_eq_true rfl) (Nat.le_of_ble_eq_true rfl) rfl (by decide) rfl))
theorem b939_5 {x1 x2 y0 : Int} {σ : SS} : ev 939 5 [qR 50, qI x1, qI x2, qU] [qI y0] σ = if y0 = 0 then ev 939 8 [qR 50, qI x1, qI x2, qU] [] σ else ev 939 11 [qR 50, qI x1, qI x2, qU] [] σ :=
  e_if_ne d_939_5 (by decide)
theorem b939_8 {x1 x2 : Int} {σ : SS} : ev 939 8 [qR 50, qI x1, qI x2, qU] [] σ = some (some (qI (-1000000001)), σ) :=
  Eq.trans (e_ldc d_939_8 ld_9_231 k_m1000000001) (e_iret d_939_10 (q_okrI rfl))
theorem b939_11 {x1 x2 : Int} {σ : SS} : ev 939 11 [qR 50, qI x1, qI x2, qU] [] σ = (ev 900 0 [qL x2, qU, qL 0, qU, qL 5, qU] [] σ).bind (fun x => ev 939 20 [qR 50, qI x1, qI x2, qU] (q_push x.1 []) x.2) :=
  Eq.trans (e_iload_n d_939_11 rfl) (Eq.trans (e_i2l d_939_12) (Eq.trans (e_lconst d_939_13 rfl) (Eq.trans (e_ldc2 d_939_14 ll_9_252.1 ll_9_252.2) (e_callS d_939_17 (by decide) ml_9_83 fit_939_900 par_900 rfl rfl (Nat.le_of_ble_eq_true rfl) (Nat.le_of_ble_eq_true rfl) (Nat.le_of_ble_eq_true rfl) rfl (by decide) rfl))))
theorem b939_20 {x1 x2 y0 : Int} {σ : SS} : ev 939 20 [qR 50, qI x1, qI x2, qU] [qI y0] σ = if y0 = 0 then ev 939 23 [qR 50, qI x1, qI x2, qU] [] σ else ev 939 26 [qR 50, qI x1, qI x2, qU] [] σ :=
  e_if_ne d_939_20 (by decide)
theorem b939_23 {x1 x2 : Int} {σ : SS} : ev 939 23 [qR 50, qI x1, qI x2, qU] [] σ = some (some (qI (-1000000002)), σ) :=
  Eq.trans (e_ldc d_939_23 ld_9_87 k_m1000000002) (e_iret d_939_25 (q_okrI rfl))
theorem b939_26 {x1 x2 : Int} {σ : SS} (h : (-2147483648 ≤ (6 + x1) ∧ (6 + x1) ≤ 2147483647) ∧ (0 ≤ (6 + x1) ∧ (6 + x1) < 96)) : ev 939 26 [qR 50, qI x1, qI x2, qU] [] σ = some (some (qI (σ 51 (6 + x1).toNat)), (q_put σ 51 (6 + x1).toNat x2)) :=
  Eq.trans (e_aload_n d_939_26 rfl) (Eq.trans (e_getR d_939_27 fl_9_7 sh_50 rfl) (Eq.trans (e_bipush d_939_30 kb_6) (Eq.trans (e_iload_n d_939_32 rfl) (Eq.trans (e_iadd d_939_33 h.1) (Eq.trans (e_iald d_939_34 sh_51 h.2) (Eq.trans (e_istore_n d_939_35 (by decide) (Nat.le_of_ble_eq_true rfl) rfl) (Eq.trans (e_aload_n d_939_36 rfl) (Eq.trans (e_getR d_939_37 fl_9_7 sh_50 rfl) (Eq.trans (e_bipush d_939_40 kb_6) (Eq.trans (e_iload_n d_939_42 rfl) (Eq.trans (e_iadd d_939_43 h.1) (Eq.trans (e_iload_n d_939_44 rfl) (Eq.trans (e_iast d_939_45 sh_51 h.2) (Eq.trans (e_iload_n d_939_46 rfl) (e_iret d_939_47 (q_okrI rfl))))))))))))))))
theorem b940_0 {x1 x2 : Int} {σ : SS} : ev 940 0 [qR 50, qI x1, qI x2, qU] [] σ = (ev 922 0 [qR 50, qI x1] [] σ).bind (fun x => ev 940 5 [qR 50, qI x1, qI x2, qU] (q_push x.1 []) x.2) :=
  Eq.trans (e_aload_n d_940_0 rfl) (Eq.trans (e_iload_n d_940_1 rfl) (e_callV d_940_2 ml_9_235 fit_940_922 par_922 rfl rfl sh_50 (Nat.le_of_ble_eq_true rfl) (Nat.le_of_ble_eq_true rfl) (Nat.le_of_ble_eq_true rfl) rfl (by decide) rfl))
theorem b940_5 {x1 x2 y0 : Int} {σ : SS} : ev 940 5 [qR 50, qI x1, qI x2, qU] [qI y0] σ = if y0 = 0 then ev 940 16 [qR 50, qI x1, qI x2, qU] [] σ else ev 940 8 [qR 50, qI x1, qI x2, qU] [] σ :=
  e_if_eq d_940_5 (by decide)
theorem b940_8 {x1 x2 : Int} {σ : SS} : ev 940 8 [qR 50, qI x1, qI x2, qU] [] σ = (ev 921 0 [qR 50, qI x2] [] σ).bind (fun x => ev 940 13 [qR 50, qI x1, qI x2, qU] (q_push x.1 []) x.2) :=
  Eq.trans (e_aload_n d_940_8 rfl) (Eq.trans (e_iload_n d_940_9 rfl) (e_callV d_940_10 ml_9_227 fit_940_921 par_921 rfl rfl sh_50 (Nat.le_of_ble_eq_true rfl) (Nat.le_of_ble_eq_true rfl) (Nat.le_of_ble_eq_true rfl) rfl (by decide) rfl))
theorem b940_13 {x1 x2 y0 : Int} {σ : SS} : ev 940 13 [qR 50, qI x1, qI x2, qU] [qI y0] σ = if y0 = 0 then ev 940 16 [qR 50, qI x1, qI x2, qU] [] σ else ev 940 19 [qR 50, qI x1, qI x2, qU] [] σ :=
  e_if_ne d_940_13 (by decide)
theorem b940_16 {x1 x2 : Int} {σ : SS} : ev 940 16 [qR 50, qI x1, qI x2, qU] [] σ = some (some (qI (-1000000001)), σ) :=
  Eq.trans (e_ldc d_940_16 ld_9_231 k_m1000000001) (e_iret d_940_18 (q_okrI rfl))
theorem b940_19 {x1 x2 : Int} {σ : SS} (h : 0 ≤ x1 ∧ x1 < 96) : ev 940 19 [qR 50, qI x1, qI x2, qU] [] σ = some (some (qI (σ 51 x1.toNat)), (q_put σ 51 x1.toNat x2)) :=
  Eq.trans (e_aload_n d_940_19 rfl) (Eq.trans (e_getR d_940_20 fl_9_7 sh_50 rfl) (Eq.trans (e_iload_n d_940_23 rfl) (Eq.trans (e_iald d_940_24 sh_51 h) (Eq.trans (e_istore_n d_940_25 (by decide) (Nat.le_of_ble_eq_true rfl) rfl) (Eq.trans (e_aload_n d_940_26 rfl) (Eq.trans (e_getR d_940_27 fl_9_7 sh_50 rfl) (Eq.trans (e_iload_n d_940_30 rfl) (Eq.trans (e_iload_n d_940_31 rfl) (Eq.trans (e_iast d_940_32 sh_51 h) (Eq.trans (e_iload_n d_940_33 rfl) (e_iret d_940_34 (q_okrI rfl))))))))))))
theorem b943_0 {x1 : Int} {σ : SS} : ev 943 0 [qR 50, qI x1, qU, qU] [] σ = (ev 900 0 [qL x1, qU, qL 1, qU, qL 99, qU] [] σ).bind (fun x => ev 943 9 [qR 50, qI x1, qU, qU] (q_push x.1 []) x.2) :=
  Eq.trans (e_iload_n d_943_0 rfl) (Eq.trans (e_i2l d_943_1) (Eq.trans (e_lconst d_943_2 rfl) (Eq.trans (e_ldc2 d_943_3 ll_9_147.1 ll_9_147.2) (e_callS d_943_6 (by decide) ml_9_83 fit_943_900 par_900 rfl rfl (Nat.le_of_ble_eq_true rfl) (Nat.le_of_ble_eq_true rfl) (Nat.le_of_ble_eq_true rfl) rfl (by decide) rfl))))
theorem b943_9 {x1 y0 : Int} {σ : SS} : ev 943 9 [qR 50, qI x1, qU, qU] [qI y0] σ = if y0 = 0 then ev 943 12 [qR 50, qI x1, qU, qU] [] σ else ev 943 15 [qR 50, qI x1, qU, qU] [] σ :=
  e_if_ne d_943_9 (by decide)
theorem b943_12 {x1 : Int} {σ : SS} : ev 943 12 [qR 50, qI x1, qU, qU] [] σ = some (some (qI (-1000000002)), σ) :=
  Eq.trans (e_ldc d_943_12 ld_9_87 k_m1000000002) (e_iret d_943_14 (q_okrI rfl))
theorem b943_15 {x1 : Int} {σ : SS} : ev 943 15 [qR 50, qI x1, qU, qU] [] σ = if (σ 50 14) = 0 then ev 943 22 [qR 50, qI x1, qU, qU] [] σ else ev 943 25 [qR 50, qI x1, qU, qU] [] σ :=
  Eq.trans (e_aload_n d_943_15 rfl) (Eq.trans (e_getI d_943_16 fl_9_191 sh_50 rfl) (e_if_ne d_943_19 (by decide)))
theorem b943_22 {x1 : Int} {σ : SS} : ev 943 22 [qR 50, qI x1, qU, qU] [] σ = some (some (qI (-1000000003)), σ) :=
  Eq.trans (e_ldc d_943_22 ld_9_251 k_m1000000003) (e_iret d_943_24 (q_okrI rfl))
theorem b943_25 {x1 : Int} {σ : SS} : ev 943 25 [qR 50, qI x1, qU, qU] [] σ = ev 943 27 [qR 50, qI x1, qI 0, qU] [] σ :=
  Eq.trans (e_iconst d_943_25 k_0) (e_istore_n d_943_26 (by decide) (Nat.le_of_ble_eq_true rfl) rfl)
theorem b943_27 {x1 x2 : Int} {vx3 : AV} {σ : SS} : ev 943 27 [qR 50, qI x1, qI x2, vx3] [] σ = if x2 < x1 then ev 943 32 [qR 50, qI x1, qI x2, vx3] [] σ else ev 943 87 [qR 50, qI x1, qI x2, vx3] [] σ :=
  Eq.trans (e_iload_n d_943_27 rfl) (Eq.trans (e_iload_n d_943_28 rfl) (e_icmp_ge d_943_29 (by decide)))
theorem b943_32 {x1 x2 : Int} {vx3 : AV} {σ : SS} : ev 943 32 [qR 50, qI x1, qI x2, vx3] [] σ = (ev 942 0 [qR 50, qU, qU, qU] [] σ).bind (fun x => ev 943 36 [qR 50, qI x1, qI x2, vx3] (q_push x.1 []) x.2) :=
  Eq.trans (e_aload_n d_943_32 rfl) (e_callV d_943_33 ml_9_267 fit_943_942 par_942 rfl rfl sh_50 (Nat.le_of_ble_eq_true rfl) (Nat.le_of_ble_eq_true rfl) (Nat.le_of_ble_eq_true rfl) rfl (by decide) rfl)
theorem b943_36 {x1 x2 : Int} {vx3 : AV} {σ : SS} (h : -2147483648 ≤ ((σ 51 21) + 1) ∧ ((σ 51 21) + 1) ≤ 2147483647) : ev 943 36 [qR 50, qI x1, qI x2, vx3] [] σ = (ev 941 0 [qR 50, qI 6] [] (q_put σ 51 21 ((σ 51 21) + 1))).bind (fun x => ev 943 53 [qR 50, qI x1, qI x2, vx3] (q_push x.1 []) x.2) :=
  Eq.trans (e_aload_n d_943_36 rfl) (Eq.trans (e_getR d_943_37 fl_9_7 sh_50 rfl) (Eq.trans (e_bipush d_943_40 kb_21) (Eq.trans (e_dup2 d_943_42 rfl rfl) (Eq.trans (e_iald d_943_43 sh_51 (by decide)) (Eq.trans (e_iconst d_943_44 k_1) (Eq.trans (e_iadd d_943_45 h) (Eq.trans (e_iast d_943_46 sh_51 (by decide)) (Eq.trans (e_aload_n d_943_47 rfl) (Eq.trans (e_bipush d_943_48 kb_6) (e_callV d_943_50 ml_9_264 fit_943_941 par_941 rfl rfl sh_50 (Nat.le_of_ble_eq_true rfl) (Nat.le_of_ble_eq_true rfl) (Nat.le_of_ble_eq_true rfl) rfl (by decide) rfl))))))))))
theorem b943_53 {x1 x2 y0 : Int} {vx3 : AV} {σ : SS} : ev 943 53 [qR 50, qI x1, qI x2, vx3] [qI y0] σ = if y0 = 0 then ev 943 56 [qR 50, qI x1, qI x2, vx3] [] σ else ev 943 81 [qR 50, qI x1, qI x2, vx3] [] σ :=
  e_if_ne d_943_53 (by decide)
theorem b943_56 {x1 x2 : Int} {vx3 : AV} {σ : SS} : ev 943 56 [qR 50, qI x1, qI x2, vx3] [] σ = (ev 941 0 [qR 50, qI (σ 50 14)] [] σ).bind (fun x => ev 943 64 [qR 50, qI x1, qI x2, vx3] (q_push x.1 []) x.2) :=
  Eq.trans (e_aload_n d_943_56 rfl) (Eq.trans (e_aload_n d_943_57 rfl) (Eq.trans (e_getI d_943_58 fl_9_191 sh_50 rfl) (e_callV d_943_61 ml_9_264 fit_943_941 par_941 rfl rfl sh_50 (Nat.le_of_ble_eq_true rfl) (Nat.le_of_ble_eq_true rfl) (Nat.le_of_ble_eq_true rfl) rfl (by decide) rfl)))
theorem b943_64 {x1 x2 y0 : Int} {vx3 : AV} {σ : SS} (h : (-2147483648 ≤ (12 + y0) ∧ (12 + y0) ≤ 2147483647) ∧ (0 ≤ (12 + y0) ∧ (12 + y0) < 96)) : ev 943 64 [qR 50, qI x1, qI x2, vx3] [qI y0] σ = ev 943 81 [qR 50, qI x1, qI x2, qI y0] [] (q_put σ 51 (12 + y0).toNat (σ 51 21)) :=
  Eq.trans (e_istore_n d_943_64 (by decide) (Nat.le_of_ble_eq_true rfl) rfl) (Eq.trans (e_aload_n d_943_65 rfl) (Eq.trans (e_getR d_943_66 fl_9_7 sh_50 rfl) (Eq.trans (e_bipush d_943_69 kb_12) (Eq.trans (e_iload_n d_943_71 rfl) (Eq.trans (e_iadd d_943_72 h.1) (Eq.trans (e_aload_n d_943_73 rfl) (Eq.trans (e_getR d_943_74 fl_9_7 sh_50 rfl) (Eq.trans (e_bipush d_943_77 kb_21) (Eq.trans (e_iald d_943_79 sh_51 (by decide)) (e_iast d_943_80 sh_51 h.2))))))))))
theorem b943_81 {x1 x2 : Int} {vx3 : AV} {σ : SS} (h : -2147483648 ≤ (x2 + 1) ∧ (x2 + 1) ≤ 2147483647) : ev 943 81 [qR 50, qI x1, qI x2, vx3] [] σ = ev 943 27 [qR 50, qI x1, qI (x2 + 1), vx3] [] σ :=
  Eq.trans (e_iinc d_943_81 (by decide) rfl h rfl) (e_goto d_943_84 (by decide))
theorem b943_87 {x1 x2 : Int} {vx3 : AV} {σ : SS} (h : 0 ≤ (σ 50 16) ∧ (σ 50 16) < 96) : ev 943 87 [qR 50, qI x1, qI x2, vx3] [] σ = some (some (qI (σ 51 (σ 50 16).toNat)), σ) :=
  Eq.trans (e_aload_n d_943_87 rfl) (Eq.trans (e_getR d_943_88 fl_9_7 sh_50 rfl) (Eq.trans (e_aload_n d_943_91 rfl) (Eq.trans (e_getI d_943_92 fl_9_197 sh_50 rfl) (Eq.trans (e_iald d_943_95 sh_51 h) (e_iret d_943_96 (q_okrI rfl))))))
theorem b946_0 {x1 x2 : Int} {σ : SS} : ev 946 0 [qR 50, qI x1, qI x2, qU, qU, qU, qU] [] σ = (ev 922 0 [qR 50, qI x1] [] σ).bind (fun x => ev 946 5 [qR 50, qI x1, qI x2, qU, qU, qU, qU] (q_push x.1 []) x.2) :=
  Eq.trans (e_aload_n d_946_0 rfl) (Eq.trans (e_iload_n d_946_1 rfl) (e_callV d_946_2 ml_9_235 fit_946_922 par_922 rfl rfl sh_50 (Nat.le_of_ble_eq_true rfl) (Nat.le_of_ble_eq_true rfl) (Nat.le_of_ble_eq_true rfl) rfl (by decide) rfl))
theorem b946_5 {x1 x2 y0 : Int} {σ : SS} : ev 946 5 [qR 50, qI x1, qI x2, qU, qU, qU, qU] [qI y0] σ = if y0 = 0 then ev 946 8 [qR 50, qI x1, qI x2, qU, qU, qU, qU] [] σ else ev 946 11 [qR 50, qI x1, qI x2, qU, qU, qU, qU] [] σ :=
  e_if_ne d_946_5 (by decide)
theorem b946_8 {x1 x2 : Int} {σ : SS} : ev 946 8 [qR 50, qI x1, qI x2, qU, qU, qU, qU] [] σ = some (some (qI (-1000000001)), σ) :=
  Eq.trans (e_ldc d_946_8 ld_9_231 k_m1000000001) (e_iret d_946_10 (q_okrI rfl))
theorem b946_11 {x1 x2 : Int} {σ : SS} : ev 946 11 [qR 50, qI x1, qI x2, qU, qU, qU, qU] [] σ = (ev 945 0 [qR 50, qI x1, qU] [] σ).bind (fun x => ev 946 16 [qR 50, qI x1, qI x2, qU, qU, qU, qU] (q_push x.1 []) x.2) :=
  Eq.trans (e_aload_n d_946_11 rfl) (Eq.trans (e_iload_n d_946_12 rfl) (e_callV d_946_13 ml_9_274 fit_946_945 par_945 rfl rfl sh_50 (Nat.le_of_ble_eq_true rfl) (Nat.le_of_ble_eq_true rfl) (Nat.le_of_ble_eq_true rfl) rfl (by decide) rfl))
theorem b946_16 {x1 x2 y0 : Int} {σ : SS} : ev 946 16 [qR 50, qI x1, qI x2, qU, qU, qU, qU] [qI y0] σ = if y0 < 0 then ev 946 30 [qR 50, qI x1, qI x2, qI y0, qU, qU, qU] [] σ else ev 946 21 [qR 50, qI x1, qI x2, qI y0, qU, qU, qU] [] σ :=
  Eq.trans (e_istore_n d_946_16 (by decide) (Nat.le_of_ble_eq_true rfl) rfl) (Eq.trans (e_iload_n d_946_17 rfl) (e_if_lt d_946_18 (by decide)))
theorem b946_21 {x1 x2 x3 : Int} {σ : SS} : ev 946 21 [qR 50, qI x1, qI x2, qI x3, qU, qU, qU] [] σ = if x2 < 0 then ev 946 30 [qR 50, qI x1, qI x2, qI x3, qU, qU, qU] [] σ else ev 946 25 [qR 50, qI x1, qI x2, qI x3, qU, qU, qU] [] σ :=
  Eq.trans (e_iload_n d_946_21 rfl) (e_if_lt d_946_22 (by decide))
theorem b946_25 {x1 x2 x3 : Int} {σ : SS} : ev 946 25 [qR 50, qI x1, qI x2, qI x3, qU, qU, qU] [] σ = if x3 < x2 then ev 946 30 [qR 50, qI x1, qI x2, qI x3, qU, qU, qU] [] σ else ev 946 45 [qR 50, qI x1, qI x2, qI x3, qU, qU, qU] [] σ :=
  Eq.trans (e_iload_n d_946_25 rfl) (Eq.trans (e_iload_n d_946_26 rfl) (e_icmp_le d_946_27 (by decide)))
theorem b946_30 {x1 x2 x3 : Int} {σ : SS} : ev 946 30 [qR 50, qI x1, qI x2, qI x3, qU, qU, qU] [] σ = if x3 < 0 then ev 946 43 [qR 50, qI x1, qI x2, qI x3, qU, qU, qU] [] σ else ev 946 34 [qR 50, qI x1, qI x2, qI x3, qU, qU, qU] [] σ :=
  Eq.trans (e_iload_n d_946_30 rfl) (e_if_lt d_946_31 (by decide))
theorem b946_34 {x1 x2 x3 : Int} {σ : SS} : ev 946 34 [qR 50, qI x1, qI x2, qI x3, qU, qU, qU] [] σ = if x2 = (-1) then ev 946 39 [qR 50, qI x1, qI x2, qI x3, qU, qU, qU] [] σ else ev 946 43 [qR 50, qI x1, qI x2, qI x3, qU, qU, qU] [] σ :=
  Eq.trans (e_iload_n d_946_34 rfl) (Eq.trans (e_iconst d_946_35 k_m1) (e_icmp_ne d_946_36 (by decide)))
theorem b946_39 {x1 x2 x3 : Int} {σ : SS} : ev 946 39 [qR 50, qI x1, qI x2, qI x3, qU, qU, qU] [] σ = ev 946 44 [qR 50, qI x1, qI x2, qI x3, qU, qU, qU] [qI x3] σ :=
  Eq.trans (e_iload_n d_946_39 rfl) (e_goto d_946_40 (by decide))
theorem b946_43 {x1 x2 x3 : Int} {σ : SS} : ev 946 43 [qR 50, qI x1, qI x2, qI x3, qU, qU, qU] [] σ = ev 946 44 [qR 50, qI x1, qI x2, qI x3, qU, qU, qU] [qI (-1)] σ :=
  e_iconst d_946_43 k_m1
theorem b946_44 {x1 x2 x3 y0 : Int} {σ : SS} : ev 946 44 [qR 50, qI x1, qI x2, qI x3, qU, qU, qU] [qI y0] σ = some (some (qI y0), σ) :=
  e_iret d_946_44 (q_okrI rfl)
theorem b946_45 {x1 x2 x3 : Int} {σ : SS} : ev 946 45 [qR 50, qI x1, qI x2, qI x3, qU, qU, qU] [] σ = ev 946 57 [qR 50, qI x1, qI x2, qI x3, qI (σ 51 22), qI 0, qU] [] σ :=
  Eq.trans (e_aload_n d_946_45 rfl) (Eq.trans (e_getR d_946_46 fl_9_7 sh_50 rfl) (Eq.trans (e_bipush d_946_49 kb_22) (Eq.trans (e_iald d_946_51 sh_51 (by decide)) (Eq.trans (e_istore d_946_52 (by decide) (Nat.le_of_ble_eq_true rfl) rfl) (Eq.trans (e_iconst d_946_54 k_0) (e_istore d_946_55 (by decide) (Nat.le_of_ble_eq_true rfl) rfl))))))
theorem b946_57 {x1 x2 x3 x4 x5 : Int} {vx6 : AV} {σ : SS} : ev 946 57 [qR 50, qI x1, qI x2, qI x3, qI x4, qI x5, vx6] [] σ = if x5 < x2 then ev 946 63 [qR 50, qI x1, qI x2, qI x3, qI x4, qI x5, vx6] [] σ else ev 946 120 [qR 50, qI x1, qI x2, qI x3, qI x4, qI x5, vx6] [] σ :=
  Eq.trans (e_iload d_946_57 rfl) (Eq.trans (e_iload_n d_946_59 rfl) (e_icmp_ge d_946_60 (by decide)))
theorem b946_63 {x1 x2 x3 x4 x5 : Int} {vx6 : AV} {σ : SS} : ev 946 63 [qR 50, qI x1, qI x2, qI x3, qI x4, qI x5, vx6] [] σ = ev 946 66 [qR 50, qI x1, qI x2, qI x3, qI x4, qI x5, qI 0] [] σ :=
  Eq.trans (e_iconst d_946_63 k_0) (e_istore d_946_64 (by decide) (Nat.le_of_ble_eq_true rfl) rfl)
theorem b946_66 {x1 x2 x3 x4 x5 x6 : Int} {σ : SS} : ev 946 66 [qR 50, qI x1, qI x2, qI x3, qI x4, qI x5, qI x6] [] σ = if x6 = x4 then ev 946 88 [qR 50, qI x1, qI x2, qI x3, qI x4, qI x5, qI x6] [] σ else ev 946 73 [qR 50, qI x1, qI x2, qI x3, qI x4, qI x5, qI x6] [] σ :=
  Eq.trans (e_iload d_946_66 rfl) (Eq.trans (e_iload d_946_68 rfl) (e_icmp_eq d_946_70 (by decide)))
theorem b946_73 {x1 x2 x3 x4 x5 x6 : Int} {σ : SS} (h : 0 ≤ x4 ∧ x4 < 12) : ev 946 73 [qR 50, qI x1, qI x2, qI x3, qI x4, qI x5, qI x6] [] σ = (ev 902 0 [qI (σ 55 x4.toNat), qI x6] [] σ).bind (fun x => ev 946 85 [qR 50, qI x1, qI x2, qI x3, qI x4, qI x5, qI x6] (q_push x.1 []) x.2) :=
  Eq.trans (e_aload_n d_946_73 rfl) (Eq.trans (e_getR d_946_74 fl_9_23 sh_50 rfl) (Eq.trans (e_iload d_946_77 rfl) (Eq.trans (e_iald d_946_79 sh_55 h) (Eq.trans (e_iload d_946_80 rfl) (e_callS d_946_82 (by decide) ml_9_124 fit_946_902 par_902 rfl rfl (Nat.le_of_ble_eq_true rfl) (Nat.le_of_ble_eq_true rfl) (Nat.le_of_ble_eq_true rfl) rfl (by decide) rfl)))))
theorem b946_85 {x1 x2 x3 x4 x5 x6 y0 : Int} {σ : SS} : ev 946 85 [qR 50, qI x1, qI x2, qI x3, qI x4, qI x5, qI x6] [qI y0] σ = if y0 = 0 then ev 946 104 [qR 50, qI x1, qI x2, qI x3, qI x4, qI x5, qI x6] [] σ else ev 946 88 [qR 50, qI x1, qI x2, qI x3, qI x4, qI x5, qI x6] [] σ :=
  e_if_eq d_946_85 (by decide)
theorem b946_88 {x1 x2 x3 x4 x5 x6 : Int} {σ : SS} (h : (0 ≤ x6 ∧ x6 < 6) ∧ (-2147483648 ≤ (x3 - x5) ∧ (x3 - x5) ≤ 2147483647) ∧ (-2147483648 ≤ ((x3 - x5) - 1) ∧ ((x3 - x5) - 1) ≤ 2147483647)) : ev 946 88 [qR 50, qI x1, qI x2, qI x3, qI x4, qI x5, qI x6] [] σ = if ((x3 - x5) - 1) < (σ 63 x6.toNat) then ev 946 104 [qR 50, qI x1, qI x2, qI x3, qI x4, qI x5, qI x6] [] σ else ev 946 110 [qR 50, qI x1, qI x2, qI x3, qI x4, qI x5, qI x6] [] σ :=
  Eq.trans (e_aload_n d_946_88 rfl) (Eq.trans (e_getR d_946_89 fl_9_51 sh_50 rfl) (Eq.trans (e_iload d_946_92 rfl) (Eq.trans (e_iald d_946_94 sh_63 h.1) (Eq.trans (e_iload_n d_946_95 rfl) (Eq.trans (e_iload d_946_96 rfl) (Eq.trans (e_isub d_946_98 h.2.1) (Eq.trans (e_iconst d_946_99 k_1) (Eq.trans (e_isub d_946_100 h.2.2) (e_icmp_le d_946_101 (by decide))))))))))
theorem b946_104 {x1 x2 x3 x4 x5 x6 : Int} {σ : SS} (h : -2147483648 ≤ (x6 + 1) ∧ (x6 + 1) ≤ 2147483647) : ev 946 104 [qR 50, qI x1, qI x2, qI x3, qI x4, qI x5, qI x6] [] σ = ev 946 66 [qR 50, qI x1, qI x2, qI x3, qI x4, qI x5, qI (x6 + 1)] [] σ :=
  Eq.trans (e_iinc d_946_104 (by decide) rfl h rfl) (e_goto d_946_107 (by decide))
theorem b946_110 {x1 x2 x3 x4 x5 x6 : Int} {σ : SS} (h : -2147483648 ≤ (x5 + 1) ∧ (x5 + 1) ≤ 2147483647) : ev 946 110 [qR 50, qI x1, qI x2, qI x3, qI x4, qI x5, qI x6] [] σ = ev 946 57 [qR 50, qI x1, qI x2, qI x3, qI x6, qI (x5 + 1), qI x6] [] σ :=
  Eq.trans (e_iload d_946_110 rfl) (Eq.trans (e_istore d_946_112 (by decide) (Nat.le_of_ble_eq_true rfl) rfl) (Eq.trans (e_iinc d_946_114 (by decide) rfl h rfl) (e_goto d_946_117 (by decide))))
theorem b946_120 {x1 x2 x3 x4 x5 : Int} {vx6 : AV} {σ : SS} : ev 946 120 [qR 50, qI x1, qI x2, qI x3, qI x4, qI x5, vx6] [] σ = some (some (qI x4), σ) :=
  Eq.trans (e_iload d_946_120 rfl) (e_iret d_946_122 (q_okrI rfl))
theorem b953_0 {x1 : Int} {σ : SS} : ev 953 0 [qR 50, qI x1] [] σ = (ev 900 0 [qL x1, qU, qL 1, qU, qL 2, qU] [] σ).bind (fun x => ev 953 9 [qR 50, qI x1] (q_push x.1 []) x.2) :=
  Eq.trans (e_iload_n d_953_0 rfl) (Eq.trans (e_i2l d_953_1) (Eq.trans (e_lconst d_953_2 rfl) (Eq.trans (e_ldc2 d_953_3 ll_9_293.1 ll_9_293.2) (e_callS d_953_6 (by decide) ml_9_83 fit_953_900 par_900 rfl rfl (Nat.le_of_ble_eq_true rfl) (Nat.le_of_ble_eq_true rfl) (Nat.le_of_ble_eq_true rfl) rfl (by decide) rfl))))
theorem b953_9 {x1 y0 : Int} {σ : SS} : ev 953 9 [qR 50, qI x1] [qI y0] σ = if y0 = 0 then ev 953 12 [qR 50, qI x1] [] σ else ev 953 15 [qR 50, qI x1] [] σ :=
  e_if_ne d_953_9 (by decide)
theorem b953_12 {x1 : Int} {σ : SS} : ev 953 12 [qR 50, qI x1] [] σ = some (some (qI (-1000000002)), σ) :=
  Eq.trans (e_ldc d_953_12 ld_9_87 k_m1000000002) (e_iret d_953_14 (q_okrI rfl))
theorem b953_15 {x1 : Int} {σ : SS} : ev 953 15 [qR 50, qI x1] [] σ = if (σ 50 13) = 0 then ev 953 22 [qR 50, qI x1] [] σ else ev 953 27 [qR 50, qI x1] [] σ :=
  Eq.trans (e_aload_n d_953_15 rfl) (Eq.trans (e_getI d_953_16 fl_9_188 sh_50 rfl) (e_if_ne d_953_19 (by decide)))
theorem b953_22 {x1 : Int} {σ : SS} : ev 953 22 [qR 50, qI x1] [] σ = ev 953 32 [qR 50, qI x1] [qI (-1000000003)] σ :=
  Eq.trans (e_ldc d_953_22 ld_9_251 k_m1000000003) (e_goto d_953_24 (by decide))
theorem b953_27 {x1 : Int} {σ : SS} : ev 953 27 [qR 50, qI x1] [] σ = (ev 952 0 [qR 50, qI x1, qU, qU, qU, qU, qU] [] σ).bind (fun x => ev 953 32 [qR 50, qI x1] (q_push x.1 []) x.2) :=
  Eq.trans (e_aload_n d_953_27 rfl) (Eq.trans (e_iload_n d_953_28 rfl) (e_callV d_953_29 ml_9_295 fit_953_952 par_952 rfl rfl sh_50 (Nat.le_of_ble_eq_true rfl) (Nat.le_of_ble_eq_true rfl) (Nat.le_of_ble_eq_true rfl) rfl (by decide) rfl))
theorem b953_32 {x1 y0 : Int} {σ : SS} : ev 953 32 [qR 50, qI x1] [qI y0] σ = some (some (qI y0), σ) :=
  e_iret d_953_32 (q_okrI rfl)
theorem b954_0 {σ : SS} : ev 954 0 [qR 50] [] σ = if (σ 50 13) = 0 then ev 954 7 [qR 50] [] σ else ev 954 9 [qR 50] [] σ :=
  Eq.trans (e_aload_n d_954_0 rfl) (Eq.trans (e_getI d_954_1 fl_9_188 sh_50 rfl) (e_if_ne d_954_4 (by decide)))
theorem b954_7 {σ : SS} : ev 954 7 [qR 50] [] σ = some (some (qI (-1)), σ) :=
  Eq.trans (e_iconst d_954_7 k_m1) (e_iret d_954_8 (q_okrI rfl))
theorem b954_9 {σ : SS} : ev 954 9 [qR 50] [] σ = (ev 952 0 [qR 50, qI 1, qU, qU, qU, qU, qU] [] σ).bind (fun x => ev 954 14 [qR 50] (q_push x.1 []) x.2) :=
  Eq.trans (e_aload_n d_954_9 rfl) (Eq.trans (e_iconst d_954_10 k_1) (e_callV d_954_11 ml_9_295 fit_954_952 par_952 rfl rfl sh_50 (Nat.le_of_ble_eq_true rfl) (Nat.le_of_ble_eq_true rfl) (Nat.le_of_ble_eq_true rfl) rfl (by decide) rfl))
theorem b954_14 {y0 : Int} {σ : SS} : ev 954 14 [qR 50] [qI y0] σ = if y0 < 0 then ev 954 21 [qR 50] [] σ else ev 954 17 [qR 50] [] σ :=
  e_if_lt d_954_14 (by decide)
theorem b954_17 {σ : SS} : ev 954 17 [qR 50] [] σ = ev 954 34 [qR 50] [qI 1] σ :=
  Eq.trans (e_iconst d_954_17 k_1) (e_goto d_954_18 (by decide))
theorem b954_21 {σ : SS} : ev 954 21 [qR 50] [] σ = (ev 952 0 [qR 50, qI 2, qU, qU, qU, qU, qU] [] σ).bind (fun x => ev 954 26 [qR 50] (q_push x.1 []) x.2) :=
  Eq.trans (e_aload_n d_954_21 rfl) (Eq.trans (e_iconst d_954_22 k_2) (e_callV d_954_23 ml_9_295 fit_954_952 par_952 rfl rfl sh_50 (Nat.le_of_ble_eq_true rfl) (Nat.le_of_ble_eq_true rfl) (Nat.le_of_ble_eq_true rfl) rfl (by decide) rfl))
theorem b954_26 {y0 : Int} {σ : SS} : ev 954 26 [qR 50] [qI y0] σ = if y0 < 0 then ev 954 33 [qR 50] [] σ else ev 954 29 [qR 50] [] σ :=
  e_if_lt d_954_26 (by decide)
theorem b954_29 {σ : SS} : ev 954 29 [qR 50] [] σ = ev 954 34 [qR 50] [qI 2] σ :=
  Eq.trans (e_iconst d_954_29 k_2) (e_goto d_954_30 (by decide))
theorem b954_33 {σ : SS} : ev 954 33 [qR 50] [] σ = ev 954 34 [qR 50] [qI (-1)] σ :=
  e_iconst d_954_33 k_m1
theorem b954_34 {y0 : Int} {σ : SS} : ev 954 34 [qR 50] [qI y0] σ = some (some (qI y0), σ) :=
  e_iret d_954_34 (q_okrI rfl)
theorem b957_0 {x1 x2 : Int} {σ : SS} : ev 957 0 [qR 50, qI x1, qI x2, qU, qU] [] σ = (ev 922 0 [qR 50, qI x1] [] σ).bind (fun x => ev 957 5 [qR 50, qI x1, qI x2, qU, qU] (q_push x.1 []) x.2) :=
  Eq.trans (e_aload_n d_957_0 rfl) (Eq.trans (e_iload_n d_957_1 rfl) (e_callV d_957_2 ml_9_235 fit_957_922 par_922 rfl rfl sh_50 (Nat.le_of_ble_eq_true rfl) (Nat.le_of_ble_eq_true rfl) (Nat.le_of_ble_eq_true rfl) rfl (by decide) rfl))
theorem b957_5 {x1 x2 y0 : Int} {σ : SS} : ev 957 5 [qR 50, qI x1, qI x2, qU, qU] [qI y0] σ = if y0 = 0 then ev 957 8 [qR 50, qI x1, qI x2, qU, qU] [] σ else ev 957 11 [qR 50, qI x1, qI x2, qU, qU] [] σ :=
  e_if_ne d_957_5 (by decide)
theorem b957_8 {x1 x2 : Int} {σ : SS} : ev 957 8 [qR 50, qI x1, qI x2, qU, qU] [] σ = some (some (qI (-1000000001)), σ) :=
  Eq.trans (e_ldc d_957_8 ld_9_231 k_m1000000001) (e_iret d_957_10 (q_okrI rfl))
theorem b957_11 {x1 x2 : Int} {σ : SS} : ev 957 11 [qR 50, qI x1, qI x2, qU, qU] [] σ = (ev 900 0 [qL x2, qU, qL 0, qU, qL 1, qU] [] σ).bind (fun x => ev 957 18 [qR 50, qI x1, qI x2, qU, qU] (q_push x.1 []) x.2) :=
  Eq.trans (e_iload_n d_957_11 rfl) (Eq.trans (e_i2l d_957_12) (Eq.trans (e_lconst d_957_13 rfl) (Eq.trans (e_lconst d_957_14 rfl) (e_callS d_957_15 (by decide) ml_9_83 fit_957_900 par_900 rfl rfl (Nat.le_of_ble_eq_true rfl) (Nat.le_of_ble_eq_true rfl) (Nat.le_of_ble_eq_true rfl) rfl (by decide) rfl))))
theorem b957_18 {x1 x2 y0 : Int} {σ : SS} : ev 957 18 [qR 50, qI x1, qI x2, qU, qU] [qI y0] σ = if y0 = 0 then ev 957 21 [qR 50, qI x1, qI x2, qU, qU] [] σ else ev 957 24 [qR 50, qI x1, qI x2, qU, qU] [] σ :=
  e_if_ne d_957_18 (by decide)
theorem b957_21 {x1 x2 : Int} {σ : SS} : ev 957 21 [qR 50, qI x1, qI x2, qU, qU] [] σ = some (some (qI (-1000000002)), σ) :=
  Eq.trans (e_ldc d_957_21 ld_9_87 k_m1000000002) (e_iret d_957_23 (q_okrI rfl))
theorem b957_24 {x1 x2 : Int} {σ : SS} : ev 957 24 [qR 50, qI x1, qI x2, qU, qU] [] σ = ev 957 26 [qR 50, qI x1, qI x2, qI 0, qU] [] σ :=
  Eq.trans (e_iconst d_957_24 k_0) (e_istore_n d_957_25 (by decide) (Nat.le_of_ble_eq_true rfl) rfl)
theorem b957_26 {x1 x2 x3 : Int} {vx4 : AV} {σ : SS} : ev 957 26 [qR 50, qI x1, qI x2, qI x3, vx4] [] σ = if x3 < 24 then ev 957 32 [qR 50, qI x1, qI x2, qI x3, vx4] [] σ else ev 957 78 [qR 50, qI x1, qI x2, qI x3, vx4] [] σ :=
  Eq.trans (e_iload_n d_957_26 rfl) (Eq.trans (e_bipush d_957_27 kb_24) (e_icmp_ge d_957_29 (by decide)))
theorem b957_32 {x1 x2 x3 : Int} {vx4 : AV} {σ : SS} (h : -2147483648 ≤ (x3 + 1) ∧ (x3 + 1) ≤ 2147483647) : ev 957 32 [qR 50, qI x1, qI x2, qI x3, vx4] [] σ = ev 957 37 [qR 50, qI x1, qI x2, qI x3, qI (x3 + 1)] [] σ :=
  Eq.trans (e_iload_n d_957_32 rfl) (Eq.trans (e_iconst d_957_33 k_1) (Eq.trans (e_iadd d_957_34 h) (e_istore d_957_35 (by decide) (Nat.le_of_ble_eq_true rfl) rfl)))
theorem b957_37 {x1 x2 x3 x4 : Int} {σ : SS} : ev 957 37 [qR 50, qI x1, qI x2, qI x3, qI x4] [] σ = if x4 < 24 then ev 957 44 [qR 50, qI x1, qI x2, qI x3, qI x4] [] σ else ev 957 72 [qR 50, qI x1, qI x2, qI x3, qI x4] [] σ :=
  Eq.trans (e_iload d_957_37 rfl) (Eq.trans (e_bipush d_957_39 kb_24) (e_icmp_ge d_957_41 (by decide)))
theorem b957_44 {x1 x2 x3 x4 : Int} {σ : SS} : ev 957 44 [qR 50, qI x1, qI x2, qI x3, qI x4] [] σ = (ev 956 0 [qR 50, qI x1, qI x3, qI x4, qU, qU] [] σ).bind (fun x => ev 957 52 [qR 50, qI x1, qI x2, qI x3, qI x4] (q_push x.1 []) x.2) :=
  Eq.trans (e_aload_n d_957_44 rfl) (Eq.trans (e_iload_n d_957_45 rfl) (Eq.trans (e_iload_n d_957_46 rfl) (Eq.trans (e_iload d_957_47 rfl) (e_callV d_957_49 ml_9_303 fit_957_956 par_956 rfl rfl sh_50 (Nat.le_of_ble_eq_true rfl) (Nat.le_of_ble_eq_true rfl) (Nat.le_of_ble_eq_true rfl) rfl (by decide) rfl))))
theorem b957_52 {x1 x2 x3 x4 y0 : Int} {σ : SS} : ev 957 52 [qR 50, qI x1, qI x2, qI x3, qI x4] [qI y0] σ = if y0 = 0 then ev 957 66 [qR 50, qI x1, qI x2, qI x3, qI x4] [] σ else ev 957 55 [qR 50, qI x1, qI x2, qI x3, qI x4] [] σ :=
  e_if_eq d_957_52 (by decide)
theorem b957_55 {x1 x2 x3 x4 : Int} {σ : SS} : ev 957 55 [qR 50, qI x1, qI x2, qI x3, qI x4] [] σ = if x2 = 0 then ev 957 59 [qR 50, qI x1, qI x2, qI x3, qI x4] [] σ else ev 957 63 [qR 50, qI x1, qI x2, qI x3, qI x4] [] σ :=
  Eq.trans (e_iload_n d_957_55 rfl) (e_if_ne d_957_56 (by decide))
theorem b957_59 {x1 x2 x3 x4 : Int} {σ : SS} : ev 957 59 [qR 50, qI x1, qI x2, qI x3, qI x4] [] σ = ev 957 65 [qR 50, qI x1, qI x2, qI x3, qI x4] [qI x3] σ :=
  Eq.trans (e_iload_n d_957_59 rfl) (e_goto d_957_60 (by decide))
theorem b957_63 {x1 x2 x3 x4 : Int} {σ : SS} : ev 957 63 [qR 50, qI x1, qI x2, qI x3, qI x4] [] σ = ev 957 65 [qR 50, qI x1, qI x2, qI x3, qI x4] [qI x4] σ :=
  e_iload d_957_63 rfl
theorem b957_65 {x1 x2 x3 x4 y0 : Int} {σ : SS} : ev 957 65 [qR 50, qI x1, qI x2, qI x3, qI x4] [qI y0] σ = some (some (qI y0), σ) :=
  e_iret d_957_65 (q_okrI rfl)
theorem b957_66 {x1 x2 x3 x4 : Int} {σ : SS} (h : -2147483648 ≤ (x4 + 1) ∧ (x4 + 1) ≤ 2147483647) : ev 957 66 [qR 50, qI x1, qI x2, qI x3, qI x4] [] σ = ev 957 37 [qR 50, qI x1, qI x2, qI x3, qI (x4 + 1)] [] σ :=
  Eq.trans (e_iinc d_957_66 (by decide) rfl h rfl) (e_goto d_957_69 (by decide))
theorem b957_72 {x1 x2 x3 x4 : Int} {σ : SS} (h : -2147483648 ≤ (x3 + 1) ∧ (x3 + 1) ≤ 2147483647) : ev 957 72 [qR 50, qI x1, qI x2, qI x3, qI x4] [] σ = ev 957 26 [qR 50, qI x1, qI x2, qI (x3 + 1), qI x4] [] σ :=
  Eq.trans (e_iinc d_957_72 (by decide) rfl h rfl) (e_goto d_957_75 (by decide))
theorem b957_78 {x1 x2 x3 : Int} {vx4 : AV} {σ : SS} : ev 957 78 [qR 50, qI x1, qI x2, qI x3, vx4] [] σ = some (some (qI (-1)), σ) :=
  Eq.trans (e_iconst d_957_78 k_m1) (e_iret d_957_79 (q_okrI rfl))
theorem b955_0 {x1 x2 x3 : Int} {σ : SS} : ev 955 0 [qR 50, qI x1, qI x2, qI x3, qU] [] σ = (ev 922 0 [qR 50, qI x1] [] σ).bind (fun x => ev 955 5 [qR 50, qI x1, qI x2, qI x3, qU] (q_push x.1 []) x.2) :=
  Eq.trans (e_aload_n d_955_0 rfl) (Eq.trans (e_iload_n d_955_1 rfl) (e_callV d_955_2 ml_9_235 fit_955_922 par_922 rfl rfl sh_50 (Nat.le_of_ble_eq_true rfl) (Nat.le_of_ble_eq_true rfl) (Nat.le_of_ble_eq_true rfl) rfl (by decide) rfl))
theorem b955_5 {x1 x2 x3 y0 : Int} {σ : SS} : ev 955 5 [qR 50, qI x1, qI x2, qI x3, qU] [qI y0] σ = if y0 = 0 then ev 955 8 [qR 50, qI x1, qI x2, qI x3, qU] [] σ else ev 955 11 [qR 50, qI x1, qI x2, qI x3, qU] [] σ :=
  e_if_ne d_955_5 (by decide)
theorem b955_8 {x1 x2 x3 : Int} {σ : SS} : ev 955 8 [qR 50, qI x1, qI x2, qI x3, qU] [] σ = some (some (qI (-1000000001)), σ) :=
  Eq.trans (e_ldc d_955_8 ld_9_231 k_m1000000001) (e_iret d_955_10 (q_okrI rfl))
theorem b955_11 {x1 x2 x3 : Int} {σ : SS} : ev 955 11 [qR 50, qI x1, qI x2, qI x3, qU] [] σ = (ev 900 0 [qL x2, qU, qL 0, qU, qL 23, qU] [] σ).bind (fun x => ev 955 20 [qR 50, qI x1, qI x2, qI x3, qU] (q_push x.1 []) x.2) :=
  Eq.trans (e_iload_n d_955_11 rfl) (Eq.trans (e_i2l d_955_12) (Eq.trans (e_lconst d_955_13 rfl) (Eq.trans (e_ldc2 d_955_14 ll_9_298.1 ll_9_298.2) (e_callS d_955_17 (by decide) ml_9_83 fit_955_900 par_900 rfl rfl (Nat.le_of_ble_eq_true rfl) (Nat.le_of_ble_eq_true rfl) (Nat.le_of_ble_eq_true rfl) rfl (by decide) rfl))))
theorem b955_20 {x1 x2 x3 y0 : Int} {σ : SS} : ev 955 20 [qR 50, qI x1, qI x2, qI x3, qU] [qI y0] σ = if y0 = 0 then ev 955 35 [qR 50, qI x1, qI x2, qI x3, qU] [] σ else ev 955 23 [qR 50, qI x1, qI x2, qI x3, qU] [] σ :=
  e_if_eq d_955_20 (by decide)
theorem b955_23 {x1 x2 x3 : Int} {σ : SS} : ev 955 23 [qR 50, qI x1, qI x2, qI x3, qU] [] σ = (ev 900 0 [qL x3, qU, qL 0, qU, qL 23, qU] [] σ).bind (fun x => ev 955 32 [qR 50, qI x1, qI x2, qI x3, qU] (q_push x.1 []) x.2) :=
  Eq.trans (e_iload_n d_955_23 rfl) (Eq.trans (e_i2l d_955_24) (Eq.trans (e_lconst d_955_25 rfl) (Eq.trans (e_ldc2 d_955_26 ll_9_298.1 ll_9_298.2) (e_callS d_955_29 (by decide) ml_9_83 fit_955_900 par_900 rfl rfl (Nat.le_of_ble_eq_true rfl) (Nat.le_of_ble_eq_true rfl) (Nat.le_of_ble_eq_true rfl) rfl (by decide) rfl))))
theorem b955_32 {x1 x2 x3 y0 : Int} {σ : SS} : ev 955 32 [qR 50, qI x1, qI x2, qI x3, qU] [qI y0] σ = if y0 = 0 then ev 955 35 [qR 50, qI x1, qI x2, qI x3, qU] [] σ else ev 955 38 [qR 50, qI x1, qI x2, qI x3, qU] [] σ :=
  e_if_ne d_955_32 (by decide)
theorem b955_35 {x1 x2 x3 : Int} {σ : SS} : ev 955 35 [qR 50, qI x1, qI x2, qI x3, qU] [] σ = some (some (qI (-1000000002)), σ) :=
  Eq.trans (e_ldc d_955_35 ld_9_87 k_m1000000002) (e_iret d_955_37 (q_okrI rfl))
theorem b955_38 {x1 x2 x3 : Int} {σ : SS} : ev 955 38 [qR 50, qI x1, qI x2, qI x3, qU] [] σ = ev 955 41 [qR 50, qI x1, qI x2, qI x3, qI 0] [] σ :=
  Eq.trans (e_iconst d_955_38 k_0) (e_istore d_955_39 (by decide) (Nat.le_of_ble_eq_true rfl) rfl)
theorem b955_41 {x1 x2 x3 x4 : Int} {σ : SS} : ev 955 41 [qR 50, qI x1, qI x2, qI x3, qI x4] [] σ = if 5 < x4 then ev 955 98 [qR 50, qI x1, qI x2, qI x3, qI x4] [] σ else ev 955 47 [qR 50, qI x1, qI x2, qI x3, qI x4] [] σ :=
  Eq.trans (e_iload d_955_41 rfl) (Eq.trans (e_iconst d_955_43 k_5) (e_icmp_gt d_955_44 (by decide)))
theorem b955_47 {x1 x2 x3 x4 : Int} {σ : SS} : ev 955 47 [qR 50, qI x1, qI x2, qI x3, qI x4] [] σ = (ev 923 0 [qR 50, qI x1, qI x2, qI x4, qU] [] σ).bind (fun x => ev 955 56 [qR 50, qI x1, qI x2, qI x3, qI x4] (q_push x.1 [qR 50]) x.2) :=
  Eq.trans (e_aload_n d_955_47 rfl) (Eq.trans (e_aload_n d_955_48 rfl) (Eq.trans (e_iload_n d_955_49 rfl) (Eq.trans (e_iload_n d_955_50 rfl) (Eq.trans (e_iload d_955_51 rfl) (e_callV d_955_53 ml_9_209 fit_955_923 par_923 rfl rfl sh_50 (Nat.le_of_ble_eq_true rfl) (Nat.le_of_ble_eq_true rfl) (Nat.le_of_ble_eq_true rfl) rfl (by decide) rfl)))))
theorem b955_56 {x1 x2 x3 x4 y0 : Int} {σ : SS} : ev 955 56 [qR 50, qI x1, qI x2, qI x3, qI x4] [qI y0, qR 50] σ = (ev 927 0 [qR 50, qI y0, qI (σ 53 0)] [] σ).bind (fun x => ev 955 65 [qR 50, qI x1, qI x2, qI x3, qI x4] (q_push x.1 []) x.2) :=
  Eq.trans (e_aload_n d_955_56 rfl) (Eq.trans (e_getR d_955_57 fl_9_17 sh_50 rfl) (Eq.trans (e_iconst d_955_60 k_0) (Eq.trans (e_iald d_955_61 sh_53 (by decide)) (e_callV d_955_62 ml_9_244 fit_955_927 par_927 rfl rfl sh_50 (Nat.le_of_ble_eq_true rfl) (Nat.le_of_ble_eq_true rfl) (Nat.le_of_ble_eq_true rfl) rfl (by decide) rfl))))
theorem b955_65 {x1 x2 x3 x4 y0 : Int} {σ : SS} : ev 955 65 [qR 50, qI x1, qI x2, qI x3, qI x4] [qI y0] σ = if y0 = 0 then ev 955 92 [qR 50, qI x1, qI x2, qI x3, qI x4] [] σ else ev 955 68 [qR 50, qI x1, qI x2, qI x3, qI x4] [] σ :=
  e_if_eq d_955_65 (by decide)
theorem b955_68 {x1 x2 x3 x4 : Int} {σ : SS} : ev 955 68 [qR 50, qI x1, qI x2, qI x3, qI x4] [] σ = (ev 923 0 [qR 50, qI x1, qI x3, qI x4, qU] [] σ).bind (fun x => ev 955 77 [qR 50, qI x1, qI x2, qI x3, qI x4] (q_push x.1 [qR 50]) x.2) :=
  Eq.trans (e_aload_n d_955_68 rfl) (Eq.trans (e_aload_n d_955_69 rfl) (Eq.trans (e_iload_n d_955_70 rfl) (Eq.trans (e_iload_n d_955_71 rfl) (Eq.trans (e_iload d_955_72 rfl) (e_callV d_955_74 ml_9_209 fit_955_923 par_923 rfl rfl sh_50 (Nat.le_of_ble_eq_true rfl) (Nat.le_of_ble_eq_true rfl) (Nat.le_of_ble_eq_true rfl) rfl (by decide) rfl)))))
theorem b955_77 {x1 x2 x3 x4 y0 : Int} {σ : SS} : ev 955 77 [qR 50, qI x1, qI x2, qI x3, qI x4] [qI y0, qR 50] σ = (ev 927 0 [qR 50, qI y0, qI (σ 53 0)] [] σ).bind (fun x => ev 955 86 [qR 50, qI x1, qI x2, qI x3, qI x4] (q_push x.1 []) x.2) :=
  Eq.trans (e_aload_n d_955_77 rfl) (Eq.trans (e_getR d_955_78 fl_9_17 sh_50 rfl) (Eq.trans (e_iconst d_955_81 k_0) (Eq.trans (e_iald d_955_82 sh_53 (by decide)) (e_callV d_955_83 ml_9_244 fit_955_927 par_927 rfl rfl sh_50 (Nat.le_of_ble_eq_true rfl) (Nat.le_of_ble_eq_true rfl) (Nat.le_of_ble_eq_true rfl) rfl (by decide) rfl))))
theorem b955_86 {x1 x2 x3 x4 y0 : Int} {σ : SS} : ev 955 86 [qR 50, qI x1, qI x2, qI x3, qI x4] [qI y0] σ = if y0 = 0 then ev 955 92 [qR 50, qI x1, qI x2, qI x3, qI x4] [] σ else ev 955 89 [qR 50, qI x1, qI x2, qI x3, qI x4] [] σ :=
  e_if_eq d_955_86 (by decide)
theorem b955_89 {x1 x2 x3 x4 : Int} {σ : SS} : ev 955 89 [qR 50, qI x1, qI x2, qI x3, qI x4] [] σ = some (some (qI x4), σ) :=
  Eq.trans (e_iload d_955_89 rfl) (e_iret d_955_91 (q_okrI rfl))
theorem b955_92 {x1 x2 x3 x4 : Int} {σ : SS} (h : -2147483648 ≤ (x4 + 1) ∧ (x4 + 1) ≤ 2147483647) : ev 955 92 [qR 50, qI x1, qI x2, qI x3, qI x4] [] σ = ev 955 41 [qR 50, qI x1, qI x2, qI x3, qI (x4 + 1)] [] σ :=
  Eq.trans (e_iinc d_955_92 (by decide) rfl h rfl) (e_goto d_955_95 (by decide))
theorem b955_98 {x1 x2 x3 x4 : Int} {σ : SS} : ev 955 98 [qR 50, qI x1, qI x2, qI x3, qI x4] [] σ = some (some (qI (-1)), σ) :=
  Eq.trans (e_iconst d_955_98 k_m1) (e_iret d_955_99 (q_okrI rfl))
theorem b959_0 {x1 x2 : Int} {σ : SS} : ev 959 0 [qR 50, qI x1, qI x2, qU, qU] [] σ = (ev 922 0 [qR 50, qI x1] [] σ).bind (fun x => ev 959 5 [qR 50, qI x1, qI x2, qU, qU] (q_push x.1 []) x.2) :=
  Eq.trans (e_aload_n d_959_0 rfl) (Eq.trans (e_iload_n d_959_1 rfl) (e_callV d_959_2 ml_9_235 fit_959_922 par_922 rfl rfl sh_50 (Nat.le_of_ble_eq_true rfl) (Nat.le_of_ble_eq_true rfl) (Nat.le_of_ble_eq_true rfl) rfl (by decide) rfl))
theorem b959_5 {x1 x2 y0 : Int} {σ : SS} : ev 959 5 [qR 50, qI x1, qI x2, qU, qU] [qI y0] σ = if y0 = 0 then ev 959 21 [qR 50, qI x1, qI x2, qU, qU] [] σ else ev 959 8 [qR 50, qI x1, qI x2, qU, qU] [] σ :=
  e_if_eq d_959_5 (by decide)
theorem b959_8 {x1 x2 : Int} {σ : SS} : ev 959 8 [qR 50, qI x1, qI x2, qU, qU] [] σ = (ev 922 0 [qR 50, qI x2] [] σ).bind (fun x => ev 959 13 [qR 50, qI x1, qI x2, qU, qU] (q_push x.1 []) x.2) :=
  Eq.trans (e_aload_n d_959_8 rfl) (Eq.trans (e_iload_n d_959_9 rfl) (e_callV d_959_10 ml_9_235 fit_959_922 par_922 rfl rfl sh_50 (Nat.le_of_ble_eq_true rfl) (Nat.le_of_ble_eq_true rfl) (Nat.le_of_ble_eq_true rfl) rfl (by decide) rfl))
theorem b959_13 {x1 x2 y0 : Int} {σ : SS} : ev 959 13 [qR 50, qI x1, qI x2, qU, qU] [qI y0] σ = if y0 = 0 then ev 959 21 [qR 50, qI x1, qI x2, qU, qU] [] σ else ev 959 16 [qR 50, qI x1, qI x2, qU, qU] [] σ :=
  e_if_eq d_959_13 (by decide)
theorem b959_16 {x1 x2 : Int} {σ : SS} : ev 959 16 [qR 50, qI x1, qI x2, qU, qU] [] σ = if x1 = x2 then ev 959 21 [qR 50, qI x1, qI x2, qU, qU] [] σ else ev 959 24 [qR 50, qI x1, qI x2, qU, qU] [] σ :=
  Eq.trans (e_iload_n d_959_16 rfl) (Eq.trans (e_iload_n d_959_17 rfl) (e_icmp_ne d_959_18 (by decide)))
theorem b959_21 {x1 x2 : Int} {σ : SS} : ev 959 21 [qR 50, qI x1, qI x2, qU, qU] [] σ = some (some (qI (-1000000001)), σ) :=
  Eq.trans (e_ldc d_959_21 ld_9_231 k_m1000000001) (e_iret d_959_23 (q_okrI rfl))
theorem b959_24 {x1 x2 : Int} {σ : SS} : ev 959 24 [qR 50, qI x1, qI x2, qU, qU] [] σ = ev 959 29 [qR 50, qI x1, qI x2, qI 0, qI 0] [] σ :=
  Eq.trans (e_iconst d_959_24 k_0) (Eq.trans (e_istore_n d_959_25 (by decide) (Nat.le_of_ble_eq_true rfl) rfl) (Eq.trans (e_iconst d_959_26 k_0) (e_istore d_959_27 (by decide) (Nat.le_of_ble_eq_true rfl) rfl)))
theorem b959_29 {x1 x2 x3 x4 : Int} {σ : SS} : ev 959 29 [qR 50, qI x1, qI x2, qI x3, qI x4] [] σ = if x4 < 24 then ev 959 36 [qR 50, qI x1, qI x2, qI x3, qI x4] [] σ else ev 959 81 [qR 50, qI x1, qI x2, qI x3, qI x4] [] σ :=
  Eq.trans (e_iload d_959_29 rfl) (Eq.trans (e_bipush d_959_31 kb_24) (e_icmp_ge d_959_33 (by decide)))
theorem b959_36 {x1 x2 x3 x4 : Int} {σ : SS} : ev 959 36 [qR 50, qI x1, qI x2, qI x3, qI x4] [] σ = (ev 928 0 [qR 50] [] σ).bind (fun x => ev 959 45 [qR 50, qI x1, qI x2, qI x3, qI x4] (q_push x.1 [qI x4, qI x1, qR 50, qI x3]) x.2) :=
  Eq.trans (e_iload_n d_959_36 rfl) (Eq.trans (e_aload_n d_959_37 rfl) (Eq.trans (e_iload_n d_959_38 rfl) (Eq.trans (e_iload d_959_39 rfl) (Eq.trans (e_aload_n d_959_41 rfl) (e_callV d_959_42 ml_9_220 fit_959_928 par_928 rfl rfl sh_50 (Nat.le_of_ble_eq_true rfl) (Nat.le_of_ble_eq_true rfl) (Nat.le_of_ble_eq_true rfl) rfl (by decide) rfl)))))
theorem b959_45 {x1 x2 x3 x4 y0 y1 y2 y4 : Int} {σ : SS} : ev 959 45 [qR 50, qI x1, qI x2, qI x3, qI x4] [qI y0, qI y1, qI y2, qR 50, qI y4] σ = (ev 958 0 [qR 50, qI y2, qI y1, qI y0] [] σ).bind (fun x => ev 959 48 [qR 50, qI x1, qI x2, qI x3, qI x4] (q_push x.1 [qI y4]) x.2) :=
  e_callV d_959_45 ml_9_307 fit_959_958 par_958 rfl rfl sh_50 (Nat.le_of_ble_eq_true rfl) (Nat.le_of_ble_eq_true rfl) (Nat.le_of_ble_eq_true rfl) rfl (by decide) rfl
theorem b959_48 {x1 x2 x3 x4 y0 y1 : Int} {σ : SS} : ev 959 48 [qR 50, qI x1, qI x2, qI x3, qI x4] [qI y0, qI y1] σ = (ev 928 0 [qR 50] [] σ).bind (fun x => ev 959 56 [qR 50, qI x1, qI x2, qI x3, qI x4] (q_push x.1 [qI x4, qI x2, qR 50, qI y0, qI y1]) x.2) :=
  Eq.trans (e_aload_n d_959_48 rfl) (Eq.trans (e_iload_n d_959_49 rfl) (Eq.trans (e_iload d_959_50 rfl) (Eq.trans (e_aload_n d_959_52 rfl) (e_callV d_959_53 ml_9_220 fit_959_928 par_928 rfl rfl sh_50 (Nat.le_of_ble_eq_true rfl) (Nat.le_of_ble_eq_true rfl) (Nat.le_of_ble_eq_true rfl) rfl (by decide) rfl))))
theorem b959_56 {x1 x2 x3 x4 y0 y1 y2 y4 y5 : Int} {σ : SS} : ev 959 56 [qR 50, qI x1, qI x2, qI x3, qI x4] [qI y0, qI y1, qI y2, qR 50, qI y4, qI y5] σ = (ev 958 0 [qR 50, qI y2, qI y1, qI y0] [] σ).bind (fun x => ev 959 59 [qR 50, qI x1, qI x2, qI x3, qI x4] (q_push x.1 [qI y4, qI y5]) x.2) :=
  e_callV d_959_56 ml_9_307 fit_959_958 par_958 rfl rfl sh_50 (Nat.le_of_ble_eq_true rfl) (Nat.le_of_ble_eq_true rfl) (Nat.le_of_ble_eq_true rfl) rfl (by decide) rfl
theorem b959_59 {x1 x2 x3 x4 y0 y1 y2 : Int} {σ : SS} : ev 959 59 [qR 50, qI x1, qI x2, qI x3, qI x4] [qI y0, qI y1, qI y2] σ = if y1 = y0 then ev 959 66 [qR 50, qI x1, qI x2, qI x3, qI x4] [qI y2] σ else ev 959 62 [qR 50, qI x1, qI x2, qI x3, qI x4] [qI y2] σ :=
  e_icmp_eq d_959_59 (by decide)
theorem b959_62 {x1 x2 x3 x4 y0 : Int} {σ : SS} : ev 959 62 [qR 50, qI x1, qI x2, qI x3, qI x4] [qI y0] σ = ev 959 67 [qR 50, qI x1, qI x2, qI x3, qI x4] [qI 1, qI y0] σ :=
  Eq.trans (e_iconst d_959_62 k_1) (e_goto d_959_63 (by decide))
theorem b959_66 {x1 x2 x3 x4 y0 : Int} {σ : SS} : ev 959 66 [qR 50, qI x1, qI x2, qI x3, qI x4] [qI y0] σ = ev 959 67 [qR 50, qI x1, qI x2, qI x3, qI x4] [qI 0, qI y0] σ :=
  e_iconst d_959_66 k_0
theorem b959_67 {x1 x2 x3 x4 y0 y1 : Int} {σ : SS} : ev 959 67 [qR 50, qI x1, qI x2, qI x3, qI x4] [qI y0, qI y1] σ = (ev 901 0 [qI y0] [] σ).bind (fun x => ev 959 70 [qR 50, qI x1, qI x2, qI x3, qI x4] (q_push x.1 [qI y1]) x.2) :=
  e_callS d_959_67 (by decide) ml_9_223 fit_959_901 par_901 rfl rfl (Nat.le_of_ble_eq_true rfl) (Nat.le_of_ble_eq_true rfl) (Nat.le_of_ble_eq_true rfl) rfl (by decide) rfl
theorem b959_70 {x1 x2 x3 x4 y0 y1 : Int} {σ : SS} (h : -2147483648 ≤ (x4 + 1) ∧ (x4 + 1) ≤ 2147483647) : ev 959 70 [qR 50, qI x1, qI x2, qI x3, qI x4] [qI y0, qI y1] σ = ev 959 29 [qR 50, qI x1, qI x2, qI (q_or y1 (q_shl y0 x4)), qI (x4 + 1)] [] σ :=
  Eq.trans (e_iload d_959_70 rfl) (Eq.trans (e_ishl d_959_72) (Eq.trans (e_ior d_959_73) (Eq.trans (e_istore_n d_959_74 (by decide) (Nat.le_of_ble_eq_true rfl) rfl) (Eq.trans (e_iinc d_959_75 (by decide) rfl h rfl) (e_goto d_959_78 (by decide))))))
theorem b959_81 {x1 x2 x3 x4 : Int} {σ : SS} : ev 959 81 [qR 50, qI x1, qI x2, qI x3, qI x4] [] σ = some (some (qI x3), σ) :=
  Eq.trans (e_iload_n d_959_81 rfl) (e_iret d_959_82 (q_okrI rfl))
theorem b960_0 {x1 x2 x3 : Int} {σ : SS} : ev 960 0 [qR 50, qI x1, qI x2, qI x3, qU] [] σ = (ev 922 0 [qR 50, qI x1] [] σ).bind (fun x => ev 960 5 [qR 50, qI x1, qI x2, qI x3, qU] (q_push x.1 []) x.2) :=
  Eq.trans (e_aload_n d_960_0 rfl) (Eq.trans (e_iload_n d_960_1 rfl) (e_callV d_960_2 ml_9_235 fit_960_922 par_922 rfl rfl sh_50 (Nat.le_of_ble_eq_true rfl) (Nat.le_of_ble_eq_true rfl) (Nat.le_of_ble_eq_true rfl) rfl (by decide) rfl))
theorem b960_5 {x1 x2 x3 y0 : Int} {σ : SS} : ev 960 5 [qR 50, qI x1, qI x2, qI x3, qU] [qI y0] σ = if y0 = 0 then ev 960 21 [qR 50, qI x1, qI x2, qI x3, qU] [] σ else ev 960 8 [qR 50, qI x1, qI x2, qI x3, qU] [] σ :=
  e_if_eq d_960_5 (by decide)
theorem b960_8 {x1 x2 x3 : Int} {σ : SS} : ev 960 8 [qR 50, qI x1, qI x2, qI x3, qU] [] σ = (ev 922 0 [qR 50, qI x2] [] σ).bind (fun x => ev 960 13 [qR 50, qI x1, qI x2, qI x3, qU] (q_push x.1 []) x.2) :=
  Eq.trans (e_aload_n d_960_8 rfl) (Eq.trans (e_iload_n d_960_9 rfl) (e_callV d_960_10 ml_9_235 fit_960_922 par_922 rfl rfl sh_50 (Nat.le_of_ble_eq_true rfl) (Nat.le_of_ble_eq_true rfl) (Nat.le_of_ble_eq_true rfl) rfl (by decide) rfl))
theorem b960_13 {x1 x2 x3 y0 : Int} {σ : SS} : ev 960 13 [qR 50, qI x1, qI x2, qI x3, qU] [qI y0] σ = if y0 = 0 then ev 960 21 [qR 50, qI x1, qI x2, qI x3, qU] [] σ else ev 960 16 [qR 50, qI x1, qI x2, qI x3, qU] [] σ :=
  e_if_eq d_960_13 (by decide)
theorem b960_16 {x1 x2 x3 : Int} {σ : SS} : ev 960 16 [qR 50, qI x1, qI x2, qI x3, qU] [] σ = if x1 = x2 then ev 960 21 [qR 50, qI x1, qI x2, qI x3, qU] [] σ else ev 960 24 [qR 50, qI x1, qI x2, qI x3, qU] [] σ :=
  Eq.trans (e_iload_n d_960_16 rfl) (Eq.trans (e_iload_n d_960_17 rfl) (e_icmp_ne d_960_18 (by decide)))
theorem b960_21 {x1 x2 x3 : Int} {σ : SS} : ev 960 21 [qR 50, qI x1, qI x2, qI x3, qU] [] σ = some (some (qI (-1000000001)), σ) :=
  Eq.trans (e_ldc d_960_21 ld_9_231 k_m1000000001) (e_iret d_960_23 (q_okrI rfl))
theorem b960_24 {x1 x2 x3 : Int} {σ : SS} : ev 960 24 [qR 50, qI x1, qI x2, qI x3, qU] [] σ = (ev 900 0 [qL x3, qU, qL 0, qU, qL 23, qU] [] σ).bind (fun x => ev 960 33 [qR 50, qI x1, qI x2, qI x3, qU] (q_push x.1 []) x.2) :=
  Eq.trans (e_iload_n d_960_24 rfl) (Eq.trans (e_i2l d_960_25) (Eq.trans (e_lconst d_960_26 rfl) (Eq.trans (e_ldc2 d_960_27 ll_9_298.1 ll_9_298.2) (e_callS d_960_30 (by decide) ml_9_83 fit_960_900 par_900 rfl rfl (Nat.le_of_ble_eq_true rfl) (Nat.le_of_ble_eq_true rfl) (Nat.le_of_ble_eq_true rfl) rfl (by decide) rfl))))
theorem b960_33 {x1 x2 x3 y0 : Int} {σ : SS} : ev 960 33 [qR 50, qI x1, qI x2, qI x3, qU] [qI y0] σ = if y0 = 0 then ev 960 36 [qR 50, qI x1, qI x2, qI x3, qU] [] σ else ev 960 39 [qR 50, qI x1, qI x2, qI x3, qU] [] σ :=
  e_if_ne d_960_33 (by decide)
theorem b960_36 {x1 x2 x3 : Int} {σ : SS} : ev 960 36 [qR 50, qI x1, qI x2, qI x3, qU] [] σ = some (some (qI (-1000000002)), σ) :=
  Eq.trans (e_ldc d_960_36 ld_9_87 k_m1000000002) (e_iret d_960_38 (q_okrI rfl))
theorem b960_39 {x1 x2 x3 : Int} {σ : SS} : ev 960 39 [qR 50, qI x1, qI x2, qI x3, qU] [] σ = ev 960 42 [qR 50, qI x1, qI x2, qI x3, qI 0] [] σ :=
  Eq.trans (e_iconst d_960_39 k_0) (e_istore d_960_40 (by decide) (Nat.le_of_ble_eq_true rfl) rfl)
theorem b960_42 {x1 x2 x3 x4 : Int} {σ : SS} : ev 960 42 [qR 50, qI x1, qI x2, qI x3, qI x4] [] σ = if 9999 < x4 then ev 960 89 [qR 50, qI x1, qI x2, qI x3, qI x4] [] σ else ev 960 50 [qR 50, qI x1, qI x2, qI x3, qI x4] [] σ :=
  Eq.trans (e_iload d_960_42 rfl) (Eq.trans (e_sipush d_960_44 ks_9999) (e_icmp_gt d_960_47 (by decide)))
theorem b960_50 {x1 x2 x3 x4 : Int} {σ : SS} : ev 960 50 [qR 50, qI x1, qI x2, qI x3, qI x4] [] σ = (ev 926 0 [qR 50, qI x4] [] σ).bind (fun x => ev 960 59 [qR 50, qI x1, qI x2, qI x3, qI x4] (q_push x.1 [qI x3, qI x1, qR 50]) x.2) :=
  Eq.trans (e_aload_n d_960_50 rfl) (Eq.trans (e_iload_n d_960_51 rfl) (Eq.trans (e_iload_n d_960_52 rfl) (Eq.trans (e_aload_n d_960_53 rfl) (Eq.trans (e_iload d_960_54 rfl) (e_callV d_960_56 ml_9_216 fit_960_926 par_926 rfl rfl sh_50 (Nat.le_of_ble_eq_true rfl) (Nat.le_of_ble_eq_true rfl) (Nat.le_of_ble_eq_true rfl) rfl (by decide) rfl)))))
theorem b960_59 {x1 x2 x3 x4 y0 y1 y2 : Int} {σ : SS} : ev 960 59 [qR 50, qI x1, qI x2, qI x3, qI x4] [qI y0, qI y1, qI y2, qR 50] σ = (ev 958 0 [qR 50, qI y2, qI y1, qI y0] [] σ).bind (fun x => ev 960 62 [qR 50, qI x1, qI x2, qI x3, qI x4] (q_push x.1 []) x.2) :=
  e_callV d_960_59 ml_9_307 fit_960_958 par_958 rfl rfl sh_50 (Nat.le_of_ble_eq_true rfl) (Nat.le_of_ble_eq_true rfl) (Nat.le_of_ble_eq_true rfl) rfl (by decide) rfl
theorem b960_62 {x1 x2 x3 x4 y0 : Int} {σ : SS} : ev 960 62 [qR 50, qI x1, qI x2, qI x3, qI x4] [qI y0] σ = if y0 = 0 then ev 960 83 [qR 50, qI x1, qI x2, qI x3, qI x4] [] σ else ev 960 65 [qR 50, qI x1, qI x2, qI x3, qI x4] [] σ :=
  e_if_eq d_960_62 (by decide)
theorem b960_65 {x1 x2 x3 x4 : Int} {σ : SS} : ev 960 65 [qR 50, qI x1, qI x2, qI x3, qI x4] [] σ = (ev 926 0 [qR 50, qI x4] [] σ).bind (fun x => ev 960 74 [qR 50, qI x1, qI x2, qI x3, qI x4] (q_push x.1 [qI x3, qI x2, qR 50]) x.2) :=
  Eq.trans (e_aload_n d_960_65 rfl) (Eq.trans (e_iload_n d_960_66 rfl) (Eq.trans (e_iload_n d_960_67 rfl) (Eq.trans (e_aload_n d_960_68 rfl) (Eq.trans (e_iload d_960_69 rfl) (e_callV d_960_71 ml_9_216 fit_960_926 par_926 rfl rfl sh_50 (Nat.le_of_ble_eq_true rfl) (Nat.le_of_ble_eq_true rfl) (Nat.le_of_ble_eq_true rfl) rfl (by decide) rfl)))))
theorem b960_74 {x1 x2 x3 x4 y0 y1 y2 : Int} {σ : SS} : ev 960 74 [qR 50, qI x1, qI x2, qI x3, qI x4] [qI y0, qI y1, qI y2, qR 50] σ = (ev 958 0 [qR 50, qI y2, qI y1, qI y0] [] σ).bind (fun x => ev 960 77 [qR 50, qI x1, qI x2, qI x3, qI x4] (q_push x.1 []) x.2) :=
  e_callV d_960_74 ml_9_307 fit_960_958 par_958 rfl rfl sh_50 (Nat.le_of_ble_eq_true rfl) (Nat.le_of_ble_eq_true rfl) (Nat.le_of_ble_eq_true rfl) rfl (by decide) rfl
theorem b960_77 {x1 x2 x3 x4 y0 : Int} {σ : SS} : ev 960 77 [qR 50, qI x1, qI x2, qI x3, qI x4] [qI y0] σ = if y0 = 0 then ev 960 83 [qR 50, qI x1, qI x2, qI x3, qI x4] [] σ else ev 960 80 [qR 50, qI x1, qI x2, qI x3, qI x4] [] σ :=
  e_if_eq d_960_77 (by decide)
theorem b960_80 {x1 x2 x3 x4 : Int} {σ : SS} : ev 960 80 [qR 50, qI x1, qI x2, qI x3, qI x4] [] σ = some (some (qI x4), σ) :=
  Eq.trans (e_iload d_960_80 rfl) (e_iret d_960_82 (q_okrI rfl))
theorem b960_83 {x1 x2 x3 x4 : Int} {σ : SS} (h : -2147483648 ≤ (x4 + 1) ∧ (x4 + 1) ≤ 2147483647) : ev 960 83 [qR 50, qI x1, qI x2, qI x3, qI x4] [] σ = ev 960 42 [qR 50, qI x1, qI x2, qI x3, qI (x4 + 1)] [] σ :=
  Eq.trans (e_iinc d_960_83 (by decide) rfl h rfl) (e_goto d_960_86 (by decide))
theorem b960_89 {x1 x2 x3 x4 : Int} {σ : SS} : ev 960 89 [qR 50, qI x1, qI x2, qI x3, qI x4] [] σ = some (some (qI (-1)), σ) :=
  Eq.trans (e_iconst d_960_89 k_m1) (e_iret d_960_90 (q_okrI rfl))
theorem b963_0 {x1 x2 : Int} {σ : SS} : ev 963 0 [qR 50, qI x1, qI x2, qU, qU, qU, qU] [] σ = if x1 = 2 then ev 963 5 [qR 50, qI x1, qI x2, qU, qU, qU, qU] [] σ else ev 963 16 [qR 50, qI x1, qI x2, qU, qU, qU, qU] [] σ :=
  Eq.trans (e_iload_n d_963_0 rfl) (Eq.trans (e_iconst d_963_1 k_2) (e_icmp_ne d_963_2 (by decide)))
theorem b963_5 {x1 x2 : Int} {σ : SS} : ev 963 5 [qR 50, qI x1, qI x2, qU, qU, qU, qU] [] σ = (ev 922 0 [qR 50, qI x2] [] σ).bind (fun x => ev 963 10 [qR 50, qI x1, qI x2, qU, qU, qU, qU] (q_push x.1 []) x.2) :=
  Eq.trans (e_aload_n d_963_5 rfl) (Eq.trans (e_iload_n d_963_6 rfl) (e_callV d_963_7 ml_9_235 fit_963_922 par_922 rfl rfl sh_50 (Nat.le_of_ble_eq_true rfl) (Nat.le_of_ble_eq_true rfl) (Nat.le_of_ble_eq_true rfl) rfl (by decide) rfl))
theorem b963_10 {x1 x2 y0 : Int} {σ : SS} : ev 963 10 [qR 50, qI x1, qI x2, qU, qU, qU, qU] [qI y0] σ = if y0 = 0 then ev 963 13 [qR 50, qI x1, qI x2, qU, qU, qU, qU] [] σ else ev 963 16 [qR 50, qI x1, qI x2, qU, qU, qU, qU] [] σ :=
  e_if_ne d_963_10 (by decide)
theorem b963_13 {x1 x2 : Int} {σ : SS} : ev 963 13 [qR 50, qI x1, qI x2, qU, qU, qU, qU] [] σ = some (some (qI (-1000000001)), σ) :=
  Eq.trans (e_ldc d_963_13 ld_9_231 k_m1000000001) (e_iret d_963_15 (q_okrI rfl))
theorem b963_16 {x1 x2 : Int} {σ : SS} : ev 963 16 [qR 50, qI x1, qI x2, qU, qU, qU, qU] [] σ = (ev 900 0 [qL x1, qU, qL 0, qU, qL 2, qU] [] σ).bind (fun x => ev 963 25 [qR 50, qI x1, qI x2, qU, qU, qU, qU] (q_push x.1 []) x.2) :=
  Eq.trans (e_iload_n d_963_16 rfl) (Eq.trans (e_i2l d_963_17) (Eq.trans (e_lconst d_963_18 rfl) (Eq.trans (e_ldc2 d_963_19 ll_9_293.1 ll_9_293.2) (e_callS d_963_22 (by decide) ml_9_83 fit_963_900 par_900 rfl rfl (Nat.le_of_ble_eq_true rfl) (Nat.le_of_ble_eq_true rfl) (Nat.le_of_ble_eq_true rfl) rfl (by decide) rfl))))
theorem b963_25 {x1 x2 y0 : Int} {σ : SS} : ev 963 25 [qR 50, qI x1, qI x2, qU, qU, qU, qU] [qI y0] σ = if y0 = 0 then ev 963 28 [qR 50, qI x1, qI x2, qU, qU, qU, qU] [] σ else ev 963 31 [qR 50, qI x1, qI x2, qU, qU, qU, qU] [] σ :=
  e_if_ne d_963_25 (by decide)
theorem b963_28 {x1 x2 : Int} {σ : SS} : ev 963 28 [qR 50, qI x1, qI x2, qU, qU, qU, qU] [] σ = some (some (qI (-1000000002)), σ) :=
  Eq.trans (e_ldc d_963_28 ld_9_87 k_m1000000002) (e_iret d_963_30 (q_okrI rfl))
theorem b963_31 {x1 x2 : Int} {σ : SS} : ev 963 31 [qR 50, qI x1, qI x2, qU, qU, qU, qU] [] σ = ev 963 33 [qR 50, qI x1, qI x2, qI 0, qU, qU, qU] [] σ :=
  Eq.trans (e_iconst d_963_31 k_0) (e_istore_n d_963_32 (by decide) (Nat.le_of_ble_eq_true rfl) rfl)
theorem b963_33 {x1 x2 x3 : Int} {σ : SS} : ev 963 33 [qR 50, qI x1, qI x2, qI x3, qU, qU, qU] [] σ = if x3 < 6 then ev 963 39 [qR 50, qI x1, qI x2, qI x3, qU, qU, qU] [] σ else ev 963 52 [qR 50, qI x1, qI x2, qI x3, qU, qU, qU] [] σ :=
  Eq.trans (e_iload_n d_963_33 rfl) (Eq.trans (e_bipush d_963_34 kb_6) (e_icmp_ge d_963_36 (by decide)))
theorem b963_39 {x1 x2 x3 : Int} {σ : SS} (h : (0 ≤ x3 ∧ x3 < 6) ∧ (-2147483648 ≤ (x3 + 1) ∧ (x3 + 1) ≤ 2147483647)) : ev 963 39 [qR 50, qI x1, qI x2, qI x3, qU, qU, qU] [] σ = ev 963 33 [qR 50, qI x1, qI x2, qI (x3 + 1), qU, qU, qU] [] (q_put σ 65 x3.toNat 0) :=
  Eq.trans (e_aload_n d_963_39 rfl) (Eq.trans (e_getR d_963_40 fl_9_57 sh_50 rfl) (Eq.trans (e_iload_n d_963_43 rfl) (Eq.trans (e_iconst d_963_44 k_0) (Eq.trans (e_iast d_963_45 sh_65 h.1) (Eq.trans (e_iinc d_963_46 (by decide) rfl h.2 rfl) (e_goto d_963_49 (by decide)))))))
theorem b963_52 {x1 x2 x3 : Int} {σ : SS} : ev 963 52 [qR 50, qI x1, qI x2, qI x3, qU, qU, qU] [] σ = ev 963 57 [qR 50, qI x1, qI x2, qI 0, qI 1, qU, qU] [] σ :=
  Eq.trans (e_iconst d_963_52 k_0) (Eq.trans (e_istore_n d_963_53 (by decide) (Nat.le_of_ble_eq_true rfl) rfl) (Eq.trans (e_iconst d_963_54 k_1) (e_istore d_963_55 (by decide) (Nat.le_of_ble_eq_true rfl) rfl)))
theorem b963_57 {x1 x2 x3 x4 : Int} {vx5 vx6 : AV} {σ : SS} : ev 963 57 [qR 50, qI x1, qI x2, qI x3, qI x4, vx5, vx6] [] σ = if x4 = 0 then ev 963 142 [qR 50, qI x1, qI x2, qI x3, qI x4, vx5, vx6] [] σ else ev 963 62 [qR 50, qI x1, qI x2, qI x3, qI x4, vx5, vx6] [] σ :=
  Eq.trans (e_iload d_963_57 rfl) (e_if_eq d_963_59 (by decide))
theorem b963_62 {x1 x2 x3 x4 : Int} {vx5 vx6 : AV} {σ : SS} : ev 963 62 [qR 50, qI x1, qI x2, qI x3, qI x4, vx5, vx6] [] σ = if x3 < 30 then ev 963 68 [qR 50, qI x1, qI x2, qI x3, qI x4, vx5, vx6] [] σ else ev 963 142 [qR 50, qI x1, qI x2, qI x3, qI x4, vx5, vx6] [] σ :=
  Eq.trans (e_iload_n d_963_62 rfl) (Eq.trans (e_bipush d_963_63 kb_30) (e_icmp_ge d_963_65 (by decide)))
theorem b963_68 {x1 x2 x3 x4 : Int} {vx5 vx6 : AV} {σ : SS} : ev 963 68 [qR 50, qI x1, qI x2, qI x3, qI x4, vx5, vx6] [] σ = ev 963 74 [qR 50, qI x1, qI x2, qI x3, qI 0, qI 0, vx6] [] σ :=
  Eq.trans (e_iconst d_963_68 k_0) (Eq.trans (e_istore d_963_69 (by decide) (Nat.le_of_ble_eq_true rfl) rfl) (Eq.trans (e_iconst d_963_71 k_0) (e_istore d_963_72 (by decide) (Nat.le_of_ble_eq_true rfl) rfl)))
theorem b963_74 {x1 x2 x3 x4 x5 : Int} {vx6 : AV} {σ : SS} : ev 963 74 [qR 50, qI x1, qI x2, qI x3, qI x4, qI x5, vx6] [] σ = if x5 < (σ 50 14) then ev 963 83 [qR 50, qI x1, qI x2, qI x3, qI x4, qI x5, vx6] [] σ else ev 963 131 [qR 50, qI x1, qI x2, qI x3, qI x4, qI x5, vx6] [] σ :=
  Eq.trans (e_iload d_963_74 rfl) (Eq.trans (e_aload_n d_963_76 rfl) (Eq.trans (e_getI d_963_77 fl_9_191 sh_50 rfl) (e_icmp_ge d_963_80 (by decide))))
theorem b963_83 {x1 x2 x3 x4 x5 : Int} {vx6 : AV} {σ : SS} : ev 963 83 [qR 50, qI x1, qI x2, qI x3, qI x4, qI x5, vx6] [] σ = (ev 961 0 [qR 50, qU, qU, qU] [] σ).bind (fun x => ev 963 87 [qR 50, qI x1, qI x2, qI x3, qI x4, qI x5, vx6] (q_push x.1 []) x.2) :=
  Eq.trans (e_aload_n d_963_83 rfl) (e_callV d_963_84 ml_9_310 fit_963_961 par_961 rfl rfl sh_50 (Nat.le_of_ble_eq_true rfl) (Nat.le_of_ble_eq_true rfl) (Nat.le_of_ble_eq_true rfl) rfl (by decide) rfl)
theorem b963_87 {x1 x2 x3 x4 x5 y0 : Int} {vx6 : AV} {σ : SS} : ev 963 87 [qR 50, qI x1, qI x2, qI x3, qI x4, qI x5, vx6] [qI y0] σ = if y0 = x5 then ev 963 105 [qR 50, qI x1, qI x2, qI x3, qI x4, qI x5, vx6] [] σ else ev 963 92 [qR 50, qI x1, qI x2, qI x3, qI x4, qI x5, vx6] [] σ :=
  Eq.trans (e_iload d_963_87 rfl) (e_icmp_eq d_963_89 (by decide))
theorem b963_92 {x1 x2 x3 x4 x5 : Int} {vx6 : AV} {σ : SS} : ev 963 92 [qR 50, qI x1, qI x2, qI x3, qI x4, qI x5, vx6] [] σ = (ev 962 0 [qR 50, qI x5, qU, qU] [] σ).bind (fun x => ev 963 98 [qR 50, qI x1, qI x2, qI x3, qI x4, qI x5, vx6] (q_push x.1 []) x.2) :=
  Eq.trans (e_aload_n d_963_92 rfl) (Eq.trans (e_iload d_963_93 rfl) (e_callV d_963_95 ml_9_313 fit_963_962 par_962 rfl rfl sh_50 (Nat.le_of_ble_eq_true rfl) (Nat.le_of_ble_eq_true rfl) (Nat.le_of_ble_eq_true rfl) rfl (by decide) rfl))
theorem b963_98 {x1 x2 x3 x4 x5 y0 : Int} {vx6 : AV} {σ : SS} : ev 963 98 [qR 50, qI x1, qI x2, qI x3, qI x4, qI x5, vx6] [qI y0] σ = if y0 = 0 then ev 963 105 [qR 50, qI x1, qI x2, qI x3, qI x4, qI x5, vx6] [] σ else ev 963 101 [qR 50, qI x1, qI x2, qI x3, qI x4, qI x5, vx6] [] σ :=
  e_if_eq d_963_98 (by decide)
theorem b963_101 {x1 x2 x3 x4 x5 : Int} {vx6 : AV} {σ : SS} : ev 963 101 [qR 50, qI x1, qI x2, qI x3, qI x4, qI x5, vx6] [] σ = ev 963 106 [qR 50, qI x1, qI x2, qI x3, qI x4, qI x5, vx6] [qI 1] σ :=
  Eq.trans (e_iconst d_963_101 k_1) (e_goto d_963_102 (by decide))
theorem b963_105 {x1 x2 x3 x4 x5 : Int} {vx6 : AV} {σ : SS} : ev 963 105 [qR 50, qI x1, qI x2, qI x3, qI x4, qI x5, vx6] [] σ = ev 963 106 [qR 50, qI x1, qI x2, qI x3, qI x4, qI x5, vx6] [qI 0] σ :=
  e_iconst d_963_105 k_0
theorem b963_106 {x1 x2 x3 x4 x5 y0 : Int} {vx6 : AV} {σ : SS} : ev 963 106 [qR 50, qI x1, qI x2, qI x3, qI x4, qI x5, vx6] [qI y0] σ = if x4 = 0 then ev 963 113 [qR 50, qI x1, qI x2, qI x3, qI x4, qI x5, qI y0] [] σ else ev 963 118 [qR 50, qI x1, qI x2, qI x3, qI x4, qI x5, qI y0] [] σ :=
  Eq.trans (e_istore d_963_106 (by decide) (Nat.le_of_ble_eq_true rfl) rfl) (Eq.trans (e_iload d_963_108 rfl) (e_if_ne d_963_110 (by decide)))
theorem b963_113 {x1 x2 x3 x4 x5 x6 : Int} {σ : SS} : ev 963 113 [qR 50, qI x1, qI x2, qI x3, qI x4, qI x5, qI x6] [] σ = if x6 = 0 then ev 963 122 [qR 50, qI x1, qI x2, qI x3, qI x4, qI x5, qI x6] [] σ else ev 963 118 [qR 50, qI x1, qI x2, qI x3, qI x4, qI x5, qI x6] [] σ :=
  Eq.trans (e_iload d_963_113 rfl) (e_if_eq d_963_115 (by decide))
theorem b963_118 {x1 x2 x3 x4 x5 x6 : Int} {σ : SS} : ev 963 118 [qR 50, qI x1, qI x2, qI x3, qI x4, qI x5, qI x6] [] σ = ev 963 123 [qR 50, qI x1, qI x2, qI x3, qI x4, qI x5, qI x6] [qI 1] σ :=
  Eq.trans (e_iconst d_963_118 k_1) (e_goto d_963_119 (by decide))
theorem b963_122 {x1 x2 x3 x4 x5 x6 : Int} {σ : SS} : ev 963 122 [qR 50, qI x1, qI x2, qI x3, qI x4, qI x5, qI x6] [] σ = ev 963 123 [qR 50, qI x1, qI x2, qI x3, qI x4, qI x5, qI x6] [qI 0] σ :=
  e_iconst d_963_122 k_0
theorem b963_123 {x1 x2 x3 x4 x5 x6 y0 : Int} {σ : SS} (h : -2147483648 ≤ (x5 + 1) ∧ (x5 + 1) ≤ 2147483647) : ev 963 123 [qR 50, qI x1, qI x2, qI x3, qI x4, qI x5, qI x6] [qI y0] σ = ev 963 74 [qR 50, qI x1, qI x2, qI x3, qI y0, qI (x5 + 1), qI x6] [] σ :=
  Eq.trans (e_istore d_963_123 (by decide) (Nat.le_of_ble_eq_true rfl) rfl) (Eq.trans (e_iinc d_963_125 (by decide) rfl h rfl) (e_goto d_963_128 (by decide)))
theorem b963_131 {x1 x2 x3 x4 x5 : Int} {vx6 : AV} {σ : SS} : ev 963 131 [qR 50, qI x1, qI x2, qI x3, qI x4, qI x5, vx6] [] σ = (ev 901 0 [qI x4] [] σ).bind (fun x => ev 963 137 [qR 50, qI x1, qI x2, qI x3, qI x4, qI x5, vx6] (q_push x.1 [qI x3]) x.2) :=
  Eq.trans (e_iload_n d_963_131 rfl) (Eq.trans (e_iload d_963_132 rfl) (e_callS d_963_134 (by decide) ml_9_223 fit_963_901 par_901 rfl rfl (Nat.le_of_ble_eq_true rfl) (Nat.le_of_ble_eq_true rfl) (Nat.le_of_ble_eq_true rfl) rfl (by decide) rfl))
theorem b963_137 {x1 x2 x3 x4 x5 y0 y1 : Int} {vx6 : AV} {σ : SS} (h : -2147483648 ≤ (y1 + y0) ∧ (y1 + y0) ≤ 2147483647) : ev 963 137 [qR 50, qI x1, qI x2, qI x3, qI x4, qI x5, vx6] [qI y0, qI y1] σ = ev 963 57 [qR 50, qI x1, qI x2, qI (y1 + y0), qI x4, qI x5, vx6] [] σ :=
  Eq.trans (e_iadd d_963_137 h) (Eq.trans (e_istore_n d_963_138 (by decide) (Nat.le_of_ble_eq_true rfl) rfl) (e_goto d_963_139 (by decide)))
theorem b963_142 {x1 x2 x3 x4 : Int} {vx5 vx6 : AV} {σ : SS} : ev 963 142 [qR 50, qI x1, qI x2, qI x3, qI x4, vx5, vx6] [] σ = if x1 = 0 then ev 963 146 [qR 50, qI x1, qI x2, qI x3, qI x4, vx5, vx6] [] σ else ev 963 150 [qR 50, qI x1, qI x2, qI x3, qI x4, vx5, vx6] [] σ :=
  Eq.trans (e_iload_n d_963_142 rfl) (e_if_ne d_963_143 (by decide))
theorem b963_146 {x1 x2 x3 x4 : Int} {vx5 vx6 : AV} {σ : SS} : ev 963 146 [qR 50, qI x1, qI x2, qI x3, qI x4, vx5, vx6] [] σ = ev 963 168 [qR 50, qI x1, qI x2, qI x3, qI x4, vx5, vx6] [qI x3] σ :=
  Eq.trans (e_iload_n d_963_146 rfl) (e_goto d_963_147 (by decide))
theorem b963_150 {x1 x2 x3 x4 : Int} {vx5 vx6 : AV} {σ : SS} : ev 963 150 [qR 50, qI x1, qI x2, qI x3, qI x4, vx5, vx6] [] σ = if x1 = 1 then ev 963 155 [qR 50, qI x1, qI x2, qI x3, qI x4, vx5, vx6] [] σ else ev 963 162 [qR 50, qI x1, qI x2, qI x3, qI x4, vx5, vx6] [] σ :=
  Eq.trans (e_iload_n d_963_150 rfl) (Eq.trans (e_iconst d_963_151 k_1) (e_icmp_ne d_963_152 (by decide)))
theorem b963_155 {x1 x2 x3 x4 : Int} {vx5 vx6 : AV} {σ : SS} : ev 963 155 [qR 50, qI x1, qI x2, qI x3, qI x4, vx5, vx6] [] σ = (ev 961 0 [qR 50, qU, qU, qU] [] σ).bind (fun x => ev 963 159 [qR 50, qI x1, qI x2, qI x3, qI x4, vx5, vx6] (q_push x.1 []) x.2) :=
  Eq.trans (e_aload_n d_963_155 rfl) (e_callV d_963_156 ml_9_310 fit_963_961 par_961 rfl rfl sh_50 (Nat.le_of_ble_eq_true rfl) (Nat.le_of_ble_eq_true rfl) (Nat.le_of_ble_eq_true rfl) rfl (by decide) rfl)
theorem b963_159 {x1 x2 x3 x4 y0 : Int} {vx5 vx6 : AV} {σ : SS} : ev 963 159 [qR 50, qI x1, qI x2, qI x3, qI x4, vx5, vx6] [qI y0] σ = ev 963 168 [qR 50, qI x1, qI x2, qI x3, qI x4, vx5, vx6] [qI y0] σ :=
  e_goto d_963_159 (by decide)
theorem b963_162 {x1 x2 x3 x4 : Int} {vx5 vx6 : AV} {σ : SS} (h : 0 ≤ x2 ∧ x2 < 6) : ev 963 162 [qR 50, qI x1, qI x2, qI x3, qI x4, vx5, vx6] [] σ = ev 963 168 [qR 50, qI x1, qI x2, qI x3, qI x4, vx5, vx6] [qI (σ 65 x2.toNat)] σ :=
  Eq.trans (e_aload_n d_963_162 rfl) (Eq.trans (e_getR d_963_163 fl_9_57 sh_50 rfl) (Eq.trans (e_iload_n d_963_166 rfl) (e_iald d_963_167 sh_65 h)))
theorem b963_168 {x1 x2 x3 x4 y0 : Int} {vx5 vx6 : AV} {σ : SS} : ev 963 168 [qR 50, qI x1, qI x2, qI x3, qI x4, vx5, vx6] [qI y0] σ = some (some (qI y0), σ) :=
  e_iret d_963_168 (q_okrI rfl)
theorem b964_0 {x1 x2 x3 : Int} {σ : SS} : ev 964 0 [qR 50, qI x1, qI x2, qI x3, qU, qU, qU, qU] [] σ = (ev 922 0 [qR 50, qI x1] [] σ).bind (fun x => ev 964 5 [qR 50, qI x1, qI x2, qI x3, qU, qU, qU, qU] (q_push x.1 []) x.2) :=
  Eq.trans (e_aload_n d_964_0 rfl) (Eq.trans (e_iload_n d_964_1 rfl) (e_callV d_964_2 ml_9_235 fit_964_922 par_922 rfl rfl sh_50 (Nat.le_of_ble_eq_true rfl) (Nat.le_of_ble_eq_true rfl) (Nat.le_of_ble_eq_true rfl) rfl (by decide) rfl))
theorem b964_5 {x1 x2 x3 y0 : Int} {σ : SS} : ev 964 5 [qR 50, qI x1, qI x2, qI x3, qU, qU, qU, qU] [qI y0] σ = if y0 = 0 then ev 964 8 [qR 50, qI x1, qI x2, qI x3, qU, qU, qU, qU] [] σ else ev 964 11 [qR 50, qI x1, qI x2, qI x3, qU, qU, qU, qU] [] σ :=
  e_if_ne d_964_5 (by decide)
theorem b964_8 {x1 x2 x3 : Int} {σ : SS} : ev 964 8 [qR 50, qI x1, qI x2, qI x3, qU, qU, qU, qU] [] σ = some (some (qI (-1000000001)), σ) :=
  Eq.trans (e_ldc d_964_8 ld_9_231 k_m1000000001) (e_iret d_964_10 (q_okrI rfl))
theorem b964_11 {x1 x2 x3 : Int} {σ : SS} : ev 964 11 [qR 50, qI x1, qI x2, qI x3, qU, qU, qU, qU] [] σ = (ev 900 0 [qL x2, qU, qL 0, qU, qL 23, qU] [] σ).bind (fun x => ev 964 20 [qR 50, qI x1, qI x2, qI x3, qU, qU, qU, qU] (q_push x.1 []) x.2) :=
  Eq.trans (e_iload_n d_964_11 rfl) (Eq.trans (e_i2l d_964_12) (Eq.trans (e_lconst d_964_13 rfl) (Eq.trans (e_ldc2 d_964_14 ll_9_298.1 ll_9_298.2) (e_callS d_964_17 (by decide) ml_9_83 fit_964_900 par_900 rfl rfl (Nat.le_of_ble_eq_true rfl) (Nat.le_of_ble_eq_true rfl) (Nat.le_of_ble_eq_true rfl) rfl (by decide) rfl))))
theorem b964_20 {x1 x2 x3 y0 : Int} {σ : SS} : ev 964 20 [qR 50, qI x1, qI x2, qI x3, qU, qU, qU, qU] [qI y0] σ = if y0 = 0 then ev 964 33 [qR 50, qI x1, qI x2, qI x3, qU, qU, qU, qU] [] σ else ev 964 23 [qR 50, qI x1, qI x2, qI x3, qU, qU, qU, qU] [] σ :=
  e_if_eq d_964_20 (by decide)
theorem b964_23 {x1 x2 x3 : Int} {σ : SS} : ev 964 23 [qR 50, qI x1, qI x2, qI x3, qU, qU, qU, qU] [] σ = (ev 900 0 [qL x3, qU, qL 0, qU, qL 1, qU] [] σ).bind (fun x => ev 964 30 [qR 50, qI x1, qI x2, qI x3, qU, qU, qU, qU] (q_push x.1 []) x.2) :=
  Eq.trans (e_iload_n d_964_23 rfl) (Eq.trans (e_i2l d_964_24) (Eq.trans (e_lconst d_964_25 rfl) (Eq.trans (e_lconst d_964_26 rfl) (e_callS d_964_27 (by decide) ml_9_83 fit_964_900 par_900 rfl rfl (Nat.le_of_ble_eq_true rfl) (Nat.le_of_ble_eq_true rfl) (Nat.le_of_ble_eq_true rfl) rfl (by decide) rfl))))
theorem b964_30 {x1 x2 x3 y0 : Int} {σ : SS} : ev 964 30 [qR 50, qI x1, qI x2, qI x3, qU, qU, qU, qU] [qI y0] σ = if y0 = 0 then ev 964 33 [qR 50, qI x1, qI x2, qI x3, qU, qU, qU, qU] [] σ else ev 964 36 [qR 50, qI x1, qI x2, qI x3, qU, qU, qU, qU] [] σ :=
  e_if_ne d_964_30 (by decide)
theorem b964_33 {x1 x2 x3 : Int} {σ : SS} : ev 964 33 [qR 50, qI x1, qI x2, qI x3, qU, qU, qU, qU] [] σ = some (some (qI (-1000000002)), σ) :=
  Eq.trans (e_ldc d_964_33 ld_9_87 k_m1000000002) (e_iret d_964_35 (q_okrI rfl))
theorem b964_36 {x1 x2 x3 : Int} {σ : SS} (h : (-2147483648 ≤ (6 + x1) ∧ (6 + x1) ≤ 2147483647) ∧ (0 ≤ (6 + x1) ∧ (6 + x1) < 96)) : ev 964 36 [qR 50, qI x1, qI x2, qI x3, qU, qU, qU, qU] [] σ = (ev 923 0 [qR 50, qI x1, qI x2, qI (σ 51 (6 + x1).toNat), qU] [] σ).bind (fun x => ev 964 51 [qR 50, qI x1, qI x2, qI x3, qU, qU, qU, qU] (q_push x.1 []) x.2) :=
  Eq.trans (e_aload_n d_964_36 rfl) (Eq.trans (e_iload_n d_964_37 rfl) (Eq.trans (e_iload_n d_964_38 rfl) (Eq.trans (e_aload_n d_964_39 rfl) (Eq.trans (e_getR d_964_40 fl_9_7 sh_50 rfl) (Eq.trans (e_bipush d_964_43 kb_6) (Eq.trans (e_iload_n d_964_45 rfl) (Eq.trans (e_iadd d_964_46 h.1) (Eq.trans (e_iald d_964_47 sh_51 h.2) (e_callV d_964_48 ml_9_209 fit_964_923 par_923 rfl rfl sh_50 (Nat.le_of_ble_eq_true rfl) (Nat.le_of_ble_eq_true rfl) (Nat.le_of_ble_eq_true rfl) rfl (by decide) rfl)))))))))
theorem b964_51 {x1 x2 x3 y0 : Int} {σ : SS} : ev 964 51 [qR 50, qI x1, qI x2, qI x3, qU, qU, qU, qU] [qI y0] σ = if x2 < (σ 50 3) then ev 964 73 [qR 50, qI x1, qI x2, qI x3, qI y0, qU, qU, qU] [] σ else ev 964 61 [qR 50, qI x1, qI x2, qI x3, qI y0, qU, qU, qU] [] σ :=
  Eq.trans (e_istore d_964_51 (by decide) (Nat.le_of_ble_eq_true rfl) rfl) (Eq.trans (e_iload_n d_964_53 rfl) (Eq.trans (e_aload_n d_964_54 rfl) (Eq.trans (e_getI d_964_55 fl_9_78 sh_50 rfl) (e_icmp_lt d_964_58 (by decide)))))
theorem b964_61 {x1 x2 x3 x4 : Int} {σ : SS} (h : (0 ≤ x1 ∧ x1 < 12) ∧ (-2147483648 ≤ (x4 - (σ 58 x1.toNat)) ∧ (x4 - (σ 58 x1.toNat)) ≤ 2147483647)) : ev 964 61 [qR 50, qI x1, qI x2, qI x3, qI x4, qU, qU, qU] [] σ = ev 964 75 [qR 50, qI x1, qI x2, qI x3, qI x4, qU, qU, qU] [qI (x4 - (σ 58 x1.toNat))] σ :=
  Eq.trans (e_iload d_964_61 rfl) (Eq.trans (e_aload_n d_964_63 rfl) (Eq.trans (e_getR d_964_64 fl_9_32 sh_50 rfl) (Eq.trans (e_iload_n d_964_67 rfl) (Eq.trans (e_iald d_964_68 sh_58 h.1) (Eq.trans (e_isub d_964_69 h.2) (e_goto d_964_70 (by decide)))))))
theorem b964_73 {x1 x2 x3 x4 : Int} {σ : SS} : ev 964 73 [qR 50, qI x1, qI x2, qI x3, qI x4, qU, qU, qU] [] σ = ev 964 75 [qR 50, qI x1, qI x2, qI x3, qI x4, qU, qU, qU] [qI x4] σ :=
  e_iload d_964_73 rfl
theorem b964_75 {x1 x2 x3 x4 y0 : Int} {σ : SS} : ev 964 75 [qR 50, qI x1, qI x2, qI x3, qI x4, qU, qU, qU] [qI y0] σ = (ev 928 0 [qR 50] [] σ).bind (fun x => ev 964 84 [qR 50, qI x1, qI x2, qI x3, qI x4, qI y0, qU, qU] (q_push x.1 [qI x4, qR 50]) x.2) :=
  Eq.trans (e_istore d_964_75 (by decide) (Nat.le_of_ble_eq_true rfl) rfl) (Eq.trans (e_aload_n d_964_77 rfl) (Eq.trans (e_iload d_964_78 rfl) (Eq.trans (e_aload_n d_964_80 rfl) (e_callV d_964_81 ml_9_220 fit_964_928 par_928 rfl rfl sh_50 (Nat.le_of_ble_eq_true rfl) (Nat.le_of_ble_eq_true rfl) (Nat.le_of_ble_eq_true rfl) rfl (by decide) rfl))))
theorem b964_84 {x1 x2 x3 x4 x5 y0 y1 : Int} {σ : SS} : ev 964 84 [qR 50, qI x1, qI x2, qI x3, qI x4, qI x5, qU, qU] [qI y0, qI y1, qR 50] σ = (ev 927 0 [qR 50, qI y1, qI y0] [] σ).bind (fun x => ev 964 87 [qR 50, qI x1, qI x2, qI x3, qI x4, qI x5, qU, qU] (q_push x.1 []) x.2) :=
  e_callV d_964_84 ml_9_244 fit_964_927 par_927 rfl rfl sh_50 (Nat.le_of_ble_eq_true rfl) (Nat.le_of_ble_eq_true rfl) (Nat.le_of_ble_eq_true rfl) rfl (by decide) rfl
theorem b964_87 {x1 x2 x3 x4 x5 y0 : Int} {σ : SS} : ev 964 87 [qR 50, qI x1, qI x2, qI x3, qI x4, qI x5, qU, qU] [qI y0] σ = if y0 = 0 then ev 964 99 [qR 50, qI x1, qI x2, qI x3, qI x4, qI x5, qU, qU] [] σ else ev 964 90 [qR 50, qI x1, qI x2, qI x3, qI x4, qI x5, qU, qU] [] σ :=
  e_if_eq d_964_87 (by decide)
theorem b964_90 {x1 x2 x3 x4 x5 : Int} {σ : SS} (h : 0 ≤ x1 ∧ x1 < 12) : ev 964 90 [qR 50, qI x1, qI x2, qI x3, qI x4, qI x5, qU, qU] [] σ = ev 964 100 [qR 50, qI x1, qI x2, qI x3, qI x4, qI x5, qU, qU] [qI (σ 59 x1.toNat)] σ :=
  Eq.trans (e_aload_n d_964_90 rfl) (Eq.trans (e_getR d_964_91 fl_9_35 sh_50 rfl) (Eq.trans (e_iload_n d_964_94 rfl) (Eq.trans (e_iald d_964_95 sh_59 h) (e_goto d_964_96 (by decide)))))
theorem b964_99 {x1 x2 x3 x4 x5 : Int} {σ : SS} : ev 964 99 [qR 50, qI x1, qI x2, qI x3, qI x4, qI x5, qU, qU] [] σ = ev 964 100 [qR 50, qI x1, qI x2, qI x3, qI x4, qI x5, qU, qU] [qI 0] σ :=
  e_iconst d_964_99 k_0
theorem b964_100 {x1 x2 x3 x4 x5 y0 : Int} {σ : SS} : ev 964 100 [qR 50, qI x1, qI x2, qI x3, qI x4, qI x5, qU, qU] [qI y0] σ = (ev 928 0 [qR 50] [] σ).bind (fun x => ev 964 107 [qR 50, qI x1, qI x2, qI x3, qI x4, qI x5, qU, qU] (q_push x.1 [qI x5, qR 50, qI y0]) x.2) :=
  Eq.trans (e_aload_n d_964_100 rfl) (Eq.trans (e_iload d_964_101 rfl) (Eq.trans (e_aload_n d_964_103 rfl) (e_callV d_964_104 ml_9_220 fit_964_928 par_928 rfl rfl sh_50 (Nat.le_of_ble_eq_true rfl) (Nat.le_of_ble_eq_true rfl) (Nat.le_of_ble_eq_true rfl) rfl (by decide) rfl)))
theorem b964_107 {x1 x2 x3 x4 x5 y0 y1 y3 : Int} {σ : SS} : ev 964 107 [qR 50, qI x1, qI x2, qI x3, qI x4, qI x5, qU, qU] [qI y0, qI y1, qR 50, qI y3] σ = (ev 927 0 [qR 50, qI y1, qI y0] [] σ).bind (fun x => ev 964 110 [qR 50, qI x1, qI x2, qI x3, qI x4, qI x5, qU, qU] (q_push x.1 [qI y3]) x.2) :=
  e_callV d_964_107 ml_9_244 fit_964_927 par_927 rfl rfl sh_50 (Nat.le_of_ble_eq_true rfl) (Nat.le_of_ble_eq_true rfl) (Nat.le_of_ble_eq_true rfl) rfl (by decide) rfl
theorem b964_110 {x1 x2 x3 x4 x5 y0 y1 : Int} {σ : SS} : ev 964 110 [qR 50, qI x1, qI x2, qI x3, qI x4, qI x5, qU, qU] [qI y0, qI y1] σ = if y0 = 0 then ev 964 125 [qR 50, qI x1, qI x2, qI x3, qI x4, qI x5, qU, qU] [qI y1] σ else ev 964 113 [qR 50, qI x1, qI x2, qI x3, qI x4, qI x5, qU, qU] [qI y1] σ :=
  e_if_eq d_964_110 (by decide)
theorem b964_113 {x1 x2 x3 x4 x5 y0 : Int} {σ : SS} (h : (0 ≤ x1 ∧ x1 < 12) ∧ (-2147483648 ≤ (8 - (σ 59 x1.toNat)) ∧ (8 - (σ 59 x1.toNat)) ≤ 2147483647)) : ev 964 113 [qR 50, qI x1, qI x2, qI x3, qI x4, qI x5, qU, qU] [qI y0] σ = ev 964 126 [qR 50, qI x1, qI x2, qI x3, qI x4, qI x5, qU, qU] [qI (8 - (σ 59 x1.toNat)), qI y0] σ :=
  Eq.trans (e_bipush d_964_113 kb_8) (Eq.trans (e_aload_n d_964_115 rfl) (Eq.trans (e_getR d_964_116 fl_9_35 sh_50 rfl) (Eq.trans (e_iload_n d_964_119 rfl) (Eq.trans (e_iald d_964_120 sh_59 h.1) (Eq.trans (e_isub d_964_121 h.2) (e_goto d_964_122 (by decide)))))))
theorem b964_125 {x1 x2 x3 x4 x5 y0 : Int} {σ : SS} : ev 964 125 [qR 50, qI x1, qI x2, qI x3, qI x4, qI x5, qU, qU] [qI y0] σ = ev 964 126 [qR 50, qI x1, qI x2, qI x3, qI x4, qI x5, qU, qU] [qI 0, qI y0] σ :=
  e_iconst d_964_125 k_0
theorem b964_126 {x1 x2 x3 x4 x5 y0 y1 : Int} {σ : SS} (h : -2147483648 ≤ (y1 + y0) ∧ (y1 + y0) ≤ 2147483647) : ev 964 126 [qR 50, qI x1, qI x2, qI x3, qI x4, qI x5, qU, qU] [qI y0, qI y1] σ = ev 964 133 [qR 50, qI x1, qI x2, qI x3, qI x4, qI x5, qI (y1 + y0), qI 8] [] σ :=
  Eq.trans (e_iadd d_964_126 h) (Eq.trans (e_istore d_964_127 (by decide) (Nat.le_of_ble_eq_true rfl) rfl) (Eq.trans (e_bipush d_964_129 kb_8) (e_istore d_964_131 (by decide) (Nat.le_of_ble_eq_true rfl) rfl)))
theorem b964_133 {x1 x2 x3 x4 x5 x6 x7 : Int} {σ : SS} (h : 0 ≤ x6 ∧ x6 ≤ 2147483647 ∧ (0 : Int) < 2 ∧ (2 : Int) ≤ 2147483647) : ev 964 133 [qR 50, qI x1, qI x2, qI x3, qI x4, qI x5, qI x6, qI x7] [] σ = if (x6 % 2) = 0 then ev 964 140 [qR 50, qI x1, qI x2, qI x3, qI x4, qI x5, qI x6, qI x7] [] σ else ev 964 161 [qR 50, qI x1, qI x2, qI x3, qI x4, qI x5, qI x6, qI x7] [] σ :=
  Eq.trans (e_iload d_964_133 rfl) (Eq.trans (e_iconst d_964_135 k_2) (Eq.trans (e_irem d_964_136 h) (e_if_ne d_964_137 (by decide))))
theorem b964_140 {x1 x2 x3 x4 x5 x6 x7 : Int} {σ : SS} : ev 964 140 [qR 50, qI x1, qI x2, qI x3, qI x4, qI x5, qI x6, qI x7] [] σ = if 1 < x7 then ev 964 146 [qR 50, qI x1, qI x2, qI x3, qI x4, qI x5, qI x6, qI x7] [] σ else ev 964 161 [qR 50, qI x1, qI x2, qI x3, qI x4, qI x5, qI x6, qI x7] [] σ :=
  Eq.trans (e_iload d_964_140 rfl) (Eq.trans (e_iconst d_964_142 k_1) (e_icmp_le d_964_143 (by decide)))
theorem b964_146 {x1 x2 x3 x4 x5 x6 x7 : Int} {σ : SS} (h : (0 ≤ x6 ∧ x6 ≤ 2147483647 ∧ (0 : Int) < 2 ∧ (2 : Int) ≤ 2147483647) ∧ (0 ≤ x7 ∧ x7 ≤ 2147483647 ∧ (0 : Int) < 2 ∧ (2 : Int) ≤ 2147483647)) : ev 964 146 [qR 50, qI x1, qI x2, qI x3, qI x4, qI x5, qI x6, qI x7] [] σ = ev 964 133 [qR 50, qI x1, qI x2, qI x3, qI x4, qI x5, qI (x6 / 2), qI (x7 / 2)] [] σ :=
  Eq.trans (e_iload d_964_146 rfl) (Eq.trans (e_iconst d_964_148 k_2) (Eq.trans (e_idiv d_964_149 h.1) (Eq.trans (e_istore d_964_150 (by decide) (Nat.le_of_ble_eq_true rfl) rfl) (Eq.trans (e_iload d_964_152 rfl) (Eq.trans (e_iconst d_964_154 k_2) (Eq.trans (e_idiv d_964_155 h.2) (Eq.trans (e_istore d_964_156 (by decide) (Nat.le_of_ble_eq_true rfl) rfl) (e_goto d_964_158 (by decide)))))))))
theorem b964_161 {x1 x2 x3 x4 x5 x6 x7 : Int} {σ : SS} : ev 964 161 [qR 50, qI x1, qI x2, qI x3, qI x4, qI x5, qI x6, qI x7] [] σ = if x3 = 0 then ev 964 165 [qR 50, qI x1, qI x2, qI x3, qI x4, qI x5, qI x6, qI x7] [] σ else ev 964 170 [qR 50, qI x1, qI x2, qI x3, qI x4, qI x5, qI x6, qI x7] [] σ :=
  Eq.trans (e_iload_n d_964_161 rfl) (e_if_ne d_964_162 (by decide))
theorem b964_165 {x1 x2 x3 x4 x5 x6 x7 : Int} {σ : SS} : ev 964 165 [qR 50, qI x1, qI x2, qI x3, qI x4, qI x5, qI x6, qI x7] [] σ = ev 964 172 [qR 50, qI x1, qI x2, qI x3, qI x4, qI x5, qI x6, qI x7] [qI x6] σ :=
  Eq.trans (e_iload d_964_165 rfl) (e_goto d_964_167 (by decide))
theorem b964_170 {x1 x2 x3 x4 x5 x6 x7 : Int} {σ : SS} : ev 964 170 [qR 50, qI x1, qI x2, qI x3, qI x4, qI x5, qI x6, qI x7] [] σ = ev 964 172 [qR 50, qI x1, qI x2, qI x3, qI x4, qI x5, qI x6, qI x7] [qI x7] σ :=
  e_iload d_964_170 rfl
theorem b964_172 {x1 x2 x3 x4 x5 x6 x7 y0 : Int} {σ : SS} : ev 964 172 [qR 50, qI x1, qI x2, qI x3, qI x4, qI x5, qI x6, qI x7] [qI y0] σ = some (some (qI y0), σ) :=
  e_iret d_964_172 (q_okrI rfl)
theorem b965_0 {x1 x2 : Int} {σ : SS} : ev 965 0 [qR 50, qI x1, qI x2] [] σ = (ev 900 0 [qL x1, qU, qL 0, qU, qL 23, qU] [] σ).bind (fun x => ev 965 9 [qR 50, qI x1, qI x2] (q_push x.1 []) x.2) :=
  Eq.trans (e_iload_n d_965_0 rfl) (Eq.trans (e_i2l d_965_1) (Eq.trans (e_lconst d_965_2 rfl) (Eq.trans (e_ldc2 d_965_3 ll_9_298.1 ll_9_298.2) (e_callS d_965_6 (by decide) ml_9_83 fit_965_900 par_900 rfl rfl (Nat.le_of_ble_eq_true rfl) (Nat.le_of_ble_eq_true rfl) (Nat.le_of_ble_eq_true rfl) rfl (by decide) rfl))))
theorem b965_9 {x1 x2 y0 : Int} {σ : SS} : ev 965 9 [qR 50, qI x1, qI x2] [qI y0] σ = if y0 = 0 then ev 965 12 [qR 50, qI x1, qI x2] [] σ else ev 965 15 [qR 50, qI x1, qI x2] [] σ :=
  e_if_ne d_965_9 (by decide)
theorem b965_12 {x1 x2 : Int} {σ : SS} : ev 965 12 [qR 50, qI x1, qI x2] [] σ = some (some (qI (-1000000002)), σ) :=
  Eq.trans (e_ldc d_965_12 ld_9_87 k_m1000000002) (e_iret d_965_14 (q_okrI rfl))
theorem b965_15 {x1 x2 : Int} {σ : SS} : ev 965 15 [qR 50, qI x1, qI x2] [] σ = if (σ 50 35) = 20 then ev 965 24 [qR 50, qI x1, qI x2] [] σ else ev 965 27 [qR 50, qI x1, qI x2] [] σ :=
  Eq.trans (e_aload_n d_965_15 rfl) (Eq.trans (e_getI d_965_16 fl_9_200 sh_50 rfl) (Eq.trans (e_bipush d_965_19 kb_20) (e_icmp_ne d_965_21 (by decide))))
theorem b965_24 {x1 x2 : Int} {σ : SS} : ev 965 24 [qR 50, qI x1, qI x2] [] σ = some (some (qI (-1000000004)), σ) :=
  Eq.trans (e_ldc d_965_24 ld_9_91 k_m1000000004) (e_iret d_965_26 (q_okrI rfl))
theorem b965_27 {x1 x2 : Int} {σ : SS} (h : (0 ≤ (σ 50 35) ∧ (σ 50 35) < 20) ∧ (x2 = 0 ∨ x2 = 1) ∧ (-2147483648 ≤ ((σ 50 35) + 1) ∧ ((σ 50 35) + 1) ≤ 2147483647)) : ev 965 27 [qR 50, qI x1, qI x2] [] σ = some (some (qI ((σ 50 35) + 1)), (q_put (q_put (q_put σ 66 (σ 50 35).toNat x1) 67 (σ 50 35).toNat x2) 50 35 ((σ 50 35) + 1))) :=
  Eq.trans (e_aload_n d_965_27 rfl) (Eq.trans (e_getR d_965_28 fl_9_60 sh_50 rfl) (Eq.trans (e_aload_n d_965_31 rfl) (Eq.trans (e_getI d_965_32 fl_9_200 sh_50 rfl) (Eq.trans (e_iload_n d_965_35 rfl) (Eq.trans (e_iast d_965_36 sh_66 h.1) (Eq.trans (e_aload_n d_965_37 rfl) (Eq.trans (e_getR d_965_38 fl_9_63 sh_50 rfl) (Eq.trans (e_aload_n d_965_41 rfl) (Eq.trans (e_getI d_965_42 fl_9_200 sh_50 rfl) (Eq.trans (e_iload_n d_965_45 rfl) (Eq.trans (e_bast d_965_46 sh_67 h.1 h.2.1) (Eq.trans (e_aload_n d_965_47 rfl) (Eq.trans (e_dup d_965_48 rfl) (Eq.trans (e_getI d_965_49 fl_9_200 sh_50 rfl) (Eq.trans (e_iconst d_965_52 k_1) (Eq.trans (e_iadd d_965_53 h.2.2) (Eq.trans (e_put d_965_54 fl_9_200 sh_50 rfl rfl rfl) (Eq.trans (e_aload_n d_965_57 rfl) (Eq.trans (e_getI d_965_58 fl_9_200 sh_50 rfl) (e_iret d_965_61 (q_okrI rfl)))))))))))))))))))))
theorem b966_0 {σ : SS} : ev 966 0 [qR 50, qU, qU, qU, qU] [] σ = ev 966 4 [qR 50, qI 0, qI 0, qU, qU] [] σ :=
  Eq.trans (e_iconst d_966_0 k_0) (Eq.trans (e_istore_n d_966_1 (by decide) (Nat.le_of_ble_eq_true rfl) rfl) (Eq.trans (e_iconst d_966_2 k_0) (e_istore_n d_966_3 (by decide) (Nat.le_of_ble_eq_true rfl) rfl)))
theorem b966_4 {x1 x2 : Int} {vx3 vx4 : AV} {σ : SS} : ev 966 4 [qR 50, qI x1, qI x2, vx3, vx4] [] σ = if x2 < (σ 50 14) then ev 966 12 [qR 50, qI x1, qI x2, vx3, vx4] [] σ else ev 966 90 [qR 50, qI x1, qI x2, vx3, vx4] [] σ :=
  Eq.trans (e_iload_n d_966_4 rfl) (Eq.trans (e_aload_n d_966_5 rfl) (Eq.trans (e_getI d_966_6 fl_9_191 sh_50 rfl) (e_icmp_ge d_966_9 (by decide))))
theorem b966_12 {x1 x2 : Int} {vx3 vx4 : AV} {σ : SS} : ev 966 12 [qR 50, qI x1, qI x2, vx3, vx4] [] σ = ev 966 17 [qR 50, qI x1, qI x2, qI 1, qI 0] [] σ :=
  Eq.trans (e_iconst d_966_12 k_1) (Eq.trans (e_istore_n d_966_13 (by decide) (Nat.le_of_ble_eq_true rfl) rfl) (Eq.trans (e_iconst d_966_14 k_0) (e_istore d_966_15 (by decide) (Nat.le_of_ble_eq_true rfl) rfl)))
theorem b966_17 {x1 x2 x3 x4 : Int} {σ : SS} : ev 966 17 [qR 50, qI x1, qI x2, qI x3, qI x4] [] σ = if x4 < (σ 50 35) then ev 966 26 [qR 50, qI x1, qI x2, qI x3, qI x4] [] σ else ev 966 75 [qR 50, qI x1, qI x2, qI x3, qI x4] [] σ :=
  Eq.trans (e_iload d_966_17 rfl) (Eq.trans (e_aload_n d_966_19 rfl) (Eq.trans (e_getI d_966_20 fl_9_200 sh_50 rfl) (e_icmp_ge d_966_23 (by decide))))
theorem b966_26 {x1 x2 x3 x4 : Int} {σ : SS} : ev 966 26 [qR 50, qI x1, qI x2, qI x3, qI x4] [] σ = if x3 = 0 then ev 966 67 [qR 50, qI x1, qI x2, qI x3, qI x4] [] σ else ev 966 30 [qR 50, qI x1, qI x2, qI x3, qI x4] [] σ :=
  Eq.trans (e_iload_n d_966_26 rfl) (e_if_eq d_966_27 (by decide))
theorem b966_30 {x1 x2 x3 x4 : Int} {σ : SS} (h : 0 ≤ x4 ∧ x4 < 20) : ev 966 30 [qR 50, qI x1, qI x2, qI x3, qI x4] [] σ = (ev 923 0 [qR 50, qI x2, qI (σ 66 x4.toNat), qI 0, qU] [] σ).bind (fun x => ev 966 44 [qR 50, qI x1, qI x2, qI x3, qI x4] (q_push x.1 [qR 50]) x.2) :=
  Eq.trans (e_aload_n d_966_30 rfl) (Eq.trans (e_aload_n d_966_31 rfl) (Eq.trans (e_iload_n d_966_32 rfl) (Eq.trans (e_aload_n d_966_33 rfl) (Eq.trans (e_getR d_966_34 fl_9_60 sh_50 rfl) (Eq.trans (e_iload d_966_37 rfl) (Eq.trans (e_iald d_966_39 sh_66 h) (Eq.trans (e_iconst d_966_40 k_0) (e_callV d_966_41 ml_9_209 fit_966_923 par_923 rfl rfl sh_50 (Nat.le_of_ble_eq_true rfl) (Nat.le_of_ble_eq_true rfl) (Nat.le_of_ble_eq_true rfl) rfl (by decide) rfl))))))))
theorem b966_44 {x1 x2 x3 x4 y0 : Int} {σ : SS} : ev 966 44 [qR 50, qI x1, qI x2, qI x3, qI x4] [qI y0, qR 50] σ = (ev 927 0 [qR 50, qI y0, qI (σ 53 0)] [] σ).bind (fun x => ev 966 53 [qR 50, qI x1, qI x2, qI x3, qI x4] (q_push x.1 []) x.2) :=
  Eq.trans (e_aload_n d_966_44 rfl) (Eq.trans (e_getR d_966_45 fl_9_17 sh_50 rfl) (Eq.trans (e_iconst d_966_48 k_0) (Eq.trans (e_iald d_966_49 sh_53 (by decide)) (e_callV d_966_50 ml_9_244 fit_966_927 par_927 rfl rfl sh_50 (Nat.le_of_ble_eq_true rfl) (Nat.le_of_ble_eq_true rfl) (Nat.le_of_ble_eq_true rfl) rfl (by decide) rfl))))
theorem b966_53 {x1 x2 x3 x4 y0 : Int} {σ : SS} (h : 0 ≤ x4 ∧ x4 < 20) : ev 966 53 [qR 50, qI x1, qI x2, qI x3, qI x4] [qI y0] σ = if y0 = (σ 67 x4.toNat) then ev 966 63 [qR 50, qI x1, qI x2, qI x3, qI x4] [] σ else ev 966 67 [qR 50, qI x1, qI x2, qI x3, qI x4] [] σ :=
  Eq.trans (e_aload_n d_966_53 rfl) (Eq.trans (e_getR d_966_54 fl_9_63 sh_50 rfl) (Eq.trans (e_iload d_966_57 rfl) (Eq.trans (e_bald d_966_59 sh_67 h) (e_icmp_ne d_966_60 (by decide)))))
theorem b966_63 {x1 x2 x3 x4 : Int} {σ : SS} : ev 966 63 [qR 50, qI x1, qI x2, qI x3, qI x4] [] σ = ev 966 68 [qR 50, qI x1, qI x2, qI x3, qI x4] [qI 1] σ :=
  Eq.trans (e_iconst d_966_63 k_1) (e_goto d_966_64 (by decide))
theorem b966_67 {x1 x2 x3 x4 : Int} {σ : SS} : ev 966 67 [qR 50, qI x1, qI x2, qI x3, qI x4] [] σ = ev 966 68 [qR 50, qI x1, qI x2, qI x3, qI x4] [qI 0] σ :=
  e_iconst d_966_67 k_0
theorem b966_68 {x1 x2 x3 x4 y0 : Int} {σ : SS} (h : -2147483648 ≤ (x4 + 1) ∧ (x4 + 1) ≤ 2147483647) : ev 966 68 [qR 50, qI x1, qI x2, qI x3, qI x4] [qI y0] σ = ev 966 17 [qR 50, qI x1, qI x2, qI y0, qI (x4 + 1)] [] σ :=
  Eq.trans (e_istore_n d_966_68 (by decide) (Nat.le_of_ble_eq_true rfl) rfl) (Eq.trans (e_iinc d_966_69 (by decide) rfl h rfl) (e_goto d_966_72 (by decide)))
theorem b966_75 {x1 x2 x3 x4 : Int} {σ : SS} : ev 966 75 [qR 50, qI x1, qI x2, qI x3, qI x4] [] σ = (ev 901 0 [qI x3] [] σ).bind (fun x => ev 966 80 [qR 50, qI x1, qI x2, qI x3, qI x4] (q_push x.1 [qI x1]) x.2) :=
  Eq.trans (e_iload_n d_966_75 rfl) (Eq.trans (e_iload_n d_966_76 rfl) (e_callS d_966_77 (by decide) ml_9_223 fit_966_901 par_901 rfl rfl (Nat.le_of_ble_eq_true rfl) (Nat.le_of_ble_eq_true rfl) (Nat.le_of_ble_eq_true rfl) rfl (by decide) rfl))
theorem b966_80 {x1 x2 x3 x4 y0 y1 : Int} {σ : SS} (h : -2147483648 ≤ (x2 + 1) ∧ (x2 + 1) ≤ 2147483647) : ev 966 80 [qR 50, qI x1, qI x2, qI x3, qI x4] [qI y0, qI y1] σ = ev 966 4 [qR 50, qI (q_or y1 (q_shl y0 x2)), qI (x2 + 1), qI x3, qI x4] [] σ :=
  Eq.trans (e_iload_n d_966_80 rfl) (Eq.trans (e_ishl d_966_81) (Eq.trans (e_ior d_966_82) (Eq.trans (e_istore_n d_966_83 (by decide) (Nat.le_of_ble_eq_true rfl) rfl) (Eq.trans (e_iinc d_966_84 (by decide) rfl h rfl) (e_goto d_966_87 (by decide))))))
theorem b966_90 {x1 x2 : Int} {vx3 vx4 : AV} {σ : SS} : ev 966 90 [qR 50, qI x1, qI x2, vx3, vx4] [] σ = some (some (qI x1), σ) :=
  Eq.trans (e_iload_n d_966_90 rfl) (e_iret d_966_91 (q_okrI rfl))
theorem b967_0 {σ : SS} : ev 967 0 [qR 50, qU, qU, qU, qU, qU, qU, qU] [] σ = (ev 966 0 [qR 50, qU, qU, qU, qU] [] σ).bind (fun x => ev 967 4 [qR 50, qU, qU, qU, qU, qU, qU, qU] (q_push x.1 []) x.2) :=
  Eq.trans (e_aload_n d_967_0 rfl) (e_callV d_967_1 ml_9_316 fit_967_966 par_966 rfl rfl sh_50 (Nat.le_of_ble_eq_true rfl) (Nat.le_of_ble_eq_true rfl) (Nat.le_of_ble_eq_true rfl) rfl (by decide) rfl)
theorem b967_4 {y0 : Int} {σ : SS} : ev 967 4 [qR 50, qU, qU, qU, qU, qU, qU, qU] [qI y0] σ = (ev 903 0 [qI y0, qU, qU] [] σ).bind (fun x => ev 967 9 [qR 50, qI y0, qU, qU, qU, qU, qU, qU] (q_push x.1 []) x.2) :=
  Eq.trans (e_istore_n d_967_4 (by decide) (Nat.le_of_ble_eq_true rfl) rfl) (Eq.trans (e_iload_n d_967_5 rfl) (e_callS d_967_6 (by decide) ml_9_261 fit_967_903 par_903 rfl rfl (Nat.le_of_ble_eq_true rfl) (Nat.le_of_ble_eq_true rfl) (Nat.le_of_ble_eq_true rfl) rfl (by decide) rfl))
theorem b967_9 {x1 y0 : Int} {σ : SS} : ev 967 9 [qR 50, qI x1, qU, qU, qU, qU, qU, qU] [qI y0] σ = ev 967 18 [qR 50, qI x1, qI y0, qI (-1), qI y0, qI 0, qU, qU] [] σ :=
  Eq.trans (e_istore_n d_967_9 (by decide) (Nat.le_of_ble_eq_true rfl) rfl) (Eq.trans (e_iconst d_967_10 k_m1) (Eq.trans (e_istore_n d_967_11 (by decide) (Nat.le_of_ble_eq_true rfl) rfl) (Eq.trans (e_iload_n d_967_12 rfl) (Eq.trans (e_istore d_967_13 (by decide) (Nat.le_of_ble_eq_true rfl) rfl) (Eq.trans (e_iconst d_967_15 k_0) (e_istore d_967_16 (by decide) (Nat.le_of_ble_eq_true rfl) rfl))))))
theorem b967_18 {x1 x2 x3 x4 x5 : Int} {vx6 vx7 : AV} {σ : SS} : ev 967 18 [qR 50, qI x1, qI x2, qI x3, qI x4, qI x5, vx6, vx7] [] σ = if x5 < 24 then ev 967 25 [qR 50, qI x1, qI x2, qI x3, qI x4, qI x5, vx6, vx7] [] σ else ev 967 130 [qR 50, qI x1, qI x2, qI x3, qI x4, qI x5, vx6, vx7] [] σ :=
  Eq.trans (e_iload d_967_18 rfl) (Eq.trans (e_bipush d_967_20 kb_24) (e_icmp_ge d_967_22 (by decide)))
theorem b967_25 {x1 x2 x3 x4 x5 : Int} {vx6 vx7 : AV} {σ : SS} : ev 967 25 [qR 50, qI x1, qI x2, qI x3, qI x4, qI x5, vx6, vx7] [] σ = ev 967 31 [qR 50, qI x1, qI x2, qI x3, qI x4, qI x5, qI 0, qI 0] [] σ :=
  Eq.trans (e_iconst d_967_25 k_0) (Eq.trans (e_istore d_967_26 (by decide) (Nat.le_of_ble_eq_true rfl) rfl) (Eq.trans (e_iconst d_967_28 k_0) (e_istore d_967_29 (by decide) (Nat.le_of_ble_eq_true rfl) rfl)))
theorem b967_31 {x1 x2 x3 x4 x5 x6 x7 : Int} {σ : SS} : ev 967 31 [qR 50, qI x1, qI x2, qI x3, qI x4, qI x5, qI x6, qI x7] [] σ = if x7 < (σ 50 14) then ev 967 40 [qR 50, qI x1, qI x2, qI x3, qI x4, qI x5, qI x6, qI x7] [] σ else ev 967 90 [qR 50, qI x1, qI x2, qI x3, qI x4, qI x5, qI x6, qI x7] [] σ :=
  Eq.trans (e_iload d_967_31 rfl) (Eq.trans (e_aload_n d_967_33 rfl) (Eq.trans (e_getI d_967_34 fl_9_191 sh_50 rfl) (e_icmp_ge d_967_37 (by decide))))
theorem b967_40 {x1 x2 x3 x4 x5 x6 x7 : Int} {σ : SS} : ev 967 40 [qR 50, qI x1, qI x2, qI x3, qI x4, qI x5, qI x6, qI x7] [] σ = (ev 902 0 [qI x1, qI x7] [] σ).bind (fun x => ev 967 48 [qR 50, qI x1, qI x2, qI x3, qI x4, qI x5, qI x6, qI x7] (q_push x.1 [qI x6]) x.2) :=
  Eq.trans (e_iload d_967_40 rfl) (Eq.trans (e_iload_n d_967_42 rfl) (Eq.trans (e_iload d_967_43 rfl) (e_callS d_967_45 (by decide) ml_9_124 fit_967_902 par_902 rfl rfl (Nat.le_of_ble_eq_true rfl) (Nat.le_of_ble_eq_true rfl) (Nat.le_of_ble_eq_true rfl) rfl (by decide) rfl)))
theorem b967_48 {x1 x2 x3 x4 x5 x6 x7 y0 y1 : Int} {σ : SS} : ev 967 48 [qR 50, qI x1, qI x2, qI x3, qI x4, qI x5, qI x6, qI x7] [qI y0, qI y1] σ = if y0 = 0 then ev 967 77 [qR 50, qI x1, qI x2, qI x3, qI x4, qI x5, qI x6, qI x7] [qI y1] σ else ev 967 51 [qR 50, qI x1, qI x2, qI x3, qI x4, qI x5, qI x6, qI x7] [qI y1] σ :=
  e_if_eq d_967_48 (by decide)
theorem b967_51 {x1 x2 x3 x4 x5 x6 x7 y0 : Int} {σ : SS} : ev 967 51 [qR 50, qI x1, qI x2, qI x3, qI x4, qI x5, qI x6, qI x7] [qI y0] σ = (ev 923 0 [qR 50, qI x7, qI x5, qI 0, qU] [] σ).bind (fun x => ev 967 61 [qR 50, qI x1, qI x2, qI x3, qI x4, qI x5, qI x6, qI x7] (q_push x.1 [qR 50, qI y0]) x.2) :=
  Eq.trans (e_aload_n d_967_51 rfl) (Eq.trans (e_aload_n d_967_52 rfl) (Eq.trans (e_iload d_967_53 rfl) (Eq.trans (e_iload d_967_55 rfl) (Eq.trans (e_iconst d_967_57 k_0) (e_callV d_967_58 ml_9_209 fit_967_923 par_923 rfl rfl sh_50 (Nat.le_of_ble_eq_true rfl) (Nat.le_of_ble_eq_true rfl) (Nat.le_of_ble_eq_true rfl) rfl (by decide) rfl)))))
theorem b967_61 {x1 x2 x3 x4 x5 x6 x7 y0 y2 : Int} {σ : SS} : ev 967 61 [qR 50, qI x1, qI x2, qI x3, qI x4, qI x5, qI x6, qI x7] [qI y0, qR 50, qI y2] σ = (ev 927 0 [qR 50, qI y0, qI (σ 53 0)] [] σ).bind (fun x => ev 967 70 [qR 50, qI x1, qI x2, qI x3, qI x4, qI x5, qI x6, qI x7] (q_push x.1 [qI y2]) x.2) :=
  Eq.trans (e_aload_n d_967_61 rfl) (Eq.trans (e_getR d_967_62 fl_9_17 sh_50 rfl) (Eq.trans (e_iconst d_967_65 k_0) (Eq.trans (e_iald d_967_66 sh_53 (by decide)) (e_callV d_967_67 ml_9_244 fit_967_927 par_927 rfl rfl sh_50 (Nat.le_of_ble_eq_true rfl) (Nat.le_of_ble_eq_true rfl) (Nat.le_of_ble_eq_true rfl) rfl (by decide) rfl))))
theorem b967_70 {x1 x2 x3 x4 x5 x6 x7 y0 y1 : Int} {σ : SS} : ev 967 70 [qR 50, qI x1, qI x2, qI x3, qI x4, qI x5, qI x6, qI x7] [qI y0, qI y1] σ = if y0 = 0 then ev 967 77 [qR 50, qI x1, qI x2, qI x3, qI x4, qI x5, qI x6, qI x7] [qI y1] σ else ev 967 73 [qR 50, qI x1, qI x2, qI x3, qI x4, qI x5, qI x6, qI x7] [qI y1] σ :=
  e_if_eq d_967_70 (by decide)
theorem b967_73 {x1 x2 x3 x4 x5 x6 x7 y0 : Int} {σ : SS} : ev 967 73 [qR 50, qI x1, qI x2, qI x3, qI x4, qI x5, qI x6, qI x7] [qI y0] σ = ev 967 78 [qR 50, qI x1, qI x2, qI x3, qI x4, qI x5, qI x6, qI x7] [qI 1, qI y0] σ :=
  Eq.trans (e_iconst d_967_73 k_1) (e_goto d_967_74 (by decide))
theorem b967_77 {x1 x2 x3 x4 x5 x6 x7 y0 : Int} {σ : SS} : ev 967 77 [qR 50, qI x1, qI x2, qI x3, qI x4, qI x5, qI x6, qI x7] [qI y0] σ = ev 967 78 [qR 50, qI x1, qI x2, qI x3, qI x4, qI x5, qI x6, qI x7] [qI 0, qI y0] σ :=
  e_iconst d_967_77 k_0
theorem b967_78 {x1 x2 x3 x4 x5 x6 x7 y0 y1 : Int} {σ : SS} : ev 967 78 [qR 50, qI x1, qI x2, qI x3, qI x4, qI x5, qI x6, qI x7] [qI y0, qI y1] σ = (ev 901 0 [qI y0] [] σ).bind (fun x => ev 967 81 [qR 50, qI x1, qI x2, qI x3, qI x4, qI x5, qI x6, qI x7] (q_push x.1 [qI y1]) x.2) :=
  e_callS d_967_78 (by decide) ml_9_223 fit_967_901 par_901 rfl rfl (Nat.le_of_ble_eq_true rfl) (Nat.le_of_ble_eq_true rfl) (Nat.le_of_ble_eq_true rfl) rfl (by decide) rfl
theorem b967_81 {x1 x2 x3 x4 x5 x6 x7 y0 y1 : Int} {σ : SS} (h : (-2147483648 ≤ (y1 + y0) ∧ (y1 + y0) ≤ 2147483647) ∧ (-2147483648 ≤ (x7 + 1) ∧ (x7 + 1) ≤ 2147483647)) : ev 967 81 [qR 50, qI x1, qI x2, qI x3, qI x4, qI x5, qI x6, qI x7] [qI y0, qI y1] σ = ev 967 31 [qR 50, qI x1, qI x2, qI x3, qI x4, qI x5, qI (y1 + y0), qI (x7 + 1)] [] σ :=
  Eq.trans (e_iadd d_967_81 h.1) (Eq.trans (e_istore d_967_82 (by decide) (Nat.le_of_ble_eq_true rfl) rfl) (Eq.trans (e_iinc d_967_84 (by decide) rfl h.2 rfl) (e_goto d_967_87 (by decide))))
theorem b967_90 {x1 x2 x3 x4 x5 x6 x7 : Int} {σ : SS} (h : -2147483648 ≤ (x2 - x6) ∧ (x2 - x6) ≤ 2147483647) : ev 967 90 [qR 50, qI x1, qI x2, qI x3, qI x4, qI x5, qI x6, qI x7] [] σ = if (x2 - x6) < x6 then ev 967 99 [qR 50, qI x1, qI x2, qI x3, qI x4, qI x5, qI x6, qI x7] [] σ else ev 967 104 [qR 50, qI x1, qI x2, qI x3, qI x4, qI x5, qI x6, qI x7] [] σ :=
  Eq.trans (e_iload d_967_90 rfl) (Eq.trans (e_iload_n d_967_92 rfl) (Eq.trans (e_iload d_967_93 rfl) (Eq.trans (e_isub d_967_95 h) (e_icmp_le d_967_96 (by decide)))))
theorem b967_99 {x1 x2 x3 x4 x5 x6 x7 : Int} {σ : SS} : ev 967 99 [qR 50, qI x1, qI x2, qI x3, qI x4, qI x5, qI x6, qI x7] [] σ = ev 967 108 [qR 50, qI x1, qI x2, qI x3, qI x4, qI x5, qI x6, qI x7] [qI x6] σ :=
  Eq.trans (e_iload d_967_99 rfl) (e_goto d_967_101 (by decide))
theorem b967_104 {x1 x2 x3 x4 x5 x6 x7 : Int} {σ : SS} (h : -2147483648 ≤ (x2 - x6) ∧ (x2 - x6) ≤ 2147483647) : ev 967 104 [qR 50, qI x1, qI x2, qI x3, qI x4, qI x5, qI x6, qI x7] [] σ = ev 967 108 [qR 50, qI x1, qI x2, qI x3, qI x4, qI x5, qI x6, qI x7] [qI (x2 - x6)] σ :=
  Eq.trans (e_iload_n d_967_104 rfl) (Eq.trans (e_iload d_967_105 rfl) (e_isub d_967_107 h))
theorem b967_108 {x1 x2 x3 x4 x5 x6 x7 y0 : Int} {σ : SS} : ev 967 108 [qR 50, qI x1, qI x2, qI x3, qI x4, qI x5, qI x6, qI x7] [qI y0] σ = if y0 < x4 then ev 967 117 [qR 50, qI x1, qI x2, qI x3, qI x4, qI x5, qI x6, qI y0] [] σ else ev 967 124 [qR 50, qI x1, qI x2, qI x3, qI x4, qI x5, qI x6, qI y0] [] σ :=
  Eq.trans (e_istore d_967_108 (by decide) (Nat.le_of_ble_eq_true rfl) rfl) (Eq.trans (e_iload d_967_110 rfl) (Eq.trans (e_iload d_967_112 rfl) (e_icmp_ge d_967_114 (by decide))))
theorem b967_117 {x1 x2 x3 x4 x5 x6 x7 : Int} {σ : SS} : ev 967 117 [qR 50, qI x1, qI x2, qI x3, qI x4, qI x5, qI x6, qI x7] [] σ = ev 967 124 [qR 50, qI x1, qI x2, qI x5, qI x7, qI x5, qI x6, qI x7] [] σ :=
  Eq.trans (e_iload d_967_117 rfl) (Eq.trans (e_istore_n d_967_119 (by decide) (Nat.le_of_ble_eq_true rfl) rfl) (Eq.trans (e_iload d_967_120 rfl) (e_istore d_967_122 (by decide) (Nat.le_of_ble_eq_true rfl) rfl)))
theorem b967_124 {x1 x2 x3 x4 x5 x6 x7 : Int} {σ : SS} (h : -2147483648 ≤ (x5 + 1) ∧ (x5 + 1) ≤ 2147483647) : ev 967 124 [qR 50, qI x1, qI x2, qI x3, qI x4, qI x5, qI x6, qI x7] [] σ = ev 967 18 [qR 50, qI x1, qI x2, qI x3, qI x4, qI (x5 + 1), qI x6, qI x7] [] σ :=
  Eq.trans (e_iinc d_967_124 (by decide) rfl h rfl) (e_goto d_967_127 (by decide))
theorem b967_130 {x1 x2 x3 x4 x5 : Int} {vx6 vx7 : AV} {σ : SS} : ev 967 130 [qR 50, qI x1, qI x2, qI x3, qI x4, qI x5, vx6, vx7] [] σ = some (some (qI x3), σ) :=
  Eq.trans (e_iload_n d_967_130 rfl) (e_iret d_967_131 (q_okrI rfl))
theorem b968_0 {x1 : Int} {σ : SS} : ev 968 0 [qR 50, qI x1] [] σ = (ev 900 0 [qL x1, qU, qL 0, qU, qL 2, qU] [] σ).bind (fun x => ev 968 9 [qR 50, qI x1] (q_push x.1 []) x.2) :=
  Eq.trans (e_iload_n d_968_0 rfl) (Eq.trans (e_i2l d_968_1) (Eq.trans (e_lconst d_968_2 rfl) (Eq.trans (e_ldc2 d_968_3 ll_9_293.1 ll_9_293.2) (e_callS d_968_6 (by decide) ml_9_83 fit_968_900 par_900 rfl rfl (Nat.le_of_ble_eq_true rfl) (Nat.le_of_ble_eq_true rfl) (Nat.le_of_ble_eq_true rfl) rfl (by decide) rfl))))
theorem b968_9 {x1 y0 : Int} {σ : SS} : ev 968 9 [qR 50, qI x1] [qI y0] σ = if y0 = 0 then ev 968 12 [qR 50, qI x1] [] σ else ev 968 15 [qR 50, qI x1] [] σ :=
  e_if_ne d_968_9 (by decide)
theorem b968_12 {x1 : Int} {σ : SS} : ev 968 12 [qR 50, qI x1] [] σ = some (some (qI (-1000000002)), σ) :=
  Eq.trans (e_ldc d_968_12 ld_9_87 k_m1000000002) (e_iret d_968_14 (q_okrI rfl))
theorem b968_15 {x1 : Int} {σ : SS} : ev 968 15 [qR 50, qI x1] [] σ = if (σ 50 37) = 12 then ev 968 24 [qR 50, qI x1] [] σ else ev 968 27 [qR 50, qI x1] [] σ :=
  Eq.trans (e_aload_n d_968_15 rfl) (Eq.trans (e_getI d_968_16 fl_9_203 sh_50 rfl) (Eq.trans (e_bipush d_968_19 kb_12) (e_icmp_ne d_968_21 (by decide))))
theorem b968_24 {x1 : Int} {σ : SS} : ev 968 24 [qR 50, qI x1] [] σ = some (some (qI (-1000000004)), σ) :=
  Eq.trans (e_ldc d_968_24 ld_9_91 k_m1000000004) (e_iret d_968_26 (q_okrI rfl))
theorem b968_27 {x1 : Int} {σ : SS} (h : (0 ≤ (σ 50 37) ∧ (σ 50 37) < 12) ∧ (-2147483648 ≤ ((σ 50 37) + 1) ∧ ((σ 50 37) + 1) ≤ 2147483647)) : ev 968 27 [qR 50, qI x1] [] σ = some (some (qI ((σ 50 37) + 1)), (q_put (q_put σ 68 (σ 50 37).toNat x1) 50 37 ((σ 50 37) + 1))) :=
  Eq.trans (e_aload_n d_968_27 rfl) (Eq.trans (e_getR d_968_28 fl_9_66 sh_50 rfl) (Eq.trans (e_aload_n d_968_31 rfl) (Eq.trans (e_getI d_968_32 fl_9_203 sh_50 rfl) (Eq.trans (e_iload_n d_968_35 rfl) (Eq.trans (e_iast d_968_36 sh_68 h.1) (Eq.trans (e_aload_n d_968_37 rfl) (Eq.trans (e_dup d_968_38 rfl) (Eq.trans (e_getI d_968_39 fl_9_203 sh_50 rfl) (Eq.trans (e_iconst d_968_42 k_1) (Eq.trans (e_iadd d_968_43 h.2) (Eq.trans (e_put d_968_44 fl_9_203 sh_50 rfl rfl rfl) (Eq.trans (e_aload_n d_968_47 rfl) (Eq.trans (e_getI d_968_48 fl_9_203 sh_50 rfl) (e_iret d_968_51 (q_okrI rfl)))))))))))))))
theorem b970_0 {σ : SS} : ev 970 0 [qR 50, qU, qU, qU] [] σ = ev 970 4 [qR 50, qI 0, qI 0, qU] [] σ :=
  Eq.trans (e_iconst d_970_0 k_0) (Eq.trans (e_istore_n d_970_1 (by decide) (Nat.le_of_ble_eq_true rfl) rfl) (Eq.trans (e_iconst d_970_2 k_0) (e_istore_n d_970_3 (by decide) (Nat.le_of_ble_eq_true rfl) rfl)))
theorem b970_4 {x1 x2 : Int} {vx3 : AV} {σ : SS} : ev 970 4 [qR 50, qI x1, qI x2, vx3] [] σ = if x2 < (σ 50 14) then ev 970 12 [qR 50, qI x1, qI x2, vx3] [] σ else ev 970 50 [qR 50, qI x1, qI x2, vx3] [] σ :=
  Eq.trans (e_iload_n d_970_4 rfl) (Eq.trans (e_aload_n d_970_5 rfl) (Eq.trans (e_getI d_970_6 fl_9_191 sh_50 rfl) (e_icmp_ge d_970_9 (by decide))))
theorem b970_12 {x1 x2 : Int} {vx3 : AV} {σ : SS} : ev 970 12 [qR 50, qI x1, qI x2, vx3] [] σ = ev 970 14 [qR 50, qI x1, qI x2, qI 0] [] σ :=
  Eq.trans (e_iconst d_970_12 k_0) (e_istore_n d_970_13 (by decide) (Nat.le_of_ble_eq_true rfl) rfl)
theorem b970_14 {x1 x2 x3 : Int} {σ : SS} (h : 0 ≤ x2 ∧ x2 < 12) : ev 970 14 [qR 50, qI x1, qI x2, qI x3] [] σ = if x3 < (σ 61 x2.toNat) then ev 970 24 [qR 50, qI x1, qI x2, qI x3] [] σ else ev 970 44 [qR 50, qI x1, qI x2, qI x3] [] σ :=
  Eq.trans (e_iload_n d_970_14 rfl) (Eq.trans (e_aload_n d_970_15 rfl) (Eq.trans (e_getR d_970_16 fl_9_41 sh_50 rfl) (Eq.trans (e_iload_n d_970_19 rfl) (Eq.trans (e_iald d_970_20 sh_61 h) (e_icmp_ge d_970_21 (by decide))))))
theorem b970_24 {x1 x2 x3 : Int} {σ : SS} : ev 970 24 [qR 50, qI x1, qI x2, qI x3] [] σ = (ev 969 0 [qR 50, qI x2, qI x3, qU, qU] [] σ).bind (fun x => ev 970 31 [qR 50, qI x1, qI x2, qI x3] (q_push x.1 [qI x1]) x.2) :=
  Eq.trans (e_iload_n d_970_24 rfl) (Eq.trans (e_aload_n d_970_25 rfl) (Eq.trans (e_iload_n d_970_26 rfl) (Eq.trans (e_iload_n d_970_27 rfl) (e_callV d_970_28 ml_9_319 fit_970_969 par_969 rfl rfl sh_50 (Nat.le_of_ble_eq_true rfl) (Nat.le_of_ble_eq_true rfl) (Nat.le_of_ble_eq_true rfl) rfl (by decide) rfl))))
theorem b970_31 {x1 x2 x3 y0 y1 : Int} {σ : SS} : ev 970 31 [qR 50, qI x1, qI x2, qI x3] [qI y0, qI y1] σ = (ev 901 0 [qI y0] [] σ).bind (fun x => ev 970 34 [qR 50, qI x1, qI x2, qI x3] (q_push x.1 [qI y1]) x.2) :=
  e_callS d_970_31 (by decide) ml_9_223 fit_970_901 par_901 rfl rfl (Nat.le_of_ble_eq_true rfl) (Nat.le_of_ble_eq_true rfl) (Nat.le_of_ble_eq_true rfl) rfl (by decide) rfl
theorem b970_34 {x1 x2 x3 y0 y1 : Int} {σ : SS} (h : -2147483648 ≤ (x3 + 1) ∧ (x3 + 1) ≤ 2147483647) : ev 970 34 [qR 50, qI x1, qI x2, qI x3] [qI y0, qI y1] σ = ev 970 14 [qR 50, qI (q_or y1 (q_shl y0 x2)), qI x2, qI (x3 + 1)] [] σ :=
  Eq.trans (e_iload_n d_970_34 rfl) (Eq.trans (e_ishl d_970_35) (Eq.trans (e_ior d_970_36) (Eq.trans (e_istore_n d_970_37 (by decide) (Nat.le_of_ble_eq_true rfl) rfl) (Eq.trans (e_iinc d_970_38 (by decide) rfl h rfl) (e_goto d_970_41 (by decide))))))
theorem b970_44 {x1 x2 x3 : Int} {σ : SS} (h : -2147483648 ≤ (x2 + 1) ∧ (x2 + 1) ≤ 2147483647) : ev 970 44 [qR 50, qI x1, qI x2, qI x3] [] σ = ev 970 4 [qR 50, qI x1, qI (x2 + 1), qI x3] [] σ :=
  Eq.trans (e_iinc d_970_44 (by decide) rfl h rfl) (e_goto d_970_47 (by decide))
theorem b970_50 {x1 x2 : Int} {vx3 : AV} {σ : SS} : ev 970 50 [qR 50, qI x1, qI x2, vx3] [] σ = some (some (qI x1), σ) :=
  Eq.trans (e_iload_n d_970_50 rfl) (e_iret d_970_51 (q_okrI rfl))
theorem b971_0 {x1 x2 x3 : Int} {σ : SS} : ev 971 0 [qR 50, qI x1, qI x2, qI x3] [] σ = (ev 922 0 [qR 50, qI x2] [] σ).bind (fun x => ev 971 5 [qR 50, qI x1, qI x2, qI x3] (q_push x.1 []) x.2) :=
  Eq.trans (e_aload_n d_971_0 rfl) (Eq.trans (e_iload_n d_971_1 rfl) (e_callV d_971_2 ml_9_235 fit_971_922 par_922 rfl rfl sh_50 (Nat.le_of_ble_eq_true rfl) (Nat.le_of_ble_eq_true rfl) (Nat.le_of_ble_eq_true rfl) rfl (by decide) rfl))
theorem b971_5 {x1 x2 x3 y0 : Int} {σ : SS} : ev 971 5 [qR 50, qI x1, qI x2, qI x3] [qI y0] σ = if y0 = 0 then ev 971 8 [qR 50, qI x1, qI x2, qI x3] [] σ else ev 971 11 [qR 50, qI x1, qI x2, qI x3] [] σ :=
  e_if_ne d_971_5 (by decide)
theorem b971_8 {x1 x2 x3 : Int} {σ : SS} : ev 971 8 [qR 50, qI x1, qI x2, qI x3] [] σ = some (some (qI (-1000000001)), σ) :=
  Eq.trans (e_ldc d_971_8 ld_9_231 k_m1000000001) (e_iret d_971_10 (q_okrI rfl))
theorem b971_11 {x1 x2 x3 : Int} {σ : SS} : ev 971 11 [qR 50, qI x1, qI x2, qI x3] [] σ = (ev 900 0 [qL x1, qU, qL 0, qU, qL 99999, qU] [] σ).bind (fun x => ev 971 20 [qR 50, qI x1, qI x2, qI x3] (q_push x.1 []) x.2) :=
  Eq.trans (e_iload_n d_971_11 rfl) (Eq.trans (e_i2l d_971_12) (Eq.trans (e_lconst d_971_13 rfl) (Eq.trans (e_ldc2 d_971_14 ll_9_247.1 ll_9_247.2) (e_callS d_971_17 (by decide) ml_9_83 fit_971_900 par_900 rfl rfl (Nat.le_of_ble_eq_true rfl) (Nat.le_of_ble_eq_true rfl) (Nat.le_of_ble_eq_true rfl) rfl (by decide) rfl))))
theorem b971_20 {x1 x2 x3 y0 : Int} {σ : SS} : ev 971 20 [qR 50, qI x1, qI x2, qI x3] [qI y0] σ = if y0 = 0 then ev 971 23 [qR 50, qI x1, qI x2, qI x3] [] σ else ev 971 26 [qR 50, qI x1, qI x2, qI x3] [] σ :=
  e_if_ne d_971_20 (by decide)
theorem b971_23 {x1 x2 x3 : Int} {σ : SS} : ev 971 23 [qR 50, qI x1, qI x2, qI x3] [] σ = some (some (qI (-1000000002)), σ) :=
  Eq.trans (e_ldc d_971_23 ld_9_87 k_m1000000002) (e_iret d_971_25 (q_okrI rfl))
theorem b971_26 {x1 x2 x3 : Int} {σ : SS} : ev 971 26 [qR 50, qI x1, qI x2, qI x3] [] σ = if (σ 50 41) = 30 then ev 971 35 [qR 50, qI x1, qI x2, qI x3] [] σ else ev 971 38 [qR 50, qI x1, qI x2, qI x3] [] σ :=
  Eq.trans (e_aload_n d_971_26 rfl) (Eq.trans (e_getI d_971_27 fl_9_206 sh_50 rfl) (Eq.trans (e_bipush d_971_30 kb_30) (e_icmp_ne d_971_32 (by decide))))
theorem b971_35 {x1 x2 x3 : Int} {σ : SS} : ev 971 35 [qR 50, qI x1, qI x2, qI x3] [] σ = some (some (qI (-1000000004)), σ) :=
  Eq.trans (e_ldc d_971_35 ld_9_91 k_m1000000004) (e_iret d_971_37 (q_okrI rfl))
theorem b971_38 {x1 x2 x3 : Int} {σ : SS} (h : (0 ≤ (σ 50 41) ∧ (σ 50 41) < 30) ∧ (x3 = 0 ∨ x3 = 1) ∧ (-2147483648 ≤ ((σ 50 41) + 1) ∧ ((σ 50 41) + 1) ≤ 2147483647)) : ev 971 38 [qR 50, qI x1, qI x2, qI x3] [] σ = some (some (qI ((σ 50 41) + 1)), (q_put (q_put (q_put (q_put σ 69 (σ 50 41).toNat x1) 70 (σ 50 41).toNat x2) 71 (σ 50 41).toNat x3) 50 41 ((σ 50 41) + 1))) :=
  Eq.trans (e_aload_n d_971_38 rfl) (Eq.trans (e_getR d_971_39 fl_9_69 sh_50 rfl) (Eq.trans (e_aload_n d_971_42 rfl) (Eq.trans (e_getI d_971_43 fl_9_206 sh_50 rfl) (Eq.trans (e_iload_n d_971_46 rfl) (Eq.trans (e_iast d_971_47 sh_69 h.1) (Eq.trans (e_aload_n d_971_48 rfl) (Eq.trans (e_getR d_971_49 fl_9_72 sh_50 rfl) (Eq.trans (e_aload_n d_971_52 rfl) (Eq.trans (e_getI d_971_53 fl_9_206 sh_50 rfl) (Eq.trans (e_iload_n d_971_56 rfl) (Eq.trans (e_iast d_971_57 sh_70 h.1) (Eq.trans (e_aload_n d_971_58 rfl) (Eq.trans (e_getR d_971_59 fl_9_75 sh_50 rfl) (Eq.trans (e_aload_n d_971_62 rfl) (Eq.trans (e_getI d_971_63 fl_9_206 sh_50 rfl) (Eq.trans (e_iload_n d_971_66 rfl) (Eq.trans (e_bast d_971_67 sh_71 h.1 h.2.1) (Eq.trans (e_aload_n d_971_68 rfl) (Eq.trans (e_dup d_971_69 rfl) (Eq.trans (e_getI d_971_70 fl_9_206 sh_50 rfl) (Eq.trans (e_iconst d_971_73 k_1) (Eq.trans (e_iadd d_971_74 h.2.2) (Eq.trans (e_put d_971_75 fl_9_206 sh_50 rfl rfl rfl) (Eq.trans (e_aload_n d_971_78 rfl) (Eq.trans (e_getI d_971_79 fl_9_206 sh_50 rfl) (e_iret d_971_82 (q_okrI rfl)))))))))))))))))))))))))))
theorem b972_0 {σ : SS} (h : (-2147483648 ≤ ((σ 50 35) + (σ 50 37)) ∧ ((σ 50 35) + (σ 50 37)) ≤ 2147483647) ∧ (-2147483648 ≤ (((σ 50 35) + (σ 50 37)) + (σ 50 41)) ∧ (((σ 50 35) + (σ 50 37)) + (σ 50 41)) ≤ 2147483647)) : ev 972 0 [qR 50, qU] [] σ = some (some (qI (((σ 50 35) + (σ 50 37)) + (σ 50 41))), (q_put (q_put (q_put σ 50 35 0) 50 37 0) 50 41 0)) :=
  Eq.trans (e_aload_n d_972_0 rfl) (Eq.trans (e_getI d_972_1 fl_9_200 sh_50 rfl) (Eq.trans (e_aload_n d_972_4 rfl) (Eq.trans (e_getI d_972_5 fl_9_203 sh_50 rfl) (Eq.trans (e_iadd d_972_8 h.1) (Eq.trans (e_aload_n d_972_9 rfl) (Eq.trans (e_getI d_972_10 fl_9_206 sh_50 rfl) (Eq.trans (e_iadd d_972_13 h.2) (Eq.trans (e_istore_n d_972_14 (by decide) (Nat.le_of_ble_eq_true rfl) rfl) (Eq.trans (e_aload_n d_972_15 rfl) (Eq.trans (e_iconst d_972_16 k_0) (Eq.trans (e_put d_972_17 fl_9_200 sh_50 rfl rfl rfl) (Eq.trans (e_aload_n d_972_20 rfl) (Eq.trans (e_iconst d_972_21 k_0) (Eq.trans (e_put d_972_22 fl_9_203 sh_50 rfl rfl rfl) (Eq.trans (e_aload_n d_972_25 rfl) (Eq.trans (e_iconst d_972_26 k_0) (Eq.trans (e_put d_972_27 fl_9_206 sh_50 rfl rfl rfl) (Eq.trans (e_iload_n d_972_30 rfl) (e_iret d_972_31 (q_okrI rfl))))))))))))))))))))
theorem b973_0 {σ : SS} : ev 973 0 [qR 50, qU] [] σ = ev 973 2 [qR 50, qI 0] [] σ :=
  Eq.trans (e_iconst d_973_0 k_0) (e_istore_n d_973_1 (by decide) (Nat.le_of_ble_eq_true rfl) rfl)
theorem b973_2 {x1 : Int} {σ : SS} : ev 973 2 [qR 50, qI x1] [] σ = if x1 < (σ 50 41) then ev 973 10 [qR 50, qI x1] [] σ else ev 973 49 [qR 50, qI x1] [] σ :=
  Eq.trans (e_iload_n d_973_2 rfl) (Eq.trans (e_aload_n d_973_3 rfl) (Eq.trans (e_getI d_973_4 fl_9_206 sh_50 rfl) (e_icmp_ge d_973_7 (by decide))))
theorem b973_10 {x1 : Int} {σ : SS} (h : 0 ≤ x1 ∧ x1 < 30) : ev 973 10 [qR 50, qI x1] [] σ = (ev 958 0 [qR 50, qI (σ 70 x1.toNat), qI (σ 69 x1.toNat), qI (σ 53 0)] [] σ).bind (fun x => ev 973 32 [qR 50, qI x1] (q_push x.1 []) x.2) :=
  Eq.trans (e_aload_n d_973_10 rfl) (Eq.trans (e_aload_n d_973_11 rfl) (Eq.trans (e_getR d_973_12 fl_9_72 sh_50 rfl) (Eq.trans (e_iload_n d_973_15 rfl) (Eq.trans (e_iald d_973_16 sh_70 h) (Eq.trans (e_aload_n d_973_17 rfl) (Eq.trans (e_getR d_973_18 fl_9_69 sh_50 rfl) (Eq.trans (e_iload_n d_973_21 rfl) (Eq.trans (e_iald d_973_22 sh_69 h) (Eq.trans (e_aload_n d_973_23 rfl) (Eq.trans (e_getR d_973_24 fl_9_17 sh_50 rfl) (Eq.trans (e_iconst d_973_27 k_0) (Eq.trans (e_iald d_973_28 sh_53 (by decide)) (e_callV d_973_29 ml_9_307 fit_973_958 par_958 rfl rfl sh_50 (Nat.le_of_ble_eq_true rfl) (Nat.le_of_ble_eq_true rfl) (Nat.le_of_ble_eq_true rfl) rfl (by decide) rfl)))))))))))))
theorem b973_32 {x1 y0 : Int} {σ : SS} (h : 0 ≤ x1 ∧ x1 < 30) : ev 973 32 [qR 50, qI x1] [qI y0] σ = if y0 = (σ 71 x1.toNat) then ev 973 43 [qR 50, qI x1] [] σ else ev 973 41 [qR 50, qI x1] [] σ :=
  Eq.trans (e_aload_n d_973_32 rfl) (Eq.trans (e_getR d_973_33 fl_9_75 sh_50 rfl) (Eq.trans (e_iload_n d_973_36 rfl) (Eq.trans (e_bald d_973_37 sh_71 h) (e_icmp_eq d_973_38 (by decide)))))
theorem b973_41 {x1 : Int} {σ : SS} : ev 973 41 [qR 50, qI x1] [] σ = some (some (qI x1), σ) :=
  Eq.trans (e_iload_n d_973_41 rfl) (e_iret d_973_42 (q_okrI rfl))
theorem b973_43 {x1 : Int} {σ : SS} (h : -2147483648 ≤ (x1 + 1) ∧ (x1 + 1) ≤ 2147483647) : ev 973 43 [qR 50, qI x1] [] σ = ev 973 2 [qR 50, qI (x1 + 1)] [] σ :=
  Eq.trans (e_iinc d_973_43 (by decide) rfl h rfl) (e_goto d_973_46 (by decide))
theorem b973_49 {x1 : Int} {σ : SS} : ev 973 49 [qR 50, qI x1] [] σ = some (some (qI (-1)), σ) :=
  Eq.trans (e_iconst d_973_49 k_m1) (e_iret d_973_50 (q_okrI rfl))
theorem b974_0 {x1 : Int} {σ : SS} : ev 974 0 [qR 50, qI x1, qU] [] σ = if x1 < 0 then ev 974 4 [qR 50, qI x1, qU] [] σ else ev 974 7 [qR 50, qI x1, qU] [] σ :=
  Eq.trans (e_iload_n d_974_0 rfl) (e_if_ge d_974_1 (by decide))
theorem b974_4 {x1 : Int} {σ : SS} : ev 974 4 [qR 50, qI x1, qU] [] σ = some (some (qI (-1000000002)), σ) :=
  Eq.trans (e_ldc d_974_4 ld_9_87 k_m1000000002) (e_iret d_974_6 (q_okrI rfl))
theorem b974_7 {x1 : Int} {σ : SS} : ev 974 7 [qR 50, qI x1, qU] [] σ = some (some (qI (σ 51 23)), (q_put σ 51 23 x1)) :=
  Eq.trans (e_aload_n d_974_7 rfl) (Eq.trans (e_getR d_974_8 fl_9_7 sh_50 rfl) (Eq.trans (e_bipush d_974_11 kb_23) (Eq.trans (e_iald d_974_13 sh_51 (by decide)) (Eq.trans (e_istore_n d_974_14 (by decide) (Nat.le_of_ble_eq_true rfl) rfl) (Eq.trans (e_aload_n d_974_15 rfl) (Eq.trans (e_getR d_974_16 fl_9_7 sh_50 rfl) (Eq.trans (e_bipush d_974_19 kb_23) (Eq.trans (e_iload_n d_974_21 rfl) (Eq.trans (e_iast d_974_22 sh_51 (by decide)) (Eq.trans (e_iload_n d_974_23 rfl) (e_iret d_974_24 (q_okrI rfl))))))))))))
theorem b976_0 {x1 : Int} {σ : SS} : ev 976 0 [qR 50, qI x1] [] σ = (ev 900 0 [qL x1, qU, qL 0, qU, qL 1, qU] [] σ).bind (fun x => ev 976 7 [qR 50, qI x1] (q_push x.1 []) x.2) :=
  Eq.trans (e_iload_n d_976_0 rfl) (Eq.trans (e_i2l d_976_1) (Eq.trans (e_lconst d_976_2 rfl) (Eq.trans (e_lconst d_976_3 rfl) (e_callS d_976_4 (by decide) ml_9_83 fit_976_900 par_900 rfl rfl (Nat.le_of_ble_eq_true rfl) (Nat.le_of_ble_eq_true rfl) (Nat.le_of_ble_eq_true rfl) rfl (by decide) rfl))))
theorem b976_7 {x1 y0 : Int} {σ : SS} : ev 976 7 [qR 50, qI x1] [qI y0] σ = if y0 = 0 then ev 976 10 [qR 50, qI x1] [] σ else ev 976 13 [qR 50, qI x1] [] σ :=
  e_if_ne d_976_7 (by decide)
theorem b976_10 {x1 : Int} {σ : SS} : ev 976 10 [qR 50, qI x1] [] σ = some (some (qI (-1000000001)), σ) :=
  Eq.trans (e_ldc d_976_10 ld_9_231 k_m1000000001) (e_iret d_976_12 (q_okrI rfl))
theorem b976_13 {x1 : Int} {σ : SS} (h : (-2147483648 ≤ (1 + x1) ∧ (1 + x1) ≤ 2147483647) ∧ (-2147483648 ≤ (32 * (1 + x1)) ∧ (32 * (1 + x1)) ≤ 2147483647)) : ev 976 13 [qR 50, qI x1] [] σ = (ev 975 0 [qR 50, qI 0, qI (32 * (1 + x1)), qU] [] σ).bind (fun x => ev 976 24 [qR 50, qI x1] (q_push x.1 []) x.2) :=
  Eq.trans (e_aload_n d_976_13 rfl) (Eq.trans (e_iconst d_976_14 k_0) (Eq.trans (e_bipush d_976_15 kb_32) (Eq.trans (e_iconst d_976_17 k_1) (Eq.trans (e_iload_n d_976_18 rfl) (Eq.trans (e_iadd d_976_19 h.1) (Eq.trans (e_imul d_976_20 h.2) (e_callV d_976_21 ml_9_322 fit_976_975 par_975 rfl rfl sh_50 (Nat.le_of_ble_eq_true rfl) (Nat.le_of_ble_eq_true rfl) (Nat.le_of_ble_eq_true rfl) rfl (by decide) rfl)))))))
theorem b976_24 {x1 : Int} {σ : SS} (h : 0 ≤ x1 ∧ x1 < 2) : ev 976 24 [qR 50, qI x1] [] σ = some (some (qI 1), (q_put σ 52 x1.toNat 1)) :=
  Eq.trans (e_aload_n d_976_24 rfl) (Eq.trans (e_getR d_976_25 fl_9_13 sh_50 rfl) (Eq.trans (e_iload_n d_976_28 rfl) (Eq.trans (e_iconst d_976_29 k_1) (Eq.trans (e_bast d_976_30 sh_52 h (by decide)) (Eq.trans (e_iconst d_976_31 k_1) (e_iret d_976_32 (q_okrI rfl)))))))
theorem b977_0 {x1 : Int} {σ : SS} : ev 977 0 [qR 50, qI x1] [] σ = (ev 900 0 [qL x1, qU, qL 0, qU, qL 1, qU] [] σ).bind (fun x => ev 977 7 [qR 50, qI x1] (q_push x.1 []) x.2) :=
  Eq.trans (e_iload_n d_977_0 rfl) (Eq.trans (e_i2l d_977_1) (Eq.trans (e_lconst d_977_2 rfl) (Eq.trans (e_lconst d_977_3 rfl) (e_callS d_977_4 (by decide) ml_9_83 fit_977_900 par_900 rfl rfl (Nat.le_of_ble_eq_true rfl) (Nat.le_of_ble_eq_true rfl) (Nat.le_of_ble_eq_true rfl) rfl (by decide) rfl))))
theorem b977_7 {x1 y0 : Int} {σ : SS} : ev 977 7 [qR 50, qI x1] [qI y0] σ = if y0 = 0 then ev 977 10 [qR 50, qI x1] [] σ else ev 977 13 [qR 50, qI x1] [] σ :=
  e_if_ne d_977_7 (by decide)
theorem b977_10 {x1 : Int} {σ : SS} : ev 977 10 [qR 50, qI x1] [] σ = some (some (qI (-1000000001)), σ) :=
  Eq.trans (e_ldc d_977_10 ld_9_231 k_m1000000001) (e_iret d_977_12 (q_okrI rfl))
theorem b977_13 {x1 : Int} {σ : SS} (h : 0 ≤ x1 ∧ x1 < 2) : ev 977 13 [qR 50, qI x1] [] σ = if (σ 52 x1.toNat) = 0 then ev 977 22 [qR 50, qI x1] [] σ else ev 977 25 [qR 50, qI x1] [] σ :=
  Eq.trans (e_aload_n d_977_13 rfl) (Eq.trans (e_getR d_977_14 fl_9_13 sh_50 rfl) (Eq.trans (e_iload_n d_977_17 rfl) (Eq.trans (e_bald d_977_18 sh_52 h) (e_if_ne d_977_19 (by decide)))))
theorem b977_22 {x1 : Int} {σ : SS} : ev 977 22 [qR 50, qI x1] [] σ = some (some (qI (-1000000003)), σ) :=
  Eq.trans (e_ldc d_977_22 ld_9_251 k_m1000000003) (e_iret d_977_24 (q_okrI rfl))
theorem b977_25 {x1 : Int} {σ : SS} (h : (-2147483648 ≤ (1 + x1) ∧ (1 + x1) ≤ 2147483647) ∧ (-2147483648 ≤ (32 * (1 + x1)) ∧ (32 * (1 + x1)) ≤ 2147483647)) : ev 977 25 [qR 50, qI x1] [] σ = (ev 975 0 [qR 50, qI (32 * (1 + x1)), qI 0, qU] [] σ).bind (fun x => ev 977 36 [qR 50, qI x1] (q_push x.1 []) x.2) :=
  Eq.trans (e_aload_n d_977_25 rfl) (Eq.trans (e_bipush d_977_26 kb_32) (Eq.trans (e_iconst d_977_28 k_1) (Eq.trans (e_iload_n d_977_29 rfl) (Eq.trans (e_iadd d_977_30 h.1) (Eq.trans (e_imul d_977_31 h.2) (Eq.trans (e_iconst d_977_32 k_0) (e_callV d_977_33 ml_9_322 fit_977_975 par_975 rfl rfl sh_50 (Nat.le_of_ble_eq_true rfl) (Nat.le_of_ble_eq_true rfl) (Nat.le_of_ble_eq_true rfl) rfl (by decide) rfl)))))))
theorem b977_36 {x1 : Int} {σ : SS} : ev 977 36 [qR 50, qI x1] [] σ = some (some (qI 1), σ) :=
  Eq.trans (e_iconst d_977_36 k_1) (e_iret d_977_37 (q_okrI rfl))
theorem b900_0 {x0 x2 x4 : Int} {σ : SS} : ev 900 0 [qL x0, qU, qL x2, qU, qL x4, qU] [] σ = if (q_lcmp x0 x2) < 0 then ev 900 17 [qL x0, qU, qL x2, qU, qL x4, qU] [] σ else ev 900 6 [qL x0, qU, qL x2, qU, qL x4, qU] [] σ :=
  Eq.trans (e_lload_n d_900_0 rfl) (Eq.trans (e_lload_n d_900_1 rfl) (Eq.trans (e_lcmp d_900_2) (e_if_lt d_900_3 (by decide))))
theorem b900_6 {x0 x2 x4 : Int} {σ : SS} : ev 900 6 [qL x0, qU, qL x2, qU, qL x4, qU] [] σ = if 0 < (q_lcmp x0 x4) then ev 900 17 [qL x0, qU, qL x2, qU, qL x4, qU] [] σ else ev 900 13 [qL x0, qU, qL x2, qU, qL x4, qU] [] σ :=
  Eq.trans (e_lload_n d_900_6 rfl) (Eq.trans (e_lload d_900_7 rfl) (Eq.trans (e_lcmp d_900_9) (e_if_gt d_900_10 (by decide))))
theorem b900_13 {x0 x2 x4 : Int} {σ : SS} : ev 900 13 [qL x0, qU, qL x2, qU, qL x4, qU] [] σ = ev 900 18 [qL x0, qU, qL x2, qU, qL x4, qU] [qI 1] σ :=
  Eq.trans (e_iconst d_900_13 k_1) (e_goto d_900_14 (by decide))
theorem b900_17 {x0 x2 x4 : Int} {σ : SS} : ev 900 17 [qL x0, qU, qL x2, qU, qL x4, qU] [] σ = ev 900 18 [qL x0, qU, qL x2, qU, qL x4, qU] [qI 0] σ :=
  e_iconst d_900_17 k_0
theorem b900_18 {x0 x2 x4 y0 : Int} {σ : SS} (h : y0 = 0 ∨ y0 = 1) : ev 900 18 [qL x0, qU, qL x2, qU, qL x4, qU] [qI y0] σ = some (some (qI y0), σ) :=
  e_iret d_900_18 (q_okrZ rfl h)
theorem b905_0 {σ : SS} : ev 905 0 [qR 50] [] σ = if (σ 50 25) < (σ 50 24) then ev 905 11 [qR 50] [] σ else ev 905 38 [qR 50] [] σ :=
  Eq.trans (e_aload_n d_905_0 rfl) (Eq.trans (e_getI d_905_1 fl_9_92 sh_50 rfl) (Eq.trans (e_aload_n d_905_4 rfl) (Eq.trans (e_getI d_905_5 fl_9_88 sh_50 rfl) (e_icmp_ge d_905_8 (by decide)))))
theorem b905_11 {σ : SS} (h : 0 ≤ (σ 50 25) ∧ (σ 50 25) < 300) : ev 905 11 [qR 50] [] σ = if (σ 62 (σ 50 25).toNat) = 32 then ev 905 25 [qR 50] [] σ else ev 905 38 [qR 50] [] σ :=
  Eq.trans (e_aload_n d_905_11 rfl) (Eq.trans (e_getR d_905_12 fl_9_44 sh_50 rfl) (Eq.trans (e_aload_n d_905_15 rfl) (Eq.trans (e_getI d_905_16 fl_9_92 sh_50 rfl) (Eq.trans (e_iald d_905_19 sh_62 h) (Eq.trans (e_bipush d_905_20 kb_32) (e_icmp_ne d_905_22 (by decide)))))))
theorem b905_25 {σ : SS} (h : -2147483648 ≤ ((σ 50 25) + 1) ∧ ((σ 50 25) + 1) ≤ 2147483647) : ev 905 25 [qR 50] [] σ = ev 905 0 [qR 50] [] (q_put σ 50 25 ((σ 50 25) + 1)) :=
  Eq.trans (e_aload_n d_905_25 rfl) (Eq.trans (e_dup d_905_26 rfl) (Eq.trans (e_getI d_905_27 fl_9_92 sh_50 rfl) (Eq.trans (e_iconst d_905_30 k_1) (Eq.trans (e_iadd d_905_31 h) (Eq.trans (e_put d_905_32 fl_9_92 sh_50 rfl rfl rfl) (e_goto d_905_35 (by decide)))))))
theorem b905_38 {σ : SS} : ev 905 38 [qR 50] [] σ = if (σ 50 25) < (σ 50 24) then ev 905 49 [qR 50] [] σ else ev 905 61 [qR 50] [] σ :=
  Eq.trans (e_aload_n d_905_38 rfl) (Eq.trans (e_getI d_905_39 fl_9_92 sh_50 rfl) (Eq.trans (e_aload_n d_905_42 rfl) (Eq.trans (e_getI d_905_43 fl_9_88 sh_50 rfl) (e_icmp_ge d_905_46 (by decide)))))
theorem b905_49 {σ : SS} (h : 0 ≤ (σ 50 25) ∧ (σ 50 25) < 300) : ev 905 49 [qR 50] [] σ = ev 905 62 [qR 50] [qI (σ 62 (σ 50 25).toNat)] σ :=
  Eq.trans (e_aload_n d_905_49 rfl) (Eq.trans (e_getR d_905_50 fl_9_44 sh_50 rfl) (Eq.trans (e_aload_n d_905_53 rfl) (Eq.trans (e_getI d_905_54 fl_9_92 sh_50 rfl) (Eq.trans (e_iald d_905_57 sh_62 h) (e_goto d_905_58 (by decide))))))
theorem b905_61 {σ : SS} : ev 905 61 [qR 50] [] σ = ev 905 62 [qR 50] [qI (-1)] σ :=
  e_iconst d_905_61 k_m1
theorem b905_62 {y0 : Int} {σ : SS} : ev 905 62 [qR 50] [qI y0] σ = some (some (qI y0), σ) :=
  e_iret d_905_62 (q_okrI rfl)
theorem b918_0 {σ : SS} : ev 918 0 [qR 50, qU] [] σ = (ev 907 0 [qR 50, qU] [] σ).bind (fun x => ev 918 4 [qR 50, qU] (q_push x.1 []) x.2) :=
  Eq.trans (e_aload_n d_918_0 rfl) (e_callV d_918_1 ml_9_152 fit_918_907 par_907 rfl rfl sh_50 (Nat.le_of_ble_eq_true rfl) (Nat.le_of_ble_eq_true rfl) (Nat.le_of_ble_eq_true rfl) rfl (by decide) rfl)
theorem b918_4 {σ : SS} : ev 918 4 [qR 50, qU] [] σ = (ev 908 0 [qR 50, qI 4, qI 115, qI 104, qI 111, qI 101, qI 0, qU, qU] [] σ).bind (fun x => ev 918 23 [qR 50, qI (σ 50 26)] (q_push x.1 []) x.2) :=
  Eq.trans (e_aload_n d_918_4 rfl) (Eq.trans (e_getI d_918_5 fl_9_102 sh_50 rfl) (Eq.trans (e_istore_n d_918_8 (by decide) (Nat.le_of_ble_eq_true rfl) rfl) (Eq.trans (e_aload_n d_918_9 rfl) (Eq.trans (e_iconst d_918_10 k_4) (Eq.trans (e_bipush d_918_11 kb_115) (Eq.trans (e_bipush d_918_13 kb_104) (Eq.trans (e_bipush d_918_15 kb_111) (Eq.trans (e_bipush d_918_17 kb_101) (Eq.trans (e_iconst d_918_19 k_0) (e_callV d_918_20 ml_9_159 fit_918_908 par_908 rfl rfl sh_50 (Nat.le_of_ble_eq_true rfl) (Nat.le_of_ble_eq_true rfl) (Nat.le_of_ble_eq_true rfl) rfl (by decide) rfl))))))))))
theorem b918_23 {x1 y0 : Int} {σ : SS} : ev 918 23 [qR 50, qI x1] [qI y0] σ = if y0 = 0 then ev 918 34 [qR 50, qI x1] [] σ else ev 918 26 [qR 50, qI x1] [] σ :=
  e_if_eq d_918_23 (by decide)
theorem b918_26 {x1 : Int} {σ : SS} : ev 918 26 [qR 50, qI x1] [] σ = (ev 910 0 [qR 50, qI x1] [] σ).bind (fun x => ev 918 31 [qR 50, qI x1] (q_push x.1 []) x.2) :=
  Eq.trans (e_aload_n d_918_26 rfl) (Eq.trans (e_iload_n d_918_27 rfl) (e_callV d_918_28 ml_9_163 fit_918_910 par_910 rfl rfl sh_50 (Nat.le_of_ble_eq_true rfl) (Nat.le_of_ble_eq_true rfl) (Nat.le_of_ble_eq_true rfl) rfl (by decide) rfl))
theorem b918_31 {x1 : Int} {σ : SS} : ev 918 31 [qR 50, qI x1] [] σ = ev 918 185 [qR 50, qI x1] [] σ :=
  e_goto d_918_31 (by decide)
theorem b918_34 {x1 : Int} {σ : SS} : ev 918 34 [qR 50, qI x1] [] σ = (ev 908 0 [qR 50, qI 4, qI 110, qI 111, qI 111, qI 110, qI 0, qU, qU] [] σ).bind (fun x => ev 918 48 [qR 50, qI x1] (q_push x.1 []) x.2) :=
  Eq.trans (e_aload_n d_918_34 rfl) (Eq.trans (e_iconst d_918_35 k_4) (Eq.trans (e_bipush d_918_36 kb_110) (Eq.trans (e_bipush d_918_38 kb_111) (Eq.trans (e_bipush d_918_40 kb_111) (Eq.trans (e_bipush d_918_42 kb_110) (Eq.trans (e_iconst d_918_44 k_0) (e_callV d_918_45 ml_9_159 fit_918_908 par_908 rfl rfl sh_50 (Nat.le_of_ble_eq_true rfl) (Nat.le_of_ble_eq_true rfl) (Nat.le_of_ble_eq_true rfl) rfl (by decide) rfl)))))))
theorem b918_48 {x1 y0 : Int} {σ : SS} : ev 918 48 [qR 50, qI x1] [qI y0] σ = if y0 = 0 then ev 918 59 [qR 50, qI x1] [] σ else ev 918 51 [qR 50, qI x1] [] σ :=
  e_if_eq d_918_48 (by decide)
theorem b918_51 {x1 : Int} {σ : SS} : ev 918 51 [qR 50, qI x1] [] σ = (ev 911 0 [qR 50, qI x1] [] σ).bind (fun x => ev 918 56 [qR 50, qI x1] (q_push x.1 []) x.2) :=
  Eq.trans (e_aload_n d_918_51 rfl) (Eq.trans (e_iload_n d_918_52 rfl) (e_callV d_918_53 ml_9_167 fit_918_911 par_911 rfl rfl sh_50 (Nat.le_of_ble_eq_true rfl) (Nat.le_of_ble_eq_true rfl) (Nat.le_of_ble_eq_true rfl) rfl (by decide) rfl))
theorem b918_56 {x1 : Int} {σ : SS} : ev 918 56 [qR 50, qI x1] [] σ = ev 918 185 [qR 50, qI x1] [] σ :=
  e_goto d_918_56 (by decide)
theorem b918_59 {x1 : Int} {σ : SS} : ev 918 59 [qR 50, qI x1] [] σ = (ev 908 0 [qR 50, qI 5, qI 104, qI 111, qI 117, qI 115, qI 101, qU, qU] [] σ).bind (fun x => ev 918 74 [qR 50, qI x1] (q_push x.1 []) x.2) :=
  Eq.trans (e_aload_n d_918_59 rfl) (Eq.trans (e_iconst d_918_60 k_5) (Eq.trans (e_bipush d_918_61 kb_104) (Eq.trans (e_bipush d_918_63 kb_111) (Eq.trans (e_bipush d_918_65 kb_117) (Eq.trans (e_bipush d_918_67 kb_115) (Eq.trans (e_bipush d_918_69 kb_101) (e_callV d_918_71 ml_9_159 fit_918_908 par_908 rfl rfl sh_50 (Nat.le_of_ble_eq_true rfl) (Nat.le_of_ble_eq_true rfl) (Nat.le_of_ble_eq_true rfl) rfl (by decide) rfl)))))))
theorem b918_74 {x1 y0 : Int} {σ : SS} : ev 918 74 [qR 50, qI x1] [qI y0] σ = if y0 = 0 then ev 918 85 [qR 50, qI x1] [] σ else ev 918 77 [qR 50, qI x1] [] σ :=
  e_if_eq d_918_74 (by decide)
theorem b918_77 {x1 : Int} {σ : SS} : ev 918 77 [qR 50, qI x1] [] σ = (ev 913 0 [qR 50, qI x1] [] σ).bind (fun x => ev 918 82 [qR 50, qI x1] (q_push x.1 []) x.2) :=
  Eq.trans (e_aload_n d_918_77 rfl) (Eq.trans (e_iload_n d_918_78 rfl) (e_callV d_918_79 ml_9_170 fit_918_913 par_913 rfl rfl sh_50 (Nat.le_of_ble_eq_true rfl) (Nat.le_of_ble_eq_true rfl) (Nat.le_of_ble_eq_true rfl) rfl (by decide) rfl))
theorem b918_82 {x1 : Int} {σ : SS} : ev 918 82 [qR 50, qI x1] [] σ = ev 918 185 [qR 50, qI x1] [] σ :=
  e_goto d_918_82 (by decide)
theorem b918_85 {x1 : Int} {σ : SS} : ev 918 85 [qR 50, qI x1] [] σ = (ev 908 0 [qR 50, qI 3, qI 119, qI 97, qI 121, qI 0, qI 0, qU, qU] [] σ).bind (fun x => ev 918 98 [qR 50, qI x1] (q_push x.1 []) x.2) :=
  Eq.trans (e_aload_n d_918_85 rfl) (Eq.trans (e_iconst d_918_86 k_3) (Eq.trans (e_bipush d_918_87 kb_119) (Eq.trans (e_bipush d_918_89 kb_97) (Eq.trans (e_bipush d_918_91 kb_121) (Eq.trans (e_iconst d_918_93 k_0) (Eq.trans (e_iconst d_918_94 k_0) (e_callV d_918_95 ml_9_159 fit_918_908 par_908 rfl rfl sh_50 (Nat.le_of_ble_eq_true rfl) (Nat.le_of_ble_eq_true rfl) (Nat.le_of_ble_eq_true rfl) rfl (by decide) rfl)))))))
theorem b918_98 {x1 y0 : Int} {σ : SS} : ev 918 98 [qR 50, qI x1] [qI y0] σ = if y0 = 0 then ev 918 109 [qR 50, qI x1] [] σ else ev 918 101 [qR 50, qI x1] [] σ :=
  e_if_eq d_918_98 (by decide)
theorem b918_101 {x1 : Int} {σ : SS} : ev 918 101 [qR 50, qI x1] [] σ = (ev 914 0 [qR 50, qI x1, qU, qU] [] σ).bind (fun x => ev 918 106 [qR 50, qI x1] (q_push x.1 []) x.2) :=
  Eq.trans (e_aload_n d_918_101 rfl) (Eq.trans (e_iload_n d_918_102 rfl) (e_callV d_918_103 ml_9_173 fit_918_914 par_914 rfl rfl sh_50 (Nat.le_of_ble_eq_true rfl) (Nat.le_of_ble_eq_true rfl) (Nat.le_of_ble_eq_true rfl) rfl (by decide) rfl))
theorem b918_106 {x1 : Int} {σ : SS} : ev 918 106 [qR 50, qI x1] [] σ = ev 918 185 [qR 50, qI x1] [] σ :=
  e_goto d_918_106 (by decide)
theorem b918_109 {x1 : Int} {σ : SS} : ev 918 109 [qR 50, qI x1] [] σ = (ev 908 0 [qR 50, qI 4, qI 103, qI 105, qI 114, qI 108, qI 0, qU, qU] [] σ).bind (fun x => ev 918 123 [qR 50, qI x1] (q_push x.1 []) x.2) :=
  Eq.trans (e_aload_n d_918_109 rfl) (Eq.trans (e_iconst d_918_110 k_4) (Eq.trans (e_bipush d_918_111 kb_103) (Eq.trans (e_bipush d_918_113 kb_105) (Eq.trans (e_bipush d_918_115 kb_114) (Eq.trans (e_bipush d_918_117 kb_108) (Eq.trans (e_iconst d_918_119 k_0) (e_callV d_918_120 ml_9_159 fit_918_908 par_908 rfl rfl sh_50 (Nat.le_of_ble_eq_true rfl) (Nat.le_of_ble_eq_true rfl) (Nat.le_of_ble_eq_true rfl) rfl (by decide) rfl)))))))
theorem b918_123 {x1 y0 : Int} {σ : SS} : ev 918 123 [qR 50, qI x1] [qI y0] σ = if y0 = 0 then ev 918 134 [qR 50, qI x1] [] σ else ev 918 126 [qR 50, qI x1] [] σ :=
  e_if_eq d_918_123 (by decide)
theorem b918_126 {x1 : Int} {σ : SS} : ev 918 126 [qR 50, qI x1] [] σ = (ev 915 0 [qR 50, qI x1, qU] [] σ).bind (fun x => ev 918 131 [qR 50, qI x1] (q_push x.1 []) x.2) :=
  Eq.trans (e_aload_n d_918_126 rfl) (Eq.trans (e_iload_n d_918_127 rfl) (e_callV d_918_128 ml_9_176 fit_918_915 par_915 rfl rfl sh_50 (Nat.le_of_ble_eq_true rfl) (Nat.le_of_ble_eq_true rfl) (Nat.le_of_ble_eq_true rfl) rfl (by decide) rfl))
theorem b918_131 {x1 : Int} {σ : SS} : ev 918 131 [qR 50, qI x1] [] σ = ev 918 185 [qR 50, qI x1] [] σ :=
  e_goto d_918_131 (by decide)
theorem b918_134 {x1 : Int} {σ : SS} : ev 918 134 [qR 50, qI x1] [] σ = (ev 908 0 [qR 50, qI 4, qI 103, qI 97, qI 105, qI 116, qI 0, qU, qU] [] σ).bind (fun x => ev 918 148 [qR 50, qI x1] (q_push x.1 []) x.2) :=
  Eq.trans (e_aload_n d_918_134 rfl) (Eq.trans (e_iconst d_918_135 k_4) (Eq.trans (e_bipush d_918_136 kb_103) (Eq.trans (e_bipush d_918_138 kb_97) (Eq.trans (e_bipush d_918_140 kb_105) (Eq.trans (e_bipush d_918_142 kb_116) (Eq.trans (e_iconst d_918_144 k_0) (e_callV d_918_145 ml_9_159 fit_918_908 par_908 rfl rfl sh_50 (Nat.le_of_ble_eq_true rfl) (Nat.le_of_ble_eq_true rfl) (Nat.le_of_ble_eq_true rfl) rfl (by decide) rfl)))))))
theorem b918_148 {x1 y0 : Int} {σ : SS} : ev 918 148 [qR 50, qI x1] [qI y0] σ = if y0 = 0 then ev 918 158 [qR 50, qI x1] [] σ else ev 918 151 [qR 50, qI x1] [] σ :=
  e_if_eq d_918_148 (by decide)
theorem b918_151 {x1 : Int} {σ : SS} : ev 918 151 [qR 50, qI x1] [] σ = (ev 917 0 [qR 50, qU, qU] [] σ).bind (fun x => ev 918 155 [qR 50, qI x1] (q_push x.1 []) x.2) :=
  Eq.trans (e_aload_n d_918_151 rfl) (e_callV d_918_152 ml_9_179 fit_918_917 par_917 rfl rfl sh_50 (Nat.le_of_ble_eq_true rfl) (Nat.le_of_ble_eq_true rfl) (Nat.le_of_ble_eq_true rfl) rfl (by decide) rfl)
theorem b918_155 {x1 : Int} {σ : SS} : ev 918 155 [qR 50, qI x1] [] σ = ev 918 185 [qR 50, qI x1] [] σ :=
  e_goto d_918_155 (by decide)
theorem b918_158 {x1 : Int} {σ : SS} : ev 918 158 [qR 50, qI x1] [] σ = (ev 908 0 [qR 50, qI 3, qI 115, qI 104, qI 101, qI 0, qI 0, qU, qU] [] σ).bind (fun x => ev 918 172 [qR 50, qI x1] (q_push x.1 [qR 50]) x.2) :=
  Eq.trans (e_aload_n d_918_158 rfl) (Eq.trans (e_aload_n d_918_159 rfl) (Eq.trans (e_iconst d_918_160 k_3) (Eq.trans (e_bipush d_918_161 kb_115) (Eq.trans (e_bipush d_918_163 kb_104) (Eq.trans (e_bipush d_918_165 kb_101) (Eq.trans (e_iconst d_918_167 k_0) (Eq.trans (e_iconst d_918_168 k_0) (e_callV d_918_169 ml_9_159 fit_918_908 par_908 rfl rfl sh_50 (Nat.le_of_ble_eq_true rfl) (Nat.le_of_ble_eq_true rfl) (Nat.le_of_ble_eq_true rfl) rfl (by decide) rfl))))))))
theorem b918_172 {x1 y0 : Int} {σ : SS} : ev 918 172 [qR 50, qI x1] [qI y0, qR 50] σ = (ev 906 0 [qR 50, qI y0, qI 1, qI x1] [] σ).bind (fun x => ev 918 177 [qR 50, qI x1] (q_push x.1 []) x.2) :=
  Eq.trans (e_iconst d_918_172 k_1) (Eq.trans (e_iload_n d_918_173 rfl) (e_callV d_918_174 ml_9_116 fit_918_906 par_906 rfl rfl sh_50 (Nat.le_of_ble_eq_true rfl) (Nat.le_of_ble_eq_true rfl) (Nat.le_of_ble_eq_true rfl) rfl (by decide) rfl))
theorem b918_177 {x1 y0 : Int} {σ : SS} : ev 918 177 [qR 50, qI x1] [qI y0] σ = if y0 = 0 then ev 918 185 [qR 50, qI x1] [] σ else ev 918 180 [qR 50, qI x1] [] σ :=
  e_if_eq d_918_177 (by decide)
theorem b918_180 {x1 : Int} {σ : SS} : ev 918 180 [qR 50, qI x1] [] σ = (ev 912 0 [qR 50, qI x1] [] σ).bind (fun x => ev 918 185 [qR 50, qI x1] (q_push x.1 []) x.2) :=
  Eq.trans (e_aload_n d_918_180 rfl) (Eq.trans (e_iload_n d_918_181 rfl) (e_callV d_918_182 ml_9_182 fit_918_912 par_912 rfl rfl sh_50 (Nat.le_of_ble_eq_true rfl) (Nat.le_of_ble_eq_true rfl) (Nat.le_of_ble_eq_true rfl) rfl (by decide) rfl))
theorem b918_185 {x1 : Int} {σ : SS} : ev 918 185 [qR 50, qI x1] [] σ = some (none, σ) :=
  e_vret d_918_185 rfl
theorem b906_0 {x1 x2 x3 : Int} {σ : SS} : ev 906 0 [qR 50, qI x1, qI x2, qI x3] [] σ = if x1 = 0 then ev 906 4 [qR 50, qI x1, qI x2, qI x3] [] σ else ev 906 21 [qR 50, qI x1, qI x2, qI x3] [] σ :=
  Eq.trans (e_iload_n d_906_0 rfl) (e_if_ne d_906_1 (by decide))
theorem b906_4 {x1 x2 x3 : Int} {σ : SS} : ev 906 4 [qR 50, qI x1, qI x2, qI x3] [] σ = if (σ 50 28) = 0 then ev 906 11 [qR 50, qI x1, qI x2, qI x3] [] σ else ev 906 21 [qR 50, qI x1, qI x2, qI x3] [] σ :=
  Eq.trans (e_aload_n d_906_4 rfl) (Eq.trans (e_getI d_906_5 fl_9_95 sh_50 rfl) (e_if_ne d_906_8 (by decide)))
theorem b906_11 {x1 x2 x3 : Int} {σ : SS} : ev 906 11 [qR 50, qI x1, qI x2, qI x3] [] σ = ev 906 21 [qR 50, qI x1, qI x2, qI x3] [] (q_put (q_put σ 50 28 x2) 50 29 x3) :=
  Eq.trans (e_aload_n d_906_11 rfl) (Eq.trans (e_iload_n d_906_12 rfl) (Eq.trans (e_put d_906_13 fl_9_95 sh_50 rfl rfl rfl) (Eq.trans (e_aload_n d_906_16 rfl) (Eq.trans (e_iload_n d_906_17 rfl) (e_put d_906_18 fl_9_47 sh_50 rfl rfl rfl)))))
theorem b906_21 {x1 x2 x3 : Int} {σ : SS} : ev 906 21 [qR 50, qI x1, qI x2, qI x3] [] σ = if (σ 50 28) = 0 then ev 906 28 [qR 50, qI x1, qI x2, qI x3] [] σ else ev 906 32 [qR 50, qI x1, qI x2, qI x3] [] σ :=
  Eq.trans (e_aload_n d_906_21 rfl) (Eq.trans (e_getI d_906_22 fl_9_95 sh_50 rfl) (e_if_ne d_906_25 (by decide)))
theorem b906_28 {x1 x2 x3 : Int} {σ : SS} : ev 906 28 [qR 50, qI x1, qI x2, qI x3] [] σ = ev 906 33 [qR 50, qI x1, qI x2, qI x3] [qI 1] σ :=
  Eq.trans (e_iconst d_906_28 k_1) (e_goto d_906_29 (by decide))
theorem b906_32 {x1 x2 x3 : Int} {σ : SS} : ev 906 32 [qR 50, qI x1, qI x2, qI x3] [] σ = ev 906 33 [qR 50, qI x1, qI x2, qI x3] [qI 0] σ :=
  e_iconst d_906_32 k_0
theorem b906_33 {x1 x2 x3 y0 : Int} {σ : SS} (h : y0 = 0 ∨ y0 = 1) : ev 906 33 [qR 50, qI x1, qI x2, qI x3] [qI y0] σ = some (some (qI y0), σ) :=
  e_iret d_906_33 (q_okrZ rfl h)
theorem b928_0 {σ : SS} : ev 928 0 [qR 50] [] σ = (ev 926 0 [qR 50, qI (σ 51 20)] [] σ).bind (fun x => ev 928 11 [qR 50] (q_push x.1 []) x.2) :=
  Eq.trans (e_aload_n d_928_0 rfl) (Eq.trans (e_aload_n d_928_1 rfl) (Eq.trans (e_getR d_928_2 fl_9_7 sh_50 rfl) (Eq.trans (e_bipush d_928_5 kb_20) (Eq.trans (e_iald d_928_7 sh_51 (by decide)) (e_callV d_928_8 ml_9_216 fit_928_926 par_926 rfl rfl sh_50 (Nat.le_of_ble_eq_true rfl) (Nat.le_of_ble_eq_true rfl) (Nat.le_of_ble_eq_true rfl) rfl (by decide) rfl)))))
theorem b928_11 {y0 : Int} {σ : SS} : ev 928 11 [qR 50] [qI y0] σ = some (some (qI y0), σ) :=
  e_iret d_928_11 (q_okrI rfl)
theorem b921_0 {x1 : Int} {σ : SS} (h : -2147483648 ≤ ((σ 50 13) - 1) ∧ ((σ 50 13) - 1) ≤ 2147483647) : ev 921 0 [qR 50, qI x1] [] σ = (ev 900 0 [qL x1, qU, qL 0, qU, qL ((σ 50 13) - 1), qU] [] σ).bind (fun x => ev 921 13 [qR 50, qI x1] (q_push x.1 []) x.2) :=
  Eq.trans (e_iload_n d_921_0 rfl) (Eq.trans (e_i2l d_921_1) (Eq.trans (e_lconst d_921_2 rfl) (Eq.trans (e_aload_n d_921_3 rfl) (Eq.trans (e_getI d_921_4 fl_9_188 sh_50 rfl) (Eq.trans (e_iconst d_921_7 k_1) (Eq.trans (e_isub d_921_8 h) (Eq.trans (e_i2l d_921_9) (e_callS d_921_10 (by decide) ml_9_83 fit_921_900 par_900 rfl rfl (Nat.le_of_ble_eq_true rfl) (Nat.le_of_ble_eq_true rfl) (Nat.le_of_ble_eq_true rfl) rfl (by decide) rfl))))))))
theorem b921_13 {x1 y0 : Int} {σ : SS} (h : y0 = 0 ∨ y0 = 1) : ev 921 13 [qR 50, qI x1] [qI y0] σ = some (some (qI y0), σ) :=
  e_iret d_921_13 (q_okrZ rfl h)
theorem b930_0 {x1 : Int} {σ : SS} : ev 930 0 [qR 50, qI x1, qU, qU] [] σ = ev 930 4 [qR 50, qI x1, qI 0, qI 0] [] σ :=
  Eq.trans (e_iconst d_930_0 k_0) (Eq.trans (e_istore_n d_930_1 (by decide) (Nat.le_of_ble_eq_true rfl) rfl) (Eq.trans (e_iconst d_930_2 k_0) (e_istore_n d_930_3 (by decide) (Nat.le_of_ble_eq_true rfl) rfl)))
theorem b930_4 {x1 x2 x3 : Int} {σ : SS} : ev 930 4 [qR 50, qI x1, qI x2, qI x3] [] σ = if x3 < (σ 50 14) then ev 930 12 [qR 50, qI x1, qI x2, qI x3] [] σ else ev 930 41 [qR 50, qI x1, qI x2, qI x3] [] σ :=
  Eq.trans (e_iload_n d_930_4 rfl) (Eq.trans (e_aload_n d_930_5 rfl) (Eq.trans (e_getI d_930_6 fl_9_191 sh_50 rfl) (e_icmp_ge d_930_9 (by decide))))
theorem b930_12 {x1 x2 x3 : Int} {σ : SS} (h : 0 ≤ x3 ∧ x3 < 96) : ev 930 12 [qR 50, qI x1, qI x2, qI x3] [] σ = if (σ 51 x3.toNat) = x1 then ev 930 23 [qR 50, qI x1, qI x2, qI x3] [qI x2] σ else ev 930 27 [qR 50, qI x1, qI x2, qI x3] [qI x2] σ :=
  Eq.trans (e_iload_n d_930_12 rfl) (Eq.trans (e_aload_n d_930_13 rfl) (Eq.trans (e_getR d_930_14 fl_9_7 sh_50 rfl) (Eq.trans (e_iload_n d_930_17 rfl) (Eq.trans (e_iald d_930_18 sh_51 h) (Eq.trans (e_iload_n d_930_19 rfl) (e_icmp_ne d_930_20 (by decide)))))))
theorem b930_23 {x1 x2 x3 y0 : Int} {σ : SS} : ev 930 23 [qR 50, qI x1, qI x2, qI x3] [qI y0] σ = ev 930 28 [qR 50, qI x1, qI x2, qI x3] [qI 1, qI y0] σ :=
  Eq.trans (e_iconst d_930_23 k_1) (e_goto d_930_24 (by decide))
theorem b930_27 {x1 x2 x3 y0 : Int} {σ : SS} : ev 930 27 [qR 50, qI x1, qI x2, qI x3] [qI y0] σ = ev 930 28 [qR 50, qI x1, qI x2, qI x3] [qI 0, qI y0] σ :=
  e_iconst d_930_27 k_0
theorem b930_28 {x1 x2 x3 y0 y1 : Int} {σ : SS} : ev 930 28 [qR 50, qI x1, qI x2, qI x3] [qI y0, qI y1] σ = (ev 901 0 [qI y0] [] σ).bind (fun x => ev 930 31 [qR 50, qI x1, qI x2, qI x3] (q_push x.1 [qI y1]) x.2) :=
  e_callS d_930_28 (by decide) ml_9_223 fit_930_901 par_901 rfl rfl (Nat.le_of_ble_eq_true rfl) (Nat.le_of_ble_eq_true rfl) (Nat.le_of_ble_eq_true rfl) rfl (by decide) rfl
theorem b930_31 {x1 x2 x3 y0 y1 : Int} {σ : SS} (h : -2147483648 ≤ (x3 + 1) ∧ (x3 + 1) ≤ 2147483647) : ev 930 31 [qR 50, qI x1, qI x2, qI x3] [qI y0, qI y1] σ = ev 930 4 [qR 50, qI x1, qI (q_or y1 (q_shl y0 x3)), qI (x3 + 1)] [] σ :=
  Eq.trans (e_iload_n d_930_31 rfl) (Eq.trans (e_ishl d_930_32) (Eq.trans (e_ior d_930_33) (Eq.trans (e_istore_n d_930_34 (by decide) (Nat.le_of_ble_eq_true rfl) rfl) (Eq.trans (e_iinc d_930_35 (by decide) rfl h rfl) (e_goto d_930_38 (by decide))))))
theorem b930_41 {x1 x2 x3 : Int} {σ : SS} : ev 930 41 [qR 50, qI x1, qI x2, qI x3] [] σ = some (some (qI x2), σ) :=
  Eq.trans (e_iload_n d_930_41 rfl) (e_iret d_930_42 (q_okrI rfl))
theorem b922_0 {x1 : Int} {σ : SS} (h : -2147483648 ≤ ((σ 50 14) - 1) ∧ ((σ 50 14) - 1) ≤ 2147483647) : ev 922 0 [qR 50, qI x1] [] σ = (ev 900 0 [qL x1, qU, qL 0, qU, qL ((σ 50 14) - 1), qU] [] σ).bind (fun x => ev 922 13 [qR 50, qI x1] (q_push x.1 []) x.2) :=
  Eq.trans (e_iload_n d_922_0 rfl) (Eq.trans (e_i2l d_922_1) (Eq.trans (e_lconst d_922_2 rfl) (Eq.trans (e_aload_n d_922_3 rfl) (Eq.trans (e_getI d_922_4 fl_9_191 sh_50 rfl) (Eq.trans (e_iconst d_922_7 k_1) (Eq.trans (e_isub d_922_8 h) (Eq.trans (e_i2l d_922_9) (e_callS d_922_10 (by decide) ml_9_83 fit_922_900 par_900 rfl rfl (Nat.le_of_ble_eq_true rfl) (Nat.le_of_ble_eq_true rfl) (Nat.le_of_ble_eq_true rfl) rfl (by decide) rfl))))))))
theorem b922_13 {x1 y0 : Int} {σ : SS} (h : y0 = 0 ∨ y0 = 1) : ev 922 13 [qR 50, qI x1] [qI y0] σ = some (some (qI y0), σ) :=
  e_iret d_922_13 (q_okrZ rfl h)
theorem b925_0 {x1 x2 : Int} {σ : SS} (h : (-2147483648 ≤ (6 + x1) ∧ (6 + x1) ≤ 2147483647) ∧ (0 ≤ (6 + x1) ∧ (6 + x1) < 96)) : ev 925 0 [qR 50, qI x1, qI x2, qU] [] σ = (ev 923 0 [qR 50, qI x1, qI x2, qI (σ 51 (6 + x1).toNat), qU] [] σ).bind (fun x => ev 925 15 [qR 50, qI x1, qI x2, qU] (q_push x.1 []) x.2) :=
  Eq.trans (e_aload_n d_925_0 rfl) (Eq.trans (e_iload_n d_925_1 rfl) (Eq.trans (e_iload_n d_925_2 rfl) (Eq.trans (e_aload_n d_925_3 rfl) (Eq.trans (e_getR d_925_4 fl_9_7 sh_50 rfl) (Eq.trans (e_bipush d_925_7 kb_6) (Eq.trans (e_iload_n d_925_9 rfl) (Eq.trans (e_iadd d_925_10 h.1) (Eq.trans (e_iald d_925_11 sh_51 h.2) (e_callV d_925_12 ml_9_209 fit_925_923 par_923 rfl rfl sh_50 (Nat.le_of_ble_eq_true rfl) (Nat.le_of_ble_eq_true rfl) (Nat.le_of_ble_eq_true rfl) rfl (by decide) rfl)))))))))
theorem b925_15 {x1 x2 y0 : Int} {σ : SS} : ev 925 15 [qR 50, qI x1, qI x2, qU] [qI y0] σ = (ev 924 0 [qR 50, qI x1, qI x2] [] σ).bind (fun x => ev 925 21 [qR 50, qI x1, qI x2, qU] (q_push x.1 [qI y0]) x.2) :=
  Eq.trans (e_aload_n d_925_15 rfl) (Eq.trans (e_iload_n d_925_16 rfl) (Eq.trans (e_iload_n d_925_17 rfl) (e_callV d_925_18 ml_9_213 fit_925_924 par_924 rfl rfl sh_50 (Nat.le_of_ble_eq_true rfl) (Nat.le_of_ble_eq_true rfl) (Nat.le_of_ble_eq_true rfl) rfl (by decide) rfl)))
theorem b925_21 {x1 x2 y0 y1 : Int} {σ : SS} : ev 925 21 [qR 50, qI x1, qI x2, qU] [qI y0, qI y1] σ = if y0 = 0 then ev 925 28 [qR 50, qI x1, qI x2, qU] [qI y1] σ else ev 925 24 [qR 50, qI x1, qI x2, qU] [qI y1] σ :=
  e_if_eq d_925_21 (by decide)
theorem b925_24 {x1 x2 y0 : Int} {σ : SS} : ev 925 24 [qR 50, qI x1, qI x2, qU] [qI y0] σ = ev 925 29 [qR 50, qI x1, qI x2, qU] [qI 3, qI y0] σ :=
  Eq.trans (e_iconst d_925_24 k_3) (e_goto d_925_25 (by decide))
theorem b925_28 {x1 x2 y0 : Int} {σ : SS} : ev 925 28 [qR 50, qI x1, qI x2, qU] [qI y0] σ = ev 925 29 [qR 50, qI x1, qI x2, qU] [qI 0, qI y0] σ :=
  e_iconst d_925_28 k_0
theorem b925_29 {x1 x2 y0 y1 : Int} {σ : SS} (h : -2147483648 ≤ (y1 - y0) ∧ (y1 - y0) ≤ 2147483647) : ev 925 29 [qR 50, qI x1, qI x2, qU] [qI y0, qI y1] σ = if (y1 - y0) < 0 then ev 925 35 [qR 50, qI x1, qI x2, qI (y1 - y0)] [] σ else ev 925 39 [qR 50, qI x1, qI x2, qI (y1 - y0)] [] σ :=
  Eq.trans (e_isub d_925_29 h) (Eq.trans (e_istore_n d_925_30 (by decide) (Nat.le_of_ble_eq_true rfl) rfl) (Eq.trans (e_iload_n d_925_31 rfl) (e_if_ge d_925_32 (by decide))))
theorem b925_35 {x1 x2 x3 : Int} {σ : SS} : ev 925 35 [qR 50, qI x1, qI x2, qI x3] [] σ = ev 925 40 [qR 50, qI x1, qI x2, qI x3] [qI 0] σ :=
  Eq.trans (e_iconst d_925_35 k_0) (e_goto d_925_36 (by decide))
theorem b925_39 {x1 x2 x3 : Int} {σ : SS} : ev 925 39 [qR 50, qI x1, qI x2, qI x3] [] σ = ev 925 40 [qR 50, qI x1, qI x2, qI x3] [qI x3] σ :=
  e_iload_n d_925_39 rfl
theorem b925_40 {x1 x2 x3 y0 : Int} {σ : SS} : ev 925 40 [qR 50, qI x1, qI x2, qI x3] [qI y0] σ = some (some (qI y0), σ) :=
  e_iret d_925_40 (q_okrI rfl)
theorem b927_0 {x1 x2 : Int} {σ : SS} (h : -2147483648 ≤ (x2 - x1) ∧ (x2 - x1) ≤ 2147483647) : ev 927 0 [qR 50, qI x1, qI x2] [] σ = (ev 900 0 [qL (x2 - x1), qU, qL 0, qU, qL (σ 53 1), qU] [] σ).bind (fun x => ev 927 15 [qR 50, qI x1, qI x2] (q_push x.1 []) x.2) :=
  Eq.trans (e_iload_n d_927_0 rfl) (Eq.trans (e_iload_n d_927_1 rfl) (Eq.trans (e_isub d_927_2 h) (Eq.trans (e_i2l d_927_3) (Eq.trans (e_lconst d_927_4 rfl) (Eq.trans (e_aload_n d_927_5 rfl) (Eq.trans (e_getR d_927_6 fl_9_17 sh_50 rfl) (Eq.trans (e_iconst d_927_9 k_1) (Eq.trans (e_iald d_927_10 sh_53 (by decide)) (Eq.trans (e_i2l d_927_11) (e_callS d_927_12 (by decide) ml_9_83 fit_927_900 par_900 rfl rfl (Nat.le_of_ble_eq_true rfl) (Nat.le_of_ble_eq_true rfl) (Nat.le_of_ble_eq_true rfl) rfl (by decide) rfl))))))))))
theorem b927_15 {x1 x2 y0 : Int} {σ : SS} (h : y0 = 0 ∨ y0 = 1) : ev 927 15 [qR 50, qI x1, qI x2] [qI y0] σ = some (some (qI y0), σ) :=
  e_iret d_927_15 (q_okrZ rfl h)
theorem b901_0 {x0 : Int} {σ : SS} : ev 901 0 [qI x0] [] σ = if x0 = 0 then ev 901 8 [qI x0] [] σ else ev 901 4 [qI x0] [] σ :=
  Eq.trans (e_iload_n d_901_0 rfl) (e_if_eq d_901_1 (by decide))
theorem b901_4 {x0 : Int} {σ : SS} : ev 901 4 [qI x0] [] σ = ev 901 9 [qI x0] [qI 1] σ :=
  Eq.trans (e_iconst d_901_4 k_1) (e_goto d_901_5 (by decide))
theorem b901_8 {x0 : Int} {σ : SS} : ev 901 8 [qI x0] [] σ = ev 901 9 [qI x0] [qI 0] σ :=
  e_iconst d_901_8 k_0
theorem b901_9 {x0 y0 : Int} {σ : SS} : ev 901 9 [qI x0] [qI y0] σ = some (some (qI y0), σ) :=
  e_iret d_901_9 (q_okrI rfl)
theorem b932_0 {x1 : Int} {σ : SS} (h : (-2147483648 ≤ (12 + x1) ∧ (12 + x1) ≤ 2147483647) ∧ (0 ≤ (12 + x1) ∧ (12 + x1) < 96) ∧ (-2147483648 ≤ ((σ 51 (12 + x1).toNat) + 4) ∧ ((σ 51 (12 + x1).toNat) + 4) ≤ 2147483647) ∧ (-2147483648 ≤ (((σ 51 (12 + x1).toNat) + 4) - (σ 51 21)) ∧ (((σ 51 (12 + x1).toNat) + 4) - (σ 51 21)) ≤ 2147483647)) : ev 932 0 [qR 50, qI x1, qU] [] σ = if 0 < (((σ 51 (12 + x1).toNat) + 4) - (σ 51 21)) then ev 932 24 [qR 50, qI x1, qI (((σ 51 (12 + x1).toNat) + 4) - (σ 51 21))] [] σ else ev 932 28 [qR 50, qI x1, qI (((σ 51 (12 + x1).toNat) + 4) - (σ 51 21))] [] σ :=
  Eq.trans (e_aload_n d_932_0 rfl) (Eq.trans (e_getR d_932_1 fl_9_7 sh_50 rfl) (Eq.trans (e_bipush d_932_4 kb_12) (Eq.trans (e_iload_n d_932_6 rfl) (Eq.trans (e_iadd d_932_7 h.1) (Eq.trans (e_iald d_932_8 sh_51 h.2.1) (Eq.trans (e_iconst d_932_9 k_4) (Eq.trans (e_iadd d_932_10 h.2.2.1) (Eq.trans (e_aload_n d_932_11 rfl) (Eq.trans (e_getR d_932_12 fl_9_7 sh_50 rfl) (Eq.trans (e_bipush d_932_15 kb_21) (Eq.trans (e_iald d_932_17 sh_51 (by decide)) (Eq.trans (e_isub d_932_18 h.2.2.2) (Eq.trans (e_istore_n d_932_19 (by decide) (Nat.le_of_ble_eq_true rfl) rfl) (Eq.trans (e_iload_n d_932_20 rfl) (e_if_le d_932_21 (by decide))))))))))))))))
theorem b932_24 {x1 x2 : Int} {σ : SS} : ev 932 24 [qR 50, qI x1, qI x2] [] σ = ev 932 29 [qR 50, qI x1, qI x2] [qI x2] σ :=
  Eq.trans (e_iload_n d_932_24 rfl) (e_goto d_932_25 (by decide))
theorem b932_28 {x1 x2 : Int} {σ : SS} : ev 932 28 [qR 50, qI x1, qI x2] [] σ = ev 932 29 [qR 50, qI x1, qI x2] [qI 0] σ :=
  e_iconst d_932_28 k_0
theorem b932_29 {x1 x2 y0 : Int} {σ : SS} : ev 932 29 [qR 50, qI x1, qI x2] [qI y0] σ = some (some (qI y0), σ) :=
  e_iret d_932_29 (q_okrI rfl)
theorem b902_0 {x0 x1 : Int} {σ : SS} : ev 902 0 [qI x0, qI x1] [] σ = if (q_and (q_shr x0 x1) 1) = 1 then ev 902 9 [qI x0, qI x1] [] σ else ev 902 13 [qI x0, qI x1] [] σ :=
  Eq.trans (e_iload_n d_902_0 rfl) (Eq.trans (e_iload_n d_902_1 rfl) (Eq.trans (e_ishr d_902_2) (Eq.trans (e_iconst d_902_3 k_1) (Eq.trans (e_iand d_902_4) (Eq.trans (e_iconst d_902_5 k_1) (e_icmp_ne d_902_6 (by decide)))))))
theorem b902_9 {x0 x1 : Int} {σ : SS} : ev 902 9 [qI x0, qI x1] [] σ = ev 902 14 [qI x0, qI x1] [qI 1] σ :=
  Eq.trans (e_iconst d_902_9 k_1) (e_goto d_902_10 (by decide))
theorem b902_13 {x0 x1 : Int} {σ : SS} : ev 902 13 [qI x0, qI x1] [] σ = ev 902 14 [qI x0, qI x1] [qI 0] σ :=
  e_iconst d_902_13 k_0
theorem b902_14 {x0 x1 y0 : Int} {σ : SS} (h : y0 = 0 ∨ y0 = 1) : ev 902 14 [qI x0, qI x1] [qI y0] σ = some (some (qI y0), σ) :=
  e_iret d_902_14 (q_okrZ rfl h)
theorem b924_0 {x1 x2 : Int} {σ : SS} (h : (-2147483648 ≤ (12 + x1) ∧ (12 + x1) ≤ 2147483647) ∧ (0 ≤ (12 + x1) ∧ (12 + x1) < 96) ∧ (-2147483648 ≤ ((σ 51 (12 + x1).toNat) + 3) ∧ ((σ 51 (12 + x1).toNat) + 3) ≤ 2147483647)) : ev 924 0 [qR 50, qI x1, qI x2] [] σ = (ev 900 0 [qL x2, qU, qL (σ 51 (12 + x1).toNat), qU, qL ((σ 51 (12 + x1).toNat) + 3), qU] [] σ).bind (fun x => ev 924 27 [qR 50, qI x1, qI x2] (q_push x.1 []) x.2) :=
  Eq.trans (e_iload_n d_924_0 rfl) (Eq.trans (e_i2l d_924_1) (Eq.trans (e_aload_n d_924_2 rfl) (Eq.trans (e_getR d_924_3 fl_9_7 sh_50 rfl) (Eq.trans (e_bipush d_924_6 kb_12) (Eq.trans (e_iload_n d_924_8 rfl) (Eq.trans (e_iadd d_924_9 h.1) (Eq.trans (e_iald d_924_10 sh_51 h.2.1) (Eq.trans (e_i2l d_924_11) (Eq.trans (e_aload_n d_924_12 rfl) (Eq.trans (e_getR d_924_13 fl_9_7 sh_50 rfl) (Eq.trans (e_bipush d_924_16 kb_12) (Eq.trans (e_iload_n d_924_18 rfl) (Eq.trans (e_iadd d_924_19 h.1) (Eq.trans (e_iald d_924_20 sh_51 h.2.1) (Eq.trans (e_iconst d_924_21 k_3) (Eq.trans (e_iadd d_924_22 h.2.2) (Eq.trans (e_i2l d_924_23) (e_callS d_924_24 (by decide) ml_9_83 fit_924_900 par_900 rfl rfl (Nat.le_of_ble_eq_true rfl) (Nat.le_of_ble_eq_true rfl) (Nat.le_of_ble_eq_true rfl) rfl (by decide) rfl))))))))))))))))))
theorem b924_27 {x1 x2 y0 : Int} {σ : SS} (h : y0 = 0 ∨ y0 = 1) : ev 924 27 [qR 50, qI x1, qI x2] [qI y0] σ = some (some (qI y0), σ) :=
  e_iret d_924_27 (q_okrZ rfl h)
theorem b942_0 {σ : SS} (h : (0 ≤ (σ 50 16) ∧ (σ 50 16) < 96) ∧ (0 ≤ (σ 51 (σ 50 16).toNat) ∧ (σ 51 (σ 50 16).toNat) < 12)) : ev 942 0 [qR 50, qU, qU, qU] [] σ = (ev 903 0 [qI (σ 55 (σ 51 (σ 50 16).toNat).toNat), qU, qU] [] σ).bind (fun x => ev 942 20 [qR 50, qI (σ 55 (σ 51 (σ 50 16).toNat).toNat), qU, qU] (q_push x.1 [qR 50]) x.2) :=
  Eq.trans (e_aload_n d_942_0 rfl) (Eq.trans (e_getR d_942_1 fl_9_23 sh_50 rfl) (Eq.trans (e_aload_n d_942_4 rfl) (Eq.trans (e_getR d_942_5 fl_9_7 sh_50 rfl) (Eq.trans (e_aload_n d_942_8 rfl) (Eq.trans (e_getI d_942_9 fl_9_197 sh_50 rfl) (Eq.trans (e_iald d_942_12 sh_51 h.1) (Eq.trans (e_iald d_942_13 sh_55 h.2) (Eq.trans (e_istore_n d_942_14 (by decide) (Nat.le_of_ble_eq_true rfl) rfl) (Eq.trans (e_aload_n d_942_15 rfl) (Eq.trans (e_iload_n d_942_16 rfl) (e_callS d_942_17 (by decide) ml_9_261 fit_942_903 par_903 rfl rfl (Nat.le_of_ble_eq_true rfl) (Nat.le_of_ble_eq_true rfl) (Nat.le_of_ble_eq_true rfl) rfl (by decide) rfl)))))))))))
theorem b942_20 {x1 y0 : Int} {σ : SS} (h : -2147483648 ≤ (y0 + 1) ∧ (y0 + 1) ≤ 2147483647) : ev 942 20 [qR 50, qI x1, qU, qU] [qI y0, qR 50] σ = (ev 941 0 [qR 50, qI (y0 + 1)] [] σ).bind (fun x => ev 942 25 [qR 50, qI x1, qU, qU] (q_push x.1 []) x.2) :=
  Eq.trans (e_iconst d_942_20 k_1) (Eq.trans (e_iadd d_942_21 h) (e_callV d_942_22 ml_9_264 fit_942_941 par_941 rfl rfl sh_50 (Nat.le_of_ble_eq_true rfl) (Nat.le_of_ble_eq_true rfl) (Nat.le_of_ble_eq_true rfl) rfl (by decide) rfl))
theorem b942_25 {x1 y0 : Int} {σ : SS} : ev 942 25 [qR 50, qI x1, qU, qU] [qI y0] σ = ev 942 28 [qR 50, qI x1, qI y0, qI 0] [] σ :=
  Eq.trans (e_istore_n d_942_25 (by decide) (Nat.le_of_ble_eq_true rfl) rfl) (Eq.trans (e_iconst d_942_26 k_0) (e_istore_n d_942_27 (by decide) (Nat.le_of_ble_eq_true rfl) rfl))
theorem b942_28 {x1 x2 x3 : Int} {σ : SS} : ev 942 28 [qR 50, qI x1, qI x2, qI x3] [] σ = if x3 < (σ 50 13) then ev 942 36 [qR 50, qI x1, qI x2, qI x3] [] σ else ev 942 79 [qR 50, qI x1, qI x2, qI x3] [] σ :=
  Eq.trans (e_iload_n d_942_28 rfl) (Eq.trans (e_aload_n d_942_29 rfl) (Eq.trans (e_getI d_942_30 fl_9_188 sh_50 rfl) (e_icmp_ge d_942_33 (by decide))))
theorem b942_36 {x1 x2 x3 : Int} {σ : SS} : ev 942 36 [qR 50, qI x1, qI x2, qI x3] [] σ = (ev 902 0 [qI x1, qI x3] [] σ).bind (fun x => ev 942 41 [qR 50, qI x1, qI x2, qI x3] (q_push x.1 []) x.2) :=
  Eq.trans (e_iload_n d_942_36 rfl) (Eq.trans (e_iload_n d_942_37 rfl) (e_callS d_942_38 (by decide) ml_9_124 fit_942_902 par_902 rfl rfl (Nat.le_of_ble_eq_true rfl) (Nat.le_of_ble_eq_true rfl) (Nat.le_of_ble_eq_true rfl) rfl (by decide) rfl))
theorem b942_41 {x1 x2 x3 y0 : Int} {σ : SS} : ev 942 41 [qR 50, qI x1, qI x2, qI x3] [qI y0] σ = if y0 = 0 then ev 942 73 [qR 50, qI x1, qI x2, qI x3] [] σ else ev 942 44 [qR 50, qI x1, qI x2, qI x3] [] σ :=
  e_if_eq d_942_41 (by decide)
theorem b942_44 {x1 x2 x3 : Int} {σ : SS} : ev 942 44 [qR 50, qI x1, qI x2, qI x3] [] σ = if x2 = 0 then ev 942 56 [qR 50, qI x1, qI x2, qI x3] [qI (σ 50 16), qR 51] σ else ev 942 60 [qR 50, qI x1, qI x2, qI x3] [qI (σ 50 16), qR 51] σ :=
  Eq.trans (e_aload_n d_942_44 rfl) (Eq.trans (e_getR d_942_45 fl_9_7 sh_50 rfl) (Eq.trans (e_aload_n d_942_48 rfl) (Eq.trans (e_getI d_942_49 fl_9_197 sh_50 rfl) (Eq.trans (e_iload_n d_942_52 rfl) (e_if_ne d_942_53 (by decide))))))
theorem b942_56 {x1 x2 x3 y0 : Int} {σ : SS} : ev 942 56 [qR 50, qI x1, qI x2, qI x3] [qI y0, qR 51] σ = ev 942 69 [qR 50, qI x1, qI x2, qI x3] [qI x3, qI y0, qR 51] σ :=
  Eq.trans (e_iload_n d_942_56 rfl) (e_goto d_942_57 (by decide))
theorem b942_60 {x1 x2 x3 y0 : Int} {σ : SS} (h : 0 ≤ (σ 50 16) ∧ (σ 50 16) < 96) : ev 942 60 [qR 50, qI x1, qI x2, qI x3] [qI y0, qR 51] σ = ev 942 69 [qR 50, qI x1, qI x2, qI x3] [qI (σ 51 (σ 50 16).toNat), qI y0, qR 51] σ :=
  Eq.trans (e_aload_n d_942_60 rfl) (Eq.trans (e_getR d_942_61 fl_9_7 sh_50 rfl) (Eq.trans (e_aload_n d_942_64 rfl) (Eq.trans (e_getI d_942_65 fl_9_197 sh_50 rfl) (e_iald d_942_68 sh_51 h))))
theorem b942_69 {x1 x2 x3 y0 y1 : Int} {σ : SS} (h : (0 ≤ y1 ∧ y1 < 96) ∧ (-2147483648 ≤ (x2 + (-1)) ∧ (x2 + (-1)) ≤ 2147483647)) : ev 942 69 [qR 50, qI x1, qI x2, qI x3] [qI y0, qI y1, qR 51] σ = ev 942 73 [qR 50, qI x1, qI (x2 + (-1)), qI x3] [] (q_put σ 51 y1.toNat y0) :=
  Eq.trans (e_iast d_942_69 sh_51 h.1) (e_iinc d_942_70 (by decide) rfl h.2 rfl)
theorem b942_73 {x1 x2 x3 : Int} {σ : SS} (h : -2147483648 ≤ (x3 + 1) ∧ (x3 + 1) ≤ 2147483647) : ev 942 73 [qR 50, qI x1, qI x2, qI x3] [] σ = ev 942 28 [qR 50, qI x1, qI x2, qI (x3 + 1)] [] σ :=
  Eq.trans (e_iinc d_942_73 (by decide) rfl h rfl) (e_goto d_942_76 (by decide))
theorem b942_79 {x1 x2 x3 : Int} {σ : SS} : ev 942 79 [qR 50, qI x1, qI x2, qI x3] [] σ = some (none, σ) :=
  e_vret d_942_79 rfl
theorem b941_0 {x1 : Int} {σ : SS} : ev 941 0 [qR 50, qI x1] [] σ = ev 941 28 [qR 50, qI x1] [] (q_put σ 51 23 (q_l2i (q_lrem (q_ladd (q_lmul (σ 51 23) 1103515245) 12345) 2147483648))) :=
  Eq.trans (e_aload_n d_941_0 rfl) (Eq.trans (e_getR d_941_1 fl_9_7 sh_50 rfl) (Eq.trans (e_bipush d_941_4 kb_23) (Eq.trans (e_aload_n d_941_6 rfl) (Eq.trans (e_getR d_941_7 fl_9_7 sh_50 rfl) (Eq.trans (e_bipush d_941_10 kb_23) (Eq.trans (e_iald d_941_12 sh_51 (by decide)) (Eq.trans (e_i2l d_941_13) (Eq.trans (e_ldc2 d_941_14 ll_9_254.1 ll_9_254.2) (Eq.trans (e_lmul d_941_17) (Eq.trans (e_ldc2 d_941_18 ll_9_256.1 ll_9_256.2) (Eq.trans (e_ladd d_941_21) (Eq.trans (e_ldc2 d_941_22 ll_9_258.1 ll_9_258.2) (Eq.trans (e_lrem d_941_25 (by omega)) (Eq.trans (e_l2i d_941_26) (e_iast d_941_27 sh_51 (by decide))))))))))))))))
theorem b941_28 {x1 : Int} {σ : SS} (h : (0 ≤ (σ 51 23) ∧ (σ 51 23) ≤ 2147483647 ∧ (0 : Int) < 65536 ∧ (65536 : Int) ≤ 2147483647) ∧ (0 ≤ ((σ 51 23) / 65536) ∧ ((σ 51 23) / 65536) ≤ 2147483647 ∧ (0 : Int) < x1 ∧ (x1 : Int) ≤ 2147483647)) : ev 941 28 [qR 50, qI x1] [] σ = some (some (qI (((σ 51 23) / 65536) % x1)), σ) :=
  Eq.trans (e_aload_n d_941_28 rfl) (Eq.trans (e_getR d_941_29 fl_9_7 sh_50 rfl) (Eq.trans (e_bipush d_941_32 kb_23) (Eq.trans (e_iald d_941_34 sh_51 (by decide)) (Eq.trans (e_ldcw d_941_35 ld_9_260 k_65536) (Eq.trans (e_idiv d_941_38 h.1) (Eq.trans (e_iload_n d_941_39 rfl) (Eq.trans (e_irem d_941_40 h.2) (e_iret d_941_41 (q_okrI rfl)))))))))
theorem b945_0 {x1 : Int} {σ : SS} (h : 0 ≤ x1 ∧ x1 < 96) : ev 945 0 [qR 50, qI x1, qU] [] σ = (ev 944 0 [qR 50, qI (σ 51 x1.toNat), qU, qU, qU] [] σ).bind (fun x => ev 945 10 [qR 50, qI x1, qU] (q_push x.1 []) x.2) :=
  Eq.trans (e_aload_n d_945_0 rfl) (Eq.trans (e_aload_n d_945_1 rfl) (Eq.trans (e_getR d_945_2 fl_9_7 sh_50 rfl) (Eq.trans (e_iload_n d_945_5 rfl) (Eq.trans (e_iald d_945_6 sh_51 h) (e_callV d_945_7 ml_9_271 fit_945_944 par_944 rfl rfl sh_50 (Nat.le_of_ble_eq_true rfl) (Nat.le_of_ble_eq_true rfl) (Nat.le_of_ble_eq_true rfl) rfl (by decide) rfl)))))
theorem b945_10 {x1 : Int} {σ : SS} : ev 945 10 [qR 50, qI x1, qU] [] σ = ev 945 12 [qR 50, qI x1, qI 0] [] σ :=
  Eq.trans (e_iconst d_945_10 k_0) (e_istore_n d_945_11 (by decide) (Nat.le_of_ble_eq_true rfl) rfl)
theorem b945_12 {x1 x2 : Int} {σ : SS} : ev 945 12 [qR 50, qI x1, qI x2] [] σ = if 48 < x2 then ev 945 67 [qR 50, qI x1, qI x2] [] σ else ev 945 18 [qR 50, qI x1, qI x2] [] σ :=
  Eq.trans (e_iload_n d_945_12 rfl) (Eq.trans (e_bipush d_945_13 kb_48) (e_icmp_gt d_945_15 (by decide)))
theorem b945_18 {x1 x2 : Int} {σ : SS} (h : 0 ≤ (σ 51 22) ∧ (σ 51 22) < 6) : ev 945 18 [qR 50, qI x1, qI x2] [] σ = if x2 < (σ 63 (σ 51 22).toNat) then ev 945 61 [qR 50, qI x1, qI x2] [] σ else ev 945 34 [qR 50, qI x1, qI x2] [] σ :=
  Eq.trans (e_aload_n d_945_18 rfl) (Eq.trans (e_getR d_945_19 fl_9_51 sh_50 rfl) (Eq.trans (e_aload_n d_945_22 rfl) (Eq.trans (e_getR d_945_23 fl_9_7 sh_50 rfl) (Eq.trans (e_bipush d_945_26 kb_22) (Eq.trans (e_iald d_945_28 sh_51 (by decide)) (Eq.trans (e_iald d_945_29 sh_63 h) (Eq.trans (e_iload_n d_945_30 rfl) (e_icmp_gt d_945_31 (by decide)))))))))
theorem b945_34 {x1 x2 : Int} {σ : SS} (h : -2147483648 ≤ ((σ 51 21) + x2) ∧ ((σ 51 21) + x2) ≤ 2147483647) : ev 945 34 [qR 50, qI x1, qI x2] [] σ = (ev 925 0 [qR 50, qI x1, qI ((σ 51 21) + x2), qU] [] σ).bind (fun x => ev 945 49 [qR 50, qI x1, qI x2] (q_push x.1 [qR 50]) x.2) :=
  Eq.trans (e_aload_n d_945_34 rfl) (Eq.trans (e_aload_n d_945_35 rfl) (Eq.trans (e_iload_n d_945_36 rfl) (Eq.trans (e_aload_n d_945_37 rfl) (Eq.trans (e_getR d_945_38 fl_9_7 sh_50 rfl) (Eq.trans (e_bipush d_945_41 kb_21) (Eq.trans (e_iald d_945_43 sh_51 (by decide)) (Eq.trans (e_iload_n d_945_44 rfl) (Eq.trans (e_iadd d_945_45 h) (e_callV d_945_46 ml_9_241 fit_945_925 par_925 rfl rfl sh_50 (Nat.le_of_ble_eq_true rfl) (Nat.le_of_ble_eq_true rfl) (Nat.le_of_ble_eq_true rfl) rfl (by decide) rfl)))))))))
theorem b945_49 {x1 x2 y0 : Int} {σ : SS} : ev 945 49 [qR 50, qI x1, qI x2] [qI y0, qR 50] σ = (ev 928 0 [qR 50] [] σ).bind (fun x => ev 945 53 [qR 50, qI x1, qI x2] (q_push x.1 [qI y0, qR 50]) x.2) :=
  Eq.trans (e_aload_n d_945_49 rfl) (e_callV d_945_50 ml_9_220 fit_945_928 par_928 rfl rfl sh_50 (Nat.le_of_ble_eq_true rfl) (Nat.le_of_ble_eq_true rfl) (Nat.le_of_ble_eq_true rfl) rfl (by decide) rfl)
theorem b945_53 {x1 x2 y0 y1 : Int} {σ : SS} : ev 945 53 [qR 50, qI x1, qI x2] [qI y0, qI y1, qR 50] σ = (ev 927 0 [qR 50, qI y1, qI y0] [] σ).bind (fun x => ev 945 56 [qR 50, qI x1, qI x2] (q_push x.1 []) x.2) :=
  e_callV d_945_53 ml_9_244 fit_945_927 par_927 rfl rfl sh_50 (Nat.le_of_ble_eq_true rfl) (Nat.le_of_ble_eq_true rfl) (Nat.le_of_ble_eq_true rfl) rfl (by decide) rfl
theorem b945_56 {x1 x2 y0 : Int} {σ : SS} : ev 945 56 [qR 50, qI x1, qI x2] [qI y0] σ = if y0 = 0 then ev 945 61 [qR 50, qI x1, qI x2] [] σ else ev 945 59 [qR 50, qI x1, qI x2] [] σ :=
  e_if_eq d_945_56 (by decide)
theorem b945_59 {x1 x2 : Int} {σ : SS} : ev 945 59 [qR 50, qI x1, qI x2] [] σ = some (some (qI x2), σ) :=
  Eq.trans (e_iload_n d_945_59 rfl) (e_iret d_945_60 (q_okrI rfl))
theorem b945_61 {x1 x2 : Int} {σ : SS} (h : -2147483648 ≤ (x2 + 1) ∧ (x2 + 1) ≤ 2147483647) : ev 945 61 [qR 50, qI x1, qI x2] [] σ = ev 945 12 [qR 50, qI x1, qI (x2 + 1)] [] σ :=
  Eq.trans (e_iinc d_945_61 (by decide) rfl h rfl) (e_goto d_945_64 (by decide))
theorem b945_67 {x1 x2 : Int} {σ : SS} : ev 945 67 [qR 50, qI x1, qI x2] [] σ = some (some (qI (-1)), σ) :=
  Eq.trans (e_iconst d_945_67 k_m1) (e_iret d_945_68 (q_okrI rfl))
theorem b952_0 {x1 : Int} {σ : SS} : ev 952 0 [qR 50, qI x1, qU, qU, qU, qU, qU] [] σ = (ev 951 0 [qR 50, qI x1, qU, qU, qU, qU, qU, qU] [] σ).bind (fun x => ev 952 5 [qR 50, qI x1, qU, qU, qU, qU, qU] (q_push x.1 []) x.2) :=
  Eq.trans (e_aload_n d_952_0 rfl) (Eq.trans (e_iload_n d_952_1 rfl) (e_callV d_952_2 ml_9_290 fit_952_951 par_951 rfl rfl sh_50 (Nat.le_of_ble_eq_true rfl) (Nat.le_of_ble_eq_true rfl) (Nat.le_of_ble_eq_true rfl) rfl (by decide) rfl))
theorem b952_5 {x1 : Int} {σ : SS} : ev 952 5 [qR 50, qI x1, qU, qU, qU, qU, qU] [] σ = ev 952 11 [qR 50, qI x1, qI 99999999, qI 0, qU, qU, qU] [] σ :=
  Eq.trans (e_ldcw d_952_5 ld_9_270 k_99999999) (Eq.trans (e_istore_n d_952_8 (by decide) (Nat.le_of_ble_eq_true rfl) rfl) (Eq.trans (e_iconst d_952_9 k_0) (e_istore_n d_952_10 (by decide) (Nat.le_of_ble_eq_true rfl) rfl)))
theorem b952_11 {x1 x2 x3 : Int} {vx4 vx5 vx6 : AV} {σ : SS} : ev 952 11 [qR 50, qI x1, qI x2, qI x3, vx4, vx5, vx6] [] σ = if x3 < (σ 50 13) then ev 952 19 [qR 50, qI x1, qI x2, qI x3, vx4, vx5, vx6] [] σ else ev 952 126 [qR 50, qI x1, qI x2, qI x3, vx4, vx5, vx6] [] σ :=
  Eq.trans (e_iload_n d_952_11 rfl) (Eq.trans (e_aload_n d_952_12 rfl) (Eq.trans (e_getI d_952_13 fl_9_188 sh_50 rfl) (e_icmp_ge d_952_16 (by decide))))
theorem b952_19 {x1 x2 x3 : Int} {vx4 vx5 vx6 : AV} {σ : SS} : ev 952 19 [qR 50, qI x1, qI x2, qI x3, vx4, vx5, vx6] [] σ = ev 952 22 [qR 50, qI x1, qI x2, qI x3, qI 0, vx5, vx6] [] σ :=
  Eq.trans (e_iconst d_952_19 k_0) (e_istore d_952_20 (by decide) (Nat.le_of_ble_eq_true rfl) rfl)
theorem b952_22 {x1 x2 x3 x4 : Int} {vx5 vx6 : AV} {σ : SS} : ev 952 22 [qR 50, qI x1, qI x2, qI x3, qI x4, vx5, vx6] [] σ = if x4 < (σ 50 13) then ev 952 31 [qR 50, qI x1, qI x2, qI x3, qI x4, vx5, vx6] [] σ else ev 952 120 [qR 50, qI x1, qI x2, qI x3, qI x4, vx5, vx6] [] σ :=
  Eq.trans (e_iload d_952_22 rfl) (Eq.trans (e_aload_n d_952_24 rfl) (Eq.trans (e_getI d_952_25 fl_9_188 sh_50 rfl) (e_icmp_ge d_952_28 (by decide))))
theorem b952_31 {x1 x2 x3 x4 : Int} {vx5 vx6 : AV} {σ : SS} : ev 952 31 [qR 50, qI x1, qI x2, qI x3, qI x4, vx5, vx6] [] σ = ev 952 37 [qR 50, qI x1, qI x2, qI x3, qI x4, qI 0, qI 0] [] σ :=
  Eq.trans (e_iconst d_952_31 k_0) (Eq.trans (e_istore d_952_32 (by decide) (Nat.le_of_ble_eq_true rfl) rfl) (Eq.trans (e_iconst d_952_34 k_0) (e_istore d_952_35 (by decide) (Nat.le_of_ble_eq_true rfl) rfl)))
theorem b952_37 {x1 x2 x3 x4 x5 x6 : Int} {σ : SS} : ev 952 37 [qR 50, qI x1, qI x2, qI x3, qI x4, qI x5, qI x6] [] σ = if x6 < (σ 50 13) then ev 952 46 [qR 50, qI x1, qI x2, qI x3, qI x4, qI x5, qI x6] [] σ else ev 952 90 [qR 50, qI x1, qI x2, qI x3, qI x4, qI x5, qI x6] [] σ :=
  Eq.trans (e_iload d_952_37 rfl) (Eq.trans (e_aload_n d_952_39 rfl) (Eq.trans (e_getI d_952_40 fl_9_188 sh_50 rfl) (e_icmp_ge d_952_43 (by decide))))
theorem b952_46 {x1 x2 x3 x4 x5 x6 : Int} {σ : SS} : ev 952 46 [qR 50, qI x1, qI x2, qI x3, qI x4, qI x5, qI x6] [] σ = (ev 948 0 [qI x3, qI x4, qI x6] [] σ).bind (fun x => ev 952 58 [qR 50, qI x1, qI x2, qI x3, qI x4, qI x5, qI x6] (q_push x.1 [qR 64]) x.2) :=
  Eq.trans (e_aload_n d_952_46 rfl) (Eq.trans (e_getR d_952_47 fl_9_54 sh_50 rfl) (Eq.trans (e_iload_n d_952_50 rfl) (Eq.trans (e_iload d_952_51 rfl) (Eq.trans (e_iload d_952_53 rfl) (e_callS d_952_55 (by decide) ml_9_280 fit_952_948 par_948 rfl rfl (Nat.le_of_ble_eq_true rfl) (Nat.le_of_ble_eq_true rfl) (Nat.le_of_ble_eq_true rfl) rfl (by decide) rfl)))))
theorem b952_58 {x1 x2 x3 x4 x5 x6 y0 : Int} {σ : SS} (h : 0 ≤ y0 ∧ y0 < 216) : ev 952 58 [qR 50, qI x1, qI x2, qI x3, qI x4, qI x5, qI x6] [qI y0, qR 64] σ = if x5 < (σ 64 y0.toNat) then ev 952 64 [qR 50, qI x1, qI x2, qI x3, qI x4, qI x5, qI x6] [] σ else ev 952 80 [qR 50, qI x1, qI x2, qI x3, qI x4, qI x5, qI x6] [] σ :=
  Eq.trans (e_iald d_952_58 sh_64 h) (Eq.trans (e_iload d_952_59 rfl) (e_icmp_le d_952_61 (by decide)))
theorem b952_64 {x1 x2 x3 x4 x5 x6 : Int} {σ : SS} : ev 952 64 [qR 50, qI x1, qI x2, qI x3, qI x4, qI x5, qI x6] [] σ = (ev 948 0 [qI x3, qI x4, qI x6] [] σ).bind (fun x => ev 952 76 [qR 50, qI x1, qI x2, qI x3, qI x4, qI x5, qI x6] (q_push x.1 [qR 64]) x.2) :=
  Eq.trans (e_aload_n d_952_64 rfl) (Eq.trans (e_getR d_952_65 fl_9_54 sh_50 rfl) (Eq.trans (e_iload_n d_952_68 rfl) (Eq.trans (e_iload d_952_69 rfl) (Eq.trans (e_iload d_952_71 rfl) (e_callS d_952_73 (by decide) ml_9_280 fit_952_948 par_948 rfl rfl (Nat.le_of_ble_eq_true rfl) (Nat.le_of_ble_eq_true rfl) (Nat.le_of_ble_eq_true rfl) rfl (by decide) rfl)))))
theorem b952_76 {x1 x2 x3 x4 x5 x6 y0 : Int} {σ : SS} (h : 0 ≤ y0 ∧ y0 < 216) : ev 952 76 [qR 50, qI x1, qI x2, qI x3, qI x4, qI x5, qI x6] [qI y0, qR 64] σ = ev 952 82 [qR 50, qI x1, qI x2, qI x3, qI x4, qI x5, qI x6] [qI (σ 64 y0.toNat)] σ :=
  Eq.trans (e_iald d_952_76 sh_64 h) (e_goto d_952_77 (by decide))
theorem b952_80 {x1 x2 x3 x4 x5 x6 : Int} {σ : SS} : ev 952 80 [qR 50, qI x1, qI x2, qI x3, qI x4, qI x5, qI x6] [] σ = ev 952 82 [qR 50, qI x1, qI x2, qI x3, qI x4, qI x5, qI x6] [qI x5] σ :=
  e_iload d_952_80 rfl
theorem b952_82 {x1 x2 x3 x4 x5 x6 y0 : Int} {σ : SS} (h : -2147483648 ≤ (x6 + 1) ∧ (x6 + 1) ≤ 2147483647) : ev 952 82 [qR 50, qI x1, qI x2, qI x3, qI x4, qI x5, qI x6] [qI y0] σ = ev 952 37 [qR 50, qI x1, qI x2, qI x3, qI x4, qI y0, qI (x6 + 1)] [] σ :=
  Eq.trans (e_istore d_952_82 (by decide) (Nat.le_of_ble_eq_true rfl) rfl) (Eq.trans (e_iinc d_952_84 (by decide) rfl h rfl) (e_goto d_952_87 (by decide)))
theorem b952_90 {x1 x2 x3 x4 x5 x6 : Int} {σ : SS} : ev 952 90 [qR 50, qI x1, qI x2, qI x3, qI x4, qI x5, qI x6] [] σ = if x1 = 2 then ev 952 101 [qR 50, qI x1, qI x2, qI x3, qI x4, qI x5, qI x6] [] σ else ev 952 95 [qR 50, qI x1, qI x2, qI x3, qI x4, qI x5, qI x6] [] σ :=
  Eq.trans (e_iload_n d_952_90 rfl) (Eq.trans (e_iconst d_952_91 k_2) (e_icmp_eq d_952_92 (by decide)))
theorem b952_95 {x1 x2 x3 x4 x5 x6 : Int} {σ : SS} : ev 952 95 [qR 50, qI x1, qI x2, qI x3, qI x4, qI x5, qI x6] [] σ = if x3 = x4 then ev 952 101 [qR 50, qI x1, qI x2, qI x3, qI x4, qI x5, qI x6] [] σ else ev 952 112 [qR 50, qI x1, qI x2, qI x3, qI x4, qI x5, qI x6] [] σ :=
  Eq.trans (e_iload_n d_952_95 rfl) (Eq.trans (e_iload d_952_96 rfl) (e_icmp_ne d_952_98 (by decide)))
theorem b952_101 {x1 x2 x3 x4 x5 x6 : Int} {σ : SS} : ev 952 101 [qR 50, qI x1, qI x2, qI x3, qI x4, qI x5, qI x6] [] σ = if x5 < x2 then ev 952 107 [qR 50, qI x1, qI x2, qI x3, qI x4, qI x5, qI x6] [] σ else ev 952 112 [qR 50, qI x1, qI x2, qI x3, qI x4, qI x5, qI x6] [] σ :=
  Eq.trans (e_iload d_952_101 rfl) (Eq.trans (e_iload_n d_952_103 rfl) (e_icmp_ge d_952_104 (by decide)))
theorem b952_107 {x1 x2 x3 x4 x5 x6 : Int} {σ : SS} : ev 952 107 [qR 50, qI x1, qI x2, qI x3, qI x4, qI x5, qI x6] [] σ = ev 952 113 [qR 50, qI x1, qI x2, qI x3, qI x4, qI x5, qI x6] [qI x5] σ :=
  Eq.trans (e_iload d_952_107 rfl) (e_goto d_952_109 (by decide))
theorem b952_112 {x1 x2 x3 x4 x5 x6 : Int} {σ : SS} : ev 952 112 [qR 50, qI x1, qI x2, qI x3, qI x4, qI x5, qI x6] [] σ = ev 952 113 [qR 50, qI x1, qI x2, qI x3, qI x4, qI x5, qI x6] [qI x2] σ :=
  e_iload_n d_952_112 rfl
theorem b952_113 {x1 x2 x3 x4 x5 x6 y0 : Int} {σ : SS} (h : -2147483648 ≤ (x4 + 1) ∧ (x4 + 1) ≤ 2147483647) : ev 952 113 [qR 50, qI x1, qI x2, qI x3, qI x4, qI x5, qI x6] [qI y0] σ = ev 952 22 [qR 50, qI x1, qI y0, qI x3, qI (x4 + 1), qI x5, qI x6] [] σ :=
  Eq.trans (e_istore_n d_952_113 (by decide) (Nat.le_of_ble_eq_true rfl) rfl) (Eq.trans (e_iinc d_952_114 (by decide) rfl h rfl) (e_goto d_952_117 (by decide)))
theorem b952_120 {x1 x2 x3 x4 : Int} {vx5 vx6 : AV} {σ : SS} (h : -2147483648 ≤ (x3 + 1) ∧ (x3 + 1) ≤ 2147483647) : ev 952 120 [qR 50, qI x1, qI x2, qI x3, qI x4, vx5, vx6] [] σ = ev 952 11 [qR 50, qI x1, qI x2, qI (x3 + 1), qI x4, vx5, vx6] [] σ :=
  Eq.trans (e_iinc d_952_120 (by decide) rfl h rfl) (e_goto d_952_123 (by decide))
theorem b952_126 {x1 x2 x3 : Int} {vx4 vx5 vx6 : AV} {σ : SS} : ev 952 126 [qR 50, qI x1, qI x2, qI x3, vx4, vx5, vx6] [] σ = if x2 < 99999999 then ev 952 137 [qR 50, qI x1, qI x2, qI x3, vx4, vx5, vx6] [] σ else ev 952 133 [qR 50, qI x1, qI x2, qI x3, vx4, vx5, vx6] [] σ :=
  Eq.trans (e_iload_n d_952_126 rfl) (Eq.trans (e_ldcw d_952_127 ld_9_270 k_99999999) (e_icmp_lt d_952_130 (by decide)))
theorem b952_133 {x1 x2 x3 : Int} {vx4 vx5 vx6 : AV} {σ : SS} : ev 952 133 [qR 50, qI x1, qI x2, qI x3, vx4, vx5, vx6] [] σ = ev 952 138 [qR 50, qI x1, qI x2, qI x3, vx4, vx5, vx6] [qI (-1)] σ :=
  Eq.trans (e_iconst d_952_133 k_m1) (e_goto d_952_134 (by decide))
theorem b952_137 {x1 x2 x3 : Int} {vx4 vx5 vx6 : AV} {σ : SS} : ev 952 137 [qR 50, qI x1, qI x2, qI x3, vx4, vx5, vx6] [] σ = ev 952 138 [qR 50, qI x1, qI x2, qI x3, vx4, vx5, vx6] [qI x2] σ :=
  e_iload_n d_952_137 rfl
theorem b952_138 {x1 x2 x3 y0 : Int} {vx4 vx5 vx6 : AV} {σ : SS} : ev 952 138 [qR 50, qI x1, qI x2, qI x3, vx4, vx5, vx6] [qI y0] σ = some (some (qI y0), σ) :=
  e_iret d_952_138 (q_okrI rfl)
theorem b956_0 {x1 x2 x3 : Int} {σ : SS} : ev 956 0 [qR 50, qI x1, qI x2, qI x3, qU, qU] [] σ = (ev 923 0 [qR 50, qI x1, qI x2, qI 0, qU] [] σ).bind (fun x => ev 956 8 [qR 50, qI x1, qI x2, qI x3, qU, qU] (q_push x.1 [qR 50]) x.2) :=
  Eq.trans (e_aload_n d_956_0 rfl) (Eq.trans (e_aload_n d_956_1 rfl) (Eq.trans (e_iload_n d_956_2 rfl) (Eq.trans (e_iload_n d_956_3 rfl) (Eq.trans (e_iconst d_956_4 k_0) (e_callV d_956_5 ml_9_209 fit_956_923 par_923 rfl rfl sh_50 (Nat.le_of_ble_eq_true rfl) (Nat.le_of_ble_eq_true rfl) (Nat.le_of_ble_eq_true rfl) rfl (by decide) rfl)))))
theorem b956_8 {x1 x2 x3 y0 : Int} {σ : SS} : ev 956 8 [qR 50, qI x1, qI x2, qI x3, qU, qU] [qI y0, qR 50] σ = (ev 927 0 [qR 50, qI y0, qI (σ 53 0)] [] σ).bind (fun x => ev 956 17 [qR 50, qI x1, qI x2, qI x3, qU, qU] (q_push x.1 []) x.2) :=
  Eq.trans (e_aload_n d_956_8 rfl) (Eq.trans (e_getR d_956_9 fl_9_17 sh_50 rfl) (Eq.trans (e_iconst d_956_12 k_0) (Eq.trans (e_iald d_956_13 sh_53 (by decide)) (e_callV d_956_14 ml_9_244 fit_956_927 par_927 rfl rfl sh_50 (Nat.le_of_ble_eq_true rfl) (Nat.le_of_ble_eq_true rfl) (Nat.le_of_ble_eq_true rfl) rfl (by decide) rfl))))
theorem b956_17 {x1 x2 x3 y0 : Int} {σ : SS} : ev 956 17 [qR 50, qI x1, qI x2, qI x3, qU, qU] [qI y0] σ = if y0 = 0 then ev 956 44 [qR 50, qI x1, qI x2, qI x3, qU, qU] [] σ else ev 956 20 [qR 50, qI x1, qI x2, qI x3, qU, qU] [] σ :=
  e_if_eq d_956_17 (by decide)
theorem b956_20 {x1 x2 x3 : Int} {σ : SS} : ev 956 20 [qR 50, qI x1, qI x2, qI x3, qU, qU] [] σ = (ev 923 0 [qR 50, qI x1, qI x3, qI 0, qU] [] σ).bind (fun x => ev 956 28 [qR 50, qI x1, qI x2, qI x3, qU, qU] (q_push x.1 [qR 50]) x.2) :=
  Eq.trans (e_aload_n d_956_20 rfl) (Eq.trans (e_aload_n d_956_21 rfl) (Eq.trans (e_iload_n d_956_22 rfl) (Eq.trans (e_iload_n d_956_23 rfl) (Eq.trans (e_iconst d_956_24 k_0) (e_callV d_956_25 ml_9_209 fit_956_923 par_923 rfl rfl sh_50 (Nat.le_of_ble_eq_true rfl) (Nat.le_of_ble_eq_true rfl) (Nat.le_of_ble_eq_true rfl) rfl (by decide) rfl)))))
theorem b956_28 {x1 x2 x3 y0 : Int} {σ : SS} : ev 956 28 [qR 50, qI x1, qI x2, qI x3, qU, qU] [qI y0, qR 50] σ = (ev 927 0 [qR 50, qI y0, qI (σ 53 0)] [] σ).bind (fun x => ev 956 37 [qR 50, qI x1, qI x2, qI x3, qU, qU] (q_push x.1 []) x.2) :=
  Eq.trans (e_aload_n d_956_28 rfl) (Eq.trans (e_getR d_956_29 fl_9_17 sh_50 rfl) (Eq.trans (e_iconst d_956_32 k_0) (Eq.trans (e_iald d_956_33 sh_53 (by decide)) (e_callV d_956_34 ml_9_244 fit_956_927 par_927 rfl rfl sh_50 (Nat.le_of_ble_eq_true rfl) (Nat.le_of_ble_eq_true rfl) (Nat.le_of_ble_eq_true rfl) rfl (by decide) rfl))))
theorem b956_37 {x1 x2 x3 y0 : Int} {σ : SS} : ev 956 37 [qR 50, qI x1, qI x2, qI x3, qU, qU] [qI y0] σ = if y0 = 0 then ev 956 44 [qR 50, qI x1, qI x2, qI x3, qU, qU] [] σ else ev 956 40 [qR 50, qI x1, qI x2, qI x3, qU, qU] [] σ :=
  e_if_eq d_956_37 (by decide)
theorem b956_40 {x1 x2 x3 : Int} {σ : SS} : ev 956 40 [qR 50, qI x1, qI x2, qI x3, qU, qU] [] σ = ev 956 45 [qR 50, qI x1, qI x2, qI x3, qU, qU] [qI 1] σ :=
  Eq.trans (e_iconst d_956_40 k_1) (e_goto d_956_41 (by decide))
theorem b956_44 {x1 x2 x3 : Int} {σ : SS} : ev 956 44 [qR 50, qI x1, qI x2, qI x3, qU, qU] [] σ = ev 956 45 [qR 50, qI x1, qI x2, qI x3, qU, qU] [qI 0] σ :=
  e_iconst d_956_44 k_0
theorem b956_45 {x1 x2 x3 y0 : Int} {σ : SS} : ev 956 45 [qR 50, qI x1, qI x2, qI x3, qU, qU] [qI y0] σ = ev 956 50 [qR 50, qI x1, qI x2, qI x3, qI y0, qI 0] [] σ :=
  Eq.trans (e_istore d_956_45 (by decide) (Nat.le_of_ble_eq_true rfl) rfl) (Eq.trans (e_iconst d_956_47 k_0) (e_istore d_956_48 (by decide) (Nat.le_of_ble_eq_true rfl) rfl))
theorem b956_50 {x1 x2 x3 x4 x5 : Int} {σ : SS} : ev 956 50 [qR 50, qI x1, qI x2, qI x3, qI x4, qI x5] [] σ = if x5 < (σ 50 14) then ev 956 59 [qR 50, qI x1, qI x2, qI x3, qI x4, qI x5] [] σ else ev 956 94 [qR 50, qI x1, qI x2, qI x3, qI x4, qI x5] [] σ :=
  Eq.trans (e_iload d_956_50 rfl) (Eq.trans (e_aload_n d_956_52 rfl) (Eq.trans (e_getI d_956_53 fl_9_191 sh_50 rfl) (e_icmp_ge d_956_56 (by decide))))
theorem b956_59 {x1 x2 x3 x4 x5 : Int} {σ : SS} : ev 956 59 [qR 50, qI x1, qI x2, qI x3, qI x4, qI x5] [] σ = if x4 = 0 then ev 956 85 [qR 50, qI x1, qI x2, qI x3, qI x4, qI x5] [] σ else ev 956 64 [qR 50, qI x1, qI x2, qI x3, qI x4, qI x5] [] σ :=
  Eq.trans (e_iload d_956_59 rfl) (e_if_eq d_956_61 (by decide))
theorem b956_64 {x1 x2 x3 x4 x5 : Int} {σ : SS} : ev 956 64 [qR 50, qI x1, qI x2, qI x3, qI x4, qI x5] [] σ = if x5 = x1 then ev 956 81 [qR 50, qI x1, qI x2, qI x3, qI x4, qI x5] [] σ else ev 956 70 [qR 50, qI x1, qI x2, qI x3, qI x4, qI x5] [] σ :=
  Eq.trans (e_iload d_956_64 rfl) (Eq.trans (e_iload_n d_956_66 rfl) (e_icmp_eq d_956_67 (by decide)))
theorem b956_70 {x1 x2 x3 x4 x5 : Int} {σ : SS} : ev 956 70 [qR 50, qI x1, qI x2, qI x3, qI x4, qI x5] [] σ = (ev 955 0 [qR 50, qI x5, qI x2, qI x3, qU] [] σ).bind (fun x => ev 956 78 [qR 50, qI x1, qI x2, qI x3, qI x4, qI x5] (q_push x.1 []) x.2) :=
  Eq.trans (e_aload_n d_956_70 rfl) (Eq.trans (e_iload d_956_71 rfl) (Eq.trans (e_iload_n d_956_73 rfl) (Eq.trans (e_iload_n d_956_74 rfl) (e_callV d_956_75 ml_9_300 fit_956_955 par_955 rfl rfl sh_50 (Nat.le_of_ble_eq_true rfl) (Nat.le_of_ble_eq_true rfl) (Nat.le_of_ble_eq_true rfl) rfl (by decide) rfl))))
theorem b956_78 {x1 x2 x3 x4 x5 y0 : Int} {σ : SS} : ev 956 78 [qR 50, qI x1, qI x2, qI x3, qI x4, qI x5] [qI y0] σ = if y0 < 0 then ev 956 81 [qR 50, qI x1, qI x2, qI x3, qI x4, qI x5] [] σ else ev 956 85 [qR 50, qI x1, qI x2, qI x3, qI x4, qI x5] [] σ :=
  e_if_ge d_956_78 (by decide)
theorem b956_81 {x1 x2 x3 x4 x5 : Int} {σ : SS} : ev 956 81 [qR 50, qI x1, qI x2, qI x3, qI x4, qI x5] [] σ = ev 956 86 [qR 50, qI x1, qI x2, qI x3, qI x4, qI x5] [qI 1] σ :=
  Eq.trans (e_iconst d_956_81 k_1) (e_goto d_956_82 (by decide))
theorem b956_85 {x1 x2 x3 x4 x5 : Int} {σ : SS} : ev 956 85 [qR 50, qI x1, qI x2, qI x3, qI x4, qI x5] [] σ = ev 956 86 [qR 50, qI x1, qI x2, qI x3, qI x4, qI x5] [qI 0] σ :=
  e_iconst d_956_85 k_0
theorem b956_86 {x1 x2 x3 x4 x5 y0 : Int} {σ : SS} (h : -2147483648 ≤ (x5 + 1) ∧ (x5 + 1) ≤ 2147483647) : ev 956 86 [qR 50, qI x1, qI x2, qI x3, qI x4, qI x5] [qI y0] σ = ev 956 50 [qR 50, qI x1, qI x2, qI x3, qI y0, qI (x5 + 1)] [] σ :=
  Eq.trans (e_istore d_956_86 (by decide) (Nat.le_of_ble_eq_true rfl) rfl) (Eq.trans (e_iinc d_956_88 (by decide) rfl h rfl) (e_goto d_956_91 (by decide)))
theorem b956_94 {x1 x2 x3 x4 x5 : Int} {σ : SS} (h : x4 = 0 ∨ x4 = 1) : ev 956 94 [qR 50, qI x1, qI x2, qI x3, qI x4, qI x5] [] σ = some (some (qI x4), σ) :=
  Eq.trans (e_iload d_956_94 rfl) (e_iret d_956_96 (q_okrZ rfl h))
theorem b923_0 {x1 x2 x3 : Int} {σ : SS} (h : (0 ≤ x1 ∧ x1 < 12) ∧ (0 ≤ x1 ∧ x1 < 96) ∧ (0 ≤ (σ 51 x1.toNat) ∧ (σ 51 x1.toNat) < 12) ∧ (-2147483648 ≤ ((σ 57 x1.toNat) + (σ 54 (σ 51 x1.toNat).toNat)) ∧ ((σ 57 x1.toNat) + (σ 54 (σ 51 x1.toNat).toNat)) ≤ 2147483647) ∧ (-2147483648 ≤ (((σ 57 x1.toNat) + (σ 54 (σ 51 x1.toNat).toNat)) + x3) ∧ (((σ 57 x1.toNat) + (σ 54 (σ 51 x1.toNat).toNat)) + x3) ≤ 2147483647) ∧ (0 ≤ x2 ∧ x2 ≤ 2147483647 ∧ (0 : Int) < 24 ∧ (24 : Int) ≤ 2147483647)) : ev 923 0 [qR 50, qI x1, qI x2, qI x3, qU] [] σ = if (x2 % 24) < (σ 50 3) then ev 923 45 [qR 50, qI x1, qI x2, qI x3, qI (((σ 57 x1.toNat) + (σ 54 (σ 51 x1.toNat).toNat)) + x3)] [] σ else ev 923 33 [qR 50, qI x1, qI x2, qI x3, qI (((σ 57 x1.toNat) + (σ 54 (σ 51 x1.toNat).toNat)) + x3)] [] σ :=
  Eq.trans (e_aload_n d_923_0 rfl) (Eq.trans (e_getR d_923_1 fl_9_29 sh_50 rfl) (Eq.trans (e_iload_n d_923_4 rfl) (Eq.trans (e_iald d_923_5 sh_57 h.1) (Eq.trans (e_aload_n d_923_6 rfl) (Eq.trans (e_getR d_923_7 fl_9_20 sh_50 rfl) (Eq.trans (e_aload_n d_923_10 rfl) (Eq.trans (e_getR d_923_11 fl_9_7 sh_50 rfl) (Eq.trans (e_iload_n d_923_14 rfl) (Eq.trans (e_iald d_923_15 sh_51 h.2.1) (Eq.trans (e_iald d_923_16 sh_54 h.2.2.1) (Eq.trans (e_iadd d_923_17 h.2.2.2.1) (Eq.trans (e_iload_n d_923_18 rfl) (Eq.trans (e_iadd d_923_19 h.2.2.2.2.1) (Eq.trans (e_istore d_923_20 (by decide) (Nat.le_of_ble_eq_true rfl) rfl) (Eq.trans (e_iload_n d_923_22 rfl) (Eq.trans (e_bipush d_923_23 kb_24) (Eq.trans (e_irem d_923_25 h.2.2.2.2.2) (Eq.trans (e_aload_n d_923_26 rfl) (Eq.trans (e_getI d_923_27 fl_9_78 sh_50 rfl) (e_icmp_lt d_923_30 (by decide)))))))))))))))))))))
theorem b923_33 {x1 x2 x3 x4 : Int} {σ : SS} (h : (0 ≤ x1 ∧ x1 < 12) ∧ (-2147483648 ≤ (x4 + (σ 58 x1.toNat)) ∧ (x4 + (σ 58 x1.toNat)) ≤ 2147483647)) : ev 923 33 [qR 50, qI x1, qI x2, qI x3, qI x4] [] σ = ev 923 47 [qR 50, qI x1, qI x2, qI x3, qI x4] [qI (x4 + (σ 58 x1.toNat))] σ :=
  Eq.trans (e_iload d_923_33 rfl) (Eq.trans (e_aload_n d_923_35 rfl) (Eq.trans (e_getR d_923_36 fl_9_32 sh_50 rfl) (Eq.trans (e_iload_n d_923_39 rfl) (Eq.trans (e_iald d_923_40 sh_58 h.1) (Eq.trans (e_iadd d_923_41 h.2) (e_goto d_923_42 (by decide)))))))
theorem b923_45 {x1 x2 x3 x4 : Int} {σ : SS} : ev 923 45 [qR 50, qI x1, qI x2, qI x3, qI x4] [] σ = ev 923 47 [qR 50, qI x1, qI x2, qI x3, qI x4] [qI x4] σ :=
  e_iload d_923_45 rfl
theorem b923_47 {x1 x2 x3 x4 y0 : Int} {σ : SS} : ev 923 47 [qR 50, qI x1, qI x2, qI x3, qI x4] [qI y0] σ = some (some (qI y0), σ) :=
  e_iret d_923_47 (q_okrI rfl)
theorem b958_0 {x1 x2 x3 : Int} {σ : SS} (h : (-2147483648 ≤ (6 + x1) ∧ (6 + x1) ≤ 2147483647) ∧ (0 ≤ (6 + x1) ∧ (6 + x1) < 96)) : ev 958 0 [qR 50, qI x1, qI x2, qI x3] [] σ = (ev 923 0 [qR 50, qI x1, qI x2, qI (σ 51 (6 + x1).toNat), qU] [] σ).bind (fun x => ev 958 16 [qR 50, qI x1, qI x2, qI x3] (q_push x.1 [qR 50]) x.2) :=
  Eq.trans (e_aload_n d_958_0 rfl) (Eq.trans (e_aload_n d_958_1 rfl) (Eq.trans (e_iload_n d_958_2 rfl) (Eq.trans (e_iload_n d_958_3 rfl) (Eq.trans (e_aload_n d_958_4 rfl) (Eq.trans (e_getR d_958_5 fl_9_7 sh_50 rfl) (Eq.trans (e_bipush d_958_8 kb_6) (Eq.trans (e_iload_n d_958_10 rfl) (Eq.trans (e_iadd d_958_11 h.1) (Eq.trans (e_iald d_958_12 sh_51 h.2) (e_callV d_958_13 ml_9_209 fit_958_923 par_923 rfl rfl sh_50 (Nat.le_of_ble_eq_true rfl) (Nat.le_of_ble_eq_true rfl) (Nat.le_of_ble_eq_true rfl) rfl (by decide) rfl))))))))))
theorem b958_16 {x1 x2 x3 y0 : Int} {σ : SS} : ev 958 16 [qR 50, qI x1, qI x2, qI x3] [qI y0, qR 50] σ = (ev 927 0 [qR 50, qI y0, qI x3] [] σ).bind (fun x => ev 958 20 [qR 50, qI x1, qI x2, qI x3] (q_push x.1 []) x.2) :=
  Eq.trans (e_iload_n d_958_16 rfl) (e_callV d_958_17 ml_9_244 fit_958_927 par_927 rfl rfl sh_50 (Nat.le_of_ble_eq_true rfl) (Nat.le_of_ble_eq_true rfl) (Nat.le_of_ble_eq_true rfl) rfl (by decide) rfl)
theorem b958_20 {x1 x2 x3 y0 : Int} {σ : SS} (h : y0 = 0 ∨ y0 = 1) : ev 958 20 [qR 50, qI x1, qI x2, qI x3] [qI y0] σ = some (some (qI y0), σ) :=
  e_iret d_958_20 (q_okrZ rfl h)
theorem b926_0 {x1 : Int} {σ : SS} : ev 926 0 [qR 50, qI x1] [] σ = if (σ 53 2) = 0 then ev 926 15 [qR 50, qI x1] [qI (σ 53 0)] σ else ev 926 19 [qR 50, qI x1] [qI (σ 53 0)] σ :=
  Eq.trans (e_aload_n d_926_0 rfl) (Eq.trans (e_getR d_926_1 fl_9_17 sh_50 rfl) (Eq.trans (e_iconst d_926_4 k_0) (Eq.trans (e_iald d_926_5 sh_53 (by decide)) (Eq.trans (e_aload_n d_926_6 rfl) (Eq.trans (e_getR d_926_7 fl_9_17 sh_50 rfl) (Eq.trans (e_iconst d_926_10 k_2) (Eq.trans (e_iald d_926_11 sh_53 (by decide)) (e_if_ne d_926_12 (by decide)))))))))
theorem b926_15 {x1 y0 : Int} {σ : SS} : ev 926 15 [qR 50, qI x1] [qI y0] σ = ev 926 27 [qR 50, qI x1] [qI 0, qI y0] σ :=
  Eq.trans (e_iconst d_926_15 k_0) (e_goto d_926_16 (by decide))
theorem b926_19 {x1 y0 : Int} {σ : SS} (h : 0 ≤ x1 ∧ x1 ≤ 2147483647 ∧ (0 : Int) < (σ 53 2) ∧ ((σ 53 2) : Int) ≤ 2147483647) : ev 926 19 [qR 50, qI x1] [qI y0] σ = ev 926 27 [qR 50, qI x1] [qI (x1 / (σ 53 2)), qI y0] σ :=
  Eq.trans (e_iload_n d_926_19 rfl) (Eq.trans (e_aload_n d_926_20 rfl) (Eq.trans (e_getR d_926_21 fl_9_17 sh_50 rfl) (Eq.trans (e_iconst d_926_24 k_2) (Eq.trans (e_iald d_926_25 sh_53 (by decide)) (e_idiv d_926_26 h)))))
theorem b926_27 {x1 y0 y1 : Int} {σ : SS} (h : -2147483648 ≤ (y1 + y0) ∧ (y1 + y0) ≤ 2147483647) : ev 926 27 [qR 50, qI x1] [qI y0, qI y1] σ = some (some (qI (y1 + y0)), σ) :=
  Eq.trans (e_iadd d_926_27 h) (e_iret d_926_28 (q_okrI rfl))
theorem b961_0 {σ : SS} : ev 961 0 [qR 50, qU, qU, qU] [] σ = ev 961 4 [qR 50, qI (-1), qI 0, qU] [] σ :=
  Eq.trans (e_iconst d_961_0 k_m1) (Eq.trans (e_istore_n d_961_1 (by decide) (Nat.le_of_ble_eq_true rfl) rfl) (Eq.trans (e_iconst d_961_2 k_0) (e_istore_n d_961_3 (by decide) (Nat.le_of_ble_eq_true rfl) rfl)))
theorem b961_4 {x1 x2 : Int} {vx3 : AV} {σ : SS} : ev 961 4 [qR 50, qI x1, qI x2, vx3] [] σ = if x2 < (σ 50 14) then ev 961 12 [qR 50, qI x1, qI x2, vx3] [] σ else ev 961 63 [qR 50, qI x1, qI x2, vx3] [] σ :=
  Eq.trans (e_iload_n d_961_4 rfl) (Eq.trans (e_aload_n d_961_5 rfl) (Eq.trans (e_getI d_961_6 fl_9_191 sh_50 rfl) (e_icmp_ge d_961_9 (by decide))))
theorem b961_12 {x1 x2 : Int} {vx3 : AV} {σ : SS} (h : 0 ≤ x2 ∧ x2 < 6) : ev 961 12 [qR 50, qI x1, qI x2, vx3] [] σ = (ev 928 0 [qR 50] [] σ).bind (fun x => ev 961 24 [qR 50, qI x1, qI x2, vx3] (q_push x.1 [qI (σ 65 x2.toNat), qI x2, qR 50]) x.2) :=
  Eq.trans (e_aload_n d_961_12 rfl) (Eq.trans (e_iload_n d_961_13 rfl) (Eq.trans (e_aload_n d_961_14 rfl) (Eq.trans (e_getR d_961_15 fl_9_57 sh_50 rfl) (Eq.trans (e_iload_n d_961_18 rfl) (Eq.trans (e_iald d_961_19 sh_65 h) (Eq.trans (e_aload_n d_961_20 rfl) (e_callV d_961_21 ml_9_220 fit_961_928 par_928 rfl rfl sh_50 (Nat.le_of_ble_eq_true rfl) (Nat.le_of_ble_eq_true rfl) (Nat.le_of_ble_eq_true rfl) rfl (by decide) rfl)))))))
theorem b961_24 {x1 x2 y0 y1 y2 : Int} {vx3 : AV} {σ : SS} : ev 961 24 [qR 50, qI x1, qI x2, vx3] [qI y0, qI y1, qI y2, qR 50] σ = (ev 958 0 [qR 50, qI y2, qI y1, qI y0] [] σ).bind (fun x => ev 961 27 [qR 50, qI x1, qI x2, vx3] (q_push x.1 []) x.2) :=
  e_callV d_961_24 ml_9_307 fit_961_958 par_958 rfl rfl sh_50 (Nat.le_of_ble_eq_true rfl) (Nat.le_of_ble_eq_true rfl) (Nat.le_of_ble_eq_true rfl) rfl (by decide) rfl
theorem b961_27 {x1 x2 y0 : Int} {vx3 : AV} {σ : SS} : ev 961 27 [qR 50, qI x1, qI x2, vx3] [qI y0] σ = if y0 = 0 then ev 961 55 [qR 50, qI x1, qI x2, qI y0] [] σ else ev 961 32 [qR 50, qI x1, qI x2, qI y0] [] σ :=
  Eq.trans (e_istore_n d_961_27 (by decide) (Nat.le_of_ble_eq_true rfl) rfl) (Eq.trans (e_iload_n d_961_28 rfl) (e_if_eq d_961_29 (by decide)))
theorem b961_32 {x1 x2 x3 : Int} {σ : SS} : ev 961 32 [qR 50, qI x1, qI x2, qI x3] [] σ = if x1 < 0 then ev 961 51 [qR 50, qI x1, qI x2, qI x3] [] σ else ev 961 36 [qR 50, qI x1, qI x2, qI x3] [] σ :=
  Eq.trans (e_iload_n d_961_32 rfl) (e_if_lt d_961_33 (by decide))
theorem b961_36 {x1 x2 x3 : Int} {σ : SS} (h : (0 ≤ x2 ∧ x2 < 6) ∧ (0 ≤ x1 ∧ x1 < 6)) : ev 961 36 [qR 50, qI x1, qI x2, qI x3] [] σ = if (σ 65 x2.toNat) < (σ 65 x1.toNat) then ev 961 51 [qR 50, qI x1, qI x2, qI x3] [] σ else ev 961 55 [qR 50, qI x1, qI x2, qI x3] [] σ :=
  Eq.trans (e_aload_n d_961_36 rfl) (Eq.trans (e_getR d_961_37 fl_9_57 sh_50 rfl) (Eq.trans (e_iload_n d_961_40 rfl) (Eq.trans (e_iald d_961_41 sh_65 h.1) (Eq.trans (e_aload_n d_961_42 rfl) (Eq.trans (e_getR d_961_43 fl_9_57 sh_50 rfl) (Eq.trans (e_iload_n d_961_46 rfl) (Eq.trans (e_iald d_961_47 sh_65 h.2) (e_icmp_ge d_961_48 (by decide)))))))))
theorem b961_51 {x1 x2 x3 : Int} {σ : SS} : ev 961 51 [qR 50, qI x1, qI x2, qI x3] [] σ = ev 961 56 [qR 50, qI x1, qI x2, qI x3] [qI x2] σ :=
  Eq.trans (e_iload_n d_961_51 rfl) (e_goto d_961_52 (by decide))
theorem b961_55 {x1 x2 x3 : Int} {σ : SS} : ev 961 55 [qR 50, qI x1, qI x2, qI x3] [] σ = ev 961 56 [qR 50, qI x1, qI x2, qI x3] [qI x1] σ :=
  e_iload_n d_961_55 rfl
theorem b961_56 {x1 x2 x3 y0 : Int} {σ : SS} (h : -2147483648 ≤ (x2 + 1) ∧ (x2 + 1) ≤ 2147483647) : ev 961 56 [qR 50, qI x1, qI x2, qI x3] [qI y0] σ = ev 961 4 [qR 50, qI y0, qI (x2 + 1), qI x3] [] σ :=
  Eq.trans (e_istore_n d_961_56 (by decide) (Nat.le_of_ble_eq_true rfl) rfl) (Eq.trans (e_iinc d_961_57 (by decide) rfl h rfl) (e_goto d_961_60 (by decide)))
theorem b961_63 {x1 x2 : Int} {vx3 : AV} {σ : SS} : ev 961 63 [qR 50, qI x1, qI x2, vx3] [] σ = some (some (qI x1), σ) :=
  Eq.trans (e_iload_n d_961_63 rfl) (e_iret d_961_64 (q_okrI rfl))
theorem b962_0 {x1 : Int} {σ : SS} (h : 0 ≤ x1 ∧ x1 < 6) : ev 962 0 [qR 50, qI x1, qU, qU] [] σ = ev 962 9 [qR 50, qI x1, qI (σ 65 x1.toNat), qI 0] [] σ :=
  Eq.trans (e_aload_n d_962_0 rfl) (Eq.trans (e_getR d_962_1 fl_9_57 sh_50 rfl) (Eq.trans (e_iload_n d_962_4 rfl) (Eq.trans (e_iald d_962_5 sh_65 h) (Eq.trans (e_istore_n d_962_6 (by decide) (Nat.le_of_ble_eq_true rfl) rfl) (Eq.trans (e_iconst d_962_7 k_0) (e_istore_n d_962_8 (by decide) (Nat.le_of_ble_eq_true rfl) rfl))))))
theorem b962_9 {x1 x2 x3 : Int} {σ : SS} : ev 962 9 [qR 50, qI x1, qI x2, qI x3] [] σ = if x3 < 24 then ev 962 15 [qR 50, qI x1, qI x2, qI x3] [] σ else ev 962 36 [qR 50, qI x1, qI x2, qI x3] [] σ :=
  Eq.trans (e_iload_n d_962_9 rfl) (Eq.trans (e_bipush d_962_10 kb_24) (e_icmp_ge d_962_12 (by decide)))
theorem b962_15 {x1 x2 x3 : Int} {σ : SS} : ev 962 15 [qR 50, qI x1, qI x2, qI x3] [] σ = (ev 961 0 [qR 50, qU, qU, qU] [] σ).bind (fun x => ev 962 19 [qR 50, qI x1, qI x2, qI x3] (q_push x.1 []) x.2) :=
  Eq.trans (e_aload_n d_962_15 rfl) (e_callV d_962_16 ml_9_310 fit_962_961 par_961 rfl rfl sh_50 (Nat.le_of_ble_eq_true rfl) (Nat.le_of_ble_eq_true rfl) (Nat.le_of_ble_eq_true rfl) rfl (by decide) rfl)
theorem b962_19 {x1 x2 x3 y0 : Int} {σ : SS} : ev 962 19 [qR 50, qI x1, qI x2, qI x3] [qI y0] σ = if y0 = x1 then ev 962 36 [qR 50, qI x1, qI x2, qI x3] [] σ else ev 962 23 [qR 50, qI x1, qI x2, qI x3] [] σ :=
  Eq.trans (e_iload_n d_962_19 rfl) (e_icmp_eq d_962_20 (by decide))
theorem b962_23 {x1 x2 x3 : Int} {σ : SS} (h : (0 ≤ x1 ∧ x1 < 6) ∧ (-2147483648 ≤ (x3 + 1) ∧ (x3 + 1) ≤ 2147483647)) : ev 962 23 [qR 50, qI x1, qI x2, qI x3] [] σ = ev 962 9 [qR 50, qI x1, qI x2, qI (x3 + 1)] [] (q_put σ 65 x1.toNat x3) :=
  Eq.trans (e_aload_n d_962_23 rfl) (Eq.trans (e_getR d_962_24 fl_9_57 sh_50 rfl) (Eq.trans (e_iload_n d_962_27 rfl) (Eq.trans (e_iload_n d_962_28 rfl) (Eq.trans (e_iast d_962_29 sh_65 h.1) (Eq.trans (e_iinc d_962_30 (by decide) rfl h.2 rfl) (e_goto d_962_33 (by decide)))))))
theorem b962_36 {x1 x2 x3 : Int} {σ : SS} : ev 962 36 [qR 50, qI x1, qI x2, qI x3] [] σ = (ev 961 0 [qR 50, qU, qU, qU] [] σ).bind (fun x => ev 962 40 [qR 50, qI x1, qI x2, qI x3] (q_push x.1 []) x.2) :=
  Eq.trans (e_aload_n d_962_36 rfl) (e_callV d_962_37 ml_9_310 fit_962_961 par_961 rfl rfl sh_50 (Nat.le_of_ble_eq_true rfl) (Nat.le_of_ble_eq_true rfl) (Nat.le_of_ble_eq_true rfl) rfl (by decide) rfl)
theorem b962_40 {x1 x2 x3 y0 : Int} {σ : SS} : ev 962 40 [qR 50, qI x1, qI x2, qI x3] [qI y0] σ = if y0 = x1 then ev 962 44 [qR 50, qI x1, qI x2, qI x3] [] σ else ev 962 48 [qR 50, qI x1, qI x2, qI x3] [] σ :=
  Eq.trans (e_iload_n d_962_40 rfl) (e_icmp_ne d_962_41 (by decide))
theorem b962_44 {x1 x2 x3 : Int} {σ : SS} : ev 962 44 [qR 50, qI x1, qI x2, qI x3] [] σ = ev 962 49 [qR 50, qI x1, qI x2, qI x3] [qI 1] σ :=
  Eq.trans (e_iconst d_962_44 k_1) (e_goto d_962_45 (by decide))
theorem b962_48 {x1 x2 x3 : Int} {σ : SS} : ev 962 48 [qR 50, qI x1, qI x2, qI x3] [] σ = ev 962 49 [qR 50, qI x1, qI x2, qI x3] [qI 0] σ :=
  e_iconst d_962_48 k_0
theorem b962_49 {x1 x2 x3 y0 : Int} {σ : SS} : ev 962 49 [qR 50, qI x1, qI x2, qI x3] [qI y0] σ = if y0 = 0 then ev 962 68 [qR 50, qI x1, qI x2, qI y0] [qI x1, qR 65] σ else ev 962 59 [qR 50, qI x1, qI x2, qI y0] [qI x1, qR 65] σ :=
  Eq.trans (e_istore_n d_962_49 (by decide) (Nat.le_of_ble_eq_true rfl) rfl) (Eq.trans (e_aload_n d_962_50 rfl) (Eq.trans (e_getR d_962_51 fl_9_57 sh_50 rfl) (Eq.trans (e_iload_n d_962_54 rfl) (Eq.trans (e_iload_n d_962_55 rfl) (e_if_eq d_962_56 (by decide))))))
theorem b962_59 {x1 x2 x3 y0 : Int} {σ : SS} (h : 0 ≤ x1 ∧ x1 < 6) : ev 962 59 [qR 50, qI x1, qI x2, qI x3] [qI y0, qR 65] σ = ev 962 69 [qR 50, qI x1, qI x2, qI x3] [qI (σ 65 x1.toNat), qI y0, qR 65] σ :=
  Eq.trans (e_aload_n d_962_59 rfl) (Eq.trans (e_getR d_962_60 fl_9_57 sh_50 rfl) (Eq.trans (e_iload_n d_962_63 rfl) (Eq.trans (e_iald d_962_64 sh_65 h) (e_goto d_962_65 (by decide)))))
theorem b962_68 {x1 x2 x3 y0 : Int} {σ : SS} : ev 962 68 [qR 50, qI x1, qI x2, qI x3] [qI y0, qR 65] σ = ev 962 69 [qR 50, qI x1, qI x2, qI x3] [qI x2, qI y0, qR 65] σ :=
  e_iload_n d_962_68 rfl
theorem b962_69 {x1 x2 x3 y0 y1 : Int} {σ : SS} (h : (0 ≤ y1 ∧ y1 < 6) ∧ (0 ≤ x1 ∧ x1 < 6)) : ev 962 69 [qR 50, qI x1, qI x2, qI x3] [qI y0, qI y1, qR 65] σ = if ((q_put σ 65 y1.toNat y0) 65 x1.toNat) = x2 then ev 962 84 [qR 50, qI x1, qI x2, qI x3] [] (q_put σ 65 y1.toNat y0) else ev 962 80 [qR 50, qI x1, qI x2, qI x3] [] (q_put σ 65 y1.toNat y0) :=
  Eq.trans (e_iast d_962_69 sh_65 h.1) (Eq.trans (e_aload_n d_962_70 rfl) (Eq.trans (e_getR d_962_71 fl_9_57 sh_50 rfl) (Eq.trans (e_iload_n d_962_74 rfl) (Eq.trans (e_iald d_962_75 sh_65 h.2) (Eq.trans (e_iload_n d_962_76 rfl) (e_icmp_eq d_962_77 (by decide)))))))
theorem b962_80 {x1 x2 x3 : Int} {σ : SS} : ev 962 80 [qR 50, qI x1, qI x2, qI x3] [] σ = ev 962 85 [qR 50, qI x1, qI x2, qI x3] [qI 1] σ :=
  Eq.trans (e_iconst d_962_80 k_1) (e_goto d_962_81 (by decide))
theorem b962_84 {x1 x2 x3 : Int} {σ : SS} : ev 962 84 [qR 50, qI x1, qI x2, qI x3] [] σ = ev 962 85 [qR 50, qI x1, qI x2, qI x3] [qI 0] σ :=
  e_iconst d_962_84 k_0
theorem b962_85 {x1 x2 x3 y0 : Int} {σ : SS} (h : y0 = 0 ∨ y0 = 1) : ev 962 85 [qR 50, qI x1, qI x2, qI x3] [qI y0] σ = some (some (qI y0), σ) :=
  e_iret d_962_85 (q_okrZ rfl h)
theorem b903_0 {x0 : Int} {σ : SS} : ev 903 0 [qI x0, qU, qU] [] σ = ev 903 4 [qI x0, qI 0, qI 0] [] σ :=
  Eq.trans (e_iconst d_903_0 k_0) (Eq.trans (e_istore_n d_903_1 (by decide) (Nat.le_of_ble_eq_true rfl) rfl) (Eq.trans (e_iconst d_903_2 k_0) (e_istore_n d_903_3 (by decide) (Nat.le_of_ble_eq_true rfl) rfl)))
theorem b903_4 {x0 x1 x2 : Int} {σ : SS} : ev 903 4 [qI x0, qI x1, qI x2] [] σ = if x2 < 6 then ev 903 10 [qI x0, qI x1, qI x2] [] σ else ev 903 24 [qI x0, qI x1, qI x2] [] σ :=
  Eq.trans (e_iload_n d_903_4 rfl) (Eq.trans (e_bipush d_903_5 kb_6) (e_icmp_ge d_903_7 (by decide)))
theorem b903_10 {x0 x1 x2 : Int} {σ : SS} (h : (-2147483648 ≤ (x1 + (q_and (q_shr x0 x2) 1)) ∧ (x1 + (q_and (q_shr x0 x2) 1)) ≤ 2147483647) ∧ (-2147483648 ≤ (x2 + 1) ∧ (x2 + 1) ≤ 2147483647)) : ev 903 10 [qI x0, qI x1, qI x2] [] σ = ev 903 4 [qI x0, qI (x1 + (q_and (q_shr x0 x2) 1)), qI (x2 + 1)] [] σ :=
  Eq.trans (e_iload_n d_903_10 rfl) (Eq.trans (e_iload_n d_903_11 rfl) (Eq.trans (e_iload_n d_903_12 rfl) (Eq.trans (e_ishr d_903_13) (Eq.trans (e_iconst d_903_14 k_1) (Eq.trans (e_iand d_903_15) (Eq.trans (e_iadd d_903_16 h.1) (Eq.trans (e_istore_n d_903_17 (by decide) (Nat.le_of_ble_eq_true rfl) rfl) (Eq.trans (e_iinc d_903_18 (by decide) rfl h.2 rfl) (e_goto d_903_21 (by decide))))))))))
theorem b903_24 {x0 x1 x2 : Int} {σ : SS} : ev 903 24 [qI x0, qI x1, qI x2] [] σ = some (some (qI x1), σ) :=
  Eq.trans (e_iload_n d_903_24 rfl) (e_iret d_903_25 (q_okrI rfl))
theorem b969_0 {x1 x2 : Int} {σ : SS} : ev 969 0 [qR 50, qI x1, qI x2, qU, qU] [] σ = ev 969 5 [qR 50, qI x1, qI x2, qI 1, qI 0] [] σ :=
  Eq.trans (e_iconst d_969_0 k_1) (Eq.trans (e_istore_n d_969_1 (by decide) (Nat.le_of_ble_eq_true rfl) rfl) (Eq.trans (e_iconst d_969_2 k_0) (e_istore d_969_3 (by decide) (Nat.le_of_ble_eq_true rfl) rfl)))
theorem b969_5 {x1 x2 x3 x4 : Int} {σ : SS} : ev 969 5 [qR 50, qI x1, qI x2, qI x3, qI x4] [] σ = if x4 < (σ 50 37) then ev 969 14 [qR 50, qI x1, qI x2, qI x3, qI x4] [] σ else ev 969 61 [qR 50, qI x1, qI x2, qI x3, qI x4] [] σ :=
  Eq.trans (e_iload d_969_5 rfl) (Eq.trans (e_aload_n d_969_7 rfl) (Eq.trans (e_getI d_969_8 fl_9_203 sh_50 rfl) (e_icmp_ge d_969_11 (by decide))))
theorem b969_14 {x1 x2 x3 x4 : Int} {σ : SS} : ev 969 14 [qR 50, qI x1, qI x2, qI x3, qI x4] [] σ = if x3 = 0 then ev 969 61 [qR 50, qI x1, qI x2, qI x3, qI x4] [] σ else ev 969 18 [qR 50, qI x1, qI x2, qI x3, qI x4] [] σ :=
  Eq.trans (e_iload_n d_969_14 rfl) (e_if_eq d_969_15 (by decide))
theorem b969_18 {x1 x2 x3 x4 : Int} {σ : SS} (h : (-2147483648 ≤ (6 * x1) ∧ (6 * x1) ≤ 2147483647) ∧ (-2147483648 ≤ (x2 + x4) ∧ (x2 + x4) ≤ 2147483647) ∧ (0 ≤ x1 ∧ x1 < 12) ∧ (0 ≤ (x2 + x4) ∧ (x2 + x4) ≤ 2147483647 ∧ (0 : Int) < (σ 61 x1.toNat) ∧ ((σ 61 x1.toNat) : Int) ≤ 2147483647) ∧ (-2147483648 ≤ ((6 * x1) + ((x2 + x4) % (σ 61 x1.toNat))) ∧ ((6 * x1) + ((x2 + x4) % (σ 61 x1.toNat))) ≤ 2147483647) ∧ (0 ≤ ((6 * x1) + ((x2 + x4) % (σ 61 x1.toNat))) ∧ ((6 * x1) + ((x2 + x4) % (σ 61 x1.toNat))) < 72) ∧ (0 ≤ x4 ∧ x4 < 12)) : ev 969 18 [qR 50, qI x1, qI x2, qI x3, qI x4] [] σ = if (σ 60 ((6 * x1) + ((x2 + x4) % (σ 61 x1.toNat))).toNat) = (σ 68 x4.toNat) then ev 969 49 [qR 50, qI x1, qI x2, qI x3, qI x4] [] σ else ev 969 53 [qR 50, qI x1, qI x2, qI x3, qI x4] [] σ :=
  Eq.trans (e_aload_n d_969_18 rfl) (Eq.trans (e_getR d_969_19 fl_9_38 sh_50 rfl) (Eq.trans (e_bipush d_969_22 kb_6) (Eq.trans (e_iload_n d_969_24 rfl) (Eq.trans (e_imul d_969_25 h.1) (Eq.trans (e_iload_n d_969_26 rfl) (Eq.trans (e_iload d_969_27 rfl) (Eq.trans (e_iadd d_969_29 h.2.1) (Eq.trans (e_aload_n d_969_30 rfl) (Eq.trans (e_getR d_969_31 fl_9_41 sh_50 rfl) (Eq.trans (e_iload_n d_969_34 rfl) (Eq.trans (e_iald d_969_35 sh_61 h.2.2.1) (Eq.trans (e_irem d_969_36 h.2.2.2.1) (Eq.trans (e_iadd d_969_37 h.2.2.2.2.1) (Eq.trans (e_iald d_969_38 sh_60 h.2.2.2.2.2.1) (Eq.trans (e_aload_n d_969_39 rfl) (Eq.trans (e_getR d_969_40 fl_9_66 sh_50 rfl) (Eq.trans (e_iload d_969_43 rfl) (Eq.trans (e_iald d_969_45 sh_68 h.2.2.2.2.2.2) (e_icmp_ne d_969_46 (by decide))))))))))))))))))))
theorem b969_49 {x1 x2 x3 x4 : Int} {σ : SS} : ev 969 49 [qR 50, qI x1, qI x2, qI x3, qI x4] [] σ = ev 969 54 [qR 50, qI x1, qI x2, qI x3, qI x4] [qI 1] σ :=
  Eq.trans (e_iconst d_969_49 k_1) (e_goto d_969_50 (by decide))
theorem b969_53 {x1 x2 x3 x4 : Int} {σ : SS} : ev 969 53 [qR 50, qI x1, qI x2, qI x3, qI x4] [] σ = ev 969 54 [qR 50, qI x1, qI x2, qI x3, qI x4] [qI 0] σ :=
  e_iconst d_969_53 k_0
theorem b969_54 {x1 x2 x3 x4 y0 : Int} {σ : SS} (h : -2147483648 ≤ (x4 + 1) ∧ (x4 + 1) ≤ 2147483647) : ev 969 54 [qR 50, qI x1, qI x2, qI x3, qI x4] [qI y0] σ = ev 969 5 [qR 50, qI x1, qI x2, qI y0, qI (x4 + 1)] [] σ :=
  Eq.trans (e_istore_n d_969_54 (by decide) (Nat.le_of_ble_eq_true rfl) rfl) (Eq.trans (e_iinc d_969_55 (by decide) rfl h rfl) (e_goto d_969_58 (by decide)))
theorem b969_61 {x1 x2 x3 x4 : Int} {σ : SS} (h : x3 = 0 ∨ x3 = 1) : ev 969 61 [qR 50, qI x1, qI x2, qI x3, qI x4] [] σ = some (some (qI x3), σ) :=
  Eq.trans (e_iload_n d_969_61 rfl) (e_iret d_969_62 (q_okrZ rfl h))
theorem b975_0 {x1 x2 : Int} {σ : SS} : ev 975 0 [qR 50, qI x1, qI x2, qU] [] σ = ev 975 2 [qR 50, qI x1, qI x2, qI 0] [] σ :=
  Eq.trans (e_iconst d_975_0 k_0) (e_istore_n d_975_1 (by decide) (Nat.le_of_ble_eq_true rfl) rfl)
theorem b975_2 {x1 x2 x3 : Int} {σ : SS} : ev 975 2 [qR 50, qI x1, qI x2, qI x3] [] σ = if x3 < 32 then ev 975 8 [qR 50, qI x1, qI x2, qI x3] [] σ else ev 975 30 [qR 50, qI x1, qI x2, qI x3] [] σ :=
  Eq.trans (e_iload_n d_975_2 rfl) (Eq.trans (e_bipush d_975_3 kb_32) (e_icmp_ge d_975_5 (by decide)))
theorem b975_8 {x1 x2 x3 : Int} {σ : SS} (h : (-2147483648 ≤ (x2 + x3) ∧ (x2 + x3) ≤ 2147483647) ∧ (-2147483648 ≤ (x1 + x3) ∧ (x1 + x3) ≤ 2147483647) ∧ (0 ≤ (x1 + x3) ∧ (x1 + x3) < 96) ∧ (0 ≤ (x2 + x3) ∧ (x2 + x3) < 96) ∧ (-2147483648 ≤ (x3 + 1) ∧ (x3 + 1) ≤ 2147483647)) : ev 975 8 [qR 50, qI x1, qI x2, qI x3] [] σ = ev 975 2 [qR 50, qI x1, qI x2, qI (x3 + 1)] [] (q_put σ 51 (x2 + x3).toNat (σ 51 (x1 + x3).toNat)) :=
  Eq.trans (e_aload_n d_975_8 rfl) (Eq.trans (e_getR d_975_9 fl_9_7 sh_50 rfl) (Eq.trans (e_iload_n d_975_12 rfl) (Eq.trans (e_iload_n d_975_13 rfl) (Eq.trans (e_iadd d_975_14 h.1) (Eq.trans (e_aload_n d_975_15 rfl) (Eq.trans (e_getR d_975_16 fl_9_7 sh_50 rfl) (Eq.trans (e_iload_n d_975_19 rfl) (Eq.trans (e_iload_n d_975_20 rfl) (Eq.trans (e_iadd d_975_21 h.2.1) (Eq.trans (e_iald d_975_22 sh_51 h.2.2.1) (Eq.trans (e_iast d_975_23 sh_51 h.2.2.2.1) (Eq.trans (e_iinc d_975_24 (by decide) rfl h.2.2.2.2 rfl) (e_goto d_975_27 (by decide))))))))))))))
theorem b975_30 {x1 x2 x3 : Int} {σ : SS} : ev 975 30 [qR 50, qI x1, qI x2, qI x3] [] σ = some (none, σ) :=
  e_vret d_975_30 rfl
theorem b907_0 {σ : SS} : ev 907 0 [qR 50, qU] [] σ = (ev 905 0 [qR 50] [] σ).bind (fun x => ev 907 4 [qR 50, qU] (q_push x.1 []) x.2) :=
  Eq.trans (e_aload_n d_907_0 rfl) (e_callV d_907_1 ml_9_98 fit_907_905 par_905 rfl rfl sh_50 (Nat.le_of_ble_eq_true rfl) (Nat.le_of_ble_eq_true rfl) (Nat.le_of_ble_eq_true rfl) rfl (by decide) rfl)
theorem b907_4 {y0 : Int} {σ : SS} : ev 907 4 [qR 50, qU] [qI y0] σ = ev 907 13 [qR 50, qI y0] [] (q_put σ 50 26 (σ 50 25)) :=
  Eq.trans (e_istore_n d_907_4 (by decide) (Nat.le_of_ble_eq_true rfl) rfl) (Eq.trans (e_aload_n d_907_5 rfl) (Eq.trans (e_aload_n d_907_6 rfl) (Eq.trans (e_getI d_907_7 fl_9_92 sh_50 rfl) (e_put d_907_10 fl_9_102 sh_50 rfl rfl rfl))))
theorem b907_13 {x1 : Int} {σ : SS} : ev 907 13 [qR 50, qI x1] [] σ = if (σ 50 25) < (σ 50 24) then ev 907 24 [qR 50, qI x1] [] σ else ev 907 59 [qR 50, qI x1] [] σ :=
  Eq.trans (e_aload_n d_907_13 rfl) (Eq.trans (e_getI d_907_14 fl_9_92 sh_50 rfl) (Eq.trans (e_aload_n d_907_17 rfl) (Eq.trans (e_getI d_907_18 fl_9_88 sh_50 rfl) (e_icmp_ge d_907_21 (by decide)))))
theorem b907_24 {x1 : Int} {σ : SS} (h : 0 ≤ (σ 50 25) ∧ (σ 50 25) < 300) : ev 907 24 [qR 50, qI x1] [] σ = (ev 900 0 [qL (σ 62 (σ 50 25).toNat), qU, qL 97, qU, qL 122, qU] [] σ).bind (fun x => ev 907 43 [qR 50, qI x1] (q_push x.1 []) x.2) :=
  Eq.trans (e_aload_n d_907_24 rfl) (Eq.trans (e_getR d_907_25 fl_9_44 sh_50 rfl) (Eq.trans (e_aload_n d_907_28 rfl) (Eq.trans (e_getI d_907_29 fl_9_92 sh_50 rfl) (Eq.trans (e_iald d_907_32 sh_62 h) (Eq.trans (e_i2l d_907_33) (Eq.trans (e_ldc2 d_907_34 ll_9_105.1 ll_9_105.2) (Eq.trans (e_ldc2 d_907_37 ll_9_107.1 ll_9_107.2) (e_callS d_907_40 (by decide) ml_9_83 fit_907_900 par_900 rfl rfl (Nat.le_of_ble_eq_true rfl) (Nat.le_of_ble_eq_true rfl) (Nat.le_of_ble_eq_true rfl) rfl (by decide) rfl))))))))
theorem b907_43 {x1 y0 : Int} {σ : SS} : ev 907 43 [qR 50, qI x1] [qI y0] σ = if y0 = 0 then ev 907 59 [qR 50, qI x1] [] σ else ev 907 46 [qR 50, qI x1] [] σ :=
  e_if_eq d_907_43 (by decide)
theorem b907_46 {x1 : Int} {σ : SS} (h : -2147483648 ≤ ((σ 50 25) + 1) ∧ ((σ 50 25) + 1) ≤ 2147483647) : ev 907 46 [qR 50, qI x1] [] σ = ev 907 13 [qR 50, qI x1] [] (q_put σ 50 25 ((σ 50 25) + 1)) :=
  Eq.trans (e_aload_n d_907_46 rfl) (Eq.trans (e_dup d_907_47 rfl) (Eq.trans (e_getI d_907_48 fl_9_92 sh_50 rfl) (Eq.trans (e_iconst d_907_51 k_1) (Eq.trans (e_iadd d_907_52 h) (Eq.trans (e_put d_907_53 fl_9_92 sh_50 rfl rfl rfl) (e_goto d_907_56 (by decide)))))))
theorem b907_59 {x1 : Int} {σ : SS} (h : -2147483648 ≤ ((σ 50 25) - (σ 50 26)) ∧ ((σ 50 25) - (σ 50 26)) ≤ 2147483647) : ev 907 59 [qR 50, qI x1] [] σ = some (none, (q_put σ 50 27 ((σ 50 25) - (σ 50 26)))) :=
  Eq.trans (e_aload_n d_907_59 rfl) (Eq.trans (e_aload_n d_907_60 rfl) (Eq.trans (e_getI d_907_61 fl_9_92 sh_50 rfl) (Eq.trans (e_aload_n d_907_64 rfl) (Eq.trans (e_getI d_907_65 fl_9_102 sh_50 rfl) (Eq.trans (e_isub d_907_68 h) (Eq.trans (e_put d_907_69 fl_9_109 sh_50 rfl rfl rfl) (e_vret d_907_72 rfl)))))))
theorem b908_0 {x1 x2 x3 x4 x5 x6 : Int} {σ : SS} : ev 908 0 [qR 50, qI x1, qI x2, qI x3, qI x4, qI x5, qI x6, qU, qU] [] σ = if (σ 50 27) = x1 then ev 908 8 [qR 50, qI x1, qI x2, qI x3, qI x4, qI x5, qI x6, qU, qU] [] σ else ev 908 12 [qR 50, qI x1, qI x2, qI x3, qI x4, qI x5, qI x6, qU, qU] [] σ :=
  Eq.trans (e_aload_n d_908_0 rfl) (Eq.trans (e_getI d_908_1 fl_9_109 sh_50 rfl) (Eq.trans (e_iload_n d_908_4 rfl) (e_icmp_ne d_908_5 (by decide))))
theorem b908_8 {x1 x2 x3 x4 x5 x6 : Int} {σ : SS} : ev 908 8 [qR 50, qI x1, qI x2, qI x3, qI x4, qI x5, qI x6, qU, qU] [] σ = ev 908 13 [qR 50, qI x1, qI x2, qI x3, qI x4, qI x5, qI x6, qU, qU] [qI 1] σ :=
  Eq.trans (e_iconst d_908_8 k_1) (e_goto d_908_9 (by decide))
theorem b908_12 {x1 x2 x3 x4 x5 x6 : Int} {σ : SS} : ev 908 12 [qR 50, qI x1, qI x2, qI x3, qI x4, qI x5, qI x6, qU, qU] [] σ = ev 908 13 [qR 50, qI x1, qI x2, qI x3, qI x4, qI x5, qI x6, qU, qU] [qI 0] σ :=
  e_iconst d_908_12 k_0
theorem b908_13 {x1 x2 x3 x4 x5 x6 y0 : Int} {σ : SS} : ev 908 13 [qR 50, qI x1, qI x2, qI x3, qI x4, qI x5, qI x6, qU, qU] [qI y0] σ = ev 908 18 [qR 50, qI x1, qI x2, qI x3, qI x4, qI x5, qI x6, qI y0, qI 0] [] σ :=
  Eq.trans (e_istore d_908_13 (by decide) (Nat.le_of_ble_eq_true rfl) rfl) (Eq.trans (e_iconst d_908_15 k_0) (e_istore d_908_16 (by decide) (Nat.le_of_ble_eq_true rfl) rfl))
theorem b908_18 {x1 x2 x3 x4 x5 x6 x7 x8 : Int} {σ : SS} : ev 908 18 [qR 50, qI x1, qI x2, qI x3, qI x4, qI x5, qI x6, qI x7, qI x8] [] σ = if x8 < x1 then ev 908 24 [qR 50, qI x1, qI x2, qI x3, qI x4, qI x5, qI x6, qI x7, qI x8] [] σ else ev 908 100 [qR 50, qI x1, qI x2, qI x3, qI x4, qI x5, qI x6, qI x7, qI x8] [] σ :=
  Eq.trans (e_iload d_908_18 rfl) (Eq.trans (e_iload_n d_908_20 rfl) (e_icmp_ge d_908_21 (by decide)))
theorem b908_24 {x1 x2 x3 x4 x5 x6 x7 x8 : Int} {σ : SS} : ev 908 24 [qR 50, qI x1, qI x2, qI x3, qI x4, qI x5, qI x6, qI x7, qI x8] [] σ = if x7 = 0 then ev 908 100 [qR 50, qI x1, qI x2, qI x3, qI x4, qI x5, qI x6, qI x7, qI x8] [] σ else ev 908 29 [qR 50, qI x1, qI x2, qI x3, qI x4, qI x5, qI x6, qI x7, qI x8] [] σ :=
  Eq.trans (e_iload d_908_24 rfl) (e_if_eq d_908_26 (by decide))
theorem b908_29 {x1 x2 x3 x4 x5 x6 x7 x8 : Int} {σ : SS} (h : (-2147483648 ≤ ((σ 50 26) + x8) ∧ ((σ 50 26) + x8) ≤ 2147483647) ∧ (0 ≤ ((σ 50 26) + x8) ∧ ((σ 50 26) + x8) < 300)) : ev 908 29 [qR 50, qI x1, qI x2, qI x3, qI x4, qI x5, qI x6, qI x7, qI x8] [] σ = if x8 = 0 then ev 908 46 [qR 50, qI x1, qI x2, qI x3, qI x4, qI x5, qI x6, qI x7, qI x8] [qI (σ 62 ((σ 50 26) + x8).toNat)] σ else ev 908 50 [qR 50, qI x1, qI x2, qI x3, qI x4, qI x5, qI x6, qI x7, qI x8] [qI (σ 62 ((σ 50 26) + x8).toNat)] σ :=
  Eq.trans (e_aload_n d_908_29 rfl) (Eq.trans (e_getR d_908_30 fl_9_44 sh_50 rfl) (Eq.trans (e_aload_n d_908_33 rfl) (Eq.trans (e_getI d_908_34 fl_9_102 sh_50 rfl) (Eq.trans (e_iload d_908_37 rfl) (Eq.trans (e_iadd d_908_39 h.1) (Eq.trans (e_iald d_908_40 sh_62 h.2) (Eq.trans (e_iload d_908_41 rfl) (e_if_ne d_908_43 (by decide)))))))))
theorem b908_46 {x1 x2 x3 x4 x5 x6 x7 x8 y0 : Int} {σ : SS} : ev 908 46 [qR 50, qI x1, qI x2, qI x3, qI x4, qI x5, qI x6, qI x7, qI x8] [qI y0] σ = ev 908 84 [qR 50, qI x1, qI x2, qI x3, qI x4, qI x5, qI x6, qI x7, qI x8] [qI x2, qI y0] σ :=
  Eq.trans (e_iload_n d_908_46 rfl) (e_goto d_908_47 (by decide))
theorem b908_50 {x1 x2 x3 x4 x5 x6 x7 x8 y0 : Int} {σ : SS} : ev 908 50 [qR 50, qI x1, qI x2, qI x3, qI x4, qI x5, qI x6, qI x7, qI x8] [qI y0] σ = if x8 = 1 then ev 908 56 [qR 50, qI x1, qI x2, qI x3, qI x4, qI x5, qI x6, qI x7, qI x8] [qI y0] σ else ev 908 60 [qR 50, qI x1, qI x2, qI x3, qI x4, qI x5, qI x6, qI x7, qI x8] [qI y0] σ :=
  Eq.trans (e_iload d_908_50 rfl) (Eq.trans (e_iconst d_908_52 k_1) (e_icmp_ne d_908_53 (by decide)))
theorem b908_56 {x1 x2 x3 x4 x5 x6 x7 x8 y0 : Int} {σ : SS} : ev 908 56 [qR 50, qI x1, qI x2, qI x3, qI x4, qI x5, qI x6, qI x7, qI x8] [qI y0] σ = ev 908 84 [qR 50, qI x1, qI x2, qI x3, qI x4, qI x5, qI x6, qI x7, qI x8] [qI x3, qI y0] σ :=
  Eq.trans (e_iload_n d_908_56 rfl) (e_goto d_908_57 (by decide))
theorem b908_60 {x1 x2 x3 x4 x5 x6 x7 x8 y0 : Int} {σ : SS} : ev 908 60 [qR 50, qI x1, qI x2, qI x3, qI x4, qI x5, qI x6, qI x7, qI x8] [qI y0] σ = if x8 = 2 then ev 908 66 [qR 50, qI x1, qI x2, qI x3, qI x4, qI x5, qI x6, qI x7, qI x8] [qI y0] σ else ev 908 71 [qR 50, qI x1, qI x2, qI x3, qI x4, qI x5, qI x6, qI x7, qI x8] [qI y0] σ :=
  Eq.trans (e_iload d_908_60 rfl) (Eq.trans (e_iconst d_908_62 k_2) (e_icmp_ne d_908_63 (by decide)))
theorem b908_66 {x1 x2 x3 x4 x5 x6 x7 x8 y0 : Int} {σ : SS} : ev 908 66 [qR 50, qI x1, qI x2, qI x3, qI x4, qI x5, qI x6, qI x7, qI x8] [qI y0] σ = ev 908 84 [qR 50, qI x1, qI x2, qI x3, qI x4, qI x5, qI x6, qI x7, qI x8] [qI x4, qI y0] σ :=
  Eq.trans (e_iload d_908_66 rfl) (e_goto d_908_68 (by decide))
theorem b908_71 {x1 x2 x3 x4 x5 x6 x7 x8 y0 : Int} {σ : SS} : ev 908 71 [qR 50, qI x1, qI x2, qI x3, qI x4, qI x5, qI x6, qI x7, qI x8] [qI y0] σ = if x8 = 3 then ev 908 77 [qR 50, qI x1, qI x2, qI x3, qI x4, qI x5, qI x6, qI x7, qI x8] [qI y0] σ else ev 908 82 [qR 50, qI x1, qI x2, qI x3, qI x4, qI x5, qI x6, qI x7, qI x8] [qI y0] σ :=
  Eq.trans (e_iload d_908_71 rfl) (Eq.trans (e_iconst d_908_73 k_3) (e_icmp_ne d_908_74 (by decide)))
theorem b908_77 {x1 x2 x3 x4 x5 x6 x7 x8 y0 : Int} {σ : SS} : ev 908 77 [qR 50, qI x1, qI x2, qI x3, qI x4, qI x5, qI x6, qI x7, qI x8] [qI y0] σ = ev 908 84 [qR 50, qI x1, qI x2, qI x3, qI x4, qI x5, qI x6, qI x7, qI x8] [qI x5, qI y0] σ :=
  Eq.trans (e_iload d_908_77 rfl) (e_goto d_908_79 (by decide))
theorem b908_82 {x1 x2 x3 x4 x5 x6 x7 x8 y0 : Int} {σ : SS} : ev 908 82 [qR 50, qI x1, qI x2, qI x3, qI x4, qI x5, qI x6, qI x7, qI x8] [qI y0] σ = ev 908 84 [qR 50, qI x1, qI x2, qI x3, qI x4, qI x5, qI x6, qI x7, qI x8] [qI x6, qI y0] σ :=
  e_iload d_908_82 rfl
theorem b908_84 {x1 x2 x3 x4 x5 x6 x7 x8 y0 y1 : Int} {σ : SS} : ev 908 84 [qR 50, qI x1, qI x2, qI x3, qI x4, qI x5, qI x6, qI x7, qI x8] [qI y0, qI y1] σ = if y1 = y0 then ev 908 87 [qR 50, qI x1, qI x2, qI x3, qI x4, qI x5, qI x6, qI x7, qI x8] [] σ else ev 908 91 [qR 50, qI x1, qI x2, qI x3, qI x4, qI x5, qI x6, qI x7, qI x8] [] σ :=
  e_icmp_ne d_908_84 (by decide)
theorem b908_87 {x1 x2 x3 x4 x5 x6 x7 x8 : Int} {σ : SS} : ev 908 87 [qR 50, qI x1, qI x2, qI x3, qI x4, qI x5, qI x6, qI x7, qI x8] [] σ = ev 908 92 [qR 50, qI x1, qI x2, qI x3, qI x4, qI x5, qI x6, qI x7, qI x8] [qI 1] σ :=
  Eq.trans (e_iconst d_908_87 k_1) (e_goto d_908_88 (by decide))
theorem b908_91 {x1 x2 x3 x4 x5 x6 x7 x8 : Int} {σ : SS} : ev 908 91 [qR 50, qI x1, qI x2, qI x3, qI x4, qI x5, qI x6, qI x7, qI x8] [] σ = ev 908 92 [qR 50, qI x1, qI x2, qI x3, qI x4, qI x5, qI x6, qI x7, qI x8] [qI 0] σ :=
  e_iconst d_908_91 k_0
theorem b908_92 {x1 x2 x3 x4 x5 x6 x7 x8 y0 : Int} {σ : SS} (h : -2147483648 ≤ (x8 + 1) ∧ (x8 + 1) ≤ 2147483647) : ev 908 92 [qR 50, qI x1, qI x2, qI x3, qI x4, qI x5, qI x6, qI x7, qI x8] [qI y0] σ = ev 908 18 [qR 50, qI x1, qI x2, qI x3, qI x4, qI x5, qI x6, qI y0, qI (x8 + 1)] [] σ :=
  Eq.trans (e_istore d_908_92 (by decide) (Nat.le_of_ble_eq_true rfl) rfl) (Eq.trans (e_iinc d_908_94 (by decide) rfl h rfl) (e_goto d_908_97 (by decide)))
theorem b908_100 {x1 x2 x3 x4 x5 x6 x7 x8 : Int} {σ : SS} (h : x7 = 0 ∨ x7 = 1) : ev 908 100 [qR 50, qI x1, qI x2, qI x3, qI x4, qI x5, qI x6, qI x7, qI x8] [] σ = some (some (qI x7), σ) :=
  Eq.trans (e_iload d_908_100 rfl) (e_iret d_908_102 (q_okrZ rfl h))
theorem b910_0 {x1 : Int} {σ : SS} : ev 910 0 [qR 50, qI x1] [] σ = (ev 902 0 [qI (σ 50 21), qI 0] [] σ).bind (fun x => ev 910 9 [qR 50, qI x1] (q_push x.1 [qR 50]) x.2) :=
  Eq.trans (e_aload_n d_910_0 rfl) (Eq.trans (e_aload_n d_910_1 rfl) (Eq.trans (e_getI d_910_2 fl_9_121 sh_50 rfl) (Eq.trans (e_iconst d_910_5 k_0) (e_callS d_910_6 (by decide) ml_9_124 fit_910_902 par_902 rfl rfl (Nat.le_of_ble_eq_true rfl) (Nat.le_of_ble_eq_true rfl) (Nat.le_of_ble_eq_true rfl) rfl (by decide) rfl))))
theorem b910_9 {x1 y0 : Int} {σ : SS} : ev 910 9 [qR 50, qI x1] [qI y0, qR 50] σ = if y0 = 0 then ev 910 12 [qR 50, qI x1] [qR 50] σ else ev 910 16 [qR 50, qI x1] [qR 50] σ :=
  e_if_ne d_910_9 (by decide)
theorem b910_12 {x1 : Int} {σ : SS} : ev 910 12 [qR 50, qI x1] [qR 50] σ = ev 910 17 [qR 50, qI x1] [qI 1, qR 50] σ :=
  Eq.trans (e_iconst d_910_12 k_1) (e_goto d_910_13 (by decide))
theorem b910_16 {x1 : Int} {σ : SS} : ev 910 16 [qR 50, qI x1] [qR 50] σ = ev 910 17 [qR 50, qI x1] [qI 0, qR 50] σ :=
  e_iconst d_910_16 k_0
theorem b910_17 {x1 y0 : Int} {σ : SS} : ev 910 17 [qR 50, qI x1] [qI y0, qR 50] σ = (ev 906 0 [qR 50, qI y0, qI 3, qI x1] [] σ).bind (fun x => ev 910 22 [qR 50, qI x1] (q_push x.1 []) x.2) :=
  Eq.trans (e_iconst d_910_17 k_3) (Eq.trans (e_iload_n d_910_18 rfl) (e_callV d_910_19 ml_9_116 fit_910_906 par_906 rfl rfl sh_50 (Nat.le_of_ble_eq_true rfl) (Nat.le_of_ble_eq_true rfl) (Nat.le_of_ble_eq_true rfl) rfl (by decide) rfl))
theorem b910_22 {x1 y0 : Int} {σ : SS} : ev 910 22 [qR 50, qI x1] [qI y0] σ = if y0 = 0 then ev 910 74 [qR 50, qI x1] [] σ else ev 910 25 [qR 50, qI x1] [] σ :=
  e_if_eq d_910_22 (by decide)
theorem b910_25 {x1 : Int} {σ : SS} : ev 910 25 [qR 50, qI x1] [] σ = (ev 909 0 [qR 50, qI 1, qI 99, qU, qU, qU] [] (q_put σ 50 21 (q_or (σ 50 21) 1))).bind (fun x => ev 910 47 [qR 50, qI x1] (q_push x.1 [qI 3, qR 53]) x.2) :=
  Eq.trans (e_aload_n d_910_25 rfl) (Eq.trans (e_dup d_910_26 rfl) (Eq.trans (e_getI d_910_27 fl_9_121 sh_50 rfl) (Eq.trans (e_iconst d_910_30 k_1) (Eq.trans (e_ior d_910_31) (Eq.trans (e_put d_910_32 fl_9_121 sh_50 rfl rfl rfl) (Eq.trans (e_aload_n d_910_35 rfl) (Eq.trans (e_getR d_910_36 fl_9_17 sh_50 rfl) (Eq.trans (e_iconst d_910_39 k_3) (Eq.trans (e_aload_n d_910_40 rfl) (Eq.trans (e_iconst d_910_41 k_1) (Eq.trans (e_bipush d_910_42 kb_99) (e_callV d_910_44 ml_9_128 fit_910_909 par_909 rfl rfl sh_50 (Nat.le_of_ble_eq_true rfl) (Nat.le_of_ble_eq_true rfl) (Nat.le_of_ble_eq_true rfl) rfl (by decide) rfl))))))))))))
theorem b910_47 {x1 y0 y1 : Int} {σ : SS} (h : 0 ≤ y1 ∧ y1 < 6) : ev 910 47 [qR 50, qI x1] [qI y0, qI y1, qR 53] σ = (ev 909 0 [qR 50, qI 0, qI 9, qU, qU, qU] [] (q_put σ 53 y1.toNat y0)).bind (fun x => ev 910 60 [qR 50, qI x1] (q_push x.1 [qI 4, qR 53]) x.2) :=
  Eq.trans (e_iast d_910_47 sh_53 h) (Eq.trans (e_aload_n d_910_48 rfl) (Eq.trans (e_getR d_910_49 fl_9_17 sh_50 rfl) (Eq.trans (e_iconst d_910_52 k_4) (Eq.trans (e_aload_n d_910_53 rfl) (Eq.trans (e_iconst d_910_54 k_0) (Eq.trans (e_bipush d_910_55 kb_9) (e_callV d_910_57 ml_9_128 fit_910_909 par_909 rfl rfl sh_50 (Nat.le_of_ble_eq_true rfl) (Nat.le_of_ble_eq_true rfl) (Nat.le_of_ble_eq_true rfl) rfl (by decide) rfl)))))))
theorem b910_60 {x1 y0 y1 : Int} {σ : SS} (h : 0 ≤ y1 ∧ y1 < 6) : ev 910 60 [qR 50, qI x1] [qI y0, qI y1, qR 53] σ = (ev 909 0 [qR 50, qI 0, qI 99, qU, qU, qU] [] (q_put σ 53 y1.toNat y0)).bind (fun x => ev 910 73 [qR 50, qI x1] (q_push x.1 [qI 5, qR 53]) x.2) :=
  Eq.trans (e_iast d_910_60 sh_53 h) (Eq.trans (e_aload_n d_910_61 rfl) (Eq.trans (e_getR d_910_62 fl_9_17 sh_50 rfl) (Eq.trans (e_iconst d_910_65 k_5) (Eq.trans (e_aload_n d_910_66 rfl) (Eq.trans (e_iconst d_910_67 k_0) (Eq.trans (e_bipush d_910_68 kb_99) (e_callV d_910_70 ml_9_128 fit_910_909 par_909 rfl rfl sh_50 (Nat.le_of_ble_eq_true rfl) (Nat.le_of_ble_eq_true rfl) (Nat.le_of_ble_eq_true rfl) rfl (by decide) rfl)))))))
theorem b910_73 {x1 y0 y1 : Int} {σ : SS} (h : 0 ≤ y1 ∧ y1 < 6) : ev 910 73 [qR 50, qI x1] [qI y0, qI y1, qR 53] σ = ev 910 74 [qR 50, qI x1] [] (q_put σ 53 y1.toNat y0) :=
  e_iast d_910_73 sh_53 h
theorem b910_74 {x1 : Int} {σ : SS} : ev 910 74 [qR 50, qI x1] [] σ = some (none, σ) :=
  e_vret d_910_74 rfl
theorem b911_0 {x1 : Int} {σ : SS} : ev 911 0 [qR 50, qI x1] [] σ = (ev 902 0 [qI (σ 50 21), qI 1] [] σ).bind (fun x => ev 911 9 [qR 50, qI x1] (q_push x.1 [qR 50]) x.2) :=
  Eq.trans (e_aload_n d_911_0 rfl) (Eq.trans (e_aload_n d_911_1 rfl) (Eq.trans (e_getI d_911_2 fl_9_121 sh_50 rfl) (Eq.trans (e_iconst d_911_5 k_1) (e_callS d_911_6 (by decide) ml_9_124 fit_911_902 par_902 rfl rfl (Nat.le_of_ble_eq_true rfl) (Nat.le_of_ble_eq_true rfl) (Nat.le_of_ble_eq_true rfl) rfl (by decide) rfl))))
theorem b911_9 {x1 y0 : Int} {σ : SS} : ev 911 9 [qR 50, qI x1] [qI y0, qR 50] σ = if y0 = 0 then ev 911 12 [qR 50, qI x1] [qR 50] σ else ev 911 16 [qR 50, qI x1] [qR 50] σ :=
  e_if_ne d_911_9 (by decide)
theorem b911_12 {x1 : Int} {σ : SS} : ev 911 12 [qR 50, qI x1] [qR 50] σ = ev 911 17 [qR 50, qI x1] [qI 1, qR 50] σ :=
  Eq.trans (e_iconst d_911_12 k_1) (e_goto d_911_13 (by decide))
theorem b911_16 {x1 : Int} {σ : SS} : ev 911 16 [qR 50, qI x1] [qR 50] σ = ev 911 17 [qR 50, qI x1] [qI 0, qR 50] σ :=
  e_iconst d_911_16 k_0
theorem b911_17 {x1 y0 : Int} {σ : SS} : ev 911 17 [qR 50, qI x1] [qI y0, qR 50] σ = (ev 906 0 [qR 50, qI y0, qI 3, qI x1] [] σ).bind (fun x => ev 911 22 [qR 50, qI x1] (q_push x.1 []) x.2) :=
  Eq.trans (e_iconst d_911_17 k_3) (Eq.trans (e_iload_n d_911_18 rfl) (e_callV d_911_19 ml_9_116 fit_911_906 par_906 rfl rfl sh_50 (Nat.le_of_ble_eq_true rfl) (Nat.le_of_ble_eq_true rfl) (Nat.le_of_ble_eq_true rfl) rfl (by decide) rfl))
theorem b911_22 {x1 y0 : Int} {σ : SS} : ev 911 22 [qR 50, qI x1] [qI y0] σ = if y0 = 0 then ev 911 46 [qR 50, qI x1] [] σ else ev 911 25 [qR 50, qI x1] [] σ :=
  e_if_eq d_911_22 (by decide)
theorem b911_25 {x1 : Int} {σ : SS} : ev 911 25 [qR 50, qI x1] [] σ = (ev 909 0 [qR 50, qI 0, qI 23, qU, qU, qU] [] (q_put σ 50 21 (q_or (σ 50 21) 2))).bind (fun x => ev 911 43 [qR 50, qI x1] (q_push x.1 [qR 50]) x.2) :=
  Eq.trans (e_aload_n d_911_25 rfl) (Eq.trans (e_dup d_911_26 rfl) (Eq.trans (e_getI d_911_27 fl_9_121 sh_50 rfl) (Eq.trans (e_iconst d_911_30 k_2) (Eq.trans (e_ior d_911_31) (Eq.trans (e_put d_911_32 fl_9_121 sh_50 rfl rfl rfl) (Eq.trans (e_aload_n d_911_35 rfl) (Eq.trans (e_aload_n d_911_36 rfl) (Eq.trans (e_iconst d_911_37 k_0) (Eq.trans (e_bipush d_911_38 kb_23) (e_callV d_911_40 ml_9_128 fit_911_909 par_909 rfl rfl sh_50 (Nat.le_of_ble_eq_true rfl) (Nat.le_of_ble_eq_true rfl) (Nat.le_of_ble_eq_true rfl) rfl (by decide) rfl))))))))))
theorem b911_43 {x1 y0 : Int} {σ : SS} : ev 911 43 [qR 50, qI x1] [qI y0, qR 50] σ = ev 911 46 [qR 50, qI x1] [] (q_put σ 50 4 y0) :=
  e_put d_911_43 fl_9_132 sh_50 rfl rfl rfl
theorem b911_46 {x1 : Int} {σ : SS} : ev 911 46 [qR 50, qI x1] [] σ = some (none, σ) :=
  e_vret d_911_46 rfl
theorem b913_0 {x1 : Int} {σ : SS} : ev 913 0 [qR 50, qI x1] [] σ = if (σ 50 17) < 6 then ev 913 10 [qR 50, qI x1] [qR 50] σ else ev 913 14 [qR 50, qI x1] [qR 50] σ :=
  Eq.trans (e_aload_n d_913_0 rfl) (Eq.trans (e_aload_n d_913_1 rfl) (Eq.trans (e_getI d_913_2 fl_9_141 sh_50 rfl) (Eq.trans (e_bipush d_913_5 kb_6) (e_icmp_ge d_913_7 (by decide)))))
theorem b913_10 {x1 : Int} {σ : SS} : ev 913 10 [qR 50, qI x1] [qR 50] σ = ev 913 15 [qR 50, qI x1] [qI 1, qR 50] σ :=
  Eq.trans (e_iconst d_913_10 k_1) (e_goto d_913_11 (by decide))
theorem b913_14 {x1 : Int} {σ : SS} : ev 913 14 [qR 50, qI x1] [qR 50] σ = ev 913 15 [qR 50, qI x1] [qI 0, qR 50] σ :=
  e_iconst d_913_14 k_0
theorem b913_15 {x1 y0 : Int} {σ : SS} : ev 913 15 [qR 50, qI x1] [qI y0, qR 50] σ = (ev 906 0 [qR 50, qI y0, qI 3, qI x1] [] σ).bind (fun x => ev 913 20 [qR 50, qI x1] (q_push x.1 []) x.2) :=
  Eq.trans (e_iconst d_913_15 k_3) (Eq.trans (e_iload_n d_913_16 rfl) (e_callV d_913_17 ml_9_116 fit_913_906 par_906 rfl rfl sh_50 (Nat.le_of_ble_eq_true rfl) (Nat.le_of_ble_eq_true rfl) (Nat.le_of_ble_eq_true rfl) rfl (by decide) rfl))
theorem b913_20 {x1 y0 : Int} {σ : SS} : ev 913 20 [qR 50, qI x1] [qI y0] σ = if y0 = 0 then ev 913 65 [qR 50, qI x1] [] σ else ev 913 23 [qR 50, qI x1] [] σ :=
  e_if_eq d_913_20 (by decide)
theorem b913_23 {x1 : Int} {σ : SS} (h : -2147483648 ≤ (6 + (σ 50 17)) ∧ (6 + (σ 50 17)) ≤ 2147483647) : ev 913 23 [qR 50, qI x1] [] σ = (ev 909 0 [qR 50, qI 0, qI 9, qU, qU, qU] [] σ).bind (fun x => ev 913 41 [qR 50, qI x1] (q_push x.1 [qI (6 + (σ 50 17)), qR 54]) x.2) :=
  Eq.trans (e_aload_n d_913_23 rfl) (Eq.trans (e_getR d_913_24 fl_9_20 sh_50 rfl) (Eq.trans (e_bipush d_913_27 kb_6) (Eq.trans (e_aload_n d_913_29 rfl) (Eq.trans (e_getI d_913_30 fl_9_141 sh_50 rfl) (Eq.trans (e_iadd d_913_33 h) (Eq.trans (e_aload_n d_913_34 rfl) (Eq.trans (e_iconst d_913_35 k_0) (Eq.trans (e_bipush d_913_36 kb_9) (e_callV d_913_38 ml_9_128 fit_913_909 par_909 rfl rfl sh_50 (Nat.le_of_ble_eq_true rfl) (Nat.le_of_ble_eq_true rfl) (Nat.le_of_ble_eq_true rfl) rfl (by decide) rfl)))))))))
theorem b913_41 {x1 y0 y1 : Int} {σ : SS} (h : (0 ≤ y1 ∧ y1 < 12) ∧ (-2147483648 ≤ (6 + (σ 50 17)) ∧ (6 + (σ 50 17)) ≤ 2147483647) ∧ (0 ≤ (6 + (σ 50 17)) ∧ (6 + (σ 50 17)) < 12) ∧ (-2147483648 ≤ ((σ 50 17) + 1) ∧ ((σ 50 17) + 1) ≤ 2147483647)) : ev 913 41 [qR 50, qI x1] [qI y0, qI y1, qR 54] σ = ev 913 65 [qR 50, qI x1] [] (q_put (q_put (q_put σ 54 y1.toNat y0) 55 (6 + (σ 50 17)).toNat 0) 50 17 ((σ 50 17) + 1)) :=
  Eq.trans (e_iast d_913_41 sh_54 h.1) (Eq.trans (e_aload_n d_913_42 rfl) (Eq.trans (e_getR d_913_43 fl_9_23 sh_50 rfl) (Eq.trans (e_bipush d_913_46 kb_6) (Eq.trans (e_aload_n d_913_48 rfl) (Eq.trans (e_getI d_913_49 fl_9_141 sh_50 rfl) (Eq.trans (e_iadd d_913_52 h.2.1) (Eq.trans (e_iconst d_913_53 k_0) (Eq.trans (e_iast d_913_54 sh_55 h.2.2.1) (Eq.trans (e_aload_n d_913_55 rfl) (Eq.trans (e_dup d_913_56 rfl) (Eq.trans (e_getI d_913_57 fl_9_141 sh_50 rfl) (Eq.trans (e_iconst d_913_60 k_1) (Eq.trans (e_iadd d_913_61 h.2.2.2) (e_put d_913_62 fl_9_141 sh_50 rfl rfl rfl))))))))))))))
theorem b913_65 {x1 : Int} {σ : SS} : ev 913 65 [qR 50, qI x1] [] σ = some (none, σ) :=
  e_vret d_913_65 rfl
theorem b914_0 {x1 : Int} {σ : SS} : ev 914 0 [qR 50, qI x1, qU, qU] [] σ = if (σ 50 19) < 9 then ev 914 10 [qR 50, qI x1, qU, qU] [qR 50] σ else ev 914 14 [qR 50, qI x1, qU, qU] [qR 50] σ :=
  Eq.trans (e_aload_n d_914_0 rfl) (Eq.trans (e_aload_n d_914_1 rfl) (Eq.trans (e_getI d_914_2 fl_9_144 sh_50 rfl) (Eq.trans (e_bipush d_914_5 kb_9) (e_icmp_ge d_914_7 (by decide)))))
theorem b914_10 {x1 : Int} {σ : SS} : ev 914 10 [qR 50, qI x1, qU, qU] [qR 50] σ = ev 914 15 [qR 50, qI x1, qU, qU] [qI 1, qR 50] σ :=
  Eq.trans (e_iconst d_914_10 k_1) (e_goto d_914_11 (by decide))
theorem b914_14 {x1 : Int} {σ : SS} : ev 914 14 [qR 50, qI x1, qU, qU] [qR 50] σ = ev 914 15 [qR 50, qI x1, qU, qU] [qI 0, qR 50] σ :=
  e_iconst d_914_14 k_0
theorem b914_15 {x1 y0 : Int} {σ : SS} : ev 914 15 [qR 50, qI x1, qU, qU] [qI y0, qR 50] σ = (ev 906 0 [qR 50, qI y0, qI 3, qI x1] [] σ).bind (fun x => ev 914 20 [qR 50, qI x1, qU, qU] (q_push x.1 []) x.2) :=
  Eq.trans (e_iconst d_914_15 k_3) (Eq.trans (e_iload_n d_914_16 rfl) (e_callV d_914_17 ml_9_116 fit_914_906 par_906 rfl rfl sh_50 (Nat.le_of_ble_eq_true rfl) (Nat.le_of_ble_eq_true rfl) (Nat.le_of_ble_eq_true rfl) rfl (by decide) rfl))
theorem b914_20 {x1 y0 : Int} {σ : SS} : ev 914 20 [qR 50, qI x1, qU, qU] [qI y0] σ = if y0 = 0 then ev 914 132 [qR 50, qI x1, qU, qU] [] σ else ev 914 23 [qR 50, qI x1, qU, qU] [] σ :=
  e_if_eq d_914_20 (by decide)
theorem b914_23 {x1 : Int} {σ : SS} (h : -2147483648 ≤ ((σ 50 17) - 1) ∧ ((σ 50 17) - 1) ≤ 2147483647) : ev 914 23 [qR 50, qI x1, qU, qU] [] σ = (ev 909 0 [qR 50, qI 0, qI ((σ 50 17) - 1), qU, qU, qU] [] σ).bind (fun x => ev 914 34 [qR 50, qI x1, qU, qU] (q_push x.1 []) x.2) :=
  Eq.trans (e_aload_n d_914_23 rfl) (Eq.trans (e_iconst d_914_24 k_0) (Eq.trans (e_aload_n d_914_25 rfl) (Eq.trans (e_getI d_914_26 fl_9_141 sh_50 rfl) (Eq.trans (e_iconst d_914_29 k_1) (Eq.trans (e_isub d_914_30 h) (e_callV d_914_31 ml_9_128 fit_914_909 par_909 rfl rfl sh_50 (Nat.le_of_ble_eq_true rfl) (Nat.le_of_ble_eq_true rfl) (Nat.le_of_ble_eq_true rfl) rfl (by decide) rfl))))))
theorem b914_34 {x1 y0 : Int} {σ : SS} (h : -2147483648 ≤ ((σ 50 17) - 1) ∧ ((σ 50 17) - 1) ≤ 2147483647) : ev 914 34 [qR 50, qI x1, qU, qU] [qI y0] σ = (ev 909 0 [qR 50, qI 0, qI ((σ 50 17) - 1), qU, qU, qU] [] σ).bind (fun x => ev 914 46 [qR 50, qI x1, qI y0, qU] (q_push x.1 []) x.2) :=
  Eq.trans (e_istore_n d_914_34 (by decide) (Nat.le_of_ble_eq_true rfl) rfl) (Eq.trans (e_aload_n d_914_35 rfl) (Eq.trans (e_iconst d_914_36 k_0) (Eq.trans (e_aload_n d_914_37 rfl) (Eq.trans (e_getI d_914_38 fl_9_141 sh_50 rfl) (Eq.trans (e_iconst d_914_41 k_1) (Eq.trans (e_isub d_914_42 h) (e_callV d_914_43 ml_9_128 fit_914_909 par_909 rfl rfl sh_50 (Nat.le_of_ble_eq_true rfl) (Nat.le_of_ble_eq_true rfl) (Nat.le_of_ble_eq_true rfl) rfl (by decide) rfl)))))))
theorem b914_46 {x1 x2 y0 : Int} {σ : SS} : ev 914 46 [qR 50, qI x1, qI x2, qU] [qI y0] σ = if (σ 50 28) = 0 then ev 914 54 [qR 50, qI x1, qI x2, qI y0] [] σ else ev 914 132 [qR 50, qI x1, qI x2, qI y0] [] σ :=
  Eq.trans (e_istore_n d_914_46 (by decide) (Nat.le_of_ble_eq_true rfl) rfl) (Eq.trans (e_aload_n d_914_47 rfl) (Eq.trans (e_getI d_914_48 fl_9_95 sh_50 rfl) (e_if_ne d_914_51 (by decide))))
theorem b914_54 {x1 x2 x3 : Int} {σ : SS} : ev 914 54 [qR 50, qI x1, qI x2, qI x3] [] σ = if x2 = x3 then ev 914 80 [qR 50, qI x1, qI x2, qI x3] [qR 50] σ else ev 914 60 [qR 50, qI x1, qI x2, qI x3] [qR 50] σ :=
  Eq.trans (e_aload_n d_914_54 rfl) (Eq.trans (e_iload_n d_914_55 rfl) (Eq.trans (e_iload_n d_914_56 rfl) (e_icmp_eq d_914_57 (by decide))))
theorem b914_60 {x1 x2 x3 : Int} {σ : SS} (h : (-2147483648 ≤ (6 + x2) ∧ (6 + x2) ≤ 2147483647) ∧ (0 ≤ (6 + x2) ∧ (6 + x2) < 12)) : ev 914 60 [qR 50, qI x1, qI x2, qI x3] [qR 50] σ = (ev 902 0 [qI (σ 55 (6 + x2).toNat), qI x3] [] σ).bind (fun x => ev 914 73 [qR 50, qI x1, qI x2, qI x3] (q_push x.1 [qR 50]) x.2) :=
  Eq.trans (e_aload_n d_914_60 rfl) (Eq.trans (e_getR d_914_61 fl_9_23 sh_50 rfl) (Eq.trans (e_bipush d_914_64 kb_6) (Eq.trans (e_iload_n d_914_66 rfl) (Eq.trans (e_iadd d_914_67 h.1) (Eq.trans (e_iald d_914_68 sh_55 h.2) (Eq.trans (e_iload_n d_914_69 rfl) (e_callS d_914_70 (by decide) ml_9_124 fit_914_902 par_902 rfl rfl (Nat.le_of_ble_eq_true rfl) (Nat.le_of_ble_eq_true rfl) (Nat.le_of_ble_eq_true rfl) rfl (by decide) rfl)))))))
theorem b914_73 {x1 x2 x3 y0 : Int} {σ : SS} : ev 914 73 [qR 50, qI x1, qI x2, qI x3] [qI y0, qR 50] σ = if y0 = 0 then ev 914 76 [qR 50, qI x1, qI x2, qI x3] [qR 50] σ else ev 914 80 [qR 50, qI x1, qI x2, qI x3] [qR 50] σ :=
  e_if_ne d_914_73 (by decide)
theorem b914_76 {x1 x2 x3 : Int} {σ : SS} : ev 914 76 [qR 50, qI x1, qI x2, qI x3] [qR 50] σ = ev 914 81 [qR 50, qI x1, qI x2, qI x3] [qI 1, qR 50] σ :=
  Eq.trans (e_iconst d_914_76 k_1) (e_goto d_914_77 (by decide))
theorem b914_80 {x1 x2 x3 : Int} {σ : SS} : ev 914 80 [qR 50, qI x1, qI x2, qI x3] [qR 50] σ = ev 914 81 [qR 50, qI x1, qI x2, qI x3] [qI 0, qR 50] σ :=
  e_iconst d_914_80 k_0
theorem b914_81 {x1 x2 x3 y0 : Int} {σ : SS} : ev 914 81 [qR 50, qI x1, qI x2, qI x3] [qI y0, qR 50] σ = (ev 906 0 [qR 50, qI y0, qI 4, qI (σ 50 26)] [] σ).bind (fun x => ev 914 89 [qR 50, qI x1, qI x2, qI x3] (q_push x.1 []) x.2) :=
  Eq.trans (e_iconst d_914_81 k_4) (Eq.trans (e_aload_n d_914_82 rfl) (Eq.trans (e_getI d_914_83 fl_9_102 sh_50 rfl) (e_callV d_914_86 ml_9_116 fit_914_906 par_906 rfl rfl sh_50 (Nat.le_of_ble_eq_true rfl) (Nat.le_of_ble_eq_true rfl) (Nat.le_of_ble_eq_true rfl) rfl (by decide) rfl)))
theorem b914_89 {x1 x2 x3 y0 : Int} {σ : SS} : ev 914 89 [qR 50, qI x1, qI x2, qI x3] [qI y0] σ = if y0 = 0 then ev 914 132 [qR 50, qI x1, qI x2, qI x3] [] σ else ev 914 92 [qR 50, qI x1, qI x2, qI x3] [] σ :=
  e_if_eq d_914_89 (by decide)
theorem b914_92 {x1 x2 x3 : Int} {σ : SS} (h : (-2147483648 ≤ (6 + x2) ∧ (6 + x2) ≤ 2147483647) ∧ (0 ≤ (6 + x2) ∧ (6 + x2) < 12) ∧ (-2147483648 ≤ (6 + x3) ∧ (6 + x3) ≤ 2147483647) ∧ (0 ≤ (6 + x3) ∧ (6 + x3) < 12) ∧ (-2147483648 ≤ ((σ 50 19) + 1) ∧ ((σ 50 19) + 1) ≤ 2147483647)) : ev 914 92 [qR 50, qI x1, qI x2, qI x3] [] σ = ev 914 132 [qR 50, qI x1, qI x2, qI x3] [] (q_put (q_put (q_put σ 55 (6 + x2).toNat (q_or (σ 55 (6 + x2).toNat) (q_shl 1 x3))) 55 (6 + x3).toNat (q_or ((q_put σ 55 (6 + x2).toNat (q_or (σ 55 (6 + x2).toNat) (q_shl 1 x3))) 55 (6 + x3).toNat) (q_shl 1 x2))) 50 19 ((σ 50 19) + 1)) :=
  Eq.trans (e_aload_n d_914_92 rfl) (Eq.trans (e_getR d_914_93 fl_9_23 sh_50 rfl) (Eq.trans (e_bipush d_914_96 kb_6) (Eq.trans (e_iload_n d_914_98 rfl) (Eq.trans (e_iadd d_914_99 h.1) (Eq.trans (e_dup2 d_914_100 rfl rfl) (Eq.trans (e_iald d_914_101 sh_55 h.2.1) (Eq.trans (e_iconst d_914_102 k_1) (Eq.trans (e_iload_n d_914_103 rfl) (Eq.trans (e_ishl d_914_104) (Eq.trans (e_ior d_914_105) (Eq.trans (e_iast d_914_106 sh_55 h.2.1) (Eq.trans (e_aload_n d_914_107 rfl) (Eq.trans (e_getR d_914_108 fl_9_23 sh_50 rfl) (Eq.trans (e_bipush d_914_111 kb_6) (Eq.trans (e_iload_n d_914_113 rfl) (Eq.trans (e_iadd d_914_114 h.2.2.1) (Eq.trans (e_dup2 d_914_115 rfl rfl) (Eq.trans (e_iald d_914_116 sh_55 h.2.2.2.1) (Eq.trans (e_iconst d_914_117 k_1) (Eq.trans (e_iload_n d_914_118 rfl) (Eq.trans (e_ishl d_914_119) (Eq.trans (e_ior d_914_120) (Eq.trans (e_iast d_914_121 sh_55 h.2.2.2.1) (Eq.trans (e_aload_n d_914_122 rfl) (Eq.trans (e_dup d_914_123 rfl) (Eq.trans (e_getI d_914_124 fl_9_144 sh_50 rfl) (Eq.trans (e_iconst d_914_127 k_1) (Eq.trans (e_iadd d_914_128 h.2.2.2.2) (e_put d_914_129 fl_9_144 sh_50 rfl rfl rfl)))))))))))))))))))))))))))))
theorem b914_132 {x1 : Int} {vx2 vx3 : AV} {σ : SS} : ev 914 132 [qR 50, qI x1, vx2, vx3] [] σ = some (none, σ) :=
  e_vret d_914_132 rfl
theorem b915_0 {x1 : Int} {σ : SS} : ev 915 0 [qR 50, qI x1, qU] [] σ = if (σ 50 18) < 6 then ev 915 10 [qR 50, qI x1, qU] [qR 50] σ else ev 915 14 [qR 50, qI x1, qU] [qR 50] σ :=
  Eq.trans (e_aload_n d_915_0 rfl) (Eq.trans (e_aload_n d_915_1 rfl) (Eq.trans (e_getI d_915_2 fl_9_135 sh_50 rfl) (Eq.trans (e_bipush d_915_5 kb_6) (e_icmp_ge d_915_7 (by decide)))))
theorem b915_10 {x1 : Int} {σ : SS} : ev 915 10 [qR 50, qI x1, qU] [qR 50] σ = ev 915 15 [qR 50, qI x1, qU] [qI 1, qR 50] σ :=
  Eq.trans (e_iconst d_915_10 k_1) (e_goto d_915_11 (by decide))
theorem b915_14 {x1 : Int} {σ : SS} : ev 915 14 [qR 50, qI x1, qU] [qR 50] σ = ev 915 15 [qR 50, qI x1, qU] [qI 0, qR 50] σ :=
  e_iconst d_915_14 k_0
theorem b915_15 {x1 y0 : Int} {σ : SS} : ev 915 15 [qR 50, qI x1, qU] [qI y0, qR 50] σ = (ev 906 0 [qR 50, qI y0, qI 3, qI x1] [] σ).bind (fun x => ev 915 20 [qR 50, qI x1, qU] (q_push x.1 []) x.2) :=
  Eq.trans (e_iconst d_915_15 k_3) (Eq.trans (e_iload_n d_915_16 rfl) (e_callV d_915_17 ml_9_116 fit_915_906 par_906 rfl rfl sh_50 (Nat.le_of_ble_eq_true rfl) (Nat.le_of_ble_eq_true rfl) (Nat.le_of_ble_eq_true rfl) rfl (by decide) rfl))
theorem b915_20 {x1 y0 : Int} {σ : SS} : ev 915 20 [qR 50, qI x1, qU] [qI y0] σ = if y0 = 0 then ev 915 114 [qR 50, qI x1, qU] [] σ else ev 915 23 [qR 50, qI x1, qU] [] σ :=
  e_if_eq d_915_20 (by decide)
theorem b915_23 {x1 : Int} {σ : SS} (h : (-2147483648 ≤ (6 + (σ 50 18)) ∧ (6 + (σ 50 18)) ≤ 2147483647) ∧ (-2147483648 ≤ ((σ 50 17) - 1) ∧ ((σ 50 17) - 1) ≤ 2147483647)) : ev 915 23 [qR 50, qI x1, qU] [] σ = (ev 909 0 [qR 50, qI 0, qI ((σ 50 17) - 1), qU, qU, qU] [] σ).bind (fun x => ev 915 47 [qR 50, qI x1, qI (6 + (σ 50 18))] (q_push x.1 [qI (6 + (σ 50 18)), qR 56]) x.2) :=
  Eq.trans (e_bipush d_915_23 kb_6) (Eq.trans (e_aload_n d_915_25 rfl) (Eq.trans (e_getI d_915_26 fl_9_135 sh_50 rfl) (Eq.trans (e_iadd d_915_29 h.1) (Eq.trans (e_istore_n d_915_30 (by decide) (Nat.le_of_ble_eq_true rfl) rfl) (Eq.trans (e_aload_n d_915_31 rfl) (Eq.trans (e_getR d_915_32 fl_9_26 sh_50 rfl) (Eq.trans (e_iload_n d_915_35 rfl) (Eq.trans (e_aload_n d_915_36 rfl) (Eq.trans (e_iconst d_915_37 k_0) (Eq.trans (e_aload_n d_915_38 rfl) (Eq.trans (e_getI d_915_39 fl_9_141 sh_50 rfl) (Eq.trans (e_iconst d_915_42 k_1) (Eq.trans (e_isub d_915_43 h.2) (e_callV d_915_44 ml_9_128 fit_915_909 par_909 rfl rfl sh_50 (Nat.le_of_ble_eq_true rfl) (Nat.le_of_ble_eq_true rfl) (Nat.le_of_ble_eq_true rfl) rfl (by decide) rfl))))))))))))))
theorem b915_47 {x1 x2 y0 y1 : Int} {σ : SS} (h : 0 ≤ y1 ∧ y1 < 12) : ev 915 47 [qR 50, qI x1, qI x2] [qI y0, qI y1, qR 56] σ = (ev 909 0 [qR 50, qI 1, qI 99, qU, qU, qU] [] (q_put σ 56 y1.toNat y0)).bind (fun x => ev 915 60 [qR 50, qI x1, qI x2] (q_push x.1 [qI x2, qR 57]) x.2) :=
  Eq.trans (e_iast d_915_47 sh_56 h) (Eq.trans (e_aload_n d_915_48 rfl) (Eq.trans (e_getR d_915_49 fl_9_29 sh_50 rfl) (Eq.trans (e_iload_n d_915_52 rfl) (Eq.trans (e_aload_n d_915_53 rfl) (Eq.trans (e_iconst d_915_54 k_1) (Eq.trans (e_bipush d_915_55 kb_99) (e_callV d_915_57 ml_9_128 fit_915_909 par_909 rfl rfl sh_50 (Nat.le_of_ble_eq_true rfl) (Nat.le_of_ble_eq_true rfl) (Nat.le_of_ble_eq_true rfl) rfl (by decide) rfl)))))))
theorem b915_60 {x1 x2 y0 y1 : Int} {σ : SS} (h : 0 ≤ y1 ∧ y1 < 12) : ev 915 60 [qR 50, qI x1, qI x2] [qI y0, qI y1, qR 57] σ = (ev 909 0 [qR 50, qI 0, qI 9, qU, qU, qU] [] (q_put σ 57 y1.toNat y0)).bind (fun x => ev 915 73 [qR 50, qI x1, qI x2] (q_push x.1 [qI x2, qR 58]) x.2) :=
  Eq.trans (e_iast d_915_60 sh_57 h) (Eq.trans (e_aload_n d_915_61 rfl) (Eq.trans (e_getR d_915_62 fl_9_32 sh_50 rfl) (Eq.trans (e_iload_n d_915_65 rfl) (Eq.trans (e_aload_n d_915_66 rfl) (Eq.trans (e_iconst d_915_67 k_0) (Eq.trans (e_bipush d_915_68 kb_9) (e_callV d_915_70 ml_9_128 fit_915_909 par_909 rfl rfl sh_50 (Nat.le_of_ble_eq_true rfl) (Nat.le_of_ble_eq_true rfl) (Nat.le_of_ble_eq_true rfl) rfl (by decide) rfl)))))))
theorem b915_73 {x1 x2 y0 y1 : Int} {σ : SS} (h : 0 ≤ y1 ∧ y1 < 12) : ev 915 73 [qR 50, qI x1, qI x2] [qI y0, qI y1, qR 58] σ = (ev 909 0 [qR 50, qI 0, qI 8, qU, qU, qU] [] (q_put σ 58 y1.toNat y0)).bind (fun x => ev 915 86 [qR 50, qI x1, qI x2] (q_push x.1 [qI x2, qR 59]) x.2) :=
  Eq.trans (e_iast d_915_73 sh_58 h) (Eq.trans (e_aload_n d_915_74 rfl) (Eq.trans (e_getR d_915_75 fl_9_35 sh_50 rfl) (Eq.trans (e_iload_n d_915_78 rfl) (Eq.trans (e_aload_n d_915_79 rfl) (Eq.trans (e_iconst d_915_80 k_0) (Eq.trans (e_bipush d_915_81 kb_8) (e_callV d_915_83 ml_9_128 fit_915_909 par_909 rfl rfl sh_50 (Nat.le_of_ble_eq_true rfl) (Nat.le_of_ble_eq_true rfl) (Nat.le_of_ble_eq_true rfl) rfl (by decide) rfl)))))))
theorem b915_86 {x1 x2 y0 y1 : Int} {σ : SS} (h : (0 ≤ y1 ∧ y1 < 12) ∧ (-2147483648 ≤ (6 * x2) ∧ (6 * x2) ≤ 2147483647) ∧ (0 ≤ (6 * x2) ∧ (6 * x2) < 72) ∧ (0 ≤ x2 ∧ x2 < 12) ∧ (-2147483648 ≤ ((σ 50 18) + 1) ∧ ((σ 50 18) + 1) ≤ 2147483647)) : ev 915 86 [qR 50, qI x1, qI x2] [qI y0, qI y1, qR 59] σ = ev 915 114 [qR 50, qI x1, qI x2] [] (q_put (q_put (q_put (q_put σ 59 y1.toNat y0) 60 (6 * x2).toNat 0) 61 x2.toNat 1) 50 18 ((σ 50 18) + 1)) :=
  Eq.trans (e_iast d_915_86 sh_59 h.1) (Eq.trans (e_aload_n d_915_87 rfl) (Eq.trans (e_getR d_915_88 fl_9_38 sh_50 rfl) (Eq.trans (e_bipush d_915_91 kb_6) (Eq.trans (e_iload_n d_915_93 rfl) (Eq.trans (e_imul d_915_94 h.2.1) (Eq.trans (e_iconst d_915_95 k_0) (Eq.trans (e_iast d_915_96 sh_60 h.2.2.1) (Eq.trans (e_aload_n d_915_97 rfl) (Eq.trans (e_getR d_915_98 fl_9_41 sh_50 rfl) (Eq.trans (e_iload_n d_915_101 rfl) (Eq.trans (e_iconst d_915_102 k_1) (Eq.trans (e_iast d_915_103 sh_61 h.2.2.2.1) (Eq.trans (e_aload_n d_915_104 rfl) (Eq.trans (e_dup d_915_105 rfl) (Eq.trans (e_getI d_915_106 fl_9_135 sh_50 rfl) (Eq.trans (e_iconst d_915_109 k_1) (Eq.trans (e_iadd d_915_110 h.2.2.2.2) (e_put d_915_111 fl_9_135 sh_50 rfl rfl rfl))))))))))))))))))
theorem b915_114 {x1 : Int} {vx2 : AV} {σ : SS} : ev 915 114 [qR 50, qI x1, vx2] [] σ = some (none, σ) :=
  e_vret d_915_114 rfl
theorem b917_0 {σ : SS} (h : -2147483648 ≤ ((σ 50 18) - 1) ∧ ((σ 50 18) - 1) ≤ 2147483647) : ev 917 0 [qR 50, qU, qU] [] σ = (ev 909 0 [qR 50, qI 0, qI ((σ 50 18) - 1), qU, qU, qU] [] σ).bind (fun x => ev 917 11 [qR 50, qU, qU] (q_push x.1 []) x.2) :=
  Eq.trans (e_aload_n d_917_0 rfl) (Eq.trans (e_iconst d_917_1 k_0) (Eq.trans (e_aload_n d_917_2 rfl) (Eq.trans (e_getI d_917_3 fl_9_135 sh_50 rfl) (Eq.trans (e_iconst d_917_6 k_1) (Eq.trans (e_isub d_917_7 h) (e_callV d_917_8 ml_9_128 fit_917_909 par_909 rfl rfl sh_50 (Nat.le_of_ble_eq_true rfl) (Nat.le_of_ble_eq_true rfl) (Nat.le_of_ble_eq_true rfl) rfl (by decide) rfl))))))
theorem b917_11 {y0 : Int} {σ : SS} : ev 917 11 [qR 50, qU, qU] [qI y0] σ = if 0 < (σ 50 28) then ev 917 47 [qR 50, qI y0, qU] [] σ else ev 917 19 [qR 50, qI y0, qU] [] σ :=
  Eq.trans (e_istore_n d_917_11 (by decide) (Nat.le_of_ble_eq_true rfl) rfl) (Eq.trans (e_aload_n d_917_12 rfl) (Eq.trans (e_getI d_917_13 fl_9_95 sh_50 rfl) (e_if_gt d_917_16 (by decide))))
theorem b917_19 {x1 : Int} {σ : SS} : ev 917 19 [qR 50, qI x1, qU] [] σ = (ev 902 0 [qI (σ 50 22), qI x1] [] σ).bind (fun x => ev 917 28 [qR 50, qI x1, qU] (q_push x.1 [qR 50]) x.2) :=
  Eq.trans (e_aload_n d_917_19 rfl) (Eq.trans (e_aload_n d_917_20 rfl) (Eq.trans (e_getI d_917_21 fl_9_149 sh_50 rfl) (Eq.trans (e_iload_n d_917_24 rfl) (e_callS d_917_25 (by decide) ml_9_124 fit_917_902 par_902 rfl rfl (Nat.le_of_ble_eq_true rfl) (Nat.le_of_ble_eq_true rfl) (Nat.le_of_ble_eq_true rfl) rfl (by decide) rfl))))
theorem b917_28 {x1 y0 : Int} {σ : SS} : ev 917 28 [qR 50, qI x1, qU] [qI y0, qR 50] σ = if y0 = 0 then ev 917 31 [qR 50, qI x1, qU] [qR 50] σ else ev 917 35 [qR 50, qI x1, qU] [qR 50] σ :=
  e_if_ne d_917_28 (by decide)
theorem b917_31 {x1 : Int} {σ : SS} : ev 917 31 [qR 50, qI x1, qU] [qR 50] σ = ev 917 36 [qR 50, qI x1, qU] [qI 1, qR 50] σ :=
  Eq.trans (e_iconst d_917_31 k_1) (e_goto d_917_32 (by decide))
theorem b917_35 {x1 : Int} {σ : SS} : ev 917 35 [qR 50, qI x1, qU] [qR 50] σ = ev 917 36 [qR 50, qI x1, qU] [qI 0, qR 50] σ :=
  e_iconst d_917_35 k_0
theorem b917_36 {x1 y0 : Int} {σ : SS} : ev 917 36 [qR 50, qI x1, qU] [qI y0, qR 50] σ = (ev 906 0 [qR 50, qI y0, qI 4, qI (σ 50 26)] [] σ).bind (fun x => ev 917 44 [qR 50, qI x1, qU] (q_push x.1 []) x.2) :=
  Eq.trans (e_iconst d_917_36 k_4) (Eq.trans (e_aload_n d_917_37 rfl) (Eq.trans (e_getI d_917_38 fl_9_102 sh_50 rfl) (e_callV d_917_41 ml_9_116 fit_917_906 par_906 rfl rfl sh_50 (Nat.le_of_ble_eq_true rfl) (Nat.le_of_ble_eq_true rfl) (Nat.le_of_ble_eq_true rfl) rfl (by decide) rfl)))
theorem b917_44 {x1 y0 : Int} {σ : SS} : ev 917 44 [qR 50, qI x1, qU] [qI y0] σ = if y0 = 0 then ev 917 47 [qR 50, qI x1, qU] [] σ else ev 917 48 [qR 50, qI x1, qU] [] σ :=
  e_if_ne d_917_44 (by decide)
theorem b917_47 {x1 : Int} {σ : SS} : ev 917 47 [qR 50, qI x1, qU] [] σ = some (none, σ) :=
  e_vret d_917_47 rfl
theorem b917_48 {x1 : Int} {σ : SS} : ev 917 48 [qR 50, qI x1, qU] [] σ = (ev 907 0 [qR 50, qU] [] (q_put σ 50 22 (q_or (σ 50 22) (q_shl 1 x1)))).bind (fun x => ev 917 64 [qR 50, qI x1, qU] (q_push x.1 []) x.2) :=
  Eq.trans (e_aload_n d_917_48 rfl) (Eq.trans (e_dup d_917_49 rfl) (Eq.trans (e_getI d_917_50 fl_9_149 sh_50 rfl) (Eq.trans (e_iconst d_917_53 k_1) (Eq.trans (e_iload_n d_917_54 rfl) (Eq.trans (e_ishl d_917_55) (Eq.trans (e_ior d_917_56) (Eq.trans (e_put d_917_57 fl_9_149 sh_50 rfl rfl rfl) (Eq.trans (e_aload_n d_917_60 rfl) (e_callV d_917_61 ml_9_152 fit_917_907 par_907 rfl rfl sh_50 (Nat.le_of_ble_eq_true rfl) (Nat.le_of_ble_eq_true rfl) (Nat.le_of_ble_eq_true rfl) rfl (by decide) rfl)))))))))
theorem b917_64 {x1 : Int} {σ : SS} : ev 917 64 [qR 50, qI x1, qU] [] σ = if 0 < (σ 50 27) then ev 917 72 [qR 50, qI x1, qU] [qR 50] σ else ev 917 76 [qR 50, qI x1, qU] [qR 50] σ :=
  Eq.trans (e_aload_n d_917_64 rfl) (Eq.trans (e_aload_n d_917_65 rfl) (Eq.trans (e_getI d_917_66 fl_9_109 sh_50 rfl) (e_if_le d_917_69 (by decide))))
theorem b917_72 {x1 : Int} {σ : SS} : ev 917 72 [qR 50, qI x1, qU] [qR 50] σ = ev 917 77 [qR 50, qI x1, qU] [qI 1, qR 50] σ :=
  Eq.trans (e_iconst d_917_72 k_1) (e_goto d_917_73 (by decide))
theorem b917_76 {x1 : Int} {σ : SS} : ev 917 76 [qR 50, qI x1, qU] [qR 50] σ = ev 917 77 [qR 50, qI x1, qU] [qI 0, qR 50] σ :=
  e_iconst d_917_76 k_0
theorem b917_77 {x1 y0 : Int} {σ : SS} : ev 917 77 [qR 50, qI x1, qU] [qI y0, qR 50] σ = (ev 906 0 [qR 50, qI y0, qI 1, qI (σ 50 26)] [] σ).bind (fun x => ev 917 85 [qR 50, qI x1, qU] (q_push x.1 []) x.2) :=
  Eq.trans (e_iconst d_917_77 k_1) (Eq.trans (e_aload_n d_917_78 rfl) (Eq.trans (e_getI d_917_79 fl_9_102 sh_50 rfl) (e_callV d_917_82 ml_9_116 fit_917_906 par_906 rfl rfl sh_50 (Nat.le_of_ble_eq_true rfl) (Nat.le_of_ble_eq_true rfl) (Nat.le_of_ble_eq_true rfl) rfl (by decide) rfl)))
theorem b917_85 {x1 y0 : Int} {σ : SS} : ev 917 85 [qR 50, qI x1, qU] [qI y0] σ = if y0 = 0 then ev 917 161 [qR 50, qI x1, qU] [] σ else ev 917 88 [qR 50, qI x1, qU] [] σ :=
  e_if_eq d_917_85 (by decide)
theorem b917_88 {x1 : Int} {σ : SS} : ev 917 88 [qR 50, qI x1, qU] [] σ = (ev 916 0 [qR 50, qU, qU] [] σ).bind (fun x => ev 917 93 [qR 50, qI x1, qU] (q_push x.1 [qR 50]) x.2) :=
  Eq.trans (e_aload_n d_917_88 rfl) (Eq.trans (e_aload_n d_917_89 rfl) (e_callV d_917_90 ml_9_155 fit_917_916 par_916 rfl rfl sh_50 (Nat.le_of_ble_eq_true rfl) (Nat.le_of_ble_eq_true rfl) (Nat.le_of_ble_eq_true rfl) rfl (by decide) rfl))
theorem b917_93 {x1 y0 : Int} {σ : SS} : ev 917 93 [qR 50, qI x1, qU] [qI y0, qR 50] σ = (ev 906 0 [qR 50, qI y0, qI 4, qI (σ 50 26)] [] σ).bind (fun x => ev 917 101 [qR 50, qI x1, qU] (q_push x.1 []) x.2) :=
  Eq.trans (e_iconst d_917_93 k_4) (Eq.trans (e_aload_n d_917_94 rfl) (Eq.trans (e_getI d_917_95 fl_9_102 sh_50 rfl) (e_callV d_917_98 ml_9_116 fit_917_906 par_906 rfl rfl sh_50 (Nat.le_of_ble_eq_true rfl) (Nat.le_of_ble_eq_true rfl) (Nat.le_of_ble_eq_true rfl) rfl (by decide) rfl)))
theorem b917_101 {x1 y0 : Int} {σ : SS} : ev 917 101 [qR 50, qI x1, qU] [qI y0] σ = if y0 = 0 then ev 917 161 [qR 50, qI x1, qU] [] σ else ev 917 104 [qR 50, qI x1, qU] [] σ :=
  e_if_eq d_917_101 (by decide)
theorem b917_104 {x1 : Int} {σ : SS} (h : (-2147483648 ≤ (6 + x1) ∧ (6 + x1) ≤ 2147483647) ∧ (0 ≤ (6 + x1) ∧ (6 + x1) < 12)) : ev 917 104 [qR 50, qI x1, qU] [] σ = ev 917 119 [qR 50, qI x1, qI 0] [] (q_put σ 61 (6 + x1).toNat (σ 50 27)) :=
  Eq.trans (e_aload_n d_917_104 rfl) (Eq.trans (e_getR d_917_105 fl_9_41 sh_50 rfl) (Eq.trans (e_bipush d_917_108 kb_6) (Eq.trans (e_iload_n d_917_110 rfl) (Eq.trans (e_iadd d_917_111 h.1) (Eq.trans (e_aload_n d_917_112 rfl) (Eq.trans (e_getI d_917_113 fl_9_109 sh_50 rfl) (Eq.trans (e_iast d_917_116 sh_61 h.2) (Eq.trans (e_iconst d_917_117 k_0) (e_istore_n d_917_118 (by decide) (Nat.le_of_ble_eq_true rfl) rfl)))))))))
theorem b917_119 {x1 x2 : Int} {σ : SS} : ev 917 119 [qR 50, qI x1, qI x2] [] σ = if x2 < (σ 50 27) then ev 917 127 [qR 50, qI x1, qI x2] [] σ else ev 917 161 [qR 50, qI x1, qI x2] [] σ :=
  Eq.trans (e_iload_n d_917_119 rfl) (Eq.trans (e_aload_n d_917_120 rfl) (Eq.trans (e_getI d_917_121 fl_9_109 sh_50 rfl) (e_icmp_ge d_917_124 (by decide))))
theorem b917_127 {x1 x2 : Int} {σ : SS} (h : (-2147483648 ≤ (6 + x1) ∧ (6 + x1) ≤ 2147483647) ∧ (-2147483648 ≤ (6 * (6 + x1)) ∧ (6 * (6 + x1)) ≤ 2147483647) ∧ (-2147483648 ≤ ((6 * (6 + x1)) + x2) ∧ ((6 * (6 + x1)) + x2) ≤ 2147483647) ∧ (-2147483648 ≤ ((σ 50 26) + x2) ∧ ((σ 50 26) + x2) ≤ 2147483647) ∧ (0 ≤ ((σ 50 26) + x2) ∧ ((σ 50 26) + x2) < 300) ∧ (-2147483648 ≤ ((σ 62 ((σ 50 26) + x2).toNat) - 97) ∧ ((σ 62 ((σ 50 26) + x2).toNat) - 97) ≤ 2147483647) ∧ (0 ≤ ((6 * (6 + x1)) + x2) ∧ ((6 * (6 + x1)) + x2) < 72) ∧ (-2147483648 ≤ (x2 + 1) ∧ (x2 + 1) ≤ 2147483647)) : ev 917 127 [qR 50, qI x1, qI x2] [] σ = ev 917 119 [qR 50, qI x1, qI (x2 + 1)] [] (q_put σ 60 ((6 * (6 + x1)) + x2).toNat ((σ 62 ((σ 50 26) + x2).toNat) - 97)) :=
  Eq.trans (e_aload_n d_917_127 rfl) (Eq.trans (e_getR d_917_128 fl_9_38 sh_50 rfl) (Eq.trans (e_bipush d_917_131 kb_6) (Eq.trans (e_bipush d_917_133 kb_6) (Eq.trans (e_iload_n d_917_135 rfl) (Eq.trans (e_iadd d_917_136 h.1) (Eq.trans (e_imul d_917_137 h.2.1) (Eq.trans (e_iload_n d_917_138 rfl) (Eq.trans (e_iadd d_917_139 h.2.2.1) (Eq.trans (e_aload_n d_917_140 rfl) (Eq.trans (e_getR d_917_141 fl_9_44 sh_50 rfl) (Eq.trans (e_aload_n d_917_144 rfl) (Eq.trans (e_getI d_917_145 fl_9_102 sh_50 rfl) (Eq.trans (e_iload_n d_917_148 rfl) (Eq.trans (e_iadd d_917_149 h.2.2.2.1) (Eq.trans (e_iald d_917_150 sh_62 h.2.2.2.2.1) (Eq.trans (e_bipush d_917_151 kb_97) (Eq.trans (e_isub d_917_153 h.2.2.2.2.2.1) (Eq.trans (e_iast d_917_154 sh_60 h.2.2.2.2.2.2.1) (Eq.trans (e_iinc d_917_155 (by decide) rfl h.2.2.2.2.2.2.2 rfl) (e_goto d_917_158 (by decide)))))))))))))))))))))
theorem b917_161 {x1 : Int} {vx2 : AV} {σ : SS} : ev 917 161 [qR 50, qI x1, vx2] [] σ = some (none, σ) :=
  e_vret d_917_161 rfl
theorem b912_0 {x1 : Int} {σ : SS} : ev 912 0 [qR 50, qI x1] [] σ = (ev 902 0 [qI (σ 50 21), qI 2] [] σ).bind (fun x => ev 912 9 [qR 50, qI x1] (q_push x.1 [qR 50]) x.2) :=
  Eq.trans (e_aload_n d_912_0 rfl) (Eq.trans (e_aload_n d_912_1 rfl) (Eq.trans (e_getI d_912_2 fl_9_121 sh_50 rfl) (Eq.trans (e_iconst d_912_5 k_2) (e_callS d_912_6 (by decide) ml_9_124 fit_912_902 par_902 rfl rfl (Nat.le_of_ble_eq_true rfl) (Nat.le_of_ble_eq_true rfl) (Nat.le_of_ble_eq_true rfl) rfl (by decide) rfl))))
theorem b912_9 {x1 y0 : Int} {σ : SS} : ev 912 9 [qR 50, qI x1] [qI y0, qR 50] σ = if y0 = 0 then ev 912 12 [qR 50, qI x1] [qR 50] σ else ev 912 16 [qR 50, qI x1] [qR 50] σ :=
  e_if_ne d_912_9 (by decide)
theorem b912_12 {x1 : Int} {σ : SS} : ev 912 12 [qR 50, qI x1] [qR 50] σ = ev 912 17 [qR 50, qI x1] [qI 1, qR 50] σ :=
  Eq.trans (e_iconst d_912_12 k_1) (e_goto d_912_13 (by decide))
theorem b912_16 {x1 : Int} {σ : SS} : ev 912 16 [qR 50, qI x1] [qR 50] σ = ev 912 17 [qR 50, qI x1] [qI 0, qR 50] σ :=
  e_iconst d_912_16 k_0
theorem b912_17 {x1 y0 : Int} {σ : SS} : ev 912 17 [qR 50, qI x1] [qI y0, qR 50] σ = (ev 906 0 [qR 50, qI y0, qI 3, qI x1] [] σ).bind (fun x => ev 912 22 [qR 50, qI x1] (q_push x.1 []) x.2) :=
  Eq.trans (e_iconst d_912_17 k_3) (Eq.trans (e_iload_n d_912_18 rfl) (e_callV d_912_19 ml_9_116 fit_912_906 par_906 rfl rfl sh_50 (Nat.le_of_ble_eq_true rfl) (Nat.le_of_ble_eq_true rfl) (Nat.le_of_ble_eq_true rfl) rfl (by decide) rfl))
theorem b912_22 {x1 y0 : Int} {σ : SS} : ev 912 22 [qR 50, qI x1] [qI y0] σ = if y0 = 0 then ev 912 50 [qR 50, qI x1] [] σ else ev 912 25 [qR 50, qI x1] [] σ :=
  e_if_eq d_912_22 (by decide)
theorem b912_25 {x1 : Int} {σ : SS} (h : -2147483648 ≤ ((σ 50 18) - 1) ∧ ((σ 50 18) - 1) ≤ 2147483647) : ev 912 25 [qR 50, qI x1] [] σ = (ev 909 0 [qR 50, qI 0, qI ((σ 50 18) - 1), qU, qU, qU] [] (q_put σ 50 21 (q_or (σ 50 21) 4))).bind (fun x => ev 912 47 [qR 50, qI x1] (q_push x.1 [qR 50]) x.2) :=
  Eq.trans (e_aload_n d_912_25 rfl) (Eq.trans (e_dup d_912_26 rfl) (Eq.trans (e_getI d_912_27 fl_9_121 sh_50 rfl) (Eq.trans (e_iconst d_912_30 k_4) (Eq.trans (e_ior d_912_31) (Eq.trans (e_put d_912_32 fl_9_121 sh_50 rfl rfl rfl) (Eq.trans (e_aload_n d_912_35 rfl) (Eq.trans (e_aload_n d_912_36 rfl) (Eq.trans (e_iconst d_912_37 k_0) (Eq.trans (e_aload_n d_912_38 rfl) (Eq.trans (e_getI d_912_39 fl_9_135 sh_50 rfl) (Eq.trans (e_iconst d_912_42 k_1) (Eq.trans (e_isub d_912_43 h) (e_callV d_912_44 ml_9_128 fit_912_909 par_909 rfl rfl sh_50 (Nat.le_of_ble_eq_true rfl) (Nat.le_of_ble_eq_true rfl) (Nat.le_of_ble_eq_true rfl) rfl (by decide) rfl)))))))))))))
theorem b912_47 {x1 y0 : Int} {σ : SS} : ev 912 47 [qR 50, qI x1] [qI y0, qR 50] σ = ev 912 50 [qR 50, qI x1] [] (q_put σ 50 20 y0) :=
  e_put d_912_47 fl_9_138 sh_50 rfl rfl rfl
theorem b912_50 {x1 : Int} {σ : SS} : ev 912 50 [qR 50, qI x1] [] σ = some (none, σ) :=
  e_vret d_912_50 rfl
theorem b944_0 {x1 : Int} {σ : SS} : ev 944 0 [qR 50, qI x1, qU, qU, qU] [] σ = ev 944 2 [qR 50, qI x1, qI 0, qU, qU] [] σ :=
  Eq.trans (e_iconst d_944_0 k_0) (e_istore_n d_944_1 (by decide) (Nat.le_of_ble_eq_true rfl) rfl)
theorem b944_2 {x1 x2 : Int} {σ : SS} : ev 944 2 [qR 50, qI x1, qI x2, qU, qU] [] σ = if x2 < 6 then ev 944 8 [qR 50, qI x1, qI x2, qU, qU] [] σ else ev 944 32 [qR 50, qI x1, qI x2, qU, qU] [] σ :=
  Eq.trans (e_iload_n d_944_2 rfl) (Eq.trans (e_bipush d_944_3 kb_6) (e_icmp_ge d_944_5 (by decide)))
theorem b944_8 {x1 x2 : Int} {σ : SS} : ev 944 8 [qR 50, qI x1, qI x2, qU, qU] [] σ = if x2 = x1 then ev 944 18 [qR 50, qI x1, qI x2, qU, qU] [qI x2, qR 63] σ else ev 944 22 [qR 50, qI x1, qI x2, qU, qU] [qI x2, qR 63] σ :=
  Eq.trans (e_aload_n d_944_8 rfl) (Eq.trans (e_getR d_944_9 fl_9_51 sh_50 rfl) (Eq.trans (e_iload_n d_944_12 rfl) (Eq.trans (e_iload_n d_944_13 rfl) (Eq.trans (e_iload_n d_944_14 rfl) (e_icmp_ne d_944_15 (by decide))))))
theorem b944_18 {x1 x2 y0 : Int} {σ : SS} : ev 944 18 [qR 50, qI x1, qI x2, qU, qU] [qI y0, qR 63] σ = ev 944 25 [qR 50, qI x1, qI x2, qU, qU] [qI 0, qI y0, qR 63] σ :=
  Eq.trans (e_iconst d_944_18 k_0) (e_goto d_944_19 (by decide))
theorem b944_22 {x1 x2 y0 : Int} {σ : SS} : ev 944 22 [qR 50, qI x1, qI x2, qU, qU] [qI y0, qR 63] σ = ev 944 25 [qR 50, qI x1, qI x2, qU, qU] [qI 99999999, qI y0, qR 63] σ :=
  e_ldcw d_944_22 ld_9_270 k_99999999
theorem b944_25 {x1 x2 y0 y1 : Int} {σ : SS} (h : (0 ≤ y1 ∧ y1 < 6) ∧ (-2147483648 ≤ (x2 + 1) ∧ (x2 + 1) ≤ 2147483647)) : ev 944 25 [qR 50, qI x1, qI x2, qU, qU] [qI y0, qI y1, qR 63] σ = ev 944 2 [qR 50, qI x1, qI (x2 + 1), qU, qU] [] (q_put σ 63 y1.toNat y0) :=
  Eq.trans (e_iast d_944_25 sh_63 h.1) (Eq.trans (e_iinc d_944_26 (by decide) rfl h.2 rfl) (e_goto d_944_29 (by decide)))
theorem b944_32 {x1 x2 : Int} {σ : SS} : ev 944 32 [qR 50, qI x1, qI x2, qU, qU] [] σ = ev 944 34 [qR 50, qI x1, qI 0, qU, qU] [] σ :=
  Eq.trans (e_iconst d_944_32 k_0) (e_istore_n d_944_33 (by decide) (Nat.le_of_ble_eq_true rfl) rfl)
theorem b944_34 {x1 x2 : Int} {vx3 vx4 : AV} {σ : SS} : ev 944 34 [qR 50, qI x1, qI x2, vx3, vx4] [] σ = if x2 < 6 then ev 944 40 [qR 50, qI x1, qI x2, vx3, vx4] [] σ else ev 944 136 [qR 50, qI x1, qI x2, vx3, vx4] [] σ :=
  Eq.trans (e_iload_n d_944_34 rfl) (Eq.trans (e_bipush d_944_35 kb_6) (e_icmp_ge d_944_37 (by decide)))
theorem b944_40 {x1 x2 : Int} {vx3 vx4 : AV} {σ : SS} : ev 944 40 [qR 50, qI x1, qI x2, vx3, vx4] [] σ = ev 944 42 [qR 50, qI x1, qI x2, qI 0, vx4] [] σ :=
  Eq.trans (e_iconst d_944_40 k_0) (e_istore_n d_944_41 (by decide) (Nat.le_of_ble_eq_true rfl) rfl)
theorem b944_42 {x1 x2 x3 : Int} {vx4 : AV} {σ : SS} : ev 944 42 [qR 50, qI x1, qI x2, qI x3, vx4] [] σ = if x3 < (σ 50 13) then ev 944 50 [qR 50, qI x1, qI x2, qI x3, vx4] [] σ else ev 944 130 [qR 50, qI x1, qI x2, qI x3, vx4] [] σ :=
  Eq.trans (e_iload_n d_944_42 rfl) (Eq.trans (e_aload_n d_944_43 rfl) (Eq.trans (e_getI d_944_44 fl_9_188 sh_50 rfl) (e_icmp_ge d_944_47 (by decide))))
theorem b944_50 {x1 x2 x3 : Int} {vx4 : AV} {σ : SS} : ev 944 50 [qR 50, qI x1, qI x2, qI x3, vx4] [] σ = ev 944 53 [qR 50, qI x1, qI x2, qI x3, qI 0] [] σ :=
  Eq.trans (e_iconst d_944_50 k_0) (e_istore d_944_51 (by decide) (Nat.le_of_ble_eq_true rfl) rfl)
theorem b944_53 {x1 x2 x3 x4 : Int} {σ : SS} : ev 944 53 [qR 50, qI x1, qI x2, qI x3, qI x4] [] σ = if x4 < (σ 50 13) then ev 944 62 [qR 50, qI x1, qI x2, qI x3, qI x4] [] σ else ev 944 124 [qR 50, qI x1, qI x2, qI x3, qI x4] [] σ :=
  Eq.trans (e_iload d_944_53 rfl) (Eq.trans (e_aload_n d_944_55 rfl) (Eq.trans (e_getI d_944_56 fl_9_188 sh_50 rfl) (e_icmp_ge d_944_59 (by decide))))
theorem b944_62 {x1 x2 x3 x4 : Int} {σ : SS} (h : 0 ≤ x3 ∧ x3 < 12) : ev 944 62 [qR 50, qI x1, qI x2, qI x3, qI x4] [] σ = (ev 902 0 [qI (σ 55 x3.toNat), qI x4] [] σ).bind (fun x => ev 944 78 [qR 50, qI x1, qI x2, qI x3, qI x4] (q_push x.1 [qI x3, qR 63]) x.2) :=
  Eq.trans (e_aload_n d_944_62 rfl) (Eq.trans (e_getR d_944_63 fl_9_51 sh_50 rfl) (Eq.trans (e_iload_n d_944_66 rfl) (Eq.trans (e_aload_n d_944_67 rfl) (Eq.trans (e_getR d_944_68 fl_9_23 sh_50 rfl) (Eq.trans (e_iload_n d_944_71 rfl) (Eq.trans (e_iald d_944_72 sh_55 h) (Eq.trans (e_iload d_944_73 rfl) (e_callS d_944_75 (by decide) ml_9_124 fit_944_902 par_902 rfl rfl (Nat.le_of_ble_eq_true rfl) (Nat.le_of_ble_eq_true rfl) (Nat.le_of_ble_eq_true rfl) rfl (by decide) rfl))))))))
theorem b944_78 {x1 x2 x3 x4 y0 y1 : Int} {σ : SS} : ev 944 78 [qR 50, qI x1, qI x2, qI x3, qI x4] [qI y0, qI y1, qR 63] σ = if y0 = 0 then ev 944 111 [qR 50, qI x1, qI x2, qI x3, qI x4] [qI y1, qR 63] σ else ev 944 81 [qR 50, qI x1, qI x2, qI x3, qI x4] [qI y1, qR 63] σ :=
  e_if_eq d_944_78 (by decide)
theorem b944_81 {x1 x2 x3 x4 y0 : Int} {σ : SS} (h : (0 ≤ x4 ∧ x4 < 6) ∧ (-2147483648 ≤ ((σ 63 x4.toNat) + 1) ∧ ((σ 63 x4.toNat) + 1) ≤ 2147483647) ∧ (0 ≤ x3 ∧ x3 < 6)) : ev 944 81 [qR 50, qI x1, qI x2, qI x3, qI x4] [qI y0, qR 63] σ = if ((σ 63 x4.toNat) + 1) < (σ 63 x3.toNat) then ev 944 99 [qR 50, qI x1, qI x2, qI x3, qI x4] [qI y0, qR 63] σ else ev 944 111 [qR 50, qI x1, qI x2, qI x3, qI x4] [qI y0, qR 63] σ :=
  Eq.trans (e_aload_n d_944_81 rfl) (Eq.trans (e_getR d_944_82 fl_9_51 sh_50 rfl) (Eq.trans (e_iload d_944_85 rfl) (Eq.trans (e_iald d_944_87 sh_63 h.1) (Eq.trans (e_iconst d_944_88 k_1) (Eq.trans (e_iadd d_944_89 h.2.1) (Eq.trans (e_aload_n d_944_90 rfl) (Eq.trans (e_getR d_944_91 fl_9_51 sh_50 rfl) (Eq.trans (e_iload_n d_944_94 rfl) (Eq.trans (e_iald d_944_95 sh_63 h.2.2) (e_icmp_ge d_944_96 (by decide)))))))))))
theorem b944_99 {x1 x2 x3 x4 y0 : Int} {σ : SS} (h : (0 ≤ x4 ∧ x4 < 6) ∧ (-2147483648 ≤ ((σ 63 x4.toNat) + 1) ∧ ((σ 63 x4.toNat) + 1) ≤ 2147483647)) : ev 944 99 [qR 50, qI x1, qI x2, qI x3, qI x4] [qI y0, qR 63] σ = ev 944 117 [qR 50, qI x1, qI x2, qI x3, qI x4] [qI ((σ 63 x4.toNat) + 1), qI y0, qR 63] σ :=
  Eq.trans (e_aload_n d_944_99 rfl) (Eq.trans (e_getR d_944_100 fl_9_51 sh_50 rfl) (Eq.trans (e_iload d_944_103 rfl) (Eq.trans (e_iald d_944_105 sh_63 h.1) (Eq.trans (e_iconst d_944_106 k_1) (Eq.trans (e_iadd d_944_107 h.2) (e_goto d_944_108 (by decide)))))))
theorem b944_111 {x1 x2 x3 x4 y0 : Int} {σ : SS} (h : 0 ≤ x3 ∧ x3 < 6) : ev 944 111 [qR 50, qI x1, qI x2, qI x3, qI x4] [qI y0, qR 63] σ = ev 944 117 [qR 50, qI x1, qI x2, qI x3, qI x4] [qI (σ 63 x3.toNat), qI y0, qR 63] σ :=
  Eq.trans (e_aload_n d_944_111 rfl) (Eq.trans (e_getR d_944_112 fl_9_51 sh_50 rfl) (Eq.trans (e_iload_n d_944_115 rfl) (e_iald d_944_116 sh_63 h)))
theorem b944_117 {x1 x2 x3 x4 y0 y1 : Int} {σ : SS} (h : (0 ≤ y1 ∧ y1 < 6) ∧ (-2147483648 ≤ (x4 + 1) ∧ (x4 + 1) ≤ 2147483647)) : ev 944 117 [qR 50, qI x1, qI x2, qI x3, qI x4] [qI y0, qI y1, qR 63] σ = ev 944 53 [qR 50, qI x1, qI x2, qI x3, qI (x4 + 1)] [] (q_put σ 63 y1.toNat y0) :=
  Eq.trans (e_iast d_944_117 sh_63 h.1) (Eq.trans (e_iinc d_944_118 (by decide) rfl h.2 rfl) (e_goto d_944_121 (by decide)))
theorem b944_124 {x1 x2 x3 x4 : Int} {σ : SS} (h : -2147483648 ≤ (x3 + 1) ∧ (x3 + 1) ≤ 2147483647) : ev 944 124 [qR 50, qI x1, qI x2, qI x3, qI x4] [] σ = ev 944 42 [qR 50, qI x1, qI x2, qI (x3 + 1), qI x4] [] σ :=
  Eq.trans (e_iinc d_944_124 (by decide) rfl h rfl) (e_goto d_944_127 (by decide))
theorem b944_130 {x1 x2 x3 : Int} {vx4 : AV} {σ : SS} (h : -2147483648 ≤ (x2 + 1) ∧ (x2 + 1) ≤ 2147483647) : ev 944 130 [qR 50, qI x1, qI x2, qI x3, vx4] [] σ = ev 944 34 [qR 50, qI x1, qI (x2 + 1), qI x3, vx4] [] σ :=
  Eq.trans (e_iinc d_944_130 (by decide) rfl h rfl) (e_goto d_944_133 (by decide))
theorem b944_136 {x1 x2 : Int} {vx3 vx4 : AV} {σ : SS} : ev 944 136 [qR 50, qI x1, qI x2, vx3, vx4] [] σ = some (none, σ) :=
  e_vret d_944_136 rfl
theorem b951_0 {x1 : Int} {σ : SS} : ev 951 0 [qR 50, qI x1, qU, qU, qU, qU, qU, qU] [] σ = ev 951 2 [qR 50, qI x1, qI 0, qU, qU, qU, qU, qU] [] σ :=
  Eq.trans (e_iconst d_951_0 k_0) (e_istore_n d_951_1 (by decide) (Nat.le_of_ble_eq_true rfl) rfl)
theorem b951_2 {x1 x2 : Int} {vx3 : AV} {σ : SS} : ev 951 2 [qR 50, qI x1, qI x2, vx3, qU, qU, qU, qU] [] σ = if x2 < 216 then ev 951 9 [qR 50, qI x1, qI x2, vx3, qU, qU, qU, qU] [] σ else ev 951 52 [qR 50, qI x1, qI x2, vx3, qU, qU, qU, qU] [] σ :=
  Eq.trans (e_iload_n d_951_2 rfl) (Eq.trans (e_sipush d_951_3 ks_216) (e_icmp_ge d_951_6 (by decide)))
theorem b951_9 {x1 x2 : Int} {vx3 : AV} {σ : SS} (h : (0 ≤ x2 ∧ x2 ≤ 2147483647 ∧ (0 : Int) < 6 ∧ (6 : Int) ≤ 2147483647) ∧ (0 ≤ (x2 / 6) ∧ (x2 / 6) ≤ 2147483647 ∧ (0 : Int) < 6 ∧ (6 : Int) ≤ 2147483647)) : ev 951 9 [qR 50, qI x1, qI x2, vx3, qU, qU, qU, qU] [] σ = if (x2 % 6) = ((x2 / 6) % 6) then ev 951 38 [qR 50, qI x1, qI x2, qI (x2 % 6), qU, qU, qU, qU] [qI x2, qR 64] σ else ev 951 30 [qR 50, qI x1, qI x2, qI (x2 % 6), qU, qU, qU, qU] [qI x2, qR 64] σ :=
  Eq.trans (e_iload_n d_951_9 rfl) (Eq.trans (e_bipush d_951_10 kb_6) (Eq.trans (e_irem d_951_12 h.1) (Eq.trans (e_istore_n d_951_13 (by decide) (Nat.le_of_ble_eq_true rfl) rfl) (Eq.trans (e_aload_n d_951_14 rfl) (Eq.trans (e_getR d_951_15 fl_9_54 sh_50 rfl) (Eq.trans (e_iload_n d_951_18 rfl) (Eq.trans (e_iload_n d_951_19 rfl) (Eq.trans (e_iload_n d_951_20 rfl) (Eq.trans (e_bipush d_951_21 kb_6) (Eq.trans (e_idiv d_951_23 h.1) (Eq.trans (e_bipush d_951_24 kb_6) (Eq.trans (e_irem d_951_26 h.2) (e_icmp_eq d_951_27 (by decide))))))))))))))
theorem b951_30 {x1 x2 x3 y0 : Int} {σ : SS} (h : 0 ≤ x2 ∧ x2 ≤ 2147483647 ∧ (0 : Int) < 36 ∧ (36 : Int) ≤ 2147483647) : ev 951 30 [qR 50, qI x1, qI x2, qI x3, qU, qU, qU, qU] [qI y0, qR 64] σ = if x3 = (x2 / 36) then ev 951 38 [qR 50, qI x1, qI x2, qI x3, qU, qU, qU, qU] [qI y0, qR 64] σ else ev 951 42 [qR 50, qI x1, qI x2, qI x3, qU, qU, qU, qU] [qI y0, qR 64] σ :=
  Eq.trans (e_iload_n d_951_30 rfl) (Eq.trans (e_iload_n d_951_31 rfl) (Eq.trans (e_bipush d_951_32 kb_36) (Eq.trans (e_idiv d_951_34 h) (e_icmp_ne d_951_35 (by decide)))))
theorem b951_38 {x1 x2 x3 y0 : Int} {σ : SS} : ev 951 38 [qR 50, qI x1, qI x2, qI x3, qU, qU, qU, qU] [qI y0, qR 64] σ = ev 951 45 [qR 50, qI x1, qI x2, qI x3, qU, qU, qU, qU] [qI 0, qI y0, qR 64] σ :=
  Eq.trans (e_iconst d_951_38 k_0) (e_goto d_951_39 (by decide))
theorem b951_42 {x1 x2 x3 y0 : Int} {σ : SS} : ev 951 42 [qR 50, qI x1, qI x2, qI x3, qU, qU, qU, qU] [qI y0, qR 64] σ = ev 951 45 [qR 50, qI x1, qI x2, qI x3, qU, qU, qU, qU] [qI 99999999, qI y0, qR 64] σ :=
  e_ldcw d_951_42 ld_9_270 k_99999999
theorem b951_45 {x1 x2 x3 y0 y1 : Int} {σ : SS} (h : (0 ≤ y1 ∧ y1 < 216) ∧ (-2147483648 ≤ (x2 + 1) ∧ (x2 + 1) ≤ 2147483647)) : ev 951 45 [qR 50, qI x1, qI x2, qI x3, qU, qU, qU, qU] [qI y0, qI y1, qR 64] σ = ev 951 2 [qR 50, qI x1, qI (x2 + 1), qI x3, qU, qU, qU, qU] [] (q_put σ 64 y1.toNat y0) :=
  Eq.trans (e_iast d_951_45 sh_64 h.1) (Eq.trans (e_iinc d_951_46 (by decide) rfl h.2 rfl) (e_goto d_951_49 (by decide)))
theorem b951_52 {x1 x2 : Int} {vx3 : AV} {σ : SS} : ev 951 52 [qR 50, qI x1, qI x2, vx3, qU, qU, qU, qU] [] σ = ev 951 54 [qR 50, qI x1, qI 1, vx3, qU, qU, qU, qU] [] σ :=
  Eq.trans (e_iconst d_951_52 k_1) (e_istore_n d_951_53 (by decide) (Nat.le_of_ble_eq_true rfl) rfl)
theorem b951_54 {x1 x2 : Int} {vx3 vx4 vx5 vx6 vx7 : AV} {σ : SS} : ev 951 54 [qR 50, qI x1, qI x2, vx3, vx4, vx5, vx6, vx7] [] σ = if x2 = 0 then ev 951 207 [qR 50, qI x1, qI x2, vx3, vx4, vx5, vx6, vx7] [] σ else ev 951 58 [qR 50, qI x1, qI x2, vx3, vx4, vx5, vx6, vx7] [] σ :=
  Eq.trans (e_iload_n d_951_54 rfl) (e_if_eq d_951_55 (by decide))
theorem b951_58 {x1 x2 : Int} {vx3 vx4 vx5 vx6 vx7 : AV} {σ : SS} : ev 951 58 [qR 50, qI x1, qI x2, vx3, vx4, vx5, vx6, vx7] [] σ = ev 951 62 [qR 50, qI x1, qI 0, qI 0, vx4, vx5, vx6, vx7] [] σ :=
  Eq.trans (e_iconst d_951_58 k_0) (Eq.trans (e_istore_n d_951_59 (by decide) (Nat.le_of_ble_eq_true rfl) rfl) (Eq.trans (e_iconst d_951_60 k_0) (e_istore_n d_951_61 (by decide) (Nat.le_of_ble_eq_true rfl) rfl)))
theorem b951_62 {x1 x2 x3 : Int} {vx4 vx5 vx6 vx7 : AV} {σ : SS} : ev 951 62 [qR 50, qI x1, qI x2, qI x3, vx4, vx5, vx6, vx7] [] σ = if x3 < (σ 50 13) then ev 951 70 [qR 50, qI x1, qI x2, qI x3, vx4, vx5, vx6, vx7] [] σ else ev 951 204 [qR 50, qI x1, qI x2, qI x3, vx4, vx5, vx6, vx7] [] σ :=
  Eq.trans (e_iload_n d_951_62 rfl) (Eq.trans (e_aload_n d_951_63 rfl) (Eq.trans (e_getI d_951_64 fl_9_188 sh_50 rfl) (e_icmp_ge d_951_67 (by decide))))
theorem b951_70 {x1 x2 x3 : Int} {vx4 vx5 vx6 vx7 : AV} {σ : SS} : ev 951 70 [qR 50, qI x1, qI x2, qI x3, vx4, vx5, vx6, vx7] [] σ = ev 951 73 [qR 50, qI x1, qI x2, qI x3, qI 0, vx5, vx6, vx7] [] σ :=
  Eq.trans (e_iconst d_951_70 k_0) (e_istore d_951_71 (by decide) (Nat.le_of_ble_eq_true rfl) rfl)
theorem b951_73 {x1 x2 x3 x4 : Int} {vx5 vx6 vx7 : AV} {σ : SS} : ev 951 73 [qR 50, qI x1, qI x2, qI x3, qI x4, vx5, vx6, vx7] [] σ = if x4 < (σ 50 13) then ev 951 82 [qR 50, qI x1, qI x2, qI x3, qI x4, vx5, vx6, vx7] [] σ else ev 951 198 [qR 50, qI x1, qI x2, qI x3, qI x4, vx5, vx6, vx7] [] σ :=
  Eq.trans (e_iload d_951_73 rfl) (Eq.trans (e_aload_n d_951_75 rfl) (Eq.trans (e_getI d_951_76 fl_9_188 sh_50 rfl) (e_icmp_ge d_951_79 (by decide))))
theorem b951_82 {x1 x2 x3 x4 : Int} {vx5 vx6 vx7 : AV} {σ : SS} : ev 951 82 [qR 50, qI x1, qI x2, qI x3, qI x4, vx5, vx6, vx7] [] σ = ev 951 85 [qR 50, qI x1, qI x2, qI x3, qI x4, qI 0, vx6, vx7] [] σ :=
  Eq.trans (e_iconst d_951_82 k_0) (e_istore d_951_83 (by decide) (Nat.le_of_ble_eq_true rfl) rfl)
theorem b951_85 {x1 x2 x3 x4 x5 : Int} {vx6 vx7 : AV} {σ : SS} : ev 951 85 [qR 50, qI x1, qI x2, qI x3, qI x4, qI x5, vx6, vx7] [] σ = if x5 < (σ 50 13) then ev 951 94 [qR 50, qI x1, qI x2, qI x3, qI x4, qI x5, vx6, vx7] [] σ else ev 951 192 [qR 50, qI x1, qI x2, qI x3, qI x4, qI x5, vx6, vx7] [] σ :=
  Eq.trans (e_iload d_951_85 rfl) (Eq.trans (e_aload_n d_951_87 rfl) (Eq.trans (e_getI d_951_88 fl_9_188 sh_50 rfl) (e_icmp_ge d_951_91 (by decide))))
theorem b951_94 {x1 x2 x3 x4 x5 : Int} {vx6 vx7 : AV} {σ : SS} : ev 951 94 [qR 50, qI x1, qI x2, qI x3, qI x4, qI x5, vx6, vx7] [] σ = if x1 = 2 then ev 951 105 [qR 50, qI x1, qI x2, qI x3, qI x4, qI x5, vx6, vx7] [] σ else ev 951 99 [qR 50, qI x1, qI x2, qI x3, qI x4, qI x5, vx6, vx7] [] σ :=
  Eq.trans (e_iload_n d_951_94 rfl) (Eq.trans (e_iconst d_951_95 k_2) (e_icmp_eq d_951_96 (by decide)))
theorem b951_99 {x1 x2 x3 x4 x5 : Int} {vx6 vx7 : AV} {σ : SS} : ev 951 99 [qR 50, qI x1, qI x2, qI x3, qI x4, qI x5, vx6, vx7] [] σ = if x3 = x4 then ev 951 105 [qR 50, qI x1, qI x2, qI x3, qI x4, qI x5, vx6, vx7] [] σ else ev 951 109 [qR 50, qI x1, qI x2, qI x3, qI x4, qI x5, vx6, vx7] [] σ :=
  Eq.trans (e_iload_n d_951_99 rfl) (Eq.trans (e_iload d_951_100 rfl) (e_icmp_ne d_951_102 (by decide)))
theorem b951_105 {x1 x2 x3 x4 x5 : Int} {vx6 vx7 : AV} {σ : SS} : ev 951 105 [qR 50, qI x1, qI x2, qI x3, qI x4, qI x5, vx6, vx7] [] σ = ev 951 110 [qR 50, qI x1, qI x2, qI x3, qI x4, qI x5, vx6, vx7] [qI 1] σ :=
  Eq.trans (e_iconst d_951_105 k_1) (e_goto d_951_106 (by decide))
theorem b951_109 {x1 x2 x3 x4 x5 : Int} {vx6 vx7 : AV} {σ : SS} : ev 951 109 [qR 50, qI x1, qI x2, qI x3, qI x4, qI x5, vx6, vx7] [] σ = ev 951 110 [qR 50, qI x1, qI x2, qI x3, qI x4, qI x5, vx6, vx7] [qI 0] σ :=
  e_iconst d_951_109 k_0
theorem b951_110 {x1 x2 x3 x4 x5 y0 : Int} {vx6 vx7 : AV} {σ : SS} : ev 951 110 [qR 50, qI x1, qI x2, qI x3, qI x4, qI x5, vx6, vx7] [qI y0] σ = if y0 = 0 then ev 951 146 [qR 50, qI x1, qI x2, qI x3, qI x4, qI x5, qI y0, vx7] [] σ else ev 951 117 [qR 50, qI x1, qI x2, qI x3, qI x4, qI x5, qI y0, vx7] [] σ :=
  Eq.trans (e_istore d_951_110 (by decide) (Nat.le_of_ble_eq_true rfl) rfl) (Eq.trans (e_iload d_951_112 rfl) (e_if_eq d_951_114 (by decide)))
theorem b951_117 {x1 x2 x3 x4 x5 x6 : Int} {vx7 : AV} {σ : SS} : ev 951 117 [qR 50, qI x1, qI x2, qI x3, qI x4, qI x5, qI x6, vx7] [] σ = (ev 948 0 [qI x3, qI x4, qI x5] [] σ).bind (fun x => ev 951 129 [qR 50, qI x1, qI x2, qI x3, qI x4, qI x5, qI x6, vx7] (q_push x.1 [qR 64]) x.2) :=
  Eq.trans (e_aload_n d_951_117 rfl) (Eq.trans (e_getR d_951_118 fl_9_54 sh_50 rfl) (Eq.trans (e_iload_n d_951_121 rfl) (Eq.trans (e_iload d_951_122 rfl) (Eq.trans (e_iload d_951_124 rfl) (e_callS d_951_126 (by decide) ml_9_280 fit_951_948 par_948 rfl rfl (Nat.le_of_ble_eq_true rfl) (Nat.le_of_ble_eq_true rfl) (Nat.le_of_ble_eq_true rfl) rfl (by decide) rfl)))))
theorem b951_129 {x1 x2 x3 x4 x5 x6 y0 : Int} {vx7 : AV} {σ : SS} (h : 0 ≤ y0 ∧ y0 < 216) : ev 951 129 [qR 50, qI x1, qI x2, qI x3, qI x4, qI x5, qI x6, vx7] [qI y0, qR 64] σ = if 0 < (σ 64 y0.toNat) then ev 951 133 [qR 50, qI x1, qI x2, qI x3, qI x4, qI x5, qI x6, vx7] [] σ else ev 951 146 [qR 50, qI x1, qI x2, qI x3, qI x4, qI x5, qI x6, vx7] [] σ :=
  Eq.trans (e_iald d_951_129 sh_64 h) (e_if_le d_951_130 (by decide))
theorem b951_133 {x1 x2 x3 x4 x5 x6 : Int} {vx7 : AV} {σ : SS} : ev 951 133 [qR 50, qI x1, qI x2, qI x3, qI x4, qI x5, qI x6, vx7] [] σ = (ev 950 0 [qR 50, qI x1, qI x3, qI x4, qI x5, qU, qU, qU, qU, qU] [] σ).bind (fun x => ev 951 143 [qR 50, qI x1, qI x2, qI x3, qI x4, qI x5, qI x6, vx7] (q_push x.1 []) x.2) :=
  Eq.trans (e_aload_n d_951_133 rfl) (Eq.trans (e_iload_n d_951_134 rfl) (Eq.trans (e_iload_n d_951_135 rfl) (Eq.trans (e_iload d_951_136 rfl) (Eq.trans (e_iload d_951_138 rfl) (e_callV d_951_140 ml_9_286 fit_951_950 par_950 rfl rfl sh_50 (Nat.le_of_ble_eq_true rfl) (Nat.le_of_ble_eq_true rfl) (Nat.le_of_ble_eq_true rfl) rfl (by decide) rfl)))))
theorem b951_143 {x1 x2 x3 x4 x5 x6 y0 : Int} {vx7 : AV} {σ : SS} : ev 951 143 [qR 50, qI x1, qI x2, qI x3, qI x4, qI x5, qI x6, vx7] [qI y0] σ = ev 951 149 [qR 50, qI x1, qI x2, qI x3, qI x4, qI x5, qI x6, vx7] [qI y0] σ :=
  e_goto d_951_143 (by decide)
theorem b951_146 {x1 x2 x3 x4 x5 x6 : Int} {vx7 : AV} {σ : SS} : ev 951 146 [qR 50, qI x1, qI x2, qI x3, qI x4, qI x5, qI x6, vx7] [] σ = ev 951 149 [qR 50, qI x1, qI x2, qI x3, qI x4, qI x5, qI x6, vx7] [qI 99999999] σ :=
  e_ldcw d_951_146 ld_9_270 k_99999999
theorem b951_149 {x1 x2 x3 x4 x5 x6 y0 : Int} {vx7 : AV} {σ : SS} : ev 951 149 [qR 50, qI x1, qI x2, qI x3, qI x4, qI x5, qI x6, vx7] [qI y0] σ = (ev 948 0 [qI x3, qI x4, qI x5] [] σ).bind (fun x => ev 951 165 [qR 50, qI x1, qI x2, qI x3, qI x4, qI x5, qI x6, qI y0] (q_push x.1 [qR 64, qI y0]) x.2) :=
  Eq.trans (e_istore d_951_149 (by decide) (Nat.le_of_ble_eq_true rfl) rfl) (Eq.trans (e_iload d_951_151 rfl) (Eq.trans (e_aload_n d_951_153 rfl) (Eq.trans (e_getR d_951_154 fl_9_54 sh_50 rfl) (Eq.trans (e_iload_n d_951_157 rfl) (Eq.trans (e_iload d_951_158 rfl) (Eq.trans (e_iload d_951_160 rfl) (e_callS d_951_162 (by decide) ml_9_280 fit_951_948 par_948 rfl rfl (Nat.le_of_ble_eq_true rfl) (Nat.le_of_ble_eq_true rfl) (Nat.le_of_ble_eq_true rfl) rfl (by decide) rfl)))))))
theorem b951_165 {x1 x2 x3 x4 x5 x6 x7 y0 y2 : Int} {σ : SS} (h : 0 ≤ y0 ∧ y0 < 216) : ev 951 165 [qR 50, qI x1, qI x2, qI x3, qI x4, qI x5, qI x6, qI x7] [qI y0, qR 64, qI y2] σ = if y2 < (σ 64 y0.toNat) then ev 951 169 [qR 50, qI x1, qI x2, qI x3, qI x4, qI x5, qI x6, qI x7] [] σ else ev 951 186 [qR 50, qI x1, qI x2, qI x3, qI x4, qI x5, qI x6, qI x7] [] σ :=
  Eq.trans (e_iald d_951_165 sh_64 h) (e_icmp_ge d_951_166 (by decide))
theorem b951_169 {x1 x2 x3 x4 x5 x6 x7 : Int} {σ : SS} : ev 951 169 [qR 50, qI x1, qI x2, qI x3, qI x4, qI x5, qI x6, qI x7] [] σ = (ev 948 0 [qI x3, qI x4, qI x5] [] σ).bind (fun x => ev 951 181 [qR 50, qI x1, qI x2, qI x3, qI x4, qI x5, qI x6, qI x7] (q_push x.1 [qR 64]) x.2) :=
  Eq.trans (e_aload_n d_951_169 rfl) (Eq.trans (e_getR d_951_170 fl_9_54 sh_50 rfl) (Eq.trans (e_iload_n d_951_173 rfl) (Eq.trans (e_iload d_951_174 rfl) (Eq.trans (e_iload d_951_176 rfl) (e_callS d_951_178 (by decide) ml_9_280 fit_951_948 par_948 rfl rfl (Nat.le_of_ble_eq_true rfl) (Nat.le_of_ble_eq_true rfl) (Nat.le_of_ble_eq_true rfl) rfl (by decide) rfl)))))
theorem b951_181 {x1 x2 x3 x4 x5 x6 x7 y0 : Int} {σ : SS} (h : 0 ≤ y0 ∧ y0 < 216) : ev 951 181 [qR 50, qI x1, qI x2, qI x3, qI x4, qI x5, qI x6, qI x7] [qI y0, qR 64] σ = ev 951 186 [qR 50, qI x1, qI 1, qI x3, qI x4, qI x5, qI x6, qI x7] [] (q_put σ 64 y0.toNat x7) :=
  Eq.trans (e_iload d_951_181 rfl) (Eq.trans (e_iast d_951_183 sh_64 h) (Eq.trans (e_iconst d_951_184 k_1) (e_istore_n d_951_185 (by decide) (Nat.le_of_ble_eq_true rfl) rfl)))
theorem b951_186 {x1 x2 x3 x4 x5 x6 x7 : Int} {σ : SS} (h : -2147483648 ≤ (x5 + 1) ∧ (x5 + 1) ≤ 2147483647) : ev 951 186 [qR 50, qI x1, qI x2, qI x3, qI x4, qI x5, qI x6, qI x7] [] σ = ev 951 85 [qR 50, qI x1, qI x2, qI x3, qI x4, qI (x5 + 1), qI x6, qI x7] [] σ :=
  Eq.trans (e_iinc d_951_186 (by decide) rfl h rfl) (e_goto d_951_189 (by decide))
theorem b951_192 {x1 x2 x3 x4 x5 : Int} {vx6 vx7 : AV} {σ : SS} (h : -2147483648 ≤ (x4 + 1) ∧ (x4 + 1) ≤ 2147483647) : ev 951 192 [qR 50, qI x1, qI x2, qI x3, qI x4, qI x5, vx6, vx7] [] σ = ev 951 73 [qR 50, qI x1, qI x2, qI x3, qI (x4 + 1), qI x5, vx6, vx7] [] σ :=
  Eq.trans (e_iinc d_951_192 (by decide) rfl h rfl) (e_goto d_951_195 (by decide))
theorem b951_198 {x1 x2 x3 x4 : Int} {vx5 vx6 vx7 : AV} {σ : SS} (h : -2147483648 ≤ (x3 + 1) ∧ (x3 + 1) ≤ 2147483647) : ev 951 198 [qR 50, qI x1, qI x2, qI x3, qI x4, vx5, vx6, vx7] [] σ = ev 951 62 [qR 50, qI x1, qI x2, qI (x3 + 1), qI x4, vx5, vx6, vx7] [] σ :=
  Eq.trans (e_iinc d_951_198 (by decide) rfl h rfl) (e_goto d_951_201 (by decide))
theorem b951_204 {x1 x2 x3 : Int} {vx4 vx5 vx6 vx7 : AV} {σ : SS} : ev 951 204 [qR 50, qI x1, qI x2, qI x3, vx4, vx5, vx6, vx7] [] σ = ev 951 54 [qR 50, qI x1, qI x2, qI x3, vx4, vx5, vx6, vx7] [] σ :=
  e_goto d_951_204 (by decide)
theorem b951_207 {x1 x2 : Int} {vx3 vx4 vx5 vx6 vx7 : AV} {σ : SS} : ev 951 207 [qR 50, qI x1, qI x2, vx3, vx4, vx5, vx6, vx7] [] σ = some (none, σ) :=
  e_vret d_951_207 rfl
theorem b948_0 {x0 x1 x2 : Int} {σ : SS} (h : (-2147483648 ≤ (x0 * 6) ∧ (x0 * 6) ≤ 2147483647) ∧ (-2147483648 ≤ ((x0 * 6) + x1) ∧ ((x0 * 6) + x1) ≤ 2147483647) ∧ (-2147483648 ≤ (((x0 * 6) + x1) * 6) ∧ (((x0 * 6) + x1) * 6) ≤ 2147483647) ∧ (-2147483648 ≤ ((((x0 * 6) + x1) * 6) + x2) ∧ ((((x0 * 6) + x1) * 6) + x2) ≤ 2147483647)) : ev 948 0 [qI x0, qI x1, qI x2] [] σ = some (some (qI ((((x0 * 6) + x1) * 6) + x2)), σ) :=
  Eq.trans (e_iload_n d_948_0 rfl) (Eq.trans (e_bipush d_948_1 kb_6) (Eq.trans (e_imul d_948_3 h.1) (Eq.trans (e_iload_n d_948_4 rfl) (Eq.trans (e_iadd d_948_5 h.2.1) (Eq.trans (e_bipush d_948_6 kb_6) (Eq.trans (e_imul d_948_8 h.2.2.1) (Eq.trans (e_iload_n d_948_9 rfl) (Eq.trans (e_iadd d_948_10 h.2.2.2) (e_iret d_948_11 (q_okrI rfl))))))))))
theorem b909_0 {x1 x2 : Int} {σ : SS} : ev 909 0 [qR 50, qI x1, qI x2, qU, qU, qU] [] σ = if 0 < (σ 50 28) then ev 909 7 [qR 50, qI x1, qI x2, qU, qU, qU] [] σ else ev 909 9 [qR 50, qI x1, qI x2, qU, qU, qU] [] σ :=
  Eq.trans (e_aload_n d_909_0 rfl) (Eq.trans (e_getI d_909_1 fl_9_95 sh_50 rfl) (e_if_le d_909_4 (by decide)))
theorem b909_7 {x1 x2 : Int} {σ : SS} : ev 909 7 [qR 50, qI x1, qI x2, qU, qU, qU] [] σ = some (some (qI 0), σ) :=
  Eq.trans (e_iconst d_909_7 k_0) (e_iret d_909_8 (q_okrI rfl))
theorem b909_9 {x1 x2 : Int} {σ : SS} : ev 909 9 [qR 50, qI x1, qI x2, qU, qU, qU] [] σ = (ev 905 0 [qR 50] [] σ).bind (fun x => ev 909 13 [qR 50, qI x1, qI x2, qU, qU, qU] (q_push x.1 []) x.2) :=
  Eq.trans (e_aload_n d_909_9 rfl) (e_callV d_909_10 ml_9_98 fit_909_905 par_905 rfl rfl sh_50 (Nat.le_of_ble_eq_true rfl) (Nat.le_of_ble_eq_true rfl) (Nat.le_of_ble_eq_true rfl) rfl (by decide) rfl)
theorem b909_13 {x1 x2 y0 : Int} {σ : SS} : ev 909 13 [qR 50, qI x1, qI x2, qU, qU, qU] [qI y0] σ = (ev 900 0 [qL y0, qU, qL 48, qU, qL 57, qU] [] (q_put σ 50 26 (σ 50 25))).bind (fun x => ev 909 34 [qR 50, qI x1, qI x2, qI y0, qU, qU] (q_push x.1 [qR 50]) x.2) :=
  Eq.trans (e_istore_n d_909_13 (by decide) (Nat.le_of_ble_eq_true rfl) rfl) (Eq.trans (e_aload_n d_909_14 rfl) (Eq.trans (e_aload_n d_909_15 rfl) (Eq.trans (e_getI d_909_16 fl_9_92 sh_50 rfl) (Eq.trans (e_put d_909_19 fl_9_102 sh_50 rfl rfl rfl) (Eq.trans (e_aload_n d_909_22 rfl) (Eq.trans (e_iload_n d_909_23 rfl) (Eq.trans (e_i2l d_909_24) (Eq.trans (e_ldc2 d_909_25 ll_9_112.1 ll_9_112.2) (Eq.trans (e_ldc2 d_909_28 ll_9_114.1 ll_9_114.2) (e_callS d_909_31 (by decide) ml_9_83 fit_909_900 par_900 rfl rfl (Nat.le_of_ble_eq_true rfl) (Nat.le_of_ble_eq_true rfl) (Nat.le_of_ble_eq_true rfl) rfl (by decide) rfl))))))))))
theorem b909_34 {x1 x2 x3 y0 : Int} {σ : SS} : ev 909 34 [qR 50, qI x1, qI x2, qI x3, qU, qU] [qI y0, qR 50] σ = (ev 906 0 [qR 50, qI y0, qI 1, qI (σ 50 25)] [] σ).bind (fun x => ev 909 42 [qR 50, qI x1, qI x2, qI x3, qU, qU] (q_push x.1 []) x.2) :=
  Eq.trans (e_iconst d_909_34 k_1) (Eq.trans (e_aload_n d_909_35 rfl) (Eq.trans (e_getI d_909_36 fl_9_92 sh_50 rfl) (e_callV d_909_39 ml_9_116 fit_909_906 par_906 rfl rfl sh_50 (Nat.le_of_ble_eq_true rfl) (Nat.le_of_ble_eq_true rfl) (Nat.le_of_ble_eq_true rfl) rfl (by decide) rfl)))
theorem b909_42 {x1 x2 x3 y0 : Int} {σ : SS} : ev 909 42 [qR 50, qI x1, qI x2, qI x3, qU, qU] [qI y0] σ = if y0 = 0 then ev 909 45 [qR 50, qI x1, qI x2, qI x3, qU, qU] [] σ else ev 909 47 [qR 50, qI x1, qI x2, qI x3, qU, qU] [] σ :=
  e_if_ne d_909_42 (by decide)
theorem b909_45 {x1 x2 x3 : Int} {σ : SS} : ev 909 45 [qR 50, qI x1, qI x2, qI x3, qU, qU] [] σ = some (some (qI 0), σ) :=
  Eq.trans (e_iconst d_909_45 k_0) (e_iret d_909_46 (q_okrI rfl))
theorem b909_47 {x1 x2 x3 : Int} {σ : SS} : ev 909 47 [qR 50, qI x1, qI x2, qI x3, qU, qU] [] σ = ev 909 50 [qR 50, qI x1, qI x2, qI x3, qI 0, qU] [] σ :=
  Eq.trans (e_iconst d_909_47 k_0) (e_istore d_909_48 (by decide) (Nat.le_of_ble_eq_true rfl) rfl)
theorem b909_50 {x1 x2 x3 x4 : Int} {σ : SS} : ev 909 50 [qR 50, qI x1, qI x2, qI x3, qI x4, qU] [] σ = if (σ 50 25) < (σ 50 24) then ev 909 61 [qR 50, qI x1, qI x2, qI x3, qI x4, qU] [] σ else ev 909 128 [qR 50, qI x1, qI x2, qI x3, qI x4, qU] [] σ :=
  Eq.trans (e_aload_n d_909_50 rfl) (Eq.trans (e_getI d_909_51 fl_9_92 sh_50 rfl) (Eq.trans (e_aload_n d_909_54 rfl) (Eq.trans (e_getI d_909_55 fl_9_88 sh_50 rfl) (e_icmp_ge d_909_58 (by decide)))))
theorem b909_61 {x1 x2 x3 x4 : Int} {σ : SS} (h : 0 ≤ (σ 50 25) ∧ (σ 50 25) < 300) : ev 909 61 [qR 50, qI x1, qI x2, qI x3, qI x4, qU] [] σ = (ev 900 0 [qL (σ 62 (σ 50 25).toNat), qU, qL 48, qU, qL 57, qU] [] σ).bind (fun x => ev 909 80 [qR 50, qI x1, qI x2, qI x3, qI x4, qU] (q_push x.1 []) x.2) :=
  Eq.trans (e_aload_n d_909_61 rfl) (Eq.trans (e_getR d_909_62 fl_9_44 sh_50 rfl) (Eq.trans (e_aload_n d_909_65 rfl) (Eq.trans (e_getI d_909_66 fl_9_92 sh_50 rfl) (Eq.trans (e_iald d_909_69 sh_62 h) (Eq.trans (e_i2l d_909_70) (Eq.trans (e_ldc2 d_909_71 ll_9_112.1 ll_9_112.2) (Eq.trans (e_ldc2 d_909_74 ll_9_114.1 ll_9_114.2) (e_callS d_909_77 (by decide) ml_9_83 fit_909_900 par_900 rfl rfl (Nat.le_of_ble_eq_true rfl) (Nat.le_of_ble_eq_true rfl) (Nat.le_of_ble_eq_true rfl) rfl (by decide) rfl))))))))
theorem b909_80 {x1 x2 x3 x4 y0 : Int} {σ : SS} : ev 909 80 [qR 50, qI x1, qI x2, qI x3, qI x4, qU] [qI y0] σ = if y0 = 0 then ev 909 128 [qR 50, qI x1, qI x2, qI x3, qI x4, qU] [] σ else ev 909 83 [qR 50, qI x1, qI x2, qI x3, qI x4, qU] [] σ :=
  e_if_eq d_909_80 (by decide)
theorem b909_83 {x1 x2 x3 x4 : Int} {σ : SS} : ev 909 83 [qR 50, qI x1, qI x2, qI x3, qI x4, qU] [] σ = if 99999 < x4 then ev 909 90 [qR 50, qI x1, qI x2, qI x3, qI x4, qU] [] σ else ev 909 95 [qR 50, qI x1, qI x2, qI x3, qI x4, qU] [] σ :=
  Eq.trans (e_iload d_909_83 rfl) (Eq.trans (e_ldc d_909_85 ld_9_120 k_99999) (e_icmp_le d_909_87 (by decide)))
theorem b909_90 {x1 x2 x3 x4 : Int} {σ : SS} : ev 909 90 [qR 50, qI x1, qI x2, qI x3, qI x4, qU] [] σ = ev 909 113 [qR 50, qI x1, qI x2, qI x3, qI x4, qU] [qI x4] σ :=
  Eq.trans (e_iload d_909_90 rfl) (e_goto d_909_92 (by decide))
theorem b909_95 {x1 x2 x3 x4 : Int} {σ : SS} (h : (-2147483648 ≤ (10 * x4) ∧ (10 * x4) ≤ 2147483647) ∧ (0 ≤ (σ 50 25) ∧ (σ 50 25) < 300) ∧ (-2147483648 ≤ ((10 * x4) + (σ 62 (σ 50 25).toNat)) ∧ ((10 * x4) + (σ 62 (σ 50 25).toNat)) ≤ 2147483647) ∧ (-2147483648 ≤ (((10 * x4) + (σ 62 (σ 50 25).toNat)) - 48) ∧ (((10 * x4) + (σ 62 (σ 50 25).toNat)) - 48) ≤ 2147483647)) : ev 909 95 [qR 50, qI x1, qI x2, qI x3, qI x4, qU] [] σ = ev 909 113 [qR 50, qI x1, qI x2, qI x3, qI x4, qU] [qI (((10 * x4) + (σ 62 (σ 50 25).toNat)) - 48)] σ :=
  Eq.trans (e_bipush d_909_95 kb_10) (Eq.trans (e_iload d_909_97 rfl) (Eq.trans (e_imul d_909_99 h.1) (Eq.trans (e_aload_n d_909_100 rfl) (Eq.trans (e_getR d_909_101 fl_9_44 sh_50 rfl) (Eq.trans (e_aload_n d_909_104 rfl) (Eq.trans (e_getI d_909_105 fl_9_92 sh_50 rfl) (Eq.trans (e_iald d_909_108 sh_62 h.2.1) (Eq.trans (e_iadd d_909_109 h.2.2.1) (Eq.trans (e_bipush d_909_110 kb_48) (e_isub d_909_112 h.2.2.2))))))))))
theorem b909_113 {x1 x2 x3 x4 y0 : Int} {σ : SS} (h : -2147483648 ≤ ((σ 50 25) + 1) ∧ ((σ 50 25) + 1) ≤ 2147483647) : ev 909 113 [qR 50, qI x1, qI x2, qI x3, qI x4, qU] [qI y0] σ = ev 909 50 [qR 50, qI x1, qI x2, qI x3, qI y0, qU] [] (q_put σ 50 25 ((σ 50 25) + 1)) :=
  Eq.trans (e_istore d_909_113 (by decide) (Nat.le_of_ble_eq_true rfl) rfl) (Eq.trans (e_aload_n d_909_115 rfl) (Eq.trans (e_dup d_909_116 rfl) (Eq.trans (e_getI d_909_117 fl_9_92 sh_50 rfl) (Eq.trans (e_iconst d_909_120 k_1) (Eq.trans (e_iadd d_909_121 h) (Eq.trans (e_put d_909_122 fl_9_92 sh_50 rfl rfl rfl) (e_goto d_909_125 (by decide))))))))
theorem b909_128 {x1 x2 x3 x4 : Int} {σ : SS} (h : -2147483648 ≤ ((σ 50 25) - (σ 50 26)) ∧ ((σ 50 25) - (σ 50 26)) ≤ 2147483647) : ev 909 128 [qR 50, qI x1, qI x2, qI x3, qI x4, qU] [] σ = if ((σ 50 25) - (σ 50 26)) < 4 then ev 909 142 [qR 50, qI x1, qI x2, qI x3, qI x4, qU] [qR 50] σ else ev 909 159 [qR 50, qI x1, qI x2, qI x3, qI x4, qU] [qR 50] σ :=
  Eq.trans (e_aload_n d_909_128 rfl) (Eq.trans (e_aload_n d_909_129 rfl) (Eq.trans (e_getI d_909_130 fl_9_92 sh_50 rfl) (Eq.trans (e_aload_n d_909_133 rfl) (Eq.trans (e_getI d_909_134 fl_9_102 sh_50 rfl) (Eq.trans (e_isub d_909_137 h) (Eq.trans (e_iconst d_909_138 k_4) (e_icmp_ge d_909_139 (by decide))))))))
theorem b909_142 {x1 x2 x3 x4 : Int} {σ : SS} : ev 909 142 [qR 50, qI x1, qI x2, qI x3, qI x4, qU] [qR 50] σ = (ev 900 0 [qL x4, qU, qL x1, qU, qL x2, qU] [] σ).bind (fun x => ev 909 152 [qR 50, qI x1, qI x2, qI x3, qI x4, qU] (q_push x.1 [qR 50]) x.2) :=
  Eq.trans (e_iload d_909_142 rfl) (Eq.trans (e_i2l d_909_144) (Eq.trans (e_iload_n d_909_145 rfl) (Eq.trans (e_i2l d_909_146) (Eq.trans (e_iload_n d_909_147 rfl) (Eq.trans (e_i2l d_909_148) (e_callS d_909_149 (by decide) ml_9_83 fit_909_900 par_900 rfl rfl (Nat.le_of_ble_eq_true rfl) (Nat.le_of_ble_eq_true rfl) (Nat.le_of_ble_eq_true rfl) rfl (by decide) rfl))))))
theorem b909_152 {x1 x2 x3 x4 y0 : Int} {σ : SS} : ev 909 152 [qR 50, qI x1, qI x2, qI x3, qI x4, qU] [qI y0, qR 50] σ = if y0 = 0 then ev 909 159 [qR 50, qI x1, qI x2, qI x3, qI x4, qU] [qR 50] σ else ev 909 155 [qR 50, qI x1, qI x2, qI x3, qI x4, qU] [qR 50] σ :=
  e_if_eq d_909_152 (by decide)
theorem b909_155 {x1 x2 x3 x4 : Int} {σ : SS} : ev 909 155 [qR 50, qI x1, qI x2, qI x3, qI x4, qU] [qR 50] σ = ev 909 160 [qR 50, qI x1, qI x2, qI x3, qI x4, qU] [qI 1, qR 50] σ :=
  Eq.trans (e_iconst d_909_155 k_1) (e_goto d_909_156 (by decide))
theorem b909_159 {x1 x2 x3 x4 : Int} {σ : SS} : ev 909 159 [qR 50, qI x1, qI x2, qI x3, qI x4, qU] [qR 50] σ = ev 909 160 [qR 50, qI x1, qI x2, qI x3, qI x4, qU] [qI 0, qR 50] σ :=
  e_iconst d_909_159 k_0
theorem b909_160 {x1 x2 x3 x4 y0 : Int} {σ : SS} : ev 909 160 [qR 50, qI x1, qI x2, qI x3, qI x4, qU] [qI y0, qR 50] σ = (ev 906 0 [qR 50, qI y0, qI 2, qI (σ 50 26)] [] σ).bind (fun x => ev 909 168 [qR 50, qI x1, qI x2, qI x3, qI x4, qU] (q_push x.1 []) x.2) :=
  Eq.trans (e_iconst d_909_160 k_2) (Eq.trans (e_aload_n d_909_161 rfl) (Eq.trans (e_getI d_909_162 fl_9_102 sh_50 rfl) (e_callV d_909_165 ml_9_116 fit_909_906 par_906 rfl rfl sh_50 (Nat.le_of_ble_eq_true rfl) (Nat.le_of_ble_eq_true rfl) (Nat.le_of_ble_eq_true rfl) rfl (by decide) rfl)))
theorem b909_168 {x1 x2 x3 x4 y0 : Int} {σ : SS} : ev 909 168 [qR 50, qI x1, qI x2, qI x3, qI x4, qU] [qI y0] σ = some (some (qI x4), σ) :=
  Eq.trans (e_istore d_909_168 (by decide) (Nat.le_of_ble_eq_true rfl) rfl) (Eq.trans (e_iload d_909_170 rfl) (e_iret d_909_172 (q_okrI rfl)))
theorem b916_0 {σ : SS} : ev 916 0 [qR 50, qU, qU] [] σ = if 6 < (σ 50 27) then ev 916 13 [qR 50, qU, qU] [] σ else ev 916 9 [qR 50, qU, qU] [] σ :=
  Eq.trans (e_aload_n d_916_0 rfl) (Eq.trans (e_getI d_916_1 fl_9_109 sh_50 rfl) (Eq.trans (e_bipush d_916_4 kb_6) (e_icmp_gt d_916_6 (by decide))))
theorem b916_9 {σ : SS} : ev 916 9 [qR 50, qU, qU] [] σ = ev 916 14 [qR 50, qU, qU] [qI 1] σ :=
  Eq.trans (e_iconst d_916_9 k_1) (e_goto d_916_10 (by decide))
theorem b916_13 {σ : SS} : ev 916 13 [qR 50, qU, qU] [] σ = ev 916 14 [qR 50, qU, qU] [qI 0] σ :=
  e_iconst d_916_13 k_0
theorem b916_14 {y0 : Int} {σ : SS} : ev 916 14 [qR 50, qU, qU] [qI y0] σ = ev 916 17 [qR 50, qI y0, qI 0] [] σ :=
  Eq.trans (e_istore_n d_916_14 (by decide) (Nat.le_of_ble_eq_true rfl) rfl) (Eq.trans (e_iconst d_916_15 k_0) (e_istore_n d_916_16 (by decide) (Nat.le_of_ble_eq_true rfl) rfl))
theorem b916_17 {x1 x2 : Int} {σ : SS} : ev 916 17 [qR 50, qI x1, qI x2] [] σ = if x2 < (σ 50 27) then ev 916 25 [qR 50, qI x1, qI x2] [] σ else ev 916 57 [qR 50, qI x1, qI x2] [] σ :=
  Eq.trans (e_iload_n d_916_17 rfl) (Eq.trans (e_aload_n d_916_18 rfl) (Eq.trans (e_getI d_916_19 fl_9_109 sh_50 rfl) (e_icmp_ge d_916_22 (by decide))))
theorem b916_25 {x1 x2 : Int} {σ : SS} : ev 916 25 [qR 50, qI x1, qI x2] [] σ = if x1 = 0 then ev 916 57 [qR 50, qI x1, qI x2] [] σ else ev 916 29 [qR 50, qI x1, qI x2] [] σ :=
  Eq.trans (e_iload_n d_916_25 rfl) (e_if_eq d_916_26 (by decide))
theorem b916_29 {x1 x2 : Int} {σ : SS} (h : (-2147483648 ≤ ((σ 50 26) + x2) ∧ ((σ 50 26) + x2) ≤ 2147483647) ∧ (0 ≤ ((σ 50 26) + x2) ∧ ((σ 50 26) + x2) < 300)) : ev 916 29 [qR 50, qI x1, qI x2] [] σ = (ev 900 0 [qL (σ 62 ((σ 50 26) + x2).toNat), qU, qL 97, qU, qL 99, qU] [] σ).bind (fun x => ev 916 50 [qR 50, qI x1, qI x2] (q_push x.1 []) x.2) :=
  Eq.trans (e_aload_n d_916_29 rfl) (Eq.trans (e_getR d_916_30 fl_9_44 sh_50 rfl) (Eq.trans (e_aload_n d_916_33 rfl) (Eq.trans (e_getI d_916_34 fl_9_102 sh_50 rfl) (Eq.trans (e_iload_n d_916_37 rfl) (Eq.trans (e_iadd d_916_38 h.1) (Eq.trans (e_iald d_916_39 sh_62 h.2) (Eq.trans (e_i2l d_916_40) (Eq.trans (e_ldc2 d_916_41 ll_9_105.1 ll_9_105.2) (Eq.trans (e_ldc2 d_916_44 ll_9_147.1 ll_9_147.2) (e_callS d_916_47 (by decide) ml_9_83 fit_916_900 par_900 rfl rfl (Nat.le_of_ble_eq_true rfl) (Nat.le_of_ble_eq_true rfl) (Nat.le_of_ble_eq_true rfl) rfl (by decide) rfl))))))))))
theorem b916_50 {x1 x2 y0 : Int} {σ : SS} (h : -2147483648 ≤ (x2 + 1) ∧ (x2 + 1) ≤ 2147483647) : ev 916 50 [qR 50, qI x1, qI x2] [qI y0] σ = ev 916 17 [qR 50, qI y0, qI (x2 + 1)] [] σ :=
  Eq.trans (e_istore_n d_916_50 (by decide) (Nat.le_of_ble_eq_true rfl) rfl) (Eq.trans (e_iinc d_916_51 (by decide) rfl h rfl) (e_goto d_916_54 (by decide)))
theorem b916_57 {x1 x2 : Int} {σ : SS} (h : x1 = 0 ∨ x1 = 1) : ev 916 57 [qR 50, qI x1, qI x2] [] σ = some (some (qI x1), σ) :=
  Eq.trans (e_iload_n d_916_57 rfl) (e_iret d_916_58 (q_okrZ rfl h))
theorem b950_0 {x1 x2 x3 x4 : Int} {σ : SS} : ev 950 0 [qR 50, qI x1, qI x2, qI x3, qI x4, qU, qU, qU, qU, qU] [] σ = ev 950 8 [qR 50, qI x1, qI x2, qI x3, qI x4, qI 99999999, qI 0, qU, qU, qU] [] σ :=
  Eq.trans (e_ldcw d_950_0 ld_9_270 k_99999999) (Eq.trans (e_istore d_950_3 (by decide) (Nat.le_of_ble_eq_true rfl) rfl) (Eq.trans (e_iconst d_950_5 k_0) (e_istore d_950_6 (by decide) (Nat.le_of_ble_eq_true rfl) rfl)))
theorem b950_8 {x1 x2 x3 x4 x5 x6 : Int} {vx7 vx8 vx9 : AV} {σ : SS} : ev 950 8 [qR 50, qI x1, qI x2, qI x3, qI x4, qI x5, qI x6, vx7, vx8, vx9] [] σ = if x6 < (σ 50 13) then ev 950 17 [qR 50, qI x1, qI x2, qI x3, qI x4, qI x5, qI x6, vx7, vx8, vx9] [] σ else ev 950 136 [qR 50, qI x1, qI x2, qI x3, qI x4, qI x5, qI x6, vx7, vx8, vx9] [] σ :=
  Eq.trans (e_iload d_950_8 rfl) (Eq.trans (e_aload_n d_950_10 rfl) (Eq.trans (e_getI d_950_11 fl_9_188 sh_50 rfl) (e_icmp_ge d_950_14 (by decide))))
theorem b950_17 {x1 x2 x3 x4 x5 x6 : Int} {vx7 vx8 vx9 : AV} {σ : SS} : ev 950 17 [qR 50, qI x1, qI x2, qI x3, qI x4, qI x5, qI x6, vx7, vx8, vx9] [] σ = ev 950 20 [qR 50, qI x1, qI x2, qI x3, qI x4, qI x5, qI x6, qI 0, vx8, vx9] [] σ :=
  Eq.trans (e_iconst d_950_17 k_0) (e_istore d_950_18 (by decide) (Nat.le_of_ble_eq_true rfl) rfl)
theorem b950_20 {x1 x2 x3 x4 x5 x6 x7 : Int} {vx8 vx9 : AV} {σ : SS} : ev 950 20 [qR 50, qI x1, qI x2, qI x3, qI x4, qI x5, qI x6, qI x7, vx8, vx9] [] σ = if x7 < (σ 50 13) then ev 950 29 [qR 50, qI x1, qI x2, qI x3, qI x4, qI x5, qI x6, qI x7, vx8, vx9] [] σ else ev 950 130 [qR 50, qI x1, qI x2, qI x3, qI x4, qI x5, qI x6, qI x7, vx8, vx9] [] σ :=
  Eq.trans (e_iload d_950_20 rfl) (Eq.trans (e_aload_n d_950_22 rfl) (Eq.trans (e_getI d_950_23 fl_9_188 sh_50 rfl) (e_icmp_ge d_950_26 (by decide))))
theorem b950_29 {x1 x2 x3 x4 x5 x6 x7 : Int} {vx8 vx9 : AV} {σ : SS} : ev 950 29 [qR 50, qI x1, qI x2, qI x3, qI x4, qI x5, qI x6, qI x7, vx8, vx9] [] σ = (ev 947 0 [qR 50, qI x2, qI x6] [] σ).bind (fun x => ev 950 36 [qR 50, qI x1, qI x2, qI x3, qI x4, qI x5, qI x6, qI x7, vx8, vx9] (q_push x.1 []) x.2) :=
  Eq.trans (e_aload_n d_950_29 rfl) (Eq.trans (e_iload_n d_950_30 rfl) (Eq.trans (e_iload d_950_31 rfl) (e_callV d_950_33 ml_9_277 fit_950_947 par_947 rfl rfl sh_50 (Nat.le_of_ble_eq_true rfl) (Nat.le_of_ble_eq_true rfl) (Nat.le_of_ble_eq_true rfl) rfl (by decide) rfl)))
theorem b950_36 {x1 x2 x3 x4 x5 x6 x7 y0 : Int} {vx8 vx9 : AV} {σ : SS} : ev 950 36 [qR 50, qI x1, qI x2, qI x3, qI x4, qI x5, qI x6, qI x7, vx8, vx9] [qI y0] σ = if y0 = 0 then ev 950 68 [qR 50, qI x1, qI x2, qI x3, qI x4, qI x5, qI x6, qI x7, vx8, vx9] [] σ else ev 950 39 [qR 50, qI x1, qI x2, qI x3, qI x4, qI x5, qI x6, qI x7, vx8, vx9] [] σ :=
  e_if_eq d_950_36 (by decide)
theorem b950_39 {x1 x2 x3 x4 x5 x6 x7 : Int} {vx8 vx9 : AV} {σ : SS} : ev 950 39 [qR 50, qI x1, qI x2, qI x3, qI x4, qI x5, qI x6, qI x7, vx8, vx9] [] σ = if x1 = 1 then ev 950 44 [qR 50, qI x1, qI x2, qI x3, qI x4, qI x5, qI x6, qI x7, vx8, vx9] [] σ else ev 950 54 [qR 50, qI x1, qI x2, qI x3, qI x4, qI x5, qI x6, qI x7, vx8, vx9] [] σ :=
  Eq.trans (e_iload_n d_950_39 rfl) (Eq.trans (e_iconst d_950_40 k_1) (e_icmp_ne d_950_41 (by decide)))
theorem b950_44 {x1 x2 x3 x4 x5 x6 x7 : Int} {vx8 vx9 : AV} {σ : SS} : ev 950 44 [qR 50, qI x1, qI x2, qI x3, qI x4, qI x5, qI x6, qI x7, vx8, vx9] [] σ = if x6 = x7 then ev 950 51 [qR 50, qI x1, qI x2, qI x3, qI x4, qI x5, qI x6, qI x7, vx8, vx9] [] σ else ev 950 68 [qR 50, qI x1, qI x2, qI x3, qI x4, qI x5, qI x6, qI x7, vx8, vx9] [] σ :=
  Eq.trans (e_iload d_950_44 rfl) (Eq.trans (e_iload d_950_46 rfl) (e_icmp_ne d_950_48 (by decide)))
theorem b950_51 {x1 x2 x3 x4 x5 x6 x7 : Int} {vx8 vx9 : AV} {σ : SS} : ev 950 51 [qR 50, qI x1, qI x2, qI x3, qI x4, qI x5, qI x6, qI x7, vx8, vx9] [] σ = ev 950 64 [qR 50, qI x1, qI x2, qI x3, qI x4, qI x5, qI x6, qI x7, vx8, vx9] [] σ :=
  e_goto d_950_51 (by decide)
theorem b950_54 {x1 x2 x3 x4 x5 x6 x7 : Int} {vx8 vx9 : AV} {σ : SS} : ev 950 54 [qR 50, qI x1, qI x2, qI x3, qI x4, qI x5, qI x6, qI x7, vx8, vx9] [] σ = (ev 947 0 [qR 50, qI x3, qI x7] [] σ).bind (fun x => ev 950 61 [qR 50, qI x1, qI x2, qI x3, qI x4, qI x5, qI x6, qI x7, vx8, vx9] (q_push x.1 []) x.2) :=
  Eq.trans (e_aload_n d_950_54 rfl) (Eq.trans (e_iload_n d_950_55 rfl) (Eq.trans (e_iload d_950_56 rfl) (e_callV d_950_58 ml_9_277 fit_950_947 par_947 rfl rfl sh_50 (Nat.le_of_ble_eq_true rfl) (Nat.le_of_ble_eq_true rfl) (Nat.le_of_ble_eq_true rfl) rfl (by decide) rfl)))
theorem b950_61 {x1 x2 x3 x4 x5 x6 x7 y0 : Int} {vx8 vx9 : AV} {σ : SS} : ev 950 61 [qR 50, qI x1, qI x2, qI x3, qI x4, qI x5, qI x6, qI x7, vx8, vx9] [qI y0] σ = if y0 = 0 then ev 950 68 [qR 50, qI x1, qI x2, qI x3, qI x4, qI x5, qI x6, qI x7, vx8, vx9] [] σ else ev 950 64 [qR 50, qI x1, qI x2, qI x3, qI x4, qI x5, qI x6, qI x7, vx8, vx9] [] σ :=
  e_if_eq d_950_61 (by decide)
theorem b950_64 {x1 x2 x3 x4 x5 x6 x7 : Int} {vx8 vx9 : AV} {σ : SS} : ev 950 64 [qR 50, qI x1, qI x2, qI x3, qI x4, qI x5, qI x6, qI x7, vx8, vx9] [] σ = ev 950 69 [qR 50, qI x1, qI x2, qI x3, qI x4, qI x5, qI x6, qI x7, vx8, vx9] [qI 1] σ :=
  Eq.trans (e_iconst d_950_64 k_1) (e_goto d_950_65 (by decide))
theorem b950_68 {x1 x2 x3 x4 x5 x6 x7 : Int} {vx8 vx9 : AV} {σ : SS} : ev 950 68 [qR 50, qI x1, qI x2, qI x3, qI x4, qI x5, qI x6, qI x7, vx8, vx9] [] σ = ev 950 69 [qR 50, qI x1, qI x2, qI x3, qI x4, qI x5, qI x6, qI x7, vx8, vx9] [qI 0] σ :=
  e_iconst d_950_68 k_0
theorem b950_69 {x1 x2 x3 x4 x5 x6 x7 y0 : Int} {vx8 vx9 : AV} {σ : SS} : ev 950 69 [qR 50, qI x1, qI x2, qI x3, qI x4, qI x5, qI x6, qI x7, vx8, vx9] [qI y0] σ = if y0 = 0 then ev 950 124 [qR 50, qI x1, qI x2, qI x3, qI x4, qI x5, qI x6, qI x7, qI y0, vx9] [] σ else ev 950 76 [qR 50, qI x1, qI x2, qI x3, qI x4, qI x5, qI x6, qI x7, qI y0, vx9] [] σ :=
  Eq.trans (e_istore d_950_69 (by decide) (Nat.le_of_ble_eq_true rfl) rfl) (Eq.trans (e_iload d_950_71 rfl) (e_if_eq d_950_73 (by decide)))
theorem b950_76 {x1 x2 x3 x4 x5 x6 x7 x8 : Int} {vx9 : AV} {σ : SS} : ev 950 76 [qR 50, qI x1, qI x2, qI x3, qI x4, qI x5, qI x6, qI x7, qI x8, vx9] [] σ = if x6 = x4 then ev 950 90 [qR 50, qI x1, qI x2, qI x3, qI x4, qI x5, qI x6, qI x7, qI x8, vx9] [] σ else ev 950 83 [qR 50, qI x1, qI x2, qI x3, qI x4, qI x5, qI x6, qI x7, qI x8, vx9] [] σ :=
  Eq.trans (e_iload d_950_76 rfl) (Eq.trans (e_iload d_950_78 rfl) (e_icmp_eq d_950_80 (by decide)))
theorem b950_83 {x1 x2 x3 x4 x5 x6 x7 x8 : Int} {vx9 : AV} {σ : SS} : ev 950 83 [qR 50, qI x1, qI x2, qI x3, qI x4, qI x5, qI x6, qI x7, qI x8, vx9] [] σ = if x7 = x4 then ev 950 90 [qR 50, qI x1, qI x2, qI x3, qI x4, qI x5, qI x6, qI x7, qI x8, vx9] [] σ else ev 950 94 [qR 50, qI x1, qI x2, qI x3, qI x4, qI x5, qI x6, qI x7, qI x8, vx9] [] σ :=
  Eq.trans (e_iload d_950_83 rfl) (Eq.trans (e_iload d_950_85 rfl) (e_icmp_ne d_950_87 (by decide)))
theorem b950_90 {x1 x2 x3 x4 x5 x6 x7 x8 : Int} {vx9 : AV} {σ : SS} : ev 950 90 [qR 50, qI x1, qI x2, qI x3, qI x4, qI x5, qI x6, qI x7, qI x8, vx9] [] σ = ev 950 106 [qR 50, qI x1, qI x2, qI x3, qI x4, qI x5, qI x6, qI x7, qI x8, vx9] [qI 1] σ :=
  Eq.trans (e_iconst d_950_90 k_1) (e_goto d_950_91 (by decide))
theorem b950_94 {x1 x2 x3 x4 x5 x6 x7 x8 : Int} {vx9 : AV} {σ : SS} : ev 950 94 [qR 50, qI x1, qI x2, qI x3, qI x4, qI x5, qI x6, qI x7, qI x8, vx9] [] σ = (ev 949 0 [qR 50, qI x6, qI x7, qI x4, qU, qU] [] σ).bind (fun x => ev 950 105 [qR 50, qI x1, qI x2, qI x3, qI x4, qI x5, qI x6, qI x7, qI x8, vx9] (q_push x.1 [qI 1]) x.2) :=
  Eq.trans (e_iconst d_950_94 k_1) (Eq.trans (e_aload_n d_950_95 rfl) (Eq.trans (e_iload d_950_96 rfl) (Eq.trans (e_iload d_950_98 rfl) (Eq.trans (e_iload d_950_100 rfl) (e_callV d_950_102 ml_9_283 fit_950_949 par_949 rfl rfl sh_50 (Nat.le_of_ble_eq_true rfl) (Nat.le_of_ble_eq_true rfl) (Nat.le_of_ble_eq_true rfl) rfl (by decide) rfl)))))
theorem b950_105 {x1 x2 x3 x4 x5 x6 x7 x8 y0 y1 : Int} {vx9 : AV} {σ : SS} (h : -2147483648 ≤ (y1 + y0) ∧ (y1 + y0) ≤ 2147483647) : ev 950 105 [qR 50, qI x1, qI x2, qI x3, qI x4, qI x5, qI x6, qI x7, qI x8, vx9] [qI y0, qI y1] σ = ev 950 106 [qR 50, qI x1, qI x2, qI x3, qI x4, qI x5, qI x6, qI x7, qI x8, vx9] [qI (y1 + y0)] σ :=
  e_iadd d_950_105 h
theorem b950_106 {x1 x2 x3 x4 x5 x6 x7 x8 y0 : Int} {vx9 : AV} {σ : SS} : ev 950 106 [qR 50, qI x1, qI x2, qI x3, qI x4, qI x5, qI x6, qI x7, qI x8, vx9] [qI y0] σ = if y0 < x5 then ev 950 115 [qR 50, qI x1, qI x2, qI x3, qI x4, qI x5, qI x6, qI x7, qI x8, qI y0] [] σ else ev 950 120 [qR 50, qI x1, qI x2, qI x3, qI x4, qI x5, qI x6, qI x7, qI x8, qI y0] [] σ :=
  Eq.trans (e_istore d_950_106 (by decide) (Nat.le_of_ble_eq_true rfl) rfl) (Eq.trans (e_iload d_950_108 rfl) (Eq.trans (e_iload d_950_110 rfl) (e_icmp_ge d_950_112 (by decide))))
theorem b950_115 {x1 x2 x3 x4 x5 x6 x7 x8 x9 : Int} {σ : SS} : ev 950 115 [qR 50, qI x1, qI x2, qI x3, qI x4, qI x5, qI x6, qI x7, qI x8, qI x9] [] σ = ev 950 122 [qR 50, qI x1, qI x2, qI x3, qI x4, qI x5, qI x6, qI x7, qI x8, qI x9] [qI x9] σ :=
  Eq.trans (e_iload d_950_115 rfl) (e_goto d_950_117 (by decide))
theorem b950_120 {x1 x2 x3 x4 x5 x6 x7 x8 x9 : Int} {σ : SS} : ev 950 120 [qR 50, qI x1, qI x2, qI x3, qI x4, qI x5, qI x6, qI x7, qI x8, qI x9] [] σ = ev 950 122 [qR 50, qI x1, qI x2, qI x3, qI x4, qI x5, qI x6, qI x7, qI x8, qI x9] [qI x5] σ :=
  e_iload d_950_120 rfl
theorem b950_122 {x1 x2 x3 x4 x5 x6 x7 x8 x9 y0 : Int} {σ : SS} : ev 950 122 [qR 50, qI x1, qI x2, qI x3, qI x4, qI x5, qI x6, qI x7, qI x8, qI x9] [qI y0] σ = ev 950 124 [qR 50, qI x1, qI x2, qI x3, qI x4, qI y0, qI x6, qI x7, qI x8, qI x9] [] σ :=
  e_istore d_950_122 (by decide) (Nat.le_of_ble_eq_true rfl) rfl
theorem b950_124 {x1 x2 x3 x4 x5 x6 x7 x8 : Int} {vx9 : AV} {σ : SS} (h : -2147483648 ≤ (x7 + 1) ∧ (x7 + 1) ≤ 2147483647) : ev 950 124 [qR 50, qI x1, qI x2, qI x3, qI x4, qI x5, qI x6, qI x7, qI x8, vx9] [] σ = ev 950 20 [qR 50, qI x1, qI x2, qI x3, qI x4, qI x5, qI x6, qI (x7 + 1), qI x8, vx9] [] σ :=
  Eq.trans (e_iinc d_950_124 (by decide) rfl h rfl) (e_goto d_950_127 (by decide))
theorem b950_130 {x1 x2 x3 x4 x5 x6 x7 : Int} {vx8 vx9 : AV} {σ : SS} (h : -2147483648 ≤ (x6 + 1) ∧ (x6 + 1) ≤ 2147483647) : ev 950 130 [qR 50, qI x1, qI x2, qI x3, qI x4, qI x5, qI x6, qI x7, vx8, vx9] [] σ = ev 950 8 [qR 50, qI x1, qI x2, qI x3, qI x4, qI x5, qI (x6 + 1), qI x7, vx8, vx9] [] σ :=
  Eq.trans (e_iinc d_950_130 (by decide) rfl h rfl) (e_goto d_950_133 (by decide))
theorem b950_136 {x1 x2 x3 x4 x5 x6 : Int} {vx7 vx8 vx9 : AV} {σ : SS} : ev 950 136 [qR 50, qI x1, qI x2, qI x3, qI x4, qI x5, qI x6, vx7, vx8, vx9] [] σ = some (some (qI x5), σ) :=
  Eq.trans (e_iload d_950_136 rfl) (e_iret d_950_138 (q_okrI rfl))
theorem b947_0 {x1 x2 : Int} {σ : SS} : ev 947 0 [qR 50, qI x1, qI x2] [] σ = if x1 = x2 then ev 947 18 [qR 50, qI x1, qI x2] [] σ else ev 947 5 [qR 50, qI x1, qI x2] [] σ :=
  Eq.trans (e_iload_n d_947_0 rfl) (Eq.trans (e_iload_n d_947_1 rfl) (e_icmp_eq d_947_2 (by decide)))
theorem b947_5 {x1 x2 : Int} {σ : SS} (h : 0 ≤ x1 ∧ x1 < 12) : ev 947 5 [qR 50, qI x1, qI x2] [] σ = (ev 902 0 [qI (σ 55 x1.toNat), qI x2] [] σ).bind (fun x => ev 947 15 [qR 50, qI x1, qI x2] (q_push x.1 []) x.2) :=
  Eq.trans (e_aload_n d_947_5 rfl) (Eq.trans (e_getR d_947_6 fl_9_23 sh_50 rfl) (Eq.trans (e_iload_n d_947_9 rfl) (Eq.trans (e_iald d_947_10 sh_55 h) (Eq.trans (e_iload_n d_947_11 rfl) (e_callS d_947_12 (by decide) ml_9_124 fit_947_902 par_902 rfl rfl (Nat.le_of_ble_eq_true rfl) (Nat.le_of_ble_eq_true rfl) (Nat.le_of_ble_eq_true rfl) rfl (by decide) rfl)))))
theorem b947_15 {x1 x2 y0 : Int} {σ : SS} : ev 947 15 [qR 50, qI x1, qI x2] [qI y0] σ = if y0 = 0 then ev 947 22 [qR 50, qI x1, qI x2] [] σ else ev 947 18 [qR 50, qI x1, qI x2] [] σ :=
  e_if_eq d_947_15 (by decide)
theorem b947_18 {x1 x2 : Int} {σ : SS} : ev 947 18 [qR 50, qI x1, qI x2] [] σ = ev 947 23 [qR 50, qI x1, qI x2] [qI 1] σ :=
  Eq.trans (e_iconst d_947_18 k_1) (e_goto d_947_19 (by decide))
theorem b947_22 {x1 x2 : Int} {σ : SS} : ev 947 22 [qR 50, qI x1, qI x2] [] σ = ev 947 23 [qR 50, qI x1, qI x2] [qI 0] σ :=
  e_iconst d_947_22 k_0
theorem b947_23 {x1 x2 y0 : Int} {σ : SS} (h : y0 = 0 ∨ y0 = 1) : ev 947 23 [qR 50, qI x1, qI x2] [qI y0] σ = some (some (qI y0), σ) :=
  e_iret d_947_23 (q_okrZ rfl h)
theorem b949_0 {x1 x2 x3 : Int} {σ : SS} : ev 949 0 [qR 50, qI x1, qI x2, qI x3, qU, qU] [] σ = ev 949 6 [qR 50, qI x1, qI x2, qI x3, qI 0, qI 0] [] σ :=
  Eq.trans (e_iconst d_949_0 k_0) (Eq.trans (e_istore d_949_1 (by decide) (Nat.le_of_ble_eq_true rfl) rfl) (Eq.trans (e_iconst d_949_3 k_0) (e_istore d_949_4 (by decide) (Nat.le_of_ble_eq_true rfl) rfl)))
theorem b949_6 {x1 x2 x3 x4 x5 : Int} {σ : SS} : ev 949 6 [qR 50, qI x1, qI x2, qI x3, qI x4, qI x5] [] σ = if x5 < (σ 50 13) then ev 949 15 [qR 50, qI x1, qI x2, qI x3, qI x4, qI x5] [] σ else ev 949 67 [qR 50, qI x1, qI x2, qI x3, qI x4, qI x5] [] σ :=
  Eq.trans (e_iload d_949_6 rfl) (Eq.trans (e_aload_n d_949_8 rfl) (Eq.trans (e_getI d_949_9 fl_9_188 sh_50 rfl) (e_icmp_ge d_949_12 (by decide))))
theorem b949_15 {x1 x2 x3 x4 x5 : Int} {σ : SS} : ev 949 15 [qR 50, qI x1, qI x2, qI x3, qI x4, qI x5] [] σ = (ev 947 0 [qR 50, qI x3, qI x5] [] σ).bind (fun x => ev 949 22 [qR 50, qI x1, qI x2, qI x3, qI x4, qI x5] (q_push x.1 []) x.2) :=
  Eq.trans (e_aload_n d_949_15 rfl) (Eq.trans (e_iload_n d_949_16 rfl) (Eq.trans (e_iload d_949_17 rfl) (e_callV d_949_19 ml_9_277 fit_949_947 par_947 rfl rfl sh_50 (Nat.le_of_ble_eq_true rfl) (Nat.le_of_ble_eq_true rfl) (Nat.le_of_ble_eq_true rfl) rfl (by decide) rfl)))
theorem b949_22 {x1 x2 x3 x4 x5 y0 : Int} {σ : SS} : ev 949 22 [qR 50, qI x1, qI x2, qI x3, qI x4, qI x5] [qI y0] σ = if y0 = 0 then ev 949 57 [qR 50, qI x1, qI x2, qI x3, qI x4, qI x5] [] σ else ev 949 25 [qR 50, qI x1, qI x2, qI x3, qI x4, qI x5] [] σ :=
  e_if_eq d_949_22 (by decide)
theorem b949_25 {x1 x2 x3 x4 x5 : Int} {σ : SS} : ev 949 25 [qR 50, qI x1, qI x2, qI x3, qI x4, qI x5] [] σ = (ev 948 0 [qI x1, qI x2, qI x5] [] σ).bind (fun x => ev 949 36 [qR 50, qI x1, qI x2, qI x3, qI x4, qI x5] (q_push x.1 [qR 64]) x.2) :=
  Eq.trans (e_aload_n d_949_25 rfl) (Eq.trans (e_getR d_949_26 fl_9_54 sh_50 rfl) (Eq.trans (e_iload_n d_949_29 rfl) (Eq.trans (e_iload_n d_949_30 rfl) (Eq.trans (e_iload d_949_31 rfl) (e_callS d_949_33 (by decide) ml_9_280 fit_949_948 par_948 rfl rfl (Nat.le_of_ble_eq_true rfl) (Nat.le_of_ble_eq_true rfl) (Nat.le_of_ble_eq_true rfl) rfl (by decide) rfl)))))
theorem b949_36 {x1 x2 x3 x4 x5 y0 : Int} {σ : SS} (h : 0 ≤ y0 ∧ y0 < 216) : ev 949 36 [qR 50, qI x1, qI x2, qI x3, qI x4, qI x5] [qI y0, qR 64] σ = if x4 < (σ 64 y0.toNat) then ev 949 42 [qR 50, qI x1, qI x2, qI x3, qI x4, qI x5] [] σ else ev 949 57 [qR 50, qI x1, qI x2, qI x3, qI x4, qI x5] [] σ :=
  Eq.trans (e_iald d_949_36 sh_64 h) (Eq.trans (e_iload d_949_37 rfl) (e_icmp_le d_949_39 (by decide)))
theorem b949_42 {x1 x2 x3 x4 x5 : Int} {σ : SS} : ev 949 42 [qR 50, qI x1, qI x2, qI x3, qI x4, qI x5] [] σ = (ev 948 0 [qI x1, qI x2, qI x5] [] σ).bind (fun x => ev 949 53 [qR 50, qI x1, qI x2, qI x3, qI x4, qI x5] (q_push x.1 [qR 64]) x.2) :=
  Eq.trans (e_aload_n d_949_42 rfl) (Eq.trans (e_getR d_949_43 fl_9_54 sh_50 rfl) (Eq.trans (e_iload_n d_949_46 rfl) (Eq.trans (e_iload_n d_949_47 rfl) (Eq.trans (e_iload d_949_48 rfl) (e_callS d_949_50 (by decide) ml_9_280 fit_949_948 par_948 rfl rfl (Nat.le_of_ble_eq_true rfl) (Nat.le_of_ble_eq_true rfl) (Nat.le_of_ble_eq_true rfl) rfl (by decide) rfl)))))
theorem b949_53 {x1 x2 x3 x4 x5 y0 : Int} {σ : SS} (h : 0 ≤ y0 ∧ y0 < 216) : ev 949 53 [qR 50, qI x1, qI x2, qI x3, qI x4, qI x5] [qI y0, qR 64] σ = ev 949 59 [qR 50, qI x1, qI x2, qI x3, qI x4, qI x5] [qI (σ 64 y0.toNat)] σ :=
  Eq.trans (e_iald d_949_53 sh_64 h) (e_goto d_949_54 (by decide))
theorem b949_57 {x1 x2 x3 x4 x5 : Int} {σ : SS} : ev 949 57 [qR 50, qI x1, qI x2, qI x3, qI x4, qI x5] [] σ = ev 949 59 [qR 50, qI x1, qI x2, qI x3, qI x4, qI x5] [qI x4] σ :=
  e_iload d_949_57 rfl
theorem b949_59 {x1 x2 x3 x4 x5 y0 : Int} {σ : SS} (h : -2147483648 ≤ (x5 + 1) ∧ (x5 + 1) ≤ 2147483647) : ev 949 59 [qR 50, qI x1, qI x2, qI x3, qI x4, qI x5] [qI y0] σ = ev 949 6 [qR 50, qI x1, qI x2, qI x3, qI y0, qI (x5 + 1)] [] σ :=
  Eq.trans (e_istore d_949_59 (by decide) (Nat.le_of_ble_eq_true rfl) rfl) (Eq.trans (e_iinc d_949_61 (by decide) rfl h rfl) (e_goto d_949_64 (by decide)))
theorem b949_67 {x1 x2 x3 x4 x5 : Int} {σ : SS} : ev 949 67 [qR 50, qI x1, qI x2, qI x3, qI x4, qI x5] [] σ = some (some (qI x4), σ) :=
  Eq.trans (e_iload d_949_67 rfl) (e_iret d_949_69 (q_okrI rfl))
