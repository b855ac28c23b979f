theorem dX2_init_0 : decode cX2_init 0 = .ok (.aload_n 0, 1) := by decide +kernel
theorem dX2_init_1 : decode cX2_init 1 = .ok (.invokespecial 1, 3) := by decide +kernel
theorem dX2_init_4 : decode cX2_init 4 = .ok (.aload_n 0, 1) := by decide +kernel
theorem dX2_init_5 : decode cX2_init 5 = .ok (.sipush 200, 3) := by decide +kernel
theorem dX2_init_8 : decode cX2_init 8 = .ok (.newarray .int, 2) := by decide +kernel
theorem dX2_init_10 : decode cX2_init 10 = .ok (.putfield 7, 3) := by decide +kernel
theorem dX2_init_13 : decode cX2_init 13 = .ok (.aload_n 0, 1) := by decide +kernel
theorem dX2_init_14 : decode cX2_init 14 = .ok (.sipush 768, 3) := by decide +kernel
theorem dX2_init_17 : decode cX2_init 17 = .ok (.newarray .int, 2) := by decide +kernel
theorem dX2_init_19 : decode cX2_init 19 = .ok (.putfield 13, 3) := by decide +kernel
theorem dX2_init_22 : decode cX2_init 22 = .ok (.aload_n 0, 1) := by decide +kernel
theorem dX2_init_23 : decode cX2_init 23 = .ok (.bipush 24, 2) := by decide +kernel
theorem dX2_init_25 : decode cX2_init 25 = .ok (.newarray .boolean, 2) := by decide +kernel
theorem dX2_init_27 : decode cX2_init 27 = .ok (.putfield 16, 3) := by decide +kernel
theorem dX2_init_30 : decode cX2_init 30 = .ok (.aload_n 0, 1) := by decide +kernel
theorem dX2_init_31 : decode cX2_init 31 = .ok (.bipush 12, 2) := by decide +kernel
theorem dX2_init_33 : decode cX2_init 33 = .ok (.newarray .int, 2) := by decide +kernel
theorem dX2_init_35 : decode cX2_init 35 = .ok (.putfield 20, 3) := by decide +kernel
theorem dX2_init_38 : decode cX2_init 38 = .ok (.aload_n 0, 1) := by decide +kernel
theorem dX2_init_39 : decode cX2_init 39 = .ok (.sipush 384, 3) := by decide +kernel
theorem dX2_init_42 : decode cX2_init 42 = .ok (.newarray .int, 2) := by decide +kernel
theorem dX2_init_44 : decode cX2_init 44 = .ok (.putfield 23, 3) := by decide +kernel
theorem dX2_init_47 : decode cX2_init 47 = .ok (.aload_n 0, 1) := by decide +kernel
theorem dX2_init_48 : decode cX2_init 48 = .ok (.sipush 320, 3) := by decide +kernel
theorem dX2_init_51 : decode cX2_init 51 = .ok (.newarray .int, 2) := by decide +kernel
theorem dX2_init_53 : decode cX2_init 53 = .ok (.putfield 26, 3) := by decide +kernel
theorem dX2_init_56 : decode cX2_init 56 = .ok (.aload_n 0, 1) := by decide +kernel
theorem dX2_init_57 : decode cX2_init 57 = .ok (.sipush 256, 3) := by decide +kernel
theorem dX2_init_60 : decode cX2_init 60 = .ok (.newarray .int, 2) := by decide +kernel
theorem dX2_init_62 : decode cX2_init 62 = .ok (.putfield 29, 3) := by decide +kernel
theorem dX2_init_65 : decode cX2_init 65 = .ok (.aload_n 0, 1) := by decide +kernel
theorem dX2_init_66 : decode cX2_init 66 = .ok (.bipush 32, 2) := by decide +kernel
theorem dX2_init_68 : decode cX2_init 68 = .ok (.newarray .int, 2) := by decide +kernel
theorem dX2_init_70 : decode cX2_init 70 = .ok (.putfield 32, 3) := by decide +kernel
theorem dX2_init_73 : decode cX2_init 73 = .ok (.aload_n 0, 1) := by decide +kernel
theorem dX2_init_74 : decode cX2_init 74 = .ok (.bipush 64, 2) := by decide +kernel
theorem dX2_init_76 : decode cX2_init 76 = .ok (.newarray .int, 2) := by decide +kernel
theorem dX2_init_78 : decode cX2_init 78 = .ok (.putfield 35, 3) := by decide +kernel
theorem dX2_init_81 : decode cX2_init 81 = .ok (.aload_n 0, 1) := by decide +kernel
theorem dX2_init_82 : decode cX2_init 82 = .ok (.bipush 8, 2) := by decide +kernel
theorem dX2_init_84 : decode cX2_init 84 = .ok (.newarray .int, 2) := by decide +kernel
theorem dX2_init_86 : decode cX2_init 86 = .ok (.putfield 38, 3) := by decide +kernel
theorem dX2_init_89 : decode cX2_init 89 = .ok (.aload_n 0, 1) := by decide +kernel
theorem dX2_init_90 : decode cX2_init 90 = .ok (.sipush 256, 3) := by decide +kernel
theorem dX2_init_93 : decode cX2_init 93 = .ok (.newarray .int, 2) := by decide +kernel
theorem dX2_init_95 : decode cX2_init 95 = .ok (.putfield 41, 3) := by decide +kernel
theorem dX2_init_98 : decode cX2_init 98 = .ok (.aload_n 0, 1) := by decide +kernel
theorem dX2_init_99 : decode cX2_init 99 = .ok (.bipush 8, 2) := by decide +kernel
theorem dX2_init_101 : decode cX2_init 101 = .ok (.newarray .int, 2) := by decide +kernel
theorem dX2_init_103 : decode cX2_init 103 = .ok (.putfield 44, 3) := by decide +kernel
theorem dX2_init_106 : decode cX2_init 106 = .ok (.aload_n 0, 1) := by decide +kernel
theorem dX2_init_107 : decode cX2_init 107 = .ok (.bipush 8, 2) := by decide +kernel
theorem dX2_init_109 : decode cX2_init 109 = .ok (.newarray .int, 2) := by decide +kernel
theorem dX2_init_111 : decode cX2_init 111 = .ok (.putfield 47, 3) := by decide +kernel
theorem dX2_init_114 : decode cX2_init 114 = .ok (.aload_n 0, 1) := by decide +kernel
theorem dX2_init_115 : decode cX2_init 115 = .ok (.bipush 8, 2) := by decide +kernel
theorem dX2_init_117 : decode cX2_init 117 = .ok (.newarray .int, 2) := by decide +kernel
theorem dX2_init_119 : decode cX2_init 119 = .ok (.putfield 50, 3) := by decide +kernel
theorem dX2_init_122 : decode cX2_init 122 = .ok (.aload_n 0, 1) := by decide +kernel
theorem dX2_init_123 : decode cX2_init 123 = .ok (.bipush 8, 2) := by decide +kernel
theorem dX2_init_125 : decode cX2_init 125 = .ok (.newarray .boolean, 2) := by decide +kernel
theorem dX2_init_127 : decode cX2_init 127 = .ok (.putfield 53, 3) := by decide +kernel
theorem dX2_init_130 : decode cX2_init 130 = .ok (.aload_n 0, 1) := by decide +kernel
theorem dX2_init_131 : decode cX2_init 131 = .ok (.bipush 64, 2) := by decide +kernel
theorem dX2_init_133 : decode cX2_init 133 = .ok (.newarray .int, 2) := by decide +kernel
theorem dX2_init_135 : decode cX2_init 135 = .ok (.dup, 1) := by decide +kernel
theorem dX2_init_136 : decode cX2_init 136 = .ok (.iconst 0, 1) := by decide +kernel
theorem dX2_init_137 : decode cX2_init 137 = .ok (.ldc 56, 2) := by decide +kernel
theorem dX2_init_139 : decode cX2_init 139 = .ok (.iastore, 1) := by decide +kernel
theorem dX2_init_140 : decode cX2_init 140 = .ok (.dup, 1) := by decide +kernel
theorem dX2_init_141 : decode cX2_init 141 = .ok (.iconst 1, 1) := by decide +kernel
theorem dX2_init_142 : decode cX2_init 142 = .ok (.ldc 57, 2) := by decide +kernel
theorem dX2_init_144 : decode cX2_init 144 = .ok (.iastore, 1) := by decide +kernel
theorem dX2_init_145 : decode cX2_init 145 = .ok (.dup, 1) := by decide +kernel
theorem dX2_init_146 : decode cX2_init 146 = .ok (.iconst 2, 1) := by decide +kernel
theorem dX2_init_147 : decode cX2_init 147 = .ok (.ldc 58, 2) := by decide +kernel
theorem dX2_init_149 : decode cX2_init 149 = .ok (.iastore, 1) := by decide +kernel
theorem dX2_init_150 : decode cX2_init 150 = .ok (.dup, 1) := by decide +kernel
theorem dX2_init_151 : decode cX2_init 151 = .ok (.iconst 3, 1) := by decide +kernel
theorem dX2_init_152 : decode cX2_init 152 = .ok (.ldc 59, 2) := by decide +kernel
theorem dX2_init_154 : decode cX2_init 154 = .ok (.iastore, 1) := by decide +kernel
theorem dX2_init_155 : decode cX2_init 155 = .ok (.dup, 1) := by decide +kernel
theorem dX2_init_156 : decode cX2_init 156 = .ok (.iconst 4, 1) := by decide +kernel
theorem dX2_init_157 : decode cX2_init 157 = .ok (.ldc 60, 2) := by decide +kernel
theorem dX2_init_159 : decode cX2_init 159 = .ok (.iastore, 1) := by decide +kernel
theorem dX2_init_160 : decode cX2_init 160 = .ok (.dup, 1) := by decide +kernel
theorem dX2_init_161 : decode cX2_init 161 = .ok (.iconst 5, 1) := by decide +kernel
theorem dX2_init_162 : decode cX2_init 162 = .ok (.ldc 61, 2) := by decide +kernel
theorem dX2_init_164 : decode cX2_init 164 = .ok (.iastore, 1) := by decide +kernel
theorem dX2_init_165 : decode cX2_init 165 = .ok (.dup, 1) := by decide +kernel
theorem dX2_init_166 : decode cX2_init 166 = .ok (.bipush 6, 2) := by decide +kernel
theorem dX2_init_168 : decode cX2_init 168 = .ok (.ldc 62, 2) := by decide +kernel
theorem dX2_init_170 : decode cX2_init 170 = .ok (.iastore, 1) := by decide +kernel
theorem dX2_init_171 : decode cX2_init 171 = .ok (.dup, 1) := by decide +kernel
theorem dX2_init_172 : decode cX2_init 172 = .ok (.bipush 7, 2) := by decide +kernel
theorem dX2_init_174 : decode cX2_init 174 = .ok (.ldc 63, 2) := by decide +kernel
theorem dX2_init_176 : decode cX2_init 176 = .ok (.iastore, 1) := by decide +kernel
theorem dX2_init_177 : decode cX2_init 177 = .ok (.dup, 1) := by decide +kernel
theorem dX2_init_178 : decode cX2_init 178 = .ok (.bipush 8, 2) := by decide +kernel
theorem dX2_init_180 : decode cX2_init 180 = .ok (.ldc 64, 2) := by decide +kernel
theorem dX2_init_182 : decode cX2_init 182 = .ok (.iastore, 1) := by decide +kernel
theorem dX2_init_183 : decode cX2_init 183 = .ok (.dup, 1) := by decide +kernel
theorem dX2_init_184 : decode cX2_init 184 = .ok (.bipush 9, 2) := by decide +kernel
theorem dX2_init_186 : decode cX2_init 186 = .ok (.ldc 65, 2) := by decide +kernel
theorem dX2_init_188 : decode cX2_init 188 = .ok (.iastore, 1) := by decide +kernel
theorem dX2_init_189 : decode cX2_init 189 = .ok (.dup, 1) := by decide +kernel
theorem dX2_init_190 : decode cX2_init 190 = .ok (.bipush 10, 2) := by decide +kernel
theorem dX2_init_192 : decode cX2_init 192 = .ok (.ldc 66, 2) := by decide +kernel
theorem dX2_init_194 : decode cX2_init 194 = .ok (.iastore, 1) := by decide +kernel
theorem dX2_init_195 : decode cX2_init 195 = .ok (.dup, 1) := by decide +kernel
theorem dX2_init_196 : decode cX2_init 196 = .ok (.bipush 11, 2) := by decide +kernel
theorem dX2_init_198 : decode cX2_init 198 = .ok (.ldc 67, 2) := by decide +kernel
theorem dX2_init_200 : decode cX2_init 200 = .ok (.iastore, 1) := by decide +kernel
theorem dX2_init_201 : decode cX2_init 201 = .ok (.dup, 1) := by decide +kernel
theorem dX2_init_202 : decode cX2_init 202 = .ok (.bipush 12, 2) := by decide +kernel
theorem dX2_init_204 : decode cX2_init 204 = .ok (.ldc 68, 2) := by decide +kernel
theorem dX2_init_206 : decode cX2_init 206 = .ok (.iastore, 1) := by decide +kernel
theorem dX2_init_207 : decode cX2_init 207 = .ok (.dup, 1) := by decide +kernel
theorem dX2_init_208 : decode cX2_init 208 = .ok (.bipush 13, 2) := by decide +kernel
theorem dX2_init_210 : decode cX2_init 210 = .ok (.ldc 69, 2) := by decide +kernel
theorem dX2_init_212 : decode cX2_init 212 = .ok (.iastore, 1) := by decide +kernel
theorem dX2_init_213 : decode cX2_init 213 = .ok (.dup, 1) := by decide +kernel
theorem dX2_init_214 : decode cX2_init 214 = .ok (.bipush 14, 2) := by decide +kernel
theorem dX2_init_216 : decode cX2_init 216 = .ok (.ldc 70, 2) := by decide +kernel
theorem dX2_init_218 : decode cX2_init 218 = .ok (.iastore, 1) := by decide +kernel
theorem dX2_init_219 : decode cX2_init 219 = .ok (.dup, 1) := by decide +kernel
theorem dX2_init_220 : decode cX2_init 220 = .ok (.bipush 15, 2) := by decide +kernel
theorem dX2_init_222 : decode cX2_init 222 = .ok (.ldc 71, 2) := by decide +kernel
theorem dX2_init_224 : decode cX2_init 224 = .ok (.iastore, 1) := by decide +kernel
theorem dX2_init_225 : decode cX2_init 225 = .ok (.dup, 1) := by decide +kernel
theorem dX2_init_226 : decode cX2_init 226 = .ok (.bipush 16, 2) := by decide +kernel
theorem dX2_init_228 : decode cX2_init 228 = .ok (.ldc 72, 2) := by decide +kernel
theorem dX2_init_230 : decode cX2_init 230 = .ok (.iastore, 1) := by decide +kernel
theorem dX2_init_231 : decode cX2_init 231 = .ok (.dup, 1) := by decide +kernel
theorem dX2_init_232 : decode cX2_init 232 = .ok (.bipush 17, 2) := by decide +kernel
theorem dX2_init_234 : decode cX2_init 234 = .ok (.ldc 73, 2) := by decide +kernel
theorem dX2_init_236 : decode cX2_init 236 = .ok (.iastore, 1) := by decide +kernel
theorem dX2_init_237 : decode cX2_init 237 = .ok (.dup, 1) := by decide +kernel
theorem dX2_init_238 : decode cX2_init 238 = .ok (.bipush 18, 2) := by decide +kernel
theorem dX2_init_240 : decode cX2_init 240 = .ok (.ldc 74, 2) := by decide +kernel
theorem dX2_init_242 : decode cX2_init 242 = .ok (.iastore, 1) := by decide +kernel
theorem dX2_init_243 : decode cX2_init 243 = .ok (.dup, 1) := by decide +kernel
theorem dX2_init_244 : decode cX2_init 244 = .ok (.bipush 19, 2) := by decide +kernel
theorem dX2_init_246 : decode cX2_init 246 = .ok (.ldc 75, 2) := by decide +kernel
theorem dX2_init_248 : decode cX2_init 248 = .ok (.iastore, 1) := by decide +kernel
theorem dX2_init_249 : decode cX2_init 249 = .ok (.dup, 1) := by decide +kernel
theorem dX2_init_250 : decode cX2_init 250 = .ok (.bipush 20, 2) := by decide +kernel
theorem dX2_init_252 : decode cX2_init 252 = .ok (.ldc 76, 2) := by decide +kernel
theorem dX2_init_254 : decode cX2_init 254 = .ok (.iastore, 1) := by decide +kernel
theorem dX2_init_255 : decode cX2_init 255 = .ok (.dup, 1) := by decide +kernel
theorem dX2_init_256 : decode cX2_init 256 = .ok (.bipush 21, 2) := by decide +kernel
theorem dX2_init_258 : decode cX2_init 258 = .ok (.ldc 77, 2) := by decide +kernel
theorem dX2_init_260 : decode cX2_init 260 = .ok (.iastore, 1) := by decide +kernel
theorem dX2_init_261 : decode cX2_init 261 = .ok (.dup, 1) := by decide +kernel
theorem dX2_init_262 : decode cX2_init 262 = .ok (.bipush 22, 2) := by decide +kernel
theorem dX2_init_264 : decode cX2_init 264 = .ok (.ldc 78, 2) := by decide +kernel
theorem dX2_init_266 : decode cX2_init 266 = .ok (.iastore, 1) := by decide +kernel
theorem dX2_init_267 : decode cX2_init 267 = .ok (.dup, 1) := by decide +kernel
theorem dX2_init_268 : decode cX2_init 268 = .ok (.bipush 23, 2) := by decide +kernel
theorem dX2_init_270 : decode cX2_init 270 = .ok (.ldc 79, 2) := by decide +kernel
theorem dX2_init_272 : decode cX2_init 272 = .ok (.iastore, 1) := by decide +kernel
theorem dX2_init_273 : decode cX2_init 273 = .ok (.dup, 1) := by decide +kernel
theorem dX2_init_274 : decode cX2_init 274 = .ok (.bipush 24, 2) := by decide +kernel
theorem dX2_init_276 : decode cX2_init 276 = .ok (.ldc 80, 2) := by decide +kernel
theorem dX2_init_278 : decode cX2_init 278 = .ok (.iastore, 1) := by decide +kernel
theorem dX2_init_279 : decode cX2_init 279 = .ok (.dup, 1) := by decide +kernel
theorem dX2_init_280 : decode cX2_init 280 = .ok (.bipush 25, 2) := by decide +kernel
theorem dX2_init_282 : decode cX2_init 282 = .ok (.ldc 81, 2) := by decide +kernel
theorem dX2_init_284 : decode cX2_init 284 = .ok (.iastore, 1) := by decide +kernel
theorem dX2_init_285 : decode cX2_init 285 = .ok (.dup, 1) := by decide +kernel
theorem dX2_init_286 : decode cX2_init 286 = .ok (.bipush 26, 2) := by decide +kernel
theorem dX2_init_288 : decode cX2_init 288 = .ok (.ldc 82, 2) := by decide +kernel
theorem dX2_init_290 : decode cX2_init 290 = .ok (.iastore, 1) := by decide +kernel
theorem dX2_init_291 : decode cX2_init 291 = .ok (.dup, 1) := by decide +kernel
theorem dX2_init_292 : decode cX2_init 292 = .ok (.bipush 27, 2) := by decide +kernel
theorem dX2_init_294 : decode cX2_init 294 = .ok (.ldc 83, 2) := by decide +kernel
theorem dX2_init_296 : decode cX2_init 296 = .ok (.iastore, 1) := by decide +kernel
theorem dX2_init_297 : decode cX2_init 297 = .ok (.dup, 1) := by decide +kernel
theorem dX2_init_298 : decode cX2_init 298 = .ok (.bipush 28, 2) := by decide +kernel
theorem dX2_init_300 : decode cX2_init 300 = .ok (.ldc 84, 2) := by decide +kernel
theorem dX2_init_302 : decode cX2_init 302 = .ok (.iastore, 1) := by decide +kernel
theorem dX2_init_303 : decode cX2_init 303 = .ok (.dup, 1) := by decide +kernel
theorem dX2_init_304 : decode cX2_init 304 = .ok (.bipush 29, 2) := by decide +kernel
theorem dX2_init_306 : decode cX2_init 306 = .ok (.ldc 85, 2) := by decide +kernel
theorem dX2_init_308 : decode cX2_init 308 = .ok (.iastore, 1) := by decide +kernel
theorem dX2_init_309 : decode cX2_init 309 = .ok (.dup, 1) := by decide +kernel
theorem dX2_init_310 : decode cX2_init 310 = .ok (.bipush 30, 2) := by decide +kernel
theorem dX2_init_312 : decode cX2_init 312 = .ok (.ldc 86, 2) := by decide +kernel
theorem dX2_init_314 : decode cX2_init 314 = .ok (.iastore, 1) := by decide +kernel
theorem dX2_init_315 : decode cX2_init 315 = .ok (.dup, 1) := by decide +kernel
theorem dX2_init_316 : decode cX2_init 316 = .ok (.bipush 31, 2) := by decide +kernel
theorem dX2_init_318 : decode cX2_init 318 = .ok (.ldc 87, 2) := by decide +kernel
theorem dX2_init_320 : decode cX2_init 320 = .ok (.iastore, 1) := by decide +kernel
theorem dX2_init_321 : decode cX2_init 321 = .ok (.dup, 1) := by decide +kernel
theorem dX2_init_322 : decode cX2_init 322 = .ok (.bipush 32, 2) := by decide +kernel
theorem dX2_init_324 : decode cX2_init 324 = .ok (.ldc 88, 2) := by decide +kernel
theorem dX2_init_326 : decode cX2_init 326 = .ok (.iastore, 1) := by decide +kernel
theorem dX2_init_327 : decode cX2_init 327 = .ok (.dup, 1) := by decide +kernel
theorem dX2_init_328 : decode cX2_init 328 = .ok (.bipush 33, 2) := by decide +kernel
theorem dX2_init_330 : decode cX2_init 330 = .ok (.ldc 89, 2) := by decide +kernel
theorem dX2_init_332 : decode cX2_init 332 = .ok (.iastore, 1) := by decide +kernel
theorem dX2_init_333 : decode cX2_init 333 = .ok (.dup, 1) := by decide +kernel
theorem dX2_init_334 : decode cX2_init 334 = .ok (.bipush 34, 2) := by decide +kernel
theorem dX2_init_336 : decode cX2_init 336 = .ok (.ldc 90, 2) := by decide +kernel
theorem dX2_init_338 : decode cX2_init 338 = .ok (.iastore, 1) := by decide +kernel
theorem dX2_init_339 : decode cX2_init 339 = .ok (.dup, 1) := by decide +kernel
theorem dX2_init_340 : decode cX2_init 340 = .ok (.bipush 35, 2) := by decide +kernel
theorem dX2_init_342 : decode cX2_init 342 = .ok (.ldc 91, 2) := by decide +kernel
theorem dX2_init_344 : decode cX2_init 344 = .ok (.iastore, 1) := by decide +kernel
theorem dX2_init_345 : decode cX2_init 345 = .ok (.dup, 1) := by decide +kernel
theorem dX2_init_346 : decode cX2_init 346 = .ok (.bipush 36, 2) := by decide +kernel
theorem dX2_init_348 : decode cX2_init 348 = .ok (.ldc 92, 2) := by decide +kernel
theorem dX2_init_350 : decode cX2_init 350 = .ok (.iastore, 1) := by decide +kernel
theorem dX2_init_351 : decode cX2_init 351 = .ok (.dup, 1) := by decide +kernel
theorem dX2_init_352 : decode cX2_init 352 = .ok (.bipush 37, 2) := by decide +kernel
theorem dX2_init_354 : decode cX2_init 354 = .ok (.ldc 93, 2) := by decide +kernel
theorem dX2_init_356 : decode cX2_init 356 = .ok (.iastore, 1) := by decide +kernel
theorem dX2_init_357 : decode cX2_init 357 = .ok (.dup, 1) := by decide +kernel
theorem dX2_init_358 : decode cX2_init 358 = .ok (.bipush 38, 2) := by decide +kernel
theorem dX2_init_360 : decode cX2_init 360 = .ok (.ldc 94, 2) := by decide +kernel
theorem dX2_init_362 : decode cX2_init 362 = .ok (.iastore, 1) := by decide +kernel
theorem dX2_init_363 : decode cX2_init 363 = .ok (.dup, 1) := by decide +kernel
theorem dX2_init_364 : decode cX2_init 364 = .ok (.bipush 39, 2) := by decide +kernel
theorem dX2_init_366 : decode cX2_init 366 = .ok (.ldc 95, 2) := by decide +kernel
theorem dX2_init_368 : decode cX2_init 368 = .ok (.iastore, 1) := by decide +kernel
theorem dX2_init_369 : decode cX2_init 369 = .ok (.dup, 1) := by decide +kernel
theorem dX2_init_370 : decode cX2_init 370 = .ok (.bipush 40, 2) := by decide +kernel
theorem dX2_init_372 : decode cX2_init 372 = .ok (.ldc 96, 2) := by decide +kernel
theorem dX2_init_374 : decode cX2_init 374 = .ok (.iastore, 1) := by decide +kernel
theorem dX2_init_375 : decode cX2_init 375 = .ok (.dup, 1) := by decide +kernel
theorem dX2_init_376 : decode cX2_init 376 = .ok (.bipush 41, 2) := by decide +kernel
theorem dX2_init_378 : decode cX2_init 378 = .ok (.ldc 97, 2) := by decide +kernel
theorem dX2_init_380 : decode cX2_init 380 = .ok (.iastore, 1) := by decide +kernel
theorem dX2_init_381 : decode cX2_init 381 = .ok (.dup, 1) := by decide +kernel
theorem dX2_init_382 : decode cX2_init 382 = .ok (.bipush 42, 2) := by decide +kernel
theorem dX2_init_384 : decode cX2_init 384 = .ok (.ldc 98, 2) := by decide +kernel
theorem dX2_init_386 : decode cX2_init 386 = .ok (.iastore, 1) := by decide +kernel
theorem dX2_init_387 : decode cX2_init 387 = .ok (.dup, 1) := by decide +kernel
theorem dX2_init_388 : decode cX2_init 388 = .ok (.bipush 43, 2) := by decide +kernel
theorem dX2_init_390 : decode cX2_init 390 = .ok (.ldc 99, 2) := by decide +kernel
theorem dX2_init_392 : decode cX2_init 392 = .ok (.iastore, 1) := by decide +kernel
theorem dX2_init_393 : decode cX2_init 393 = .ok (.dup, 1) := by decide +kernel
theorem dX2_init_394 : decode cX2_init 394 = .ok (.bipush 44, 2) := by decide +kernel
theorem dX2_init_396 : decode cX2_init 396 = .ok (.ldc 100, 2) := by decide +kernel
theorem dX2_init_398 : decode cX2_init 398 = .ok (.iastore, 1) := by decide +kernel
theorem dX2_init_399 : decode cX2_init 399 = .ok (.dup, 1) := by decide +kernel
theorem dX2_init_400 : decode cX2_init 400 = .ok (.bipush 45, 2) := by decide +kernel
theorem dX2_init_402 : decode cX2_init 402 = .ok (.ldc 101, 2) := by decide +kernel
theorem dX2_init_404 : decode cX2_init 404 = .ok (.iastore, 1) := by decide +kernel
theorem dX2_init_405 : decode cX2_init 405 = .ok (.dup, 1) := by decide +kernel
theorem dX2_init_406 : decode cX2_init 406 = .ok (.bipush 46, 2) := by decide +kernel
theorem dX2_init_408 : decode cX2_init 408 = .ok (.ldc 102, 2) := by decide +kernel
theorem dX2_init_410 : decode cX2_init 410 = .ok (.iastore, 1) := by decide +kernel
theorem dX2_init_411 : decode cX2_init 411 = .ok (.dup, 1) := by decide +kernel
theorem dX2_init_412 : decode cX2_init 412 = .ok (.bipush 47, 2) := by decide +kernel
theorem dX2_init_414 : decode cX2_init 414 = .ok (.ldc 103, 2) := by decide +kernel
theorem dX2_init_416 : decode cX2_init 416 = .ok (.iastore, 1) := by decide +kernel
theorem dX2_init_417 : decode cX2_init 417 = .ok (.dup, 1) := by decide +kernel
theorem dX2_init_418 : decode cX2_init 418 = .ok (.bipush 48, 2) := by decide +kernel
theorem dX2_init_420 : decode cX2_init 420 = .ok (.ldc 104, 2) := by decide +kernel
theorem dX2_init_422 : decode cX2_init 422 = .ok (.iastore, 1) := by decide +kernel
theorem dX2_init_423 : decode cX2_init 423 = .ok (.dup, 1) := by decide +kernel
theorem dX2_init_424 : decode cX2_init 424 = .ok (.bipush 49, 2) := by decide +kernel
theorem dX2_init_426 : decode cX2_init 426 = .ok (.ldc 105, 2) := by decide +kernel
theorem dX2_init_428 : decode cX2_init 428 = .ok (.iastore, 1) := by decide +kernel
theorem dX2_init_429 : decode cX2_init 429 = .ok (.dup, 1) := by decide +kernel
theorem dX2_init_430 : decode cX2_init 430 = .ok (.bipush 50, 2) := by decide +kernel
theorem dX2_init_432 : decode cX2_init 432 = .ok (.ldc 106, 2) := by decide +kernel
theorem dX2_init_434 : decode cX2_init 434 = .ok (.iastore, 1) := by decide +kernel
theorem dX2_init_435 : decode cX2_init 435 = .ok (.dup, 1) := by decide +kernel
theorem dX2_init_436 : decode cX2_init 436 = .ok (.bipush 51, 2) := by decide +kernel
theorem dX2_init_438 : decode cX2_init 438 = .ok (.ldc 107, 2) := by decide +kernel
theorem dX2_init_440 : decode cX2_init 440 = .ok (.iastore, 1) := by decide +kernel
theorem dX2_init_441 : decode cX2_init 441 = .ok (.dup, 1) := by decide +kernel
theorem dX2_init_442 : decode cX2_init 442 = .ok (.bipush 52, 2) := by decide +kernel
theorem dX2_init_444 : decode cX2_init 444 = .ok (.ldc 108, 2) := by decide +kernel
theorem dX2_init_446 : decode cX2_init 446 = .ok (.iastore, 1) := by decide +kernel
theorem dX2_init_447 : decode cX2_init 447 = .ok (.dup, 1) := by decide +kernel
theorem dX2_init_448 : decode cX2_init 448 = .ok (.bipush 53, 2) := by decide +kernel
theorem dX2_init_450 : decode cX2_init 450 = .ok (.ldc 109, 2) := by decide +kernel
theorem dX2_init_452 : decode cX2_init 452 = .ok (.iastore, 1) := by decide +kernel
theorem dX2_init_453 : decode cX2_init 453 = .ok (.dup, 1) := by decide +kernel
theorem dX2_init_454 : decode cX2_init 454 = .ok (.bipush 54, 2) := by decide +kernel
theorem dX2_init_456 : decode cX2_init 456 = .ok (.ldc 110, 2) := by decide +kernel
theorem dX2_init_458 : decode cX2_init 458 = .ok (.iastore, 1) := by decide +kernel
theorem dX2_init_459 : decode cX2_init 459 = .ok (.dup, 1) := by decide +kernel
theorem dX2_init_460 : decode cX2_init 460 = .ok (.bipush 55, 2) := by decide +kernel
theorem dX2_init_462 : decode cX2_init 462 = .ok (.ldc 111, 2) := by decide +kernel
theorem dX2_init_464 : decode cX2_init 464 = .ok (.iastore, 1) := by decide +kernel
theorem dX2_init_465 : decode cX2_init 465 = .ok (.dup, 1) := by decide +kernel
theorem dX2_init_466 : decode cX2_init 466 = .ok (.bipush 56, 2) := by decide +kernel
theorem dX2_init_468 : decode cX2_init 468 = .ok (.ldc 112, 2) := by decide +kernel
theorem dX2_init_470 : decode cX2_init 470 = .ok (.iastore, 1) := by decide +kernel
theorem dX2_init_471 : decode cX2_init 471 = .ok (.dup, 1) := by decide +kernel
theorem dX2_init_472 : decode cX2_init 472 = .ok (.bipush 57, 2) := by decide +kernel
theorem dX2_init_474 : decode cX2_init 474 = .ok (.ldc 113, 2) := by decide +kernel
theorem dX2_init_476 : decode cX2_init 476 = .ok (.iastore, 1) := by decide +kernel
theorem dX2_init_477 : decode cX2_init 477 = .ok (.dup, 1) := by decide +kernel
theorem dX2_init_478 : decode cX2_init 478 = .ok (.bipush 58, 2) := by decide +kernel
theorem dX2_init_480 : decode cX2_init 480 = .ok (.ldc 114, 2) := by decide +kernel
theorem dX2_init_482 : decode cX2_init 482 = .ok (.iastore, 1) := by decide +kernel
theorem dX2_init_483 : decode cX2_init 483 = .ok (.dup, 1) := by decide +kernel
theorem dX2_init_484 : decode cX2_init 484 = .ok (.bipush 59, 2) := by decide +kernel
theorem dX2_init_486 : decode cX2_init 486 = .ok (.ldc 115, 2) := by decide +kernel
theorem dX2_init_488 : decode cX2_init 488 = .ok (.iastore, 1) := by decide +kernel
theorem dX2_init_489 : decode cX2_init 489 = .ok (.dup, 1) := by decide +kernel
theorem dX2_init_490 : decode cX2_init 490 = .ok (.bipush 60, 2) := by decide +kernel
theorem dX2_init_492 : decode cX2_init 492 = .ok (.ldc 116, 2) := by decide +kernel
theorem dX2_init_494 : decode cX2_init 494 = .ok (.iastore, 1) := by decide +kernel
theorem dX2_init_495 : decode cX2_init 495 = .ok (.dup, 1) := by decide +kernel
theorem dX2_init_496 : decode cX2_init 496 = .ok (.bipush 61, 2) := by decide +kernel
theorem dX2_init_498 : decode cX2_init 498 = .ok (.ldc 117, 2) := by decide +kernel
theorem dX2_init_500 : decode cX2_init 500 = .ok (.iastore, 1) := by decide +kernel
theorem dX2_init_501 : decode cX2_init 501 = .ok (.dup, 1) := by decide +kernel
theorem dX2_init_502 : decode cX2_init 502 = .ok (.bipush 62, 2) := by decide +kernel
theorem dX2_init_504 : decode cX2_init 504 = .ok (.ldc 118, 2) := by decide +kernel
theorem dX2_init_506 : decode cX2_init 506 = .ok (.iastore, 1) := by decide +kernel
theorem dX2_init_507 : decode cX2_init 507 = .ok (.dup, 1) := by decide +kernel
theorem dX2_init_508 : decode cX2_init 508 = .ok (.bipush 63, 2) := by decide +kernel
theorem dX2_init_510 : decode cX2_init 510 = .ok (.ldc 119, 2) := by decide +kernel
theorem dX2_init_512 : decode cX2_init 512 = .ok (.iastore, 1) := by decide +kernel
theorem dX2_init_513 : decode cX2_init 513 = .ok (.putfield 120, 3) := by decide +kernel
theorem dX2_init_516 : decode cX2_init 516 = .ok (.return_, 1) := by decide +kernel
theorem dX2_thrown_0 : decode cX2_thrown 0 = .ok (.aload_n 0, 1) := by decide +kernel
theorem dX2_thrown_1 : decode cX2_thrown 1 = .ok (.getfield 123, 3) := by decide +kernel
theorem dX2_thrown_4 : decode cX2_thrown 4 = .ok (.ireturn, 1) := by decide +kernel
theorem dX2_feed_0 : decode cX2_feed 0 = .ok (.aload_n 0, 1) := by decide +kernel
theorem dX2_feed_1 : decode cX2_feed 1 = .ok (.iload_n 3, 1) := by decide +kernel
theorem dX2_feed_2 : decode cX2_feed 2 = .ok (.iconst 1, 1) := by decide +kernel
theorem dX2_feed_3 : decode cX2_feed 3 = .ok (.bipush 8, 2) := by decide +kernel
theorem dX2_feed_5 : decode cX2_feed 5 = .ok (.invokestatic 130, 3) := by decide +kernel
theorem dX2_feed_8 : decode cX2_feed 8 = .ok (.aload_n 0, 1) := by decide +kernel
theorem dX2_feed_9 : decode cX2_feed 9 = .ok (.getfield 185, 3) := by decide +kernel
theorem dX2_feed_12 : decode cX2_feed 12 = .ok (.iload_n 3, 1) := by decide +kernel
theorem dX2_feed_13 : decode cX2_feed 13 = .ok (.iadd, 1) := by decide +kernel
theorem dX2_feed_14 : decode cX2_feed 14 = .ok (.sipush 200, 3) := by decide +kernel
theorem dX2_feed_17 : decode cX2_feed 17 = .ok (.if_icmp .gt 7, 3) := by decide +kernel
theorem dX2_feed_20 : decode cX2_feed 20 = .ok (.iconst 1, 1) := by decide +kernel
theorem dX2_feed_21 : decode cX2_feed 21 = .ok (.goto 4, 3) := by decide +kernel
theorem dX2_feed_24 : decode cX2_feed 24 = .ok (.iconst 0, 1) := by decide +kernel
theorem dX2_feed_25 : decode cX2_feed 25 = .ok (.iconst 1, 1) := by decide +kernel
theorem dX2_feed_26 : decode cX2_feed 26 = .ok (.invokevirtual 188, 3) := by decide +kernel
theorem dX2_feed_29 : decode cX2_feed 29 = .ok (.ifCond .ne 5, 3) := by decide +kernel
theorem dX2_feed_32 : decode cX2_feed 32 = .ok (.iconst 0, 1) := by decide +kernel
theorem dX2_feed_33 : decode cX2_feed 33 = .ok (.ireturn, 1) := by decide +kernel
theorem dX2_feed_34 : decode cX2_feed 34 = .ok (.iload_n 3, 1) := by decide +kernel
theorem dX2_feed_35 : decode cX2_feed 35 = .ok (.iconst 1, 1) := by decide +kernel
theorem dX2_feed_36 : decode cX2_feed 36 = .ok (.isub, 1) := by decide +kernel
theorem dX2_feed_37 : decode cX2_feed 37 = .ok (.istore 4, 2) := by decide +kernel
theorem dX2_feed_39 : decode cX2_feed 39 = .ok (.iload 4, 2) := by decide +kernel
theorem dX2_feed_41 : decode cX2_feed 41 = .ok (.ifCond .lt 40, 3) := by decide +kernel
theorem dX2_feed_44 : decode cX2_feed 44 = .ok (.aload_n 0, 1) := by decide +kernel
theorem dX2_feed_45 : decode cX2_feed 45 = .ok (.getfield 7, 3) := by decide +kernel
theorem dX2_feed_48 : decode cX2_feed 48 = .ok (.aload_n 0, 1) := by decide +kernel
theorem dX2_feed_49 : decode cX2_feed 49 = .ok (.getfield 185, 3) := by decide +kernel
theorem dX2_feed_52 : decode cX2_feed 52 = .ok (.lload_n 1, 1) := by decide +kernel
theorem dX2_feed_53 : decode cX2_feed 53 = .ok (.bipush 8, 2) := by decide +kernel
theorem dX2_feed_55 : decode cX2_feed 55 = .ok (.iload 4, 2) := by decide +kernel
theorem dX2_feed_57 : decode cX2_feed 57 = .ok (.imul, 1) := by decide +kernel
theorem dX2_feed_58 : decode cX2_feed 58 = .ok (.lushr, 1) := by decide +kernel
theorem dX2_feed_59 : decode cX2_feed 59 = .ok (.l2i, 1) := by decide +kernel
theorem dX2_feed_60 : decode cX2_feed 60 = .ok (.sipush 255, 3) := by decide +kernel
theorem dX2_feed_63 : decode cX2_feed 63 = .ok (.iand, 1) := by decide +kernel
theorem dX2_feed_64 : decode cX2_feed 64 = .ok (.iastore, 1) := by decide +kernel
theorem dX2_feed_65 : decode cX2_feed 65 = .ok (.aload_n 0, 1) := by decide +kernel
theorem dX2_feed_66 : decode cX2_feed 66 = .ok (.dup, 1) := by decide +kernel
theorem dX2_feed_67 : decode cX2_feed 67 = .ok (.getfield 185, 3) := by decide +kernel
theorem dX2_feed_70 : decode cX2_feed 70 = .ok (.iconst 1, 1) := by decide +kernel
theorem dX2_feed_71 : decode cX2_feed 71 = .ok (.iadd, 1) := by decide +kernel
theorem dX2_feed_72 : decode cX2_feed 72 = .ok (.putfield 185, 3) := by decide +kernel
theorem dX2_feed_75 : decode cX2_feed 75 = .ok (.iinc 4 (-1), 3) := by decide +kernel
theorem dX2_feed_78 : decode cX2_feed 78 = .ok (.goto (-39), 3) := by decide +kernel
theorem dX2_feed_81 : decode cX2_feed 81 = .ok (.aload_n 0, 1) := by decide +kernel
theorem dX2_feed_82 : decode cX2_feed 82 = .ok (.getfield 185, 3) := by decide +kernel
theorem dX2_feed_85 : decode cX2_feed 85 = .ok (.ireturn, 1) := by decide +kernel
theorem dX2_in_0 : decode cX2_in 0 = .ok (.iload_n 0, 1) := by decide +kernel
theorem dX2_in_1 : decode cX2_in 1 = .ok (.iload_n 1, 1) := by decide +kernel
theorem dX2_in_2 : decode cX2_in 2 = .ok (.if_icmp .lt 12, 3) := by decide +kernel
theorem dX2_in_5 : decode cX2_in 5 = .ok (.iload_n 0, 1) := by decide +kernel
theorem dX2_in_6 : decode cX2_in 6 = .ok (.iload_n 2, 1) := by decide +kernel
theorem dX2_in_7 : decode cX2_in 7 = .ok (.if_icmp .gt 7, 3) := by decide +kernel
theorem dX2_in_10 : decode cX2_in 10 = .ok (.iconst 1, 1) := by decide +kernel
theorem dX2_in_11 : decode cX2_in 11 = .ok (.goto 4, 3) := by decide +kernel
theorem dX2_in_14 : decode cX2_in 14 = .ok (.iconst 0, 1) := by decide +kernel
theorem dX2_in_15 : decode cX2_in 15 = .ok (.ireturn, 1) := by decide +kernel
theorem dX2_goes_0 : decode cX2_goes 0 = .ok (.aload_n 0, 1) := by decide +kernel
theorem dX2_goes_1 : decode cX2_goes 1 = .ok (.iload_n 1, 1) := by decide +kernel
theorem dX2_goes_2 : decode cX2_goes 2 = .ok (.ifCond .ne 7, 3) := by decide +kernel
theorem dX2_goes_5 : decode cX2_goes 5 = .ok (.iconst 1, 1) := by decide +kernel
theorem dX2_goes_6 : decode cX2_goes 6 = .ok (.goto 20, 3) := by decide +kernel
theorem dX2_goes_9 : decode cX2_goes 9 = .ok (.iload_n 2, 1) := by decide +kernel
theorem dX2_goes_10 : decode cX2_goes 10 = .ok (.ifCond .ne 7, 3) := by decide +kernel
theorem dX2_goes_13 : decode cX2_goes 13 = .ok (.iconst 2, 1) := by decide +kernel
theorem dX2_goes_14 : decode cX2_goes 14 = .ok (.goto 12, 3) := by decide +kernel
theorem dX2_goes_17 : decode cX2_goes 17 = .ok (.iload_n 3, 1) := by decide +kernel
theorem dX2_goes_18 : decode cX2_goes 18 = .ok (.ifCond .ne 7, 3) := by decide +kernel
theorem dX2_goes_21 : decode cX2_goes 21 = .ok (.iconst 3, 1) := by decide +kernel
theorem dX2_goes_22 : decode cX2_goes 22 = .ok (.goto 4, 3) := by decide +kernel
theorem dX2_goes_25 : decode cX2_goes 25 = .ok (.iconst 0, 1) := by decide +kernel
theorem dX2_goes_26 : decode cX2_goes 26 = .ok (.putfield 123, 3) := by decide +kernel
theorem dX2_goes_29 : decode cX2_goes 29 = .ok (.aload_n 0, 1) := by decide +kernel
theorem dX2_goes_30 : decode cX2_goes 30 = .ok (.getfield 123, 3) := by decide +kernel
theorem dX2_goes_33 : decode cX2_goes 33 = .ok (.ifCond .ne 7, 3) := by decide +kernel
theorem dX2_goes_36 : decode cX2_goes 36 = .ok (.iconst 1, 1) := by decide +kernel
theorem dX2_goes_37 : decode cX2_goes 37 = .ok (.goto 4, 3) := by decide +kernel
theorem dX2_goes_40 : decode cX2_goes 40 = .ok (.iconst 0, 1) := by decide +kernel
theorem dX2_goes_41 : decode cX2_goes 41 = .ok (.ireturn, 1) := by decide +kernel
theorem dX2_leaf_0 : decode cX2_leaf 0 = .ok (.aload_n 0, 1) := by decide +kernel
theorem dX2_leaf_1 : decode cX2_leaf 1 = .ok (.aload_n 0, 1) := by decide +kernel
theorem dX2_leaf_2 : decode cX2_leaf 2 = .ok (.getfield 127, 3) := by decide +kernel
theorem dX2_leaf_5 : decode cX2_leaf 5 = .ok (.bipush 24, 2) := by decide +kernel
theorem dX2_leaf_7 : decode cX2_leaf 7 = .ok (.if_icmp .ge 7, 3) := by decide +kernel
theorem dX2_leaf_10 : decode cX2_leaf 10 = .ok (.iconst 1, 1) := by decide +kernel
theorem dX2_leaf_11 : decode cX2_leaf 11 = .ok (.goto 4, 3) := by decide +kernel
theorem dX2_leaf_14 : decode cX2_leaf 14 = .ok (.iconst 0, 1) := by decide +kernel
theorem dX2_leaf_15 : decode cX2_leaf 15 = .ok (.iconst 1, 1) := by decide +kernel
theorem dX2_leaf_16 : decode cX2_leaf 16 = .ok (.iconst 1, 1) := by decide +kernel
theorem dX2_leaf_17 : decode cX2_leaf 17 = .ok (.invokevirtual 188, 3) := by decide +kernel
theorem dX2_leaf_20 : decode cX2_leaf 20 = .ok (.ifCond .ne 5, 3) := by decide +kernel
theorem dX2_leaf_23 : decode cX2_leaf 23 = .ok (.iconst 0, 1) := by decide +kernel
theorem dX2_leaf_24 : decode cX2_leaf 24 = .ok (.ireturn, 1) := by decide +kernel
theorem dX2_leaf_25 : decode cX2_leaf 25 = .ok (.aload_n 0, 1) := by decide +kernel
theorem dX2_leaf_26 : decode cX2_leaf 26 = .ok (.invokevirtual 165, 3) := by decide +kernel
theorem dX2_leaf_29 : decode cX2_leaf 29 = .ok (.aload_n 0, 1) := by decide +kernel
theorem dX2_leaf_30 : decode cX2_leaf 30 = .ok (.iconst 0, 1) := by decide +kernel
theorem dX2_leaf_31 : decode cX2_leaf 31 = .ok (.invokevirtual 140, 3) := by decide +kernel
theorem dX2_leaf_34 : decode cX2_leaf 34 = .ok (.iconst 0, 1) := by decide +kernel
theorem dX2_leaf_35 : decode cX2_leaf 35 = .ok (.istore_n 1, 1) := by decide +kernel
theorem dX2_leaf_36 : decode cX2_leaf 36 = .ok (.iload_n 1, 1) := by decide +kernel
theorem dX2_leaf_37 : decode cX2_leaf 37 = .ok (.aload_n 0, 1) := by decide +kernel
theorem dX2_leaf_38 : decode cX2_leaf 38 = .ok (.getfield 185, 3) := by decide +kernel
theorem dX2_leaf_41 : decode cX2_leaf 41 = .ok (.if_icmp .ge 19, 3) := by decide +kernel
theorem dX2_leaf_44 : decode cX2_leaf 44 = .ok (.aload_n 0, 1) := by decide +kernel
theorem dX2_leaf_45 : decode cX2_leaf 45 = .ok (.aload_n 0, 1) := by decide +kernel
theorem dX2_leaf_46 : decode cX2_leaf 46 = .ok (.getfield 7, 3) := by decide +kernel
theorem dX2_leaf_49 : decode cX2_leaf 49 = .ok (.iload_n 1, 1) := by decide +kernel
theorem dX2_leaf_50 : decode cX2_leaf 50 = .ok (.iaload, 1) := by decide +kernel
theorem dX2_leaf_51 : decode cX2_leaf 51 = .ok (.invokevirtual 140, 3) := by decide +kernel
theorem dX2_leaf_54 : decode cX2_leaf 54 = .ok (.iinc 1 1, 3) := by decide +kernel
theorem dX2_leaf_57 : decode cX2_leaf 57 = .ok (.goto (-21), 3) := by decide +kernel
theorem dX2_leaf_60 : decode cX2_leaf 60 = .ok (.aload_n 0, 1) := by decide +kernel
theorem dX2_leaf_61 : decode cX2_leaf 61 = .ok (.invokevirtual 172, 3) := by decide +kernel
theorem dX2_leaf_64 : decode cX2_leaf 64 = .ok (.aload_n 0, 1) := by decide +kernel
theorem dX2_leaf_65 : decode cX2_leaf 65 = .ok (.iconst 0, 1) := by decide +kernel
theorem dX2_leaf_66 : decode cX2_leaf 66 = .ok (.putfield 185, 3) := by decide +kernel
theorem dX2_leaf_69 : decode cX2_leaf 69 = .ok (.iconst 0, 1) := by decide +kernel
theorem dX2_leaf_70 : decode cX2_leaf 70 = .ok (.istore_n 1, 1) := by decide +kernel
theorem dX2_leaf_71 : decode cX2_leaf 71 = .ok (.iload_n 1, 1) := by decide +kernel
theorem dX2_leaf_72 : decode cX2_leaf 72 = .ok (.bipush 32, 2) := by decide +kernel
theorem dX2_leaf_74 : decode cX2_leaf 74 = .ok (.if_icmp .ge 29, 3) := by decide +kernel
theorem dX2_leaf_77 : decode cX2_leaf 77 = .ok (.aload_n 0, 1) := by decide +kernel
theorem dX2_leaf_78 : decode cX2_leaf 78 = .ok (.getfield 13, 3) := by decide +kernel
theorem dX2_leaf_81 : decode cX2_leaf 81 = .ok (.bipush 32, 2) := by decide +kernel
theorem dX2_leaf_83 : decode cX2_leaf 83 = .ok (.aload_n 0, 1) := by decide +kernel
theorem dX2_leaf_84 : decode cX2_leaf 84 = .ok (.getfield 127, 3) := by decide +kernel
theorem dX2_leaf_87 : decode cX2_leaf 87 = .ok (.imul, 1) := by decide +kernel
theorem dX2_leaf_88 : decode cX2_leaf 88 = .ok (.iload_n 1, 1) := by decide +kernel
theorem dX2_leaf_89 : decode cX2_leaf 89 = .ok (.iadd, 1) := by decide +kernel
theorem dX2_leaf_90 : decode cX2_leaf 90 = .ok (.aload_n 0, 1) := by decide +kernel
theorem dX2_leaf_91 : decode cX2_leaf 91 = .ok (.getfield 32, 3) := by decide +kernel
theorem dX2_leaf_94 : decode cX2_leaf 94 = .ok (.iload_n 1, 1) := by decide +kernel
theorem dX2_leaf_95 : decode cX2_leaf 95 = .ok (.iaload, 1) := by decide +kernel
theorem dX2_leaf_96 : decode cX2_leaf 96 = .ok (.iastore, 1) := by decide +kernel
theorem dX2_leaf_97 : decode cX2_leaf 97 = .ok (.iinc 1 1, 3) := by decide +kernel
theorem dX2_leaf_100 : decode cX2_leaf 100 = .ok (.goto (-29), 3) := by decide +kernel
theorem dX2_leaf_103 : decode cX2_leaf 103 = .ok (.aload_n 0, 1) := by decide +kernel
theorem dX2_leaf_104 : decode cX2_leaf 104 = .ok (.dup, 1) := by decide +kernel
theorem dX2_leaf_105 : decode cX2_leaf 105 = .ok (.getfield 127, 3) := by decide +kernel
theorem dX2_leaf_108 : decode cX2_leaf 108 = .ok (.iconst 1, 1) := by decide +kernel
theorem dX2_leaf_109 : decode cX2_leaf 109 = .ok (.iadd, 1) := by decide +kernel
theorem dX2_leaf_110 : decode cX2_leaf 110 = .ok (.putfield 127, 3) := by decide +kernel
theorem dX2_leaf_113 : decode cX2_leaf 113 = .ok (.aload_n 0, 1) := by decide +kernel
theorem dX2_leaf_114 : decode cX2_leaf 114 = .ok (.getfield 127, 3) := by decide +kernel
theorem dX2_leaf_117 : decode cX2_leaf 117 = .ok (.iconst 1, 1) := by decide +kernel
theorem dX2_leaf_118 : decode cX2_leaf 118 = .ok (.isub, 1) := by decide +kernel
theorem dX2_leaf_119 : decode cX2_leaf 119 = .ok (.ireturn, 1) := by decide +kernel
theorem dX2_begin_0 : decode cX2_begin 0 = .ok (.aload_n 0, 1) := by decide +kernel
theorem dX2_begin_1 : decode cX2_begin 1 = .ok (.iconst 0, 1) := by decide +kernel
theorem dX2_begin_2 : decode cX2_begin 2 = .ok (.putfield 137, 3) := by decide +kernel
theorem dX2_begin_5 : decode cX2_begin 5 = .ok (.return_, 1) := by decide +kernel
theorem dX2_add_0 : decode cX2_add 0 = .ok (.aload_n 0, 1) := by decide +kernel
theorem dX2_add_1 : decode cX2_add 1 = .ok (.getfield 29, 3) := by decide +kernel
theorem dX2_add_4 : decode cX2_add 4 = .ok (.aload_n 0, 1) := by decide +kernel
theorem dX2_add_5 : decode cX2_add 5 = .ok (.getfield 137, 3) := by decide +kernel
theorem dX2_add_8 : decode cX2_add 8 = .ok (.iload_n 1, 1) := by decide +kernel
theorem dX2_add_9 : decode cX2_add 9 = .ok (.iastore, 1) := by decide +kernel
theorem dX2_add_10 : decode cX2_add 10 = .ok (.aload_n 0, 1) := by decide +kernel
theorem dX2_add_11 : decode cX2_add 11 = .ok (.dup, 1) := by decide +kernel
theorem dX2_add_12 : decode cX2_add 12 = .ok (.getfield 137, 3) := by decide +kernel
theorem dX2_add_15 : decode cX2_add 15 = .ok (.iconst 1, 1) := by decide +kernel
theorem dX2_add_16 : decode cX2_add 16 = .ok (.iadd, 1) := by decide +kernel
theorem dX2_add_17 : decode cX2_add 17 = .ok (.putfield 137, 3) := by decide +kernel
theorem dX2_add_20 : decode cX2_add 20 = .ok (.return_, 1) := by decide +kernel
theorem dX2_digest0_0 : decode cX2_digest0 0 = .ok (.aload_n 0, 1) := by decide +kernel
theorem dX2_digest0_1 : decode cX2_digest0 1 = .ok (.getfield 38, 3) := by decide +kernel
theorem dX2_digest0_4 : decode cX2_digest0 4 = .ok (.iconst 0, 1) := by decide +kernel
theorem dX2_digest0_5 : decode cX2_digest0 5 = .ok (.ldc 148, 2) := by decide +kernel
theorem dX2_digest0_7 : decode cX2_digest0 7 = .ok (.iastore, 1) := by decide +kernel
theorem dX2_digest0_8 : decode cX2_digest0 8 = .ok (.aload_n 0, 1) := by decide +kernel
theorem dX2_digest0_9 : decode cX2_digest0 9 = .ok (.getfield 38, 3) := by decide +kernel
theorem dX2_digest0_12 : decode cX2_digest0 12 = .ok (.iconst 1, 1) := by decide +kernel
theorem dX2_digest0_13 : decode cX2_digest0 13 = .ok (.ldc 149, 2) := by decide +kernel
theorem dX2_digest0_15 : decode cX2_digest0 15 = .ok (.iastore, 1) := by decide +kernel
theorem dX2_digest0_16 : decode cX2_digest0 16 = .ok (.aload_n 0, 1) := by decide +kernel
theorem dX2_digest0_17 : decode cX2_digest0 17 = .ok (.getfield 38, 3) := by decide +kernel
theorem dX2_digest0_20 : decode cX2_digest0 20 = .ok (.iconst 2, 1) := by decide +kernel
theorem dX2_digest0_21 : decode cX2_digest0 21 = .ok (.ldc 150, 2) := by decide +kernel
theorem dX2_digest0_23 : decode cX2_digest0 23 = .ok (.iastore, 1) := by decide +kernel
theorem dX2_digest0_24 : decode cX2_digest0 24 = .ok (.aload_n 0, 1) := by decide +kernel
theorem dX2_digest0_25 : decode cX2_digest0 25 = .ok (.getfield 38, 3) := by decide +kernel
theorem dX2_digest0_28 : decode cX2_digest0 28 = .ok (.iconst 3, 1) := by decide +kernel
theorem dX2_digest0_29 : decode cX2_digest0 29 = .ok (.ldc 151, 2) := by decide +kernel
theorem dX2_digest0_31 : decode cX2_digest0 31 = .ok (.iastore, 1) := by decide +kernel
theorem dX2_digest0_32 : decode cX2_digest0 32 = .ok (.aload_n 0, 1) := by decide +kernel
theorem dX2_digest0_33 : decode cX2_digest0 33 = .ok (.getfield 38, 3) := by decide +kernel
theorem dX2_digest0_36 : decode cX2_digest0 36 = .ok (.iconst 4, 1) := by decide +kernel
theorem dX2_digest0_37 : decode cX2_digest0 37 = .ok (.ldc 152, 2) := by decide +kernel
theorem dX2_digest0_39 : decode cX2_digest0 39 = .ok (.iastore, 1) := by decide +kernel
theorem dX2_digest0_40 : decode cX2_digest0 40 = .ok (.aload_n 0, 1) := by decide +kernel
theorem dX2_digest0_41 : decode cX2_digest0 41 = .ok (.getfield 38, 3) := by decide +kernel
theorem dX2_digest0_44 : decode cX2_digest0 44 = .ok (.iconst 5, 1) := by decide +kernel
theorem dX2_digest0_45 : decode cX2_digest0 45 = .ok (.ldc 153, 2) := by decide +kernel
theorem dX2_digest0_47 : decode cX2_digest0 47 = .ok (.iastore, 1) := by decide +kernel
theorem dX2_digest0_48 : decode cX2_digest0 48 = .ok (.aload_n 0, 1) := by decide +kernel
theorem dX2_digest0_49 : decode cX2_digest0 49 = .ok (.getfield 38, 3) := by decide +kernel
theorem dX2_digest0_52 : decode cX2_digest0 52 = .ok (.bipush 6, 2) := by decide +kernel
theorem dX2_digest0_54 : decode cX2_digest0 54 = .ok (.ldc 154, 2) := by decide +kernel
theorem dX2_digest0_56 : decode cX2_digest0 56 = .ok (.iastore, 1) := by decide +kernel
theorem dX2_digest0_57 : decode cX2_digest0 57 = .ok (.aload_n 0, 1) := by decide +kernel
theorem dX2_digest0_58 : decode cX2_digest0 58 = .ok (.getfield 38, 3) := by decide +kernel
theorem dX2_digest0_61 : decode cX2_digest0 61 = .ok (.bipush 7, 2) := by decide +kernel
theorem dX2_digest0_63 : decode cX2_digest0 63 = .ok (.ldc 155, 2) := by decide +kernel
theorem dX2_digest0_65 : decode cX2_digest0 65 = .ok (.iastore, 1) := by decide +kernel
theorem dX2_digest0_66 : decode cX2_digest0 66 = .ok (.aload_n 0, 1) := by decide +kernel
theorem dX2_digest0_67 : decode cX2_digest0 67 = .ok (.getfield 137, 3) := by decide +kernel
theorem dX2_digest0_70 : decode cX2_digest0 70 = .ok (.istore_n 1, 1) := by decide +kernel
theorem dX2_digest0_71 : decode cX2_digest0 71 = .ok (.aload_n 0, 1) := by decide +kernel
theorem dX2_digest0_72 : decode cX2_digest0 72 = .ok (.sipush 128, 3) := by decide +kernel
theorem dX2_digest0_75 : decode cX2_digest0 75 = .ok (.invokevirtual 140, 3) := by decide +kernel
theorem dX2_digest0_78 : decode cX2_digest0 78 = .ok (.aload_n 0, 1) := by decide +kernel
theorem dX2_digest0_79 : decode cX2_digest0 79 = .ok (.getfield 137, 3) := by decide +kernel
theorem dX2_digest0_82 : decode cX2_digest0 82 = .ok (.bipush 64, 2) := by decide +kernel
theorem dX2_digest0_84 : decode cX2_digest0 84 = .ok (.irem, 1) := by decide +kernel
theorem dX2_digest0_85 : decode cX2_digest0 85 = .ok (.bipush 56, 2) := by decide +kernel
theorem dX2_digest0_87 : decode cX2_digest0 87 = .ok (.if_icmp .eq 11, 3) := by decide +kernel
theorem dX2_digest0_90 : decode cX2_digest0 90 = .ok (.aload_n 0, 1) := by decide +kernel
theorem dX2_digest0_91 : decode cX2_digest0 91 = .ok (.iconst 0, 1) := by decide +kernel
theorem dX2_digest0_92 : decode cX2_digest0 92 = .ok (.invokevirtual 140, 3) := by decide +kernel
theorem dX2_digest0_95 : decode cX2_digest0 95 = .ok (.goto (-17), 3) := by decide +kernel
theorem dX2_digest0_98 : decode cX2_digest0 98 = .ok (.aload_n 0, 1) := by decide +kernel
theorem dX2_digest0_99 : decode cX2_digest0 99 = .ok (.ldc2_w 156, 3) := by decide +kernel
theorem dX2_digest0_102 : decode cX2_digest0 102 = .ok (.iload_n 1, 1) := by decide +kernel
theorem dX2_digest0_103 : decode cX2_digest0 103 = .ok (.i2l, 1) := by decide +kernel
theorem dX2_digest0_104 : decode cX2_digest0 104 = .ok (.lmul, 1) := by decide +kernel
theorem dX2_digest0_105 : decode cX2_digest0 105 = .ok (.invokevirtual 158, 3) := by decide +kernel
theorem dX2_digest0_108 : decode cX2_digest0 108 = .ok (.iconst 0, 1) := by decide +kernel
theorem dX2_digest0_109 : decode cX2_digest0 109 = .ok (.istore_n 2, 1) := by decide +kernel
theorem dX2_digest0_110 : decode cX2_digest0 110 = .ok (.iload_n 2, 1) := by decide +kernel
theorem dX2_digest0_111 : decode cX2_digest0 111 = .ok (.aload_n 0, 1) := by decide +kernel
theorem dX2_digest0_112 : decode cX2_digest0 112 = .ok (.getfield 137, 3) := by decide +kernel
theorem dX2_digest0_115 : decode cX2_digest0 115 = .ok (.if_icmp .ge 14, 3) := by decide +kernel
theorem dX2_digest0_118 : decode cX2_digest0 118 = .ok (.aload_n 0, 1) := by decide +kernel
theorem dX2_digest0_119 : decode cX2_digest0 119 = .ok (.iload_n 2, 1) := by decide +kernel
theorem dX2_digest0_120 : decode cX2_digest0 120 = .ok (.invokevirtual 162, 3) := by decide +kernel
theorem dX2_digest0_123 : decode cX2_digest0 123 = .ok (.iinc 2 64, 3) := by decide +kernel
theorem dX2_digest0_126 : decode cX2_digest0 126 = .ok (.goto (-16), 3) := by decide +kernel
theorem dX2_digest0_129 : decode cX2_digest0 129 = .ok (.iconst 0, 1) := by decide +kernel
theorem dX2_digest0_130 : decode cX2_digest0 130 = .ok (.istore_n 2, 1) := by decide +kernel
theorem dX2_digest0_131 : decode cX2_digest0 131 = .ok (.iload_n 2, 1) := by decide +kernel
theorem dX2_digest0_132 : decode cX2_digest0 132 = .ok (.bipush 32, 2) := by decide +kernel
theorem dX2_digest0_134 : decode cX2_digest0 134 = .ok (.if_icmp .ge 37, 3) := by decide +kernel
theorem dX2_digest0_137 : decode cX2_digest0 137 = .ok (.aload_n 0, 1) := by decide +kernel
theorem dX2_digest0_138 : decode cX2_digest0 138 = .ok (.getfield 32, 3) := by decide +kernel
theorem dX2_digest0_141 : decode cX2_digest0 141 = .ok (.iload_n 2, 1) := by decide +kernel
theorem dX2_digest0_142 : decode cX2_digest0 142 = .ok (.aload_n 0, 1) := by decide +kernel
theorem dX2_digest0_143 : decode cX2_digest0 143 = .ok (.getfield 38, 3) := by decide +kernel
theorem dX2_digest0_146 : decode cX2_digest0 146 = .ok (.iload_n 2, 1) := by decide +kernel
theorem dX2_digest0_147 : decode cX2_digest0 147 = .ok (.iconst 4, 1) := by decide +kernel
theorem dX2_digest0_148 : decode cX2_digest0 148 = .ok (.idiv, 1) := by decide +kernel
theorem dX2_digest0_149 : decode cX2_digest0 149 = .ok (.iaload, 1) := by decide +kernel
theorem dX2_digest0_150 : decode cX2_digest0 150 = .ok (.bipush 24, 2) := by decide +kernel
theorem dX2_digest0_152 : decode cX2_digest0 152 = .ok (.bipush 8, 2) := by decide +kernel
theorem dX2_digest0_154 : decode cX2_digest0 154 = .ok (.iload_n 2, 1) := by decide +kernel
theorem dX2_digest0_155 : decode cX2_digest0 155 = .ok (.iconst 4, 1) := by decide +kernel
theorem dX2_digest0_156 : decode cX2_digest0 156 = .ok (.irem, 1) := by decide +kernel
theorem dX2_digest0_157 : decode cX2_digest0 157 = .ok (.imul, 1) := by decide +kernel
theorem dX2_digest0_158 : decode cX2_digest0 158 = .ok (.isub, 1) := by decide +kernel
theorem dX2_digest0_159 : decode cX2_digest0 159 = .ok (.iushr, 1) := by decide +kernel
theorem dX2_digest0_160 : decode cX2_digest0 160 = .ok (.sipush 255, 3) := by decide +kernel
theorem dX2_digest0_163 : decode cX2_digest0 163 = .ok (.iand, 1) := by decide +kernel
theorem dX2_digest0_164 : decode cX2_digest0 164 = .ok (.iastore, 1) := by decide +kernel
theorem dX2_digest0_165 : decode cX2_digest0 165 = .ok (.iinc 2 1, 3) := by decide +kernel
theorem dX2_digest0_168 : decode cX2_digest0 168 = .ok (.goto (-37), 3) := by decide +kernel
theorem dX2_digest0_171 : decode cX2_digest0 171 = .ok (.return_, 1) := by decide +kernel
theorem dX2_addLong_0 : decode cX2_addLong 0 = .ok (.bipush 56, 2) := by decide +kernel
theorem dX2_addLong_2 : decode cX2_addLong 2 = .ok (.istore_n 3, 1) := by decide +kernel
theorem dX2_addLong_3 : decode cX2_addLong 3 = .ok (.iload_n 3, 1) := by decide +kernel
theorem dX2_addLong_4 : decode cX2_addLong 4 = .ok (.ifCond .lt 21, 3) := by decide +kernel
theorem dX2_addLong_7 : decode cX2_addLong 7 = .ok (.aload_n 0, 1) := by decide +kernel
theorem dX2_addLong_8 : decode cX2_addLong 8 = .ok (.lload_n 1, 1) := by decide +kernel
theorem dX2_addLong_9 : decode cX2_addLong 9 = .ok (.iload_n 3, 1) := by decide +kernel
theorem dX2_addLong_10 : decode cX2_addLong 10 = .ok (.lushr, 1) := by decide +kernel
theorem dX2_addLong_11 : decode cX2_addLong 11 = .ok (.l2i, 1) := by decide +kernel
theorem dX2_addLong_12 : decode cX2_addLong 12 = .ok (.sipush 255, 3) := by decide +kernel
theorem dX2_addLong_15 : decode cX2_addLong 15 = .ok (.iand, 1) := by decide +kernel
theorem dX2_addLong_16 : decode cX2_addLong 16 = .ok (.invokevirtual 140, 3) := by decide +kernel
theorem dX2_addLong_19 : decode cX2_addLong 19 = .ok (.iinc 3 (-8), 3) := by decide +kernel
theorem dX2_addLong_22 : decode cX2_addLong 22 = .ok (.goto (-19), 3) := by decide +kernel
theorem dX2_addLong_25 : decode cX2_addLong 25 = .ok (.return_, 1) := by decide +kernel
theorem dX2_block_0 : decode cX2_block 0 = .ok (.iconst 0, 1) := by decide +kernel
theorem dX2_block_1 : decode cX2_block 1 = .ok (.istore_n 2, 1) := by decide +kernel
theorem dX2_block_2 : decode cX2_block 2 = .ok (.iload_n 2, 1) := by decide +kernel
theorem dX2_block_3 : decode cX2_block 3 = .ok (.bipush 16, 2) := by decide +kernel
theorem dX2_block_5 : decode cX2_block 5 = .ok (.if_icmp .ge 73, 3) := by decide +kernel
theorem dX2_block_8 : decode cX2_block 8 = .ok (.aload_n 0, 1) := by decide +kernel
theorem dX2_block_9 : decode cX2_block 9 = .ok (.getfield 35, 3) := by decide +kernel
theorem dX2_block_12 : decode cX2_block 12 = .ok (.iload_n 2, 1) := by decide +kernel
theorem dX2_block_13 : decode cX2_block 13 = .ok (.aload_n 0, 1) := by decide +kernel
theorem dX2_block_14 : decode cX2_block 14 = .ok (.getfield 29, 3) := by decide +kernel
theorem dX2_block_17 : decode cX2_block 17 = .ok (.iload_n 1, 1) := by decide +kernel
theorem dX2_block_18 : decode cX2_block 18 = .ok (.iconst 4, 1) := by decide +kernel
theorem dX2_block_19 : decode cX2_block 19 = .ok (.iload_n 2, 1) := by decide +kernel
theorem dX2_block_20 : decode cX2_block 20 = .ok (.imul, 1) := by decide +kernel
theorem dX2_block_21 : decode cX2_block 21 = .ok (.iadd, 1) := by decide +kernel
theorem dX2_block_22 : decode cX2_block 22 = .ok (.iaload, 1) := by decide +kernel
theorem dX2_block_23 : decode cX2_block 23 = .ok (.bipush 24, 2) := by decide +kernel
theorem dX2_block_25 : decode cX2_block 25 = .ok (.ishl, 1) := by decide +kernel
theorem dX2_block_26 : decode cX2_block 26 = .ok (.aload_n 0, 1) := by decide +kernel
theorem dX2_block_27 : decode cX2_block 27 = .ok (.getfield 29, 3) := by decide +kernel
theorem dX2_block_30 : decode cX2_block 30 = .ok (.iload_n 1, 1) := by decide +kernel
theorem dX2_block_31 : decode cX2_block 31 = .ok (.iconst 4, 1) := by decide +kernel
theorem dX2_block_32 : decode cX2_block 32 = .ok (.iload_n 2, 1) := by decide +kernel
theorem dX2_block_33 : decode cX2_block 33 = .ok (.imul, 1) := by decide +kernel
theorem dX2_block_34 : decode cX2_block 34 = .ok (.iadd, 1) := by decide +kernel
theorem dX2_block_35 : decode cX2_block 35 = .ok (.iconst 1, 1) := by decide +kernel
theorem dX2_block_36 : decode cX2_block 36 = .ok (.iadd, 1) := by decide +kernel
theorem dX2_block_37 : decode cX2_block 37 = .ok (.iaload, 1) := by decide +kernel
theorem dX2_block_38 : decode cX2_block 38 = .ok (.bipush 16, 2) := by decide +kernel
theorem dX2_block_40 : decode cX2_block 40 = .ok (.ishl, 1) := by decide +kernel
theorem dX2_block_41 : decode cX2_block 41 = .ok (.ior, 1) := by decide +kernel
theorem dX2_block_42 : decode cX2_block 42 = .ok (.aload_n 0, 1) := by decide +kernel
theorem dX2_block_43 : decode cX2_block 43 = .ok (.getfield 29, 3) := by decide +kernel
theorem dX2_block_46 : decode cX2_block 46 = .ok (.iload_n 1, 1) := by decide +kernel
theorem dX2_block_47 : decode cX2_block 47 = .ok (.iconst 4, 1) := by decide +kernel
theorem dX2_block_48 : decode cX2_block 48 = .ok (.iload_n 2, 1) := by decide +kernel
theorem dX2_block_49 : decode cX2_block 49 = .ok (.imul, 1) := by decide +kernel
theorem dX2_block_50 : decode cX2_block 50 = .ok (.iadd, 1) := by decide +kernel
theorem dX2_block_51 : decode cX2_block 51 = .ok (.iconst 2, 1) := by decide +kernel
theorem dX2_block_52 : decode cX2_block 52 = .ok (.iadd, 1) := by decide +kernel
theorem dX2_block_53 : decode cX2_block 53 = .ok (.iaload, 1) := by decide +kernel
theorem dX2_block_54 : decode cX2_block 54 = .ok (.bipush 8, 2) := by decide +kernel
theorem dX2_block_56 : decode cX2_block 56 = .ok (.ishl, 1) := by decide +kernel
theorem dX2_block_57 : decode cX2_block 57 = .ok (.ior, 1) := by decide +kernel
theorem dX2_block_58 : decode cX2_block 58 = .ok (.aload_n 0, 1) := by decide +kernel
theorem dX2_block_59 : decode cX2_block 59 = .ok (.getfield 29, 3) := by decide +kernel
theorem dX2_block_62 : decode cX2_block 62 = .ok (.iload_n 1, 1) := by decide +kernel
theorem dX2_block_63 : decode cX2_block 63 = .ok (.iconst 4, 1) := by decide +kernel
theorem dX2_block_64 : decode cX2_block 64 = .ok (.iload_n 2, 1) := by decide +kernel
theorem dX2_block_65 : decode cX2_block 65 = .ok (.imul, 1) := by decide +kernel
theorem dX2_block_66 : decode cX2_block 66 = .ok (.iadd, 1) := by decide +kernel
theorem dX2_block_67 : decode cX2_block 67 = .ok (.iconst 3, 1) := by decide +kernel
theorem dX2_block_68 : decode cX2_block 68 = .ok (.iadd, 1) := by decide +kernel
theorem dX2_block_69 : decode cX2_block 69 = .ok (.iaload, 1) := by decide +kernel
theorem dX2_block_70 : decode cX2_block 70 = .ok (.ior, 1) := by decide +kernel
theorem dX2_block_71 : decode cX2_block 71 = .ok (.iastore, 1) := by decide +kernel
theorem dX2_block_72 : decode cX2_block 72 = .ok (.iinc 2 1, 3) := by decide +kernel
theorem dX2_block_75 : decode cX2_block 75 = .ok (.goto (-73), 3) := by decide +kernel
theorem dX2_block_78 : decode cX2_block 78 = .ok (.bipush 16, 2) := by decide +kernel
theorem dX2_block_80 : decode cX2_block 80 = .ok (.istore_n 2, 1) := by decide +kernel
theorem dX2_block_81 : decode cX2_block 81 = .ok (.iload_n 2, 1) := by decide +kernel
theorem dX2_block_82 : decode cX2_block 82 = .ok (.bipush 64, 2) := by decide +kernel
theorem dX2_block_84 : decode cX2_block 84 = .ok (.if_icmp .ge 102, 3) := by decide +kernel
theorem dX2_block_87 : decode cX2_block 87 = .ok (.aload_n 0, 1) := by decide +kernel
theorem dX2_block_88 : decode cX2_block 88 = .ok (.getfield 35, 3) := by decide +kernel
theorem dX2_block_91 : decode cX2_block 91 = .ok (.iload_n 2, 1) := by decide +kernel
theorem dX2_block_92 : decode cX2_block 92 = .ok (.bipush 15, 2) := by decide +kernel
theorem dX2_block_94 : decode cX2_block 94 = .ok (.isub, 1) := by decide +kernel
theorem dX2_block_95 : decode cX2_block 95 = .ok (.iaload, 1) := by decide +kernel
theorem dX2_block_96 : decode cX2_block 96 = .ok (.istore_n 3, 1) := by decide +kernel
theorem dX2_block_97 : decode cX2_block 97 = .ok (.aload_n 0, 1) := by decide +kernel
theorem dX2_block_98 : decode cX2_block 98 = .ok (.getfield 35, 3) := by decide +kernel
theorem dX2_block_101 : decode cX2_block 101 = .ok (.iload_n 2, 1) := by decide +kernel
theorem dX2_block_102 : decode cX2_block 102 = .ok (.iconst 2, 1) := by decide +kernel
theorem dX2_block_103 : decode cX2_block 103 = .ok (.isub, 1) := by decide +kernel
theorem dX2_block_104 : decode cX2_block 104 = .ok (.iaload, 1) := by decide +kernel
theorem dX2_block_105 : decode cX2_block 105 = .ok (.istore 4, 2) := by decide +kernel
theorem dX2_block_107 : decode cX2_block 107 = .ok (.iload_n 3, 1) := by decide +kernel
theorem dX2_block_108 : decode cX2_block 108 = .ok (.bipush 7, 2) := by decide +kernel
theorem dX2_block_110 : decode cX2_block 110 = .ok (.invokestatic 144, 3) := by decide +kernel
theorem dX2_block_113 : decode cX2_block 113 = .ok (.iload_n 3, 1) := by decide +kernel
theorem dX2_block_114 : decode cX2_block 114 = .ok (.bipush 18, 2) := by decide +kernel
theorem dX2_block_116 : decode cX2_block 116 = .ok (.invokestatic 144, 3) := by decide +kernel
theorem dX2_block_119 : decode cX2_block 119 = .ok (.ixor, 1) := by decide +kernel
theorem dX2_block_120 : decode cX2_block 120 = .ok (.iload_n 3, 1) := by decide +kernel
theorem dX2_block_121 : decode cX2_block 121 = .ok (.iconst 3, 1) := by decide +kernel
theorem dX2_block_122 : decode cX2_block 122 = .ok (.iushr, 1) := by decide +kernel
theorem dX2_block_123 : decode cX2_block 123 = .ok (.ixor, 1) := by decide +kernel
theorem dX2_block_124 : decode cX2_block 124 = .ok (.istore 5, 2) := by decide +kernel
theorem dX2_block_126 : decode cX2_block 126 = .ok (.iload 4, 2) := by decide +kernel
theorem dX2_block_128 : decode cX2_block 128 = .ok (.bipush 17, 2) := by decide +kernel
theorem dX2_block_130 : decode cX2_block 130 = .ok (.invokestatic 144, 3) := by decide +kernel
theorem dX2_block_133 : decode cX2_block 133 = .ok (.iload 4, 2) := by decide +kernel
theorem dX2_block_135 : decode cX2_block 135 = .ok (.bipush 19, 2) := by decide +kernel
theorem dX2_block_137 : decode cX2_block 137 = .ok (.invokestatic 144, 3) := by decide +kernel
theorem dX2_block_140 : decode cX2_block 140 = .ok (.ixor, 1) := by decide +kernel
theorem dX2_block_141 : decode cX2_block 141 = .ok (.iload 4, 2) := by decide +kernel
theorem dX2_block_143 : decode cX2_block 143 = .ok (.bipush 10, 2) := by decide +kernel
theorem dX2_block_145 : decode cX2_block 145 = .ok (.iushr, 1) := by decide +kernel
theorem dX2_block_146 : decode cX2_block 146 = .ok (.ixor, 1) := by decide +kernel
theorem dX2_block_147 : decode cX2_block 147 = .ok (.istore 6, 2) := by decide +kernel
theorem dX2_block_149 : decode cX2_block 149 = .ok (.aload_n 0, 1) := by decide +kernel
theorem dX2_block_150 : decode cX2_block 150 = .ok (.getfield 35, 3) := by decide +kernel
theorem dX2_block_153 : decode cX2_block 153 = .ok (.iload_n 2, 1) := by decide +kernel
theorem dX2_block_154 : decode cX2_block 154 = .ok (.aload_n 0, 1) := by decide +kernel
theorem dX2_block_155 : decode cX2_block 155 = .ok (.getfield 35, 3) := by decide +kernel
theorem dX2_block_158 : decode cX2_block 158 = .ok (.iload_n 2, 1) := by decide +kernel
theorem dX2_block_159 : decode cX2_block 159 = .ok (.bipush 16, 2) := by decide +kernel
theorem dX2_block_161 : decode cX2_block 161 = .ok (.isub, 1) := by decide +kernel
theorem dX2_block_162 : decode cX2_block 162 = .ok (.iaload, 1) := by decide +kernel
theorem dX2_block_163 : decode cX2_block 163 = .ok (.iload 5, 2) := by decide +kernel
theorem dX2_block_165 : decode cX2_block 165 = .ok (.iadd, 1) := by decide +kernel
theorem dX2_block_166 : decode cX2_block 166 = .ok (.aload_n 0, 1) := by decide +kernel
theorem dX2_block_167 : decode cX2_block 167 = .ok (.getfield 35, 3) := by decide +kernel
theorem dX2_block_170 : decode cX2_block 170 = .ok (.iload_n 2, 1) := by decide +kernel
theorem dX2_block_171 : decode cX2_block 171 = .ok (.bipush 7, 2) := by decide +kernel
theorem dX2_block_173 : decode cX2_block 173 = .ok (.isub, 1) := by decide +kernel
theorem dX2_block_174 : decode cX2_block 174 = .ok (.iaload, 1) := by decide +kernel
theorem dX2_block_175 : decode cX2_block 175 = .ok (.iadd, 1) := by decide +kernel
theorem dX2_block_176 : decode cX2_block 176 = .ok (.iload 6, 2) := by decide +kernel
theorem dX2_block_178 : decode cX2_block 178 = .ok (.iadd, 1) := by decide +kernel
theorem dX2_block_179 : decode cX2_block 179 = .ok (.iastore, 1) := by decide +kernel
theorem dX2_block_180 : decode cX2_block 180 = .ok (.iinc 2 1, 3) := by decide +kernel
theorem dX2_block_183 : decode cX2_block 183 = .ok (.goto (-102), 3) := by decide +kernel
theorem dX2_block_186 : decode cX2_block 186 = .ok (.aload_n 0, 1) := by decide +kernel
theorem dX2_block_187 : decode cX2_block 187 = .ok (.getfield 38, 3) := by decide +kernel
theorem dX2_block_190 : decode cX2_block 190 = .ok (.iconst 0, 1) := by decide +kernel
theorem dX2_block_191 : decode cX2_block 191 = .ok (.iaload, 1) := by decide +kernel
theorem dX2_block_192 : decode cX2_block 192 = .ok (.istore_n 2, 1) := by decide +kernel
theorem dX2_block_193 : decode cX2_block 193 = .ok (.aload_n 0, 1) := by decide +kernel
theorem dX2_block_194 : decode cX2_block 194 = .ok (.getfield 38, 3) := by decide +kernel
theorem dX2_block_197 : decode cX2_block 197 = .ok (.iconst 1, 1) := by decide +kernel
theorem dX2_block_198 : decode cX2_block 198 = .ok (.iaload, 1) := by decide +kernel
theorem dX2_block_199 : decode cX2_block 199 = .ok (.istore_n 3, 1) := by decide +kernel
theorem dX2_block_200 : decode cX2_block 200 = .ok (.aload_n 0, 1) := by decide +kernel
theorem dX2_block_201 : decode cX2_block 201 = .ok (.getfield 38, 3) := by decide +kernel
theorem dX2_block_204 : decode cX2_block 204 = .ok (.iconst 2, 1) := by decide +kernel
theorem dX2_block_205 : decode cX2_block 205 = .ok (.iaload, 1) := by decide +kernel
theorem dX2_block_206 : decode cX2_block 206 = .ok (.istore 4, 2) := by decide +kernel
theorem dX2_block_208 : decode cX2_block 208 = .ok (.aload_n 0, 1) := by decide +kernel
theorem dX2_block_209 : decode cX2_block 209 = .ok (.getfield 38, 3) := by decide +kernel
theorem dX2_block_212 : decode cX2_block 212 = .ok (.iconst 3, 1) := by decide +kernel
theorem dX2_block_213 : decode cX2_block 213 = .ok (.iaload, 1) := by decide +kernel
theorem dX2_block_214 : decode cX2_block 214 = .ok (.istore 5, 2) := by decide +kernel
theorem dX2_block_216 : decode cX2_block 216 = .ok (.aload_n 0, 1) := by decide +kernel
theorem dX2_block_217 : decode cX2_block 217 = .ok (.getfield 38, 3) := by decide +kernel
theorem dX2_block_220 : decode cX2_block 220 = .ok (.iconst 4, 1) := by decide +kernel
theorem dX2_block_221 : decode cX2_block 221 = .ok (.iaload, 1) := by decide +kernel
theorem dX2_block_222 : decode cX2_block 222 = .ok (.istore 6, 2) := by decide +kernel
theorem dX2_block_224 : decode cX2_block 224 = .ok (.aload_n 0, 1) := by decide +kernel
theorem dX2_block_225 : decode cX2_block 225 = .ok (.getfield 38, 3) := by decide +kernel
theorem dX2_block_228 : decode cX2_block 228 = .ok (.iconst 5, 1) := by decide +kernel
theorem dX2_block_229 : decode cX2_block 229 = .ok (.iaload, 1) := by decide +kernel
theorem dX2_block_230 : decode cX2_block 230 = .ok (.istore 7, 2) := by decide +kernel
theorem dX2_block_232 : decode cX2_block 232 = .ok (.aload_n 0, 1) := by decide +kernel
theorem dX2_block_233 : decode cX2_block 233 = .ok (.getfield 38, 3) := by decide +kernel
theorem dX2_block_236 : decode cX2_block 236 = .ok (.bipush 6, 2) := by decide +kernel
theorem dX2_block_238 : decode cX2_block 238 = .ok (.iaload, 1) := by decide +kernel
theorem dX2_block_239 : decode cX2_block 239 = .ok (.istore 8, 2) := by decide +kernel
theorem dX2_block_241 : decode cX2_block 241 = .ok (.aload_n 0, 1) := by decide +kernel
theorem dX2_block_242 : decode cX2_block 242 = .ok (.getfield 38, 3) := by decide +kernel
theorem dX2_block_245 : decode cX2_block 245 = .ok (.bipush 7, 2) := by decide +kernel
theorem dX2_block_247 : decode cX2_block 247 = .ok (.iaload, 1) := by decide +kernel
theorem dX2_block_248 : decode cX2_block 248 = .ok (.istore 9, 2) := by decide +kernel
theorem dX2_block_250 : decode cX2_block 250 = .ok (.iconst 0, 1) := by decide +kernel
theorem dX2_block_251 : decode cX2_block 251 = .ok (.istore 10, 2) := by decide +kernel
theorem dX2_block_253 : decode cX2_block 253 = .ok (.iload 10, 2) := by decide +kernel
theorem dX2_block_255 : decode cX2_block 255 = .ok (.bipush 64, 2) := by decide +kernel
theorem dX2_block_257 : decode cX2_block 257 = .ok (.if_icmp .ge 136, 3) := by decide +kernel
theorem dX2_block_260 : decode cX2_block 260 = .ok (.iload 9, 2) := by decide +kernel
theorem dX2_block_262 : decode cX2_block 262 = .ok (.iload 6, 2) := by decide +kernel
theorem dX2_block_264 : decode cX2_block 264 = .ok (.bipush 6, 2) := by decide +kernel
theorem dX2_block_266 : decode cX2_block 266 = .ok (.invokestatic 144, 3) := by decide +kernel
theorem dX2_block_269 : decode cX2_block 269 = .ok (.iload 6, 2) := by decide +kernel
theorem dX2_block_271 : decode cX2_block 271 = .ok (.bipush 11, 2) := by decide +kernel
theorem dX2_block_273 : decode cX2_block 273 = .ok (.invokestatic 144, 3) := by decide +kernel
theorem dX2_block_276 : decode cX2_block 276 = .ok (.ixor, 1) := by decide +kernel
theorem dX2_block_277 : decode cX2_block 277 = .ok (.iload 6, 2) := by decide +kernel
theorem dX2_block_279 : decode cX2_block 279 = .ok (.bipush 25, 2) := by decide +kernel
theorem dX2_block_281 : decode cX2_block 281 = .ok (.invokestatic 144, 3) := by decide +kernel
theorem dX2_block_284 : decode cX2_block 284 = .ok (.ixor, 1) := by decide +kernel
theorem dX2_block_285 : decode cX2_block 285 = .ok (.iadd, 1) := by decide +kernel
theorem dX2_block_286 : decode cX2_block 286 = .ok (.iload 6, 2) := by decide +kernel
theorem dX2_block_288 : decode cX2_block 288 = .ok (.iload 7, 2) := by decide +kernel
theorem dX2_block_290 : decode cX2_block 290 = .ok (.iand, 1) := by decide +kernel
theorem dX2_block_291 : decode cX2_block 291 = .ok (.iload 6, 2) := by decide +kernel
theorem dX2_block_293 : decode cX2_block 293 = .ok (.iconst (-1), 1) := by decide +kernel
theorem dX2_block_294 : decode cX2_block 294 = .ok (.ixor, 1) := by decide +kernel
theorem dX2_block_295 : decode cX2_block 295 = .ok (.iload 8, 2) := by decide +kernel
theorem dX2_block_297 : decode cX2_block 297 = .ok (.iand, 1) := by decide +kernel
theorem dX2_block_298 : decode cX2_block 298 = .ok (.ixor, 1) := by decide +kernel
theorem dX2_block_299 : decode cX2_block 299 = .ok (.iadd, 1) := by decide +kernel
theorem dX2_block_300 : decode cX2_block 300 = .ok (.aload_n 0, 1) := by decide +kernel
theorem dX2_block_301 : decode cX2_block 301 = .ok (.getfield 120, 3) := by decide +kernel
theorem dX2_block_304 : decode cX2_block 304 = .ok (.iload 10, 2) := by decide +kernel
theorem dX2_block_306 : decode cX2_block 306 = .ok (.iaload, 1) := by decide +kernel
theorem dX2_block_307 : decode cX2_block 307 = .ok (.iadd, 1) := by decide +kernel
theorem dX2_block_308 : decode cX2_block 308 = .ok (.aload_n 0, 1) := by decide +kernel
theorem dX2_block_309 : decode cX2_block 309 = .ok (.getfield 35, 3) := by decide +kernel
theorem dX2_block_312 : decode cX2_block 312 = .ok (.iload 10, 2) := by decide +kernel
theorem dX2_block_314 : decode cX2_block 314 = .ok (.iaload, 1) := by decide +kernel
theorem dX2_block_315 : decode cX2_block 315 = .ok (.iadd, 1) := by decide +kernel
theorem dX2_block_316 : decode cX2_block 316 = .ok (.istore 11, 2) := by decide +kernel
theorem dX2_block_318 : decode cX2_block 318 = .ok (.iload_n 2, 1) := by decide +kernel
theorem dX2_block_319 : decode cX2_block 319 = .ok (.iconst 2, 1) := by decide +kernel
theorem dX2_block_320 : decode cX2_block 320 = .ok (.invokestatic 144, 3) := by decide +kernel
theorem dX2_block_323 : decode cX2_block 323 = .ok (.iload_n 2, 1) := by decide +kernel
theorem dX2_block_324 : decode cX2_block 324 = .ok (.bipush 13, 2) := by decide +kernel
theorem dX2_block_326 : decode cX2_block 326 = .ok (.invokestatic 144, 3) := by decide +kernel
theorem dX2_block_329 : decode cX2_block 329 = .ok (.ixor, 1) := by decide +kernel
theorem dX2_block_330 : decode cX2_block 330 = .ok (.iload_n 2, 1) := by decide +kernel
theorem dX2_block_331 : decode cX2_block 331 = .ok (.bipush 22, 2) := by decide +kernel
theorem dX2_block_333 : decode cX2_block 333 = .ok (.invokestatic 144, 3) := by decide +kernel
theorem dX2_block_336 : decode cX2_block 336 = .ok (.ixor, 1) := by decide +kernel
theorem dX2_block_337 : decode cX2_block 337 = .ok (.iload_n 2, 1) := by decide +kernel
theorem dX2_block_338 : decode cX2_block 338 = .ok (.iload_n 3, 1) := by decide +kernel
theorem dX2_block_339 : decode cX2_block 339 = .ok (.iand, 1) := by decide +kernel
theorem dX2_block_340 : decode cX2_block 340 = .ok (.iload_n 2, 1) := by decide +kernel
theorem dX2_block_341 : decode cX2_block 341 = .ok (.iload 4, 2) := by decide +kernel
theorem dX2_block_343 : decode cX2_block 343 = .ok (.iand, 1) := by decide +kernel
theorem dX2_block_344 : decode cX2_block 344 = .ok (.ixor, 1) := by decide +kernel
theorem dX2_block_345 : decode cX2_block 345 = .ok (.iload_n 3, 1) := by decide +kernel
theorem dX2_block_346 : decode cX2_block 346 = .ok (.iload 4, 2) := by decide +kernel
theorem dX2_block_348 : decode cX2_block 348 = .ok (.iand, 1) := by decide +kernel
theorem dX2_block_349 : decode cX2_block 349 = .ok (.ixor, 1) := by decide +kernel
theorem dX2_block_350 : decode cX2_block 350 = .ok (.iadd, 1) := by decide +kernel
theorem dX2_block_351 : decode cX2_block 351 = .ok (.istore 12, 2) := by decide +kernel
theorem dX2_block_353 : decode cX2_block 353 = .ok (.iload 8, 2) := by decide +kernel
theorem dX2_block_355 : decode cX2_block 355 = .ok (.istore 9, 2) := by decide +kernel
theorem dX2_block_357 : decode cX2_block 357 = .ok (.iload 7, 2) := by decide +kernel
theorem dX2_block_359 : decode cX2_block 359 = .ok (.istore 8, 2) := by decide +kernel
theorem dX2_block_361 : decode cX2_block 361 = .ok (.iload 6, 2) := by decide +kernel
theorem dX2_block_363 : decode cX2_block 363 = .ok (.istore 7, 2) := by decide +kernel
theorem dX2_block_365 : decode cX2_block 365 = .ok (.iload 5, 2) := by decide +kernel
theorem dX2_block_367 : decode cX2_block 367 = .ok (.iload 11, 2) := by decide +kernel
theorem dX2_block_369 : decode cX2_block 369 = .ok (.iadd, 1) := by decide +kernel
theorem dX2_block_370 : decode cX2_block 370 = .ok (.istore 6, 2) := by decide +kernel
theorem dX2_block_372 : decode cX2_block 372 = .ok (.iload 4, 2) := by decide +kernel
theorem dX2_block_374 : decode cX2_block 374 = .ok (.istore 5, 2) := by decide +kernel
theorem dX2_block_376 : decode cX2_block 376 = .ok (.iload_n 3, 1) := by decide +kernel
theorem dX2_block_377 : decode cX2_block 377 = .ok (.istore 4, 2) := by decide +kernel
theorem dX2_block_379 : decode cX2_block 379 = .ok (.iload_n 2, 1) := by decide +kernel
theorem dX2_block_380 : decode cX2_block 380 = .ok (.istore_n 3, 1) := by decide +kernel
theorem dX2_block_381 : decode cX2_block 381 = .ok (.iload 11, 2) := by decide +kernel
theorem dX2_block_383 : decode cX2_block 383 = .ok (.iload 12, 2) := by decide +kernel
theorem dX2_block_385 : decode cX2_block 385 = .ok (.iadd, 1) := by decide +kernel
theorem dX2_block_386 : decode cX2_block 386 = .ok (.istore_n 2, 1) := by decide +kernel
theorem dX2_block_387 : decode cX2_block 387 = .ok (.iinc 10 1, 3) := by decide +kernel
theorem dX2_block_390 : decode cX2_block 390 = .ok (.goto (-137), 3) := by decide +kernel
theorem dX2_block_393 : decode cX2_block 393 = .ok (.aload_n 0, 1) := by decide +kernel
theorem dX2_block_394 : decode cX2_block 394 = .ok (.getfield 38, 3) := by decide +kernel
theorem dX2_block_397 : decode cX2_block 397 = .ok (.iconst 0, 1) := by decide +kernel
theorem dX2_block_398 : decode cX2_block 398 = .ok (.aload_n 0, 1) := by decide +kernel
theorem dX2_block_399 : decode cX2_block 399 = .ok (.getfield 38, 3) := by decide +kernel
theorem dX2_block_402 : decode cX2_block 402 = .ok (.iconst 0, 1) := by decide +kernel
theorem dX2_block_403 : decode cX2_block 403 = .ok (.iaload, 1) := by decide +kernel
theorem dX2_block_404 : decode cX2_block 404 = .ok (.iload_n 2, 1) := by decide +kernel
theorem dX2_block_405 : decode cX2_block 405 = .ok (.iadd, 1) := by decide +kernel
theorem dX2_block_406 : decode cX2_block 406 = .ok (.iastore, 1) := by decide +kernel
theorem dX2_block_407 : decode cX2_block 407 = .ok (.aload_n 0, 1) := by decide +kernel
theorem dX2_block_408 : decode cX2_block 408 = .ok (.getfield 38, 3) := by decide +kernel
theorem dX2_block_411 : decode cX2_block 411 = .ok (.iconst 1, 1) := by decide +kernel
theorem dX2_block_412 : decode cX2_block 412 = .ok (.aload_n 0, 1) := by decide +kernel
theorem dX2_block_413 : decode cX2_block 413 = .ok (.getfield 38, 3) := by decide +kernel
theorem dX2_block_416 : decode cX2_block 416 = .ok (.iconst 1, 1) := by decide +kernel
theorem dX2_block_417 : decode cX2_block 417 = .ok (.iaload, 1) := by decide +kernel
theorem dX2_block_418 : decode cX2_block 418 = .ok (.iload_n 3, 1) := by decide +kernel
theorem dX2_block_419 : decode cX2_block 419 = .ok (.iadd, 1) := by decide +kernel
theorem dX2_block_420 : decode cX2_block 420 = .ok (.iastore, 1) := by decide +kernel
theorem dX2_block_421 : decode cX2_block 421 = .ok (.aload_n 0, 1) := by decide +kernel
theorem dX2_block_422 : decode cX2_block 422 = .ok (.getfield 38, 3) := by decide +kernel
theorem dX2_block_425 : decode cX2_block 425 = .ok (.iconst 2, 1) := by decide +kernel
theorem dX2_block_426 : decode cX2_block 426 = .ok (.aload_n 0, 1) := by decide +kernel
theorem dX2_block_427 : decode cX2_block 427 = .ok (.getfield 38, 3) := by decide +kernel
theorem dX2_block_430 : decode cX2_block 430 = .ok (.iconst 2, 1) := by decide +kernel
theorem dX2_block_431 : decode cX2_block 431 = .ok (.iaload, 1) := by decide +kernel
theorem dX2_block_432 : decode cX2_block 432 = .ok (.iload 4, 2) := by decide +kernel
theorem dX2_block_434 : decode cX2_block 434 = .ok (.iadd, 1) := by decide +kernel
theorem dX2_block_435 : decode cX2_block 435 = .ok (.iastore, 1) := by decide +kernel
theorem dX2_block_436 : decode cX2_block 436 = .ok (.aload_n 0, 1) := by decide +kernel
theorem dX2_block_437 : decode cX2_block 437 = .ok (.getfield 38, 3) := by decide +kernel
theorem dX2_block_440 : decode cX2_block 440 = .ok (.iconst 3, 1) := by decide +kernel
theorem dX2_block_441 : decode cX2_block 441 = .ok (.aload_n 0, 1) := by decide +kernel
theorem dX2_block_442 : decode cX2_block 442 = .ok (.getfield 38, 3) := by decide +kernel
theorem dX2_block_445 : decode cX2_block 445 = .ok (.iconst 3, 1) := by decide +kernel
theorem dX2_block_446 : decode cX2_block 446 = .ok (.iaload, 1) := by decide +kernel
theorem dX2_block_447 : decode cX2_block 447 = .ok (.iload 5, 2) := by decide +kernel
theorem dX2_block_449 : decode cX2_block 449 = .ok (.iadd, 1) := by decide +kernel
theorem dX2_block_450 : decode cX2_block 450 = .ok (.iastore, 1) := by decide +kernel
theorem dX2_block_451 : decode cX2_block 451 = .ok (.aload_n 0, 1) := by decide +kernel
theorem dX2_block_452 : decode cX2_block 452 = .ok (.getfield 38, 3) := by decide +kernel
theorem dX2_block_455 : decode cX2_block 455 = .ok (.iconst 4, 1) := by decide +kernel
theorem dX2_block_456 : decode cX2_block 456 = .ok (.aload_n 0, 1) := by decide +kernel
theorem dX2_block_457 : decode cX2_block 457 = .ok (.getfield 38, 3) := by decide +kernel
theorem dX2_block_460 : decode cX2_block 460 = .ok (.iconst 4, 1) := by decide +kernel
theorem dX2_block_461 : decode cX2_block 461 = .ok (.iaload, 1) := by decide +kernel
theorem dX2_block_462 : decode cX2_block 462 = .ok (.iload 6, 2) := by decide +kernel
theorem dX2_block_464 : decode cX2_block 464 = .ok (.iadd, 1) := by decide +kernel
theorem dX2_block_465 : decode cX2_block 465 = .ok (.iastore, 1) := by decide +kernel
theorem dX2_block_466 : decode cX2_block 466 = .ok (.aload_n 0, 1) := by decide +kernel
theorem dX2_block_467 : decode cX2_block 467 = .ok (.getfield 38, 3) := by decide +kernel
theorem dX2_block_470 : decode cX2_block 470 = .ok (.iconst 5, 1) := by decide +kernel
theorem dX2_block_471 : decode cX2_block 471 = .ok (.aload_n 0, 1) := by decide +kernel
theorem dX2_block_472 : decode cX2_block 472 = .ok (.getfield 38, 3) := by decide +kernel
theorem dX2_block_475 : decode cX2_block 475 = .ok (.iconst 5, 1) := by decide +kernel
theorem dX2_block_476 : decode cX2_block 476 = .ok (.iaload, 1) := by decide +kernel
theorem dX2_block_477 : decode cX2_block 477 = .ok (.iload 7, 2) := by decide +kernel
theorem dX2_block_479 : decode cX2_block 479 = .ok (.iadd, 1) := by decide +kernel
theorem dX2_block_480 : decode cX2_block 480 = .ok (.iastore, 1) := by decide +kernel
theorem dX2_block_481 : decode cX2_block 481 = .ok (.aload_n 0, 1) := by decide +kernel
theorem dX2_block_482 : decode cX2_block 482 = .ok (.getfield 38, 3) := by decide +kernel
theorem dX2_block_485 : decode cX2_block 485 = .ok (.bipush 6, 2) := by decide +kernel
theorem dX2_block_487 : decode cX2_block 487 = .ok (.aload_n 0, 1) := by decide +kernel
theorem dX2_block_488 : decode cX2_block 488 = .ok (.getfield 38, 3) := by decide +kernel
theorem dX2_block_491 : decode cX2_block 491 = .ok (.bipush 6, 2) := by decide +kernel
theorem dX2_block_493 : decode cX2_block 493 = .ok (.iaload, 1) := by decide +kernel
theorem dX2_block_494 : decode cX2_block 494 = .ok (.iload 8, 2) := by decide +kernel
theorem dX2_block_496 : decode cX2_block 496 = .ok (.iadd, 1) := by decide +kernel
theorem dX2_block_497 : decode cX2_block 497 = .ok (.iastore, 1) := by decide +kernel
theorem dX2_block_498 : decode cX2_block 498 = .ok (.aload_n 0, 1) := by decide +kernel
theorem dX2_block_499 : decode cX2_block 499 = .ok (.getfield 38, 3) := by decide +kernel
theorem dX2_block_502 : decode cX2_block 502 = .ok (.bipush 7, 2) := by decide +kernel
theorem dX2_block_504 : decode cX2_block 504 = .ok (.aload_n 0, 1) := by decide +kernel
theorem dX2_block_505 : decode cX2_block 505 = .ok (.getfield 38, 3) := by decide +kernel
theorem dX2_block_508 : decode cX2_block 508 = .ok (.bipush 7, 2) := by decide +kernel
theorem dX2_block_510 : decode cX2_block 510 = .ok (.iaload, 1) := by decide +kernel
theorem dX2_block_511 : decode cX2_block 511 = .ok (.iload 9, 2) := by decide +kernel
theorem dX2_block_513 : decode cX2_block 513 = .ok (.iadd, 1) := by decide +kernel
theorem dX2_block_514 : decode cX2_block 514 = .ok (.iastore, 1) := by decide +kernel
theorem dX2_block_515 : decode cX2_block 515 = .ok (.return_, 1) := by decide +kernel
theorem dX2_right_0 : decode cX2_right 0 = .ok (.iload_n 0, 1) := by decide +kernel
theorem dX2_right_1 : decode cX2_right 1 = .ok (.iload_n 1, 1) := by decide +kernel
theorem dX2_right_2 : decode cX2_right 2 = .ok (.iushr, 1) := by decide +kernel
theorem dX2_right_3 : decode cX2_right 3 = .ok (.iload_n 0, 1) := by decide +kernel
theorem dX2_right_4 : decode cX2_right 4 = .ok (.bipush 32, 2) := by decide +kernel
theorem dX2_right_6 : decode cX2_right 6 = .ok (.iload_n 1, 1) := by decide +kernel
theorem dX2_right_7 : decode cX2_right 7 = .ok (.isub, 1) := by decide +kernel
theorem dX2_right_8 : decode cX2_right 8 = .ok (.ishl, 1) := by decide +kernel
theorem dX2_right_9 : decode cX2_right 9 = .ok (.ior, 1) := by decide +kernel
theorem dX2_right_10 : decode cX2_right 10 = .ok (.ireturn, 1) := by decide +kernel
theorem dX2_close_0 : decode cX2_close 0 = .ok (.aload_n 0, 1) := by decide +kernel
theorem dX2_close_1 : decode cX2_close 1 = .ok (.aload_n 0, 1) := by decide +kernel
theorem dX2_close_2 : decode cX2_close 2 = .ok (.getfield 134, 3) := by decide +kernel
theorem dX2_close_5 : decode cX2_close 5 = .ok (.bipush 12, 2) := by decide +kernel
theorem dX2_close_7 : decode cX2_close 7 = .ok (.if_icmp .ge 7, 3) := by decide +kernel
theorem dX2_close_10 : decode cX2_close 10 = .ok (.iconst 1, 1) := by decide +kernel
theorem dX2_close_11 : decode cX2_close 11 = .ok (.goto 4, 3) := by decide +kernel
theorem dX2_close_14 : decode cX2_close 14 = .ok (.iconst 0, 1) := by decide +kernel
theorem dX2_close_15 : decode cX2_close 15 = .ok (.iconst 1, 1) := by decide +kernel
theorem dX2_close_16 : decode cX2_close 16 = .ok (.iconst 1, 1) := by decide +kernel
theorem dX2_close_17 : decode cX2_close 17 = .ok (.invokevirtual 188, 3) := by decide +kernel
theorem dX2_close_20 : decode cX2_close 20 = .ok (.ifCond .ne 5, 3) := by decide +kernel
theorem dX2_close_23 : decode cX2_close 23 = .ok (.iconst 0, 1) := by decide +kernel
theorem dX2_close_24 : decode cX2_close 24 = .ok (.ireturn, 1) := by decide +kernel
theorem dX2_close_25 : decode cX2_close 25 = .ok (.aload_n 0, 1) := by decide +kernel
theorem dX2_close_26 : decode cX2_close 26 = .ok (.iconst 0, 1) := by decide +kernel
theorem dX2_close_27 : decode cX2_close 27 = .ok (.aload_n 0, 1) := by decide +kernel
theorem dX2_close_28 : decode cX2_close 28 = .ok (.getfield 127, 3) := by decide +kernel
theorem dX2_close_31 : decode cX2_close 31 = .ok (.invokevirtual 192, 3) := by decide +kernel
theorem dX2_close_34 : decode cX2_close 34 = .ok (.aload_n 0, 1) := by decide +kernel
theorem dX2_close_35 : decode cX2_close 35 = .ok (.getfield 20, 3) := by decide +kernel
theorem dX2_close_38 : decode cX2_close 38 = .ok (.aload_n 0, 1) := by decide +kernel
theorem dX2_close_39 : decode cX2_close 39 = .ok (.getfield 134, 3) := by decide +kernel
theorem dX2_close_42 : decode cX2_close 42 = .ok (.aload_n 0, 1) := by decide +kernel
theorem dX2_close_43 : decode cX2_close 43 = .ok (.getfield 127, 3) := by decide +kernel
theorem dX2_close_46 : decode cX2_close 46 = .ok (.iastore, 1) := by decide +kernel
theorem dX2_close_47 : decode cX2_close 47 = .ok (.iconst 0, 1) := by decide +kernel
theorem dX2_close_48 : decode cX2_close 48 = .ok (.istore_n 1, 1) := by decide +kernel
theorem dX2_close_49 : decode cX2_close 49 = .ok (.iload_n 1, 1) := by decide +kernel
theorem dX2_close_50 : decode cX2_close 50 = .ok (.bipush 32, 2) := by decide +kernel
theorem dX2_close_52 : decode cX2_close 52 = .ok (.if_icmp .ge 29, 3) := by decide +kernel
theorem dX2_close_55 : decode cX2_close 55 = .ok (.aload_n 0, 1) := by decide +kernel
theorem dX2_close_56 : decode cX2_close 56 = .ok (.getfield 23, 3) := by decide +kernel
theorem dX2_close_59 : decode cX2_close 59 = .ok (.bipush 32, 2) := by decide +kernel
theorem dX2_close_61 : decode cX2_close 61 = .ok (.aload_n 0, 1) := by decide +kernel
theorem dX2_close_62 : decode cX2_close 62 = .ok (.getfield 134, 3) := by decide +kernel
theorem dX2_close_65 : decode cX2_close 65 = .ok (.imul, 1) := by decide +kernel
theorem dX2_close_66 : decode cX2_close 66 = .ok (.iload_n 1, 1) := by decide +kernel
theorem dX2_close_67 : decode cX2_close 67 = .ok (.iadd, 1) := by decide +kernel
theorem dX2_close_68 : decode cX2_close 68 = .ok (.aload_n 0, 1) := by decide +kernel
theorem dX2_close_69 : decode cX2_close 69 = .ok (.getfield 32, 3) := by decide +kernel
theorem dX2_close_72 : decode cX2_close 72 = .ok (.iload_n 1, 1) := by decide +kernel
theorem dX2_close_73 : decode cX2_close 73 = .ok (.iaload, 1) := by decide +kernel
theorem dX2_close_74 : decode cX2_close 74 = .ok (.iastore, 1) := by decide +kernel
theorem dX2_close_75 : decode cX2_close 75 = .ok (.iinc 1 1, 3) := by decide +kernel
theorem dX2_close_78 : decode cX2_close 78 = .ok (.goto (-29), 3) := by decide +kernel
theorem dX2_close_81 : decode cX2_close 81 = .ok (.aload_n 0, 1) := by decide +kernel
theorem dX2_close_82 : decode cX2_close 82 = .ok (.dup, 1) := by decide +kernel
theorem dX2_close_83 : decode cX2_close 83 = .ok (.getfield 134, 3) := by decide +kernel
theorem dX2_close_86 : decode cX2_close 86 = .ok (.iconst 1, 1) := by decide +kernel
theorem dX2_close_87 : decode cX2_close 87 = .ok (.iadd, 1) := by decide +kernel
theorem dX2_close_88 : decode cX2_close 88 = .ok (.putfield 134, 3) := by decide +kernel
theorem dX2_close_91 : decode cX2_close 91 = .ok (.aload_n 0, 1) := by decide +kernel
theorem dX2_close_92 : decode cX2_close 92 = .ok (.getfield 134, 3) := by decide +kernel
theorem dX2_close_95 : decode cX2_close 95 = .ok (.iconst 1, 1) := by decide +kernel
theorem dX2_close_96 : decode cX2_close 96 = .ok (.isub, 1) := by decide +kernel
theorem dX2_close_97 : decode cX2_close 97 = .ok (.ireturn, 1) := by decide +kernel
theorem dX2_tree_0 : decode cX2_tree 0 = .ok (.iload_n 2, 1) := by decide +kernel
theorem dX2_tree_1 : decode cX2_tree 1 = .ok (.ifCond .ne 12, 3) := by decide +kernel
theorem dX2_tree_4 : decode cX2_tree 4 = .ok (.aload_n 0, 1) := by decide +kernel
theorem dX2_tree_5 : decode cX2_tree 5 = .ok (.invokevirtual 165, 3) := by decide +kernel
theorem dX2_tree_8 : decode cX2_tree 8 = .ok (.aload_n 0, 1) := by decide +kernel
theorem dX2_tree_9 : decode cX2_tree 9 = .ok (.invokevirtual 172, 3) := by decide +kernel
theorem dX2_tree_12 : decode cX2_tree 12 = .ok (.return_, 1) := by decide +kernel
theorem dX2_tree_13 : decode cX2_tree 13 = .ok (.aload_n 0, 1) := by decide +kernel
theorem dX2_tree_14 : decode cX2_tree 14 = .ok (.iconst 0, 1) := by decide +kernel
theorem dX2_tree_15 : decode cX2_tree 15 = .ok (.putfield 175, 3) := by decide +kernel
theorem dX2_tree_18 : decode cX2_tree 18 = .ok (.iload_n 1, 1) := by decide +kernel
theorem dX2_tree_19 : decode cX2_tree 19 = .ok (.istore_n 3, 1) := by decide +kernel
theorem dX2_tree_20 : decode cX2_tree 20 = .ok (.iload_n 3, 1) := by decide +kernel
theorem dX2_tree_21 : decode cX2_tree 21 = .ok (.iload_n 1, 1) := by decide +kernel
theorem dX2_tree_22 : decode cX2_tree 22 = .ok (.iload_n 2, 1) := by decide +kernel
theorem dX2_tree_23 : decode cX2_tree 23 = .ok (.iadd, 1) := by decide +kernel
theorem dX2_tree_24 : decode cX2_tree 24 = .ok (.if_icmp .ge 112, 3) := by decide +kernel
theorem dX2_tree_27 : decode cX2_tree 27 = .ok (.iconst 0, 1) := by decide +kernel
theorem dX2_tree_28 : decode cX2_tree 28 = .ok (.istore 4, 2) := by decide +kernel
theorem dX2_tree_30 : decode cX2_tree 30 = .ok (.iload 4, 2) := by decide +kernel
theorem dX2_tree_32 : decode cX2_tree 32 = .ok (.bipush 32, 2) := by decide +kernel
theorem dX2_tree_34 : decode cX2_tree 34 = .ok (.if_icmp .ge 36, 3) := by decide +kernel
theorem dX2_tree_37 : decode cX2_tree 37 = .ok (.aload_n 0, 1) := by decide +kernel
theorem dX2_tree_38 : decode cX2_tree 38 = .ok (.getfield 41, 3) := by decide +kernel
theorem dX2_tree_41 : decode cX2_tree 41 = .ok (.bipush 32, 2) := by decide +kernel
theorem dX2_tree_43 : decode cX2_tree 43 = .ok (.aload_n 0, 1) := by decide +kernel
theorem dX2_tree_44 : decode cX2_tree 44 = .ok (.getfield 175, 3) := by decide +kernel
theorem dX2_tree_47 : decode cX2_tree 47 = .ok (.imul, 1) := by decide +kernel
theorem dX2_tree_48 : decode cX2_tree 48 = .ok (.iload 4, 2) := by decide +kernel
theorem dX2_tree_50 : decode cX2_tree 50 = .ok (.iadd, 1) := by decide +kernel
theorem dX2_tree_51 : decode cX2_tree 51 = .ok (.aload_n 0, 1) := by decide +kernel
theorem dX2_tree_52 : decode cX2_tree 52 = .ok (.getfield 13, 3) := by decide +kernel
theorem dX2_tree_55 : decode cX2_tree 55 = .ok (.bipush 32, 2) := by decide +kernel
theorem dX2_tree_57 : decode cX2_tree 57 = .ok (.iload_n 3, 1) := by decide +kernel
theorem dX2_tree_58 : decode cX2_tree 58 = .ok (.imul, 1) := by decide +kernel
theorem dX2_tree_59 : decode cX2_tree 59 = .ok (.iload 4, 2) := by decide +kernel
theorem dX2_tree_61 : decode cX2_tree 61 = .ok (.iadd, 1) := by decide +kernel
theorem dX2_tree_62 : decode cX2_tree 62 = .ok (.iaload, 1) := by decide +kernel
theorem dX2_tree_63 : decode cX2_tree 63 = .ok (.iastore, 1) := by decide +kernel
theorem dX2_tree_64 : decode cX2_tree 64 = .ok (.iinc 4 1, 3) := by decide +kernel
theorem dX2_tree_67 : decode cX2_tree 67 = .ok (.goto (-37), 3) := by decide +kernel
theorem dX2_tree_70 : decode cX2_tree 70 = .ok (.aload_n 0, 1) := by decide +kernel
theorem dX2_tree_71 : decode cX2_tree 71 = .ok (.getfield 44, 3) := by decide +kernel
theorem dX2_tree_74 : decode cX2_tree 74 = .ok (.aload_n 0, 1) := by decide +kernel
theorem dX2_tree_75 : decode cX2_tree 75 = .ok (.getfield 175, 3) := by decide +kernel
theorem dX2_tree_78 : decode cX2_tree 78 = .ok (.iconst 1, 1) := by decide +kernel
theorem dX2_tree_79 : decode cX2_tree 79 = .ok (.iastore, 1) := by decide +kernel
theorem dX2_tree_80 : decode cX2_tree 80 = .ok (.aload_n 0, 1) := by decide +kernel
theorem dX2_tree_81 : decode cX2_tree 81 = .ok (.dup, 1) := by decide +kernel
theorem dX2_tree_82 : decode cX2_tree 82 = .ok (.getfield 175, 3) := by decide +kernel
theorem dX2_tree_85 : decode cX2_tree 85 = .ok (.iconst 1, 1) := by decide +kernel
theorem dX2_tree_86 : decode cX2_tree 86 = .ok (.iadd, 1) := by decide +kernel
theorem dX2_tree_87 : decode cX2_tree 87 = .ok (.putfield 175, 3) := by decide +kernel
theorem dX2_tree_90 : decode cX2_tree 90 = .ok (.aload_n 0, 1) := by decide +kernel
theorem dX2_tree_91 : decode cX2_tree 91 = .ok (.getfield 175, 3) := by decide +kernel
theorem dX2_tree_94 : decode cX2_tree 94 = .ok (.iconst 1, 1) := by decide +kernel
theorem dX2_tree_95 : decode cX2_tree 95 = .ok (.if_icmp .le 35, 3) := by decide +kernel
theorem dX2_tree_98 : decode cX2_tree 98 = .ok (.aload_n 0, 1) := by decide +kernel
theorem dX2_tree_99 : decode cX2_tree 99 = .ok (.getfield 44, 3) := by decide +kernel
theorem dX2_tree_102 : decode cX2_tree 102 = .ok (.aload_n 0, 1) := by decide +kernel
theorem dX2_tree_103 : decode cX2_tree 103 = .ok (.getfield 175, 3) := by decide +kernel
theorem dX2_tree_106 : decode cX2_tree 106 = .ok (.iconst 1, 1) := by decide +kernel
theorem dX2_tree_107 : decode cX2_tree 107 = .ok (.isub, 1) := by decide +kernel
theorem dX2_tree_108 : decode cX2_tree 108 = .ok (.iaload, 1) := by decide +kernel
theorem dX2_tree_109 : decode cX2_tree 109 = .ok (.aload_n 0, 1) := by decide +kernel
theorem dX2_tree_110 : decode cX2_tree 110 = .ok (.getfield 44, 3) := by decide +kernel
theorem dX2_tree_113 : decode cX2_tree 113 = .ok (.aload_n 0, 1) := by decide +kernel
theorem dX2_tree_114 : decode cX2_tree 114 = .ok (.getfield 175, 3) := by decide +kernel
theorem dX2_tree_117 : decode cX2_tree 117 = .ok (.iconst 2, 1) := by decide +kernel
theorem dX2_tree_118 : decode cX2_tree 118 = .ok (.isub, 1) := by decide +kernel
theorem dX2_tree_119 : decode cX2_tree 119 = .ok (.iaload, 1) := by decide +kernel
theorem dX2_tree_120 : decode cX2_tree 120 = .ok (.if_icmp .ne 10, 3) := by decide +kernel
theorem dX2_tree_123 : decode cX2_tree 123 = .ok (.aload_n 0, 1) := by decide +kernel
theorem dX2_tree_124 : decode cX2_tree 124 = .ok (.invokevirtual 182, 3) := by decide +kernel
theorem dX2_tree_127 : decode cX2_tree 127 = .ok (.goto (-37), 3) := by decide +kernel
theorem dX2_tree_130 : decode cX2_tree 130 = .ok (.iinc 3 1, 3) := by decide +kernel
theorem dX2_tree_133 : decode cX2_tree 133 = .ok (.goto (-113), 3) := by decide +kernel
theorem dX2_tree_136 : decode cX2_tree 136 = .ok (.aload_n 0, 1) := by decide +kernel
theorem dX2_tree_137 : decode cX2_tree 137 = .ok (.getfield 175, 3) := by decide +kernel
theorem dX2_tree_140 : decode cX2_tree 140 = .ok (.iconst 1, 1) := by decide +kernel
theorem dX2_tree_141 : decode cX2_tree 141 = .ok (.if_icmp .le 10, 3) := by decide +kernel
theorem dX2_tree_144 : decode cX2_tree 144 = .ok (.aload_n 0, 1) := by decide +kernel
theorem dX2_tree_145 : decode cX2_tree 145 = .ok (.invokevirtual 182, 3) := by decide +kernel
theorem dX2_tree_148 : decode cX2_tree 148 = .ok (.goto (-12), 3) := by decide +kernel
theorem dX2_tree_151 : decode cX2_tree 151 = .ok (.iconst 0, 1) := by decide +kernel
theorem dX2_tree_152 : decode cX2_tree 152 = .ok (.istore_n 3, 1) := by decide +kernel
theorem dX2_tree_153 : decode cX2_tree 153 = .ok (.iload_n 3, 1) := by decide +kernel
theorem dX2_tree_154 : decode cX2_tree 154 = .ok (.bipush 32, 2) := by decide +kernel
theorem dX2_tree_156 : decode cX2_tree 156 = .ok (.if_icmp .ge 21, 3) := by decide +kernel
theorem dX2_tree_159 : decode cX2_tree 159 = .ok (.aload_n 0, 1) := by decide +kernel
theorem dX2_tree_160 : decode cX2_tree 160 = .ok (.getfield 32, 3) := by decide +kernel
theorem dX2_tree_163 : decode cX2_tree 163 = .ok (.iload_n 3, 1) := by decide +kernel
theorem dX2_tree_164 : decode cX2_tree 164 = .ok (.aload_n 0, 1) := by decide +kernel
theorem dX2_tree_165 : decode cX2_tree 165 = .ok (.getfield 41, 3) := by decide +kernel
theorem dX2_tree_168 : decode cX2_tree 168 = .ok (.iload_n 3, 1) := by decide +kernel
theorem dX2_tree_169 : decode cX2_tree 169 = .ok (.iaload, 1) := by decide +kernel
theorem dX2_tree_170 : decode cX2_tree 170 = .ok (.iastore, 1) := by decide +kernel
theorem dX2_tree_171 : decode cX2_tree 171 = .ok (.iinc 3 1, 3) := by decide +kernel
theorem dX2_tree_174 : decode cX2_tree 174 = .ok (.goto (-21), 3) := by decide +kernel
theorem dX2_tree_177 : decode cX2_tree 177 = .ok (.return_, 1) := by decide +kernel
theorem dX2_join_0 : decode cX2_join 0 = .ok (.aload_n 0, 1) := by decide +kernel
theorem dX2_join_1 : decode cX2_join 1 = .ok (.aload_n 0, 1) := by decide +kernel
theorem dX2_join_2 : decode cX2_join 2 = .ok (.getfield 41, 3) := by decide +kernel
theorem dX2_join_5 : decode cX2_join 5 = .ok (.bipush 32, 2) := by decide +kernel
theorem dX2_join_7 : decode cX2_join 7 = .ok (.aload_n 0, 1) := by decide +kernel
theorem dX2_join_8 : decode cX2_join 8 = .ok (.getfield 175, 3) := by decide +kernel
theorem dX2_join_11 : decode cX2_join 11 = .ok (.iconst 2, 1) := by decide +kernel
theorem dX2_join_12 : decode cX2_join 12 = .ok (.isub, 1) := by decide +kernel
theorem dX2_join_13 : decode cX2_join 13 = .ok (.imul, 1) := by decide +kernel
theorem dX2_join_14 : decode cX2_join 14 = .ok (.aload_n 0, 1) := by decide +kernel
theorem dX2_join_15 : decode cX2_join 15 = .ok (.getfield 41, 3) := by decide +kernel
theorem dX2_join_18 : decode cX2_join 18 = .ok (.bipush 32, 2) := by decide +kernel
theorem dX2_join_20 : decode cX2_join 20 = .ok (.aload_n 0, 1) := by decide +kernel
theorem dX2_join_21 : decode cX2_join 21 = .ok (.getfield 175, 3) := by decide +kernel
theorem dX2_join_24 : decode cX2_join 24 = .ok (.iconst 1, 1) := by decide +kernel
theorem dX2_join_25 : decode cX2_join 25 = .ok (.isub, 1) := by decide +kernel
theorem dX2_join_26 : decode cX2_join 26 = .ok (.imul, 1) := by decide +kernel
theorem dX2_join_27 : decode cX2_join 27 = .ok (.invokevirtual 178, 3) := by decide +kernel
theorem dX2_join_30 : decode cX2_join 30 = .ok (.aload_n 0, 1) := by decide +kernel
theorem dX2_join_31 : decode cX2_join 31 = .ok (.dup, 1) := by decide +kernel
theorem dX2_join_32 : decode cX2_join 32 = .ok (.getfield 175, 3) := by decide +kernel
theorem dX2_join_35 : decode cX2_join 35 = .ok (.iconst 1, 1) := by decide +kernel
theorem dX2_join_36 : decode cX2_join 36 = .ok (.isub, 1) := by decide +kernel
theorem dX2_join_37 : decode cX2_join 37 = .ok (.putfield 175, 3) := by decide +kernel
theorem dX2_join_40 : decode cX2_join 40 = .ok (.aload_n 0, 1) := by decide +kernel
theorem dX2_join_41 : decode cX2_join 41 = .ok (.getfield 44, 3) := by decide +kernel
theorem dX2_join_44 : decode cX2_join 44 = .ok (.aload_n 0, 1) := by decide +kernel
theorem dX2_join_45 : decode cX2_join 45 = .ok (.getfield 175, 3) := by decide +kernel
theorem dX2_join_48 : decode cX2_join 48 = .ok (.iconst 1, 1) := by decide +kernel
theorem dX2_join_49 : decode cX2_join 49 = .ok (.isub, 1) := by decide +kernel
theorem dX2_join_50 : decode cX2_join 50 = .ok (.aload_n 0, 1) := by decide +kernel
theorem dX2_join_51 : decode cX2_join 51 = .ok (.getfield 44, 3) := by decide +kernel
theorem dX2_join_54 : decode cX2_join 54 = .ok (.aload_n 0, 1) := by decide +kernel
theorem dX2_join_55 : decode cX2_join 55 = .ok (.getfield 175, 3) := by decide +kernel
theorem dX2_join_58 : decode cX2_join 58 = .ok (.iconst 1, 1) := by decide +kernel
theorem dX2_join_59 : decode cX2_join 59 = .ok (.isub, 1) := by decide +kernel
theorem dX2_join_60 : decode cX2_join 60 = .ok (.iaload, 1) := by decide +kernel
theorem dX2_join_61 : decode cX2_join 61 = .ok (.aload_n 0, 1) := by decide +kernel
theorem dX2_join_62 : decode cX2_join 62 = .ok (.getfield 44, 3) := by decide +kernel
theorem dX2_join_65 : decode cX2_join 65 = .ok (.aload_n 0, 1) := by decide +kernel
theorem dX2_join_66 : decode cX2_join 66 = .ok (.getfield 175, 3) := by decide +kernel
theorem dX2_join_69 : decode cX2_join 69 = .ok (.iaload, 1) := by decide +kernel
theorem dX2_join_70 : decode cX2_join 70 = .ok (.iadd, 1) := by decide +kernel
theorem dX2_join_71 : decode cX2_join 71 = .ok (.iastore, 1) := by decide +kernel
theorem dX2_join_72 : decode cX2_join 72 = .ok (.iconst 0, 1) := by decide +kernel
theorem dX2_join_73 : decode cX2_join 73 = .ok (.istore_n 1, 1) := by decide +kernel
theorem dX2_join_74 : decode cX2_join 74 = .ok (.iload_n 1, 1) := by decide +kernel
theorem dX2_join_75 : decode cX2_join 75 = .ok (.bipush 32, 2) := by decide +kernel
theorem dX2_join_77 : decode cX2_join 77 = .ok (.if_icmp .ge 31, 3) := by decide +kernel
theorem dX2_join_80 : decode cX2_join 80 = .ok (.aload_n 0, 1) := by decide +kernel
theorem dX2_join_81 : decode cX2_join 81 = .ok (.getfield 41, 3) := by decide +kernel
theorem dX2_join_84 : decode cX2_join 84 = .ok (.bipush 32, 2) := by decide +kernel
theorem dX2_join_86 : decode cX2_join 86 = .ok (.aload_n 0, 1) := by decide +kernel
theorem dX2_join_87 : decode cX2_join 87 = .ok (.getfield 175, 3) := by decide +kernel
theorem dX2_join_90 : decode cX2_join 90 = .ok (.iconst 1, 1) := by decide +kernel
theorem dX2_join_91 : decode cX2_join 91 = .ok (.isub, 1) := by decide +kernel
theorem dX2_join_92 : decode cX2_join 92 = .ok (.imul, 1) := by decide +kernel
theorem dX2_join_93 : decode cX2_join 93 = .ok (.iload_n 1, 1) := by decide +kernel
theorem dX2_join_94 : decode cX2_join 94 = .ok (.iadd, 1) := by decide +kernel
theorem dX2_join_95 : decode cX2_join 95 = .ok (.aload_n 0, 1) := by decide +kernel
theorem dX2_join_96 : decode cX2_join 96 = .ok (.getfield 32, 3) := by decide +kernel
theorem dX2_join_99 : decode cX2_join 99 = .ok (.iload_n 1, 1) := by decide +kernel
theorem dX2_join_100 : decode cX2_join 100 = .ok (.iaload, 1) := by decide +kernel
theorem dX2_join_101 : decode cX2_join 101 = .ok (.iastore, 1) := by decide +kernel
theorem dX2_join_102 : decode cX2_join 102 = .ok (.iinc 1 1, 3) := by decide +kernel
theorem dX2_join_105 : decode cX2_join 105 = .ok (.goto (-31), 3) := by decide +kernel
theorem dX2_join_108 : decode cX2_join 108 = .ok (.return_, 1) := by decide +kernel
theorem dX2_node_0 : decode cX2_node 0 = .ok (.aload_n 0, 1) := by decide +kernel
theorem dX2_node_1 : decode cX2_node 1 = .ok (.invokevirtual 165, 3) := by decide +kernel
theorem dX2_node_4 : decode cX2_node 4 = .ok (.aload_n 0, 1) := by decide +kernel
theorem dX2_node_5 : decode cX2_node 5 = .ok (.iconst 1, 1) := by decide +kernel
theorem dX2_node_6 : decode cX2_node 6 = .ok (.invokevirtual 140, 3) := by decide +kernel
theorem dX2_node_9 : decode cX2_node 9 = .ok (.aload_n 0, 1) := by decide +kernel
theorem dX2_node_10 : decode cX2_node 10 = .ok (.aload_n 1, 1) := by decide +kernel
theorem dX2_node_11 : decode cX2_node 11 = .ok (.iload_n 2, 1) := by decide +kernel
theorem dX2_node_12 : decode cX2_node 12 = .ok (.invokevirtual 168, 3) := by decide +kernel
theorem dX2_node_15 : decode cX2_node 15 = .ok (.aload_n 0, 1) := by decide +kernel
theorem dX2_node_16 : decode cX2_node 16 = .ok (.aload_n 3, 1) := by decide +kernel
theorem dX2_node_17 : decode cX2_node 17 = .ok (.iload 4, 2) := by decide +kernel
theorem dX2_node_19 : decode cX2_node 19 = .ok (.invokevirtual 168, 3) := by decide +kernel
theorem dX2_node_22 : decode cX2_node 22 = .ok (.aload_n 0, 1) := by decide +kernel
theorem dX2_node_23 : decode cX2_node 23 = .ok (.invokevirtual 172, 3) := by decide +kernel
theorem dX2_node_26 : decode cX2_node 26 = .ok (.return_, 1) := by decide +kernel
theorem dX2_addRow_0 : decode cX2_addRow 0 = .ok (.iconst 0, 1) := by decide +kernel
theorem dX2_addRow_1 : decode cX2_addRow 1 = .ok (.istore_n 3, 1) := by decide +kernel
theorem dX2_addRow_2 : decode cX2_addRow 2 = .ok (.iload_n 3, 1) := by decide +kernel
theorem dX2_addRow_3 : decode cX2_addRow 3 = .ok (.bipush 32, 2) := by decide +kernel
theorem dX2_addRow_5 : decode cX2_addRow 5 = .ok (.if_icmp .ge 18, 3) := by decide +kernel
theorem dX2_addRow_8 : decode cX2_addRow 8 = .ok (.aload_n 0, 1) := by decide +kernel
theorem dX2_addRow_9 : decode cX2_addRow 9 = .ok (.aload_n 1, 1) := by decide +kernel
theorem dX2_addRow_10 : decode cX2_addRow 10 = .ok (.iload_n 2, 1) := by decide +kernel
theorem dX2_addRow_11 : decode cX2_addRow 11 = .ok (.iload_n 3, 1) := by decide +kernel
theorem dX2_addRow_12 : decode cX2_addRow 12 = .ok (.iadd, 1) := by decide +kernel
theorem dX2_addRow_13 : decode cX2_addRow 13 = .ok (.iaload, 1) := by decide +kernel
theorem dX2_addRow_14 : decode cX2_addRow 14 = .ok (.invokevirtual 140, 3) := by decide +kernel
theorem dX2_addRow_17 : decode cX2_addRow 17 = .ok (.iinc 3 1, 3) := by decide +kernel
theorem dX2_addRow_20 : decode cX2_addRow 20 = .ok (.goto (-18), 3) := by decide +kernel
theorem dX2_addRow_23 : decode cX2_addRow 23 = .ok (.return_, 1) := by decide +kernel
theorem dX2_root_0 : decode cX2_root 0 = .ok (.aload_n 0, 1) := by decide +kernel
theorem dX2_root_1 : decode cX2_root 1 = .ok (.aload_n 0, 1) := by decide +kernel
theorem dX2_root_2 : decode cX2_root 2 = .ok (.iload_n 1, 1) := by decide +kernel
theorem dX2_root_3 : decode cX2_root 3 = .ok (.invokevirtual 196, 3) := by decide +kernel
theorem dX2_root_6 : decode cX2_root 6 = .ok (.ifCond .eq 14, 3) := by decide +kernel
theorem dX2_root_9 : decode cX2_root 9 = .ok (.iload_n 2, 1) := by decide +kernel
theorem dX2_root_10 : decode cX2_root 10 = .ok (.invokestatic 200, 3) := by decide +kernel
theorem dX2_root_13 : decode cX2_root 13 = .ok (.ifCond .eq 7, 3) := by decide +kernel
theorem dX2_root_16 : decode cX2_root 16 = .ok (.iconst 1, 1) := by decide +kernel
theorem dX2_root_17 : decode cX2_root 17 = .ok (.goto 4, 3) := by decide +kernel
theorem dX2_root_20 : decode cX2_root 20 = .ok (.iconst 0, 1) := by decide +kernel
theorem dX2_root_21 : decode cX2_root 21 = .ok (.iconst 1, 1) := by decide +kernel
theorem dX2_root_22 : decode cX2_root 22 = .ok (.iconst 1, 1) := by decide +kernel
theorem dX2_root_23 : decode cX2_root 23 = .ok (.invokevirtual 188, 3) := by decide +kernel
theorem dX2_root_26 : decode cX2_root 26 = .ok (.ifCond .ne 5, 3) := by decide +kernel
theorem dX2_root_29 : decode cX2_root 29 = .ok (.iconst 0, 1) := by decide +kernel
theorem dX2_root_30 : decode cX2_root 30 = .ok (.ireturn, 1) := by decide +kernel
theorem dX2_root_31 : decode cX2_root 31 = .ok (.aload_n 0, 1) := by decide +kernel
theorem dX2_root_32 : decode cX2_root 32 = .ok (.getfield 23, 3) := by decide +kernel
theorem dX2_root_35 : decode cX2_root 35 = .ok (.bipush 32, 2) := by decide +kernel
theorem dX2_root_37 : decode cX2_root 37 = .ok (.iload_n 1, 1) := by decide +kernel
theorem dX2_root_38 : decode cX2_root 38 = .ok (.imul, 1) := by decide +kernel
theorem dX2_root_39 : decode cX2_root 39 = .ok (.iload_n 2, 1) := by decide +kernel
theorem dX2_root_40 : decode cX2_root 40 = .ok (.iadd, 1) := by decide +kernel
theorem dX2_root_41 : decode cX2_root 41 = .ok (.iaload, 1) := by decide +kernel
theorem dX2_root_42 : decode cX2_root 42 = .ok (.ireturn, 1) := by decide +kernel
theorem dX2_isDay_0 : decode cX2_isDay 0 = .ok (.iload_n 1, 1) := by decide +kernel
theorem dX2_isDay_1 : decode cX2_isDay 1 = .ok (.iconst 0, 1) := by decide +kernel
theorem dX2_isDay_2 : decode cX2_isDay 2 = .ok (.aload_n 0, 1) := by decide +kernel
theorem dX2_isDay_3 : decode cX2_isDay 3 = .ok (.getfield 134, 3) := by decide +kernel
theorem dX2_isDay_6 : decode cX2_isDay 6 = .ok (.iconst 1, 1) := by decide +kernel
theorem dX2_isDay_7 : decode cX2_isDay 7 = .ok (.isub, 1) := by decide +kernel
theorem dX2_isDay_8 : decode cX2_isDay 8 = .ok (.invokestatic 130, 3) := by decide +kernel
theorem dX2_isDay_11 : decode cX2_isDay 11 = .ok (.ireturn, 1) := by decide +kernel
theorem dX2_isByte_0 : decode cX2_isByte 0 = .ok (.iload_n 0, 1) := by decide +kernel
theorem dX2_isByte_1 : decode cX2_isByte 1 = .ok (.iconst 0, 1) := by decide +kernel
theorem dX2_isByte_2 : decode cX2_isByte 2 = .ok (.bipush 31, 2) := by decide +kernel
theorem dX2_isByte_4 : decode cX2_isByte 4 = .ok (.invokestatic 130, 3) := by decide +kernel
theorem dX2_isByte_7 : decode cX2_isByte 7 = .ok (.ireturn, 1) := by decide +kernel
theorem dX2_digest_0 : decode cX2_digest 0 = .ok (.aload_n 0, 1) := by decide +kernel
theorem dX2_digest_1 : decode cX2_digest 1 = .ok (.aload_n 0, 1) := by decide +kernel
theorem dX2_digest_2 : decode cX2_digest 2 = .ok (.iload_n 1, 1) := by decide +kernel
theorem dX2_digest_3 : decode cX2_digest 3 = .ok (.invokevirtual 203, 3) := by decide +kernel
theorem dX2_digest_6 : decode cX2_digest 6 = .ok (.ifCond .eq 14, 3) := by decide +kernel
theorem dX2_digest_9 : decode cX2_digest 9 = .ok (.iload_n 2, 1) := by decide +kernel
theorem dX2_digest_10 : decode cX2_digest 10 = .ok (.invokestatic 200, 3) := by decide +kernel
theorem dX2_digest_13 : decode cX2_digest 13 = .ok (.ifCond .eq 7, 3) := by decide +kernel
theorem dX2_digest_16 : decode cX2_digest 16 = .ok (.iconst 1, 1) := by decide +kernel
theorem dX2_digest_17 : decode cX2_digest 17 = .ok (.goto 4, 3) := by decide +kernel
theorem dX2_digest_20 : decode cX2_digest 20 = .ok (.iconst 0, 1) := by decide +kernel
theorem dX2_digest_21 : decode cX2_digest 21 = .ok (.iconst 1, 1) := by decide +kernel
theorem dX2_digest_22 : decode cX2_digest 22 = .ok (.iconst 1, 1) := by decide +kernel
theorem dX2_digest_23 : decode cX2_digest 23 = .ok (.invokevirtual 188, 3) := by decide +kernel
theorem dX2_digest_26 : decode cX2_digest 26 = .ok (.ifCond .ne 5, 3) := by decide +kernel
theorem dX2_digest_29 : decode cX2_digest 29 = .ok (.iconst 0, 1) := by decide +kernel
theorem dX2_digest_30 : decode cX2_digest 30 = .ok (.ireturn, 1) := by decide +kernel
theorem dX2_digest_31 : decode cX2_digest 31 = .ok (.aload_n 0, 1) := by decide +kernel
theorem dX2_digest_32 : decode cX2_digest 32 = .ok (.getfield 13, 3) := by decide +kernel
theorem dX2_digest_35 : decode cX2_digest 35 = .ok (.bipush 32, 2) := by decide +kernel
theorem dX2_digest_37 : decode cX2_digest 37 = .ok (.iload_n 1, 1) := by decide +kernel
theorem dX2_digest_38 : decode cX2_digest 38 = .ok (.imul, 1) := by decide +kernel
theorem dX2_digest_39 : decode cX2_digest 39 = .ok (.iload_n 2, 1) := by decide +kernel
theorem dX2_digest_40 : decode cX2_digest 40 = .ok (.iadd, 1) := by decide +kernel
theorem dX2_digest_41 : decode cX2_digest 41 = .ok (.iaload, 1) := by decide +kernel
theorem dX2_digest_42 : decode cX2_digest 42 = .ok (.ireturn, 1) := by decide +kernel
theorem dX2_isLeaf_0 : decode cX2_isLeaf 0 = .ok (.iload_n 1, 1) := by decide +kernel
theorem dX2_isLeaf_1 : decode cX2_isLeaf 1 = .ok (.iconst 0, 1) := by decide +kernel
theorem dX2_isLeaf_2 : decode cX2_isLeaf 2 = .ok (.aload_n 0, 1) := by decide +kernel
theorem dX2_isLeaf_3 : decode cX2_isLeaf 3 = .ok (.getfield 127, 3) := by decide +kernel
theorem dX2_isLeaf_6 : decode cX2_isLeaf 6 = .ok (.iconst 1, 1) := by decide +kernel
theorem dX2_isLeaf_7 : decode cX2_isLeaf 7 = .ok (.isub, 1) := by decide +kernel
theorem dX2_isLeaf_8 : decode cX2_isLeaf 8 = .ok (.invokestatic 130, 3) := by decide +kernel
theorem dX2_isLeaf_11 : decode cX2_isLeaf 11 = .ok (.ireturn, 1) := by decide +kernel
theorem dX2_count_0 : decode cX2_count 0 = .ok (.aload_n 0, 1) := by decide +kernel
theorem dX2_count_1 : decode cX2_count 1 = .ok (.aload_n 0, 1) := by decide +kernel
theorem dX2_count_2 : decode cX2_count 2 = .ok (.iload_n 1, 1) := by decide +kernel
theorem dX2_count_3 : decode cX2_count 3 = .ok (.invokevirtual 196, 3) := by decide +kernel
theorem dX2_count_6 : decode cX2_count 6 = .ok (.iconst 1, 1) := by decide +kernel
theorem dX2_count_7 : decode cX2_count 7 = .ok (.iconst 1, 1) := by decide +kernel
theorem dX2_count_8 : decode cX2_count 8 = .ok (.invokevirtual 188, 3) := by decide +kernel
theorem dX2_count_11 : decode cX2_count 11 = .ok (.ifCond .ne 5, 3) := by decide +kernel
theorem dX2_count_14 : decode cX2_count 14 = .ok (.iconst 0, 1) := by decide +kernel
theorem dX2_count_15 : decode cX2_count 15 = .ok (.ireturn, 1) := by decide +kernel
theorem dX2_count_16 : decode cX2_count 16 = .ok (.aload_n 0, 1) := by decide +kernel
theorem dX2_count_17 : decode cX2_count 17 = .ok (.getfield 20, 3) := by decide +kernel
theorem dX2_count_20 : decode cX2_count 20 = .ok (.iload_n 1, 1) := by decide +kernel
theorem dX2_count_21 : decode cX2_count 21 = .ok (.iaload, 1) := by decide +kernel
theorem dX2_count_22 : decode cX2_count 22 = .ok (.ireturn, 1) := by decide +kernel
theorem dX2_prove_0 : decode cX2_prove 0 = .ok (.aload_n 0, 1) := by decide +kernel
theorem dX2_prove_1 : decode cX2_prove 1 = .ok (.iload_n 1, 1) := by decide +kernel
theorem dX2_prove_2 : decode cX2_prove 2 = .ok (.invokevirtual 203, 3) := by decide +kernel
theorem dX2_prove_5 : decode cX2_prove 5 = .ok (.ifCond .eq 15, 3) := by decide +kernel
theorem dX2_prove_8 : decode cX2_prove 8 = .ok (.aload_n 0, 1) := by decide +kernel
theorem dX2_prove_9 : decode cX2_prove 9 = .ok (.iload_n 2, 1) := by decide +kernel
theorem dX2_prove_10 : decode cX2_prove 10 = .ok (.invokevirtual 196, 3) := by decide +kernel
theorem dX2_prove_13 : decode cX2_prove 13 = .ok (.ifCond .eq 7, 3) := by decide +kernel
theorem dX2_prove_16 : decode cX2_prove 16 = .ok (.iconst 1, 1) := by decide +kernel
theorem dX2_prove_17 : decode cX2_prove 17 = .ok (.goto 4, 3) := by decide +kernel
theorem dX2_prove_20 : decode cX2_prove 20 = .ok (.iconst 0, 1) := by decide +kernel
theorem dX2_prove_21 : decode cX2_prove 21 = .ok (.istore_n 3, 1) := by decide +kernel
theorem dX2_prove_22 : decode cX2_prove 22 = .ok (.aload_n 0, 1) := by decide +kernel
theorem dX2_prove_23 : decode cX2_prove 23 = .ok (.iload_n 3, 1) := by decide +kernel
theorem dX2_prove_24 : decode cX2_prove 24 = .ok (.iload_n 3, 1) := by decide +kernel
theorem dX2_prove_25 : decode cX2_prove 25 = .ok (.ifCond .eq 17, 3) := by decide +kernel
theorem dX2_prove_28 : decode cX2_prove 28 = .ok (.iload_n 1, 1) := by decide +kernel
theorem dX2_prove_29 : decode cX2_prove 29 = .ok (.aload_n 0, 1) := by decide +kernel
theorem dX2_prove_30 : decode cX2_prove 30 = .ok (.getfield 20, 3) := by decide +kernel
theorem dX2_prove_33 : decode cX2_prove 33 = .ok (.iload_n 2, 1) := by decide +kernel
theorem dX2_prove_34 : decode cX2_prove 34 = .ok (.iaload, 1) := by decide +kernel
theorem dX2_prove_35 : decode cX2_prove 35 = .ok (.if_icmp .ge 7, 3) := by decide +kernel
theorem dX2_prove_38 : decode cX2_prove 38 = .ok (.iconst 1, 1) := by decide +kernel
theorem dX2_prove_39 : decode cX2_prove 39 = .ok (.goto 4, 3) := by decide +kernel
theorem dX2_prove_42 : decode cX2_prove 42 = .ok (.iconst 0, 1) := by decide +kernel
theorem dX2_prove_43 : decode cX2_prove 43 = .ok (.iconst 1, 1) := by decide +kernel
theorem dX2_prove_44 : decode cX2_prove 44 = .ok (.invokevirtual 188, 3) := by decide +kernel
theorem dX2_prove_47 : decode cX2_prove 47 = .ok (.ifCond .ne 5, 3) := by decide +kernel
theorem dX2_prove_50 : decode cX2_prove 50 = .ok (.iconst 0, 1) := by decide +kernel
theorem dX2_prove_51 : decode cX2_prove 51 = .ok (.ireturn, 1) := by decide +kernel
theorem dX2_prove_52 : decode cX2_prove 52 = .ok (.aload_n 0, 1) := by decide +kernel
theorem dX2_prove_53 : decode cX2_prove 53 = .ok (.iload_n 1, 1) := by decide +kernel
theorem dX2_prove_54 : decode cX2_prove 54 = .ok (.aload_n 0, 1) := by decide +kernel
theorem dX2_prove_55 : decode cX2_prove 55 = .ok (.getfield 20, 3) := by decide +kernel
theorem dX2_prove_58 : decode cX2_prove 58 = .ok (.iload_n 2, 1) := by decide +kernel
theorem dX2_prove_59 : decode cX2_prove 59 = .ok (.iaload, 1) := by decide +kernel
theorem dX2_prove_60 : decode cX2_prove 60 = .ok (.invokevirtual 209, 3) := by decide +kernel
theorem dX2_prove_63 : decode cX2_prove 63 = .ok (.aload_n 0, 1) := by decide +kernel
theorem dX2_prove_64 : decode cX2_prove 64 = .ok (.aload_n 0, 1) := by decide +kernel
theorem dX2_prove_65 : decode cX2_prove 65 = .ok (.getfield 206, 3) := by decide +kernel
theorem dX2_prove_68 : decode cX2_prove 68 = .ok (.putfield 212, 3) := by decide +kernel
theorem dX2_prove_71 : decode cX2_prove 71 = .ok (.aload_n 0, 1) := by decide +kernel
theorem dX2_prove_72 : decode cX2_prove 72 = .ok (.iconst 1, 1) := by decide +kernel
theorem dX2_prove_73 : decode cX2_prove 73 = .ok (.putfield 215, 3) := by decide +kernel
theorem dX2_prove_76 : decode cX2_prove 76 = .ok (.iconst 0, 1) := by decide +kernel
theorem dX2_prove_77 : decode cX2_prove 77 = .ok (.istore 4, 2) := by decide +kernel
theorem dX2_prove_79 : decode cX2_prove 79 = .ok (.iload 4, 2) := by decide +kernel
theorem dX2_prove_81 : decode cX2_prove 81 = .ok (.aload_n 0, 1) := by decide +kernel
theorem dX2_prove_82 : decode cX2_prove 82 = .ok (.getfield 206, 3) := by decide +kernel
theorem dX2_prove_85 : decode cX2_prove 85 = .ok (.if_icmp .ge 77, 3) := by decide +kernel
theorem dX2_prove_88 : decode cX2_prove 88 = .ok (.aload_n 0, 1) := by decide +kernel
theorem dX2_prove_89 : decode cX2_prove 89 = .ok (.aload_n 0, 1) := by decide +kernel
theorem dX2_prove_90 : decode cX2_prove 90 = .ok (.getfield 47, 3) := by decide +kernel
theorem dX2_prove_93 : decode cX2_prove 93 = .ok (.aload_n 0, 1) := by decide +kernel
theorem dX2_prove_94 : decode cX2_prove 94 = .ok (.getfield 206, 3) := by decide +kernel
theorem dX2_prove_97 : decode cX2_prove 97 = .ok (.iconst 1, 1) := by decide +kernel
theorem dX2_prove_98 : decode cX2_prove 98 = .ok (.isub, 1) := by decide +kernel
theorem dX2_prove_99 : decode cX2_prove 99 = .ok (.iload 4, 2) := by decide +kernel
theorem dX2_prove_101 : decode cX2_prove 101 = .ok (.isub, 1) := by decide +kernel
theorem dX2_prove_102 : decode cX2_prove 102 = .ok (.iaload, 1) := by decide +kernel
theorem dX2_prove_103 : decode cX2_prove 103 = .ok (.aload_n 0, 1) := by decide +kernel
theorem dX2_prove_104 : decode cX2_prove 104 = .ok (.getfield 50, 3) := by decide +kernel
theorem dX2_prove_107 : decode cX2_prove 107 = .ok (.aload_n 0, 1) := by decide +kernel
theorem dX2_prove_108 : decode cX2_prove 108 = .ok (.getfield 206, 3) := by decide +kernel
theorem dX2_prove_111 : decode cX2_prove 111 = .ok (.iconst 1, 1) := by decide +kernel
theorem dX2_prove_112 : decode cX2_prove 112 = .ok (.isub, 1) := by decide +kernel
theorem dX2_prove_113 : decode cX2_prove 113 = .ok (.iload 4, 2) := by decide +kernel
theorem dX2_prove_115 : decode cX2_prove 115 = .ok (.isub, 1) := by decide +kernel
theorem dX2_prove_116 : decode cX2_prove 116 = .ok (.iaload, 1) := by decide +kernel
theorem dX2_prove_117 : decode cX2_prove 117 = .ok (.invokevirtual 192, 3) := by decide +kernel
theorem dX2_prove_120 : decode cX2_prove 120 = .ok (.iconst 0, 1) := by decide +kernel
theorem dX2_prove_121 : decode cX2_prove 121 = .ok (.istore 5, 2) := by decide +kernel
theorem dX2_prove_123 : decode cX2_prove 123 = .ok (.iload 5, 2) := by decide +kernel
theorem dX2_prove_125 : decode cX2_prove 125 = .ok (.bipush 32, 2) := by decide +kernel
theorem dX2_prove_127 : decode cX2_prove 127 = .ok (.if_icmp .ge 29, 3) := by decide +kernel
theorem dX2_prove_130 : decode cX2_prove 130 = .ok (.aload_n 0, 1) := by decide +kernel
theorem dX2_prove_131 : decode cX2_prove 131 = .ok (.getfield 26, 3) := by decide +kernel
theorem dX2_prove_134 : decode cX2_prove 134 = .ok (.bipush 32, 2) := by decide +kernel
theorem dX2_prove_136 : decode cX2_prove 136 = .ok (.iload 4, 2) := by decide +kernel
theorem dX2_prove_138 : decode cX2_prove 138 = .ok (.imul, 1) := by decide +kernel
theorem dX2_prove_139 : decode cX2_prove 139 = .ok (.iload 5, 2) := by decide +kernel
theorem dX2_prove_141 : decode cX2_prove 141 = .ok (.iadd, 1) := by decide +kernel
theorem dX2_prove_142 : decode cX2_prove 142 = .ok (.aload_n 0, 1) := by decide +kernel
theorem dX2_prove_143 : decode cX2_prove 143 = .ok (.getfield 32, 3) := by decide +kernel
theorem dX2_prove_146 : decode cX2_prove 146 = .ok (.iload 5, 2) := by decide +kernel
theorem dX2_prove_148 : decode cX2_prove 148 = .ok (.iaload, 1) := by decide +kernel
theorem dX2_prove_149 : decode cX2_prove 149 = .ok (.iastore, 1) := by decide +kernel
theorem dX2_prove_150 : decode cX2_prove 150 = .ok (.iinc 5 1, 3) := by decide +kernel
theorem dX2_prove_153 : decode cX2_prove 153 = .ok (.goto (-30), 3) := by decide +kernel
theorem dX2_prove_156 : decode cX2_prove 156 = .ok (.iinc 4 1, 3) := by decide +kernel
theorem dX2_prove_159 : decode cX2_prove 159 = .ok (.goto (-80), 3) := by decide +kernel
theorem dX2_prove_162 : decode cX2_prove 162 = .ok (.aload_n 0, 1) := by decide +kernel
theorem dX2_prove_163 : decode cX2_prove 163 = .ok (.getfield 212, 3) := by decide +kernel
theorem dX2_prove_166 : decode cX2_prove 166 = .ok (.ireturn, 1) := by decide +kernel
theorem dX2_goTo_0 : decode cX2_goTo 0 = .ok (.aload_n 0, 1) := by decide +kernel
theorem dX2_goTo_1 : decode cX2_goTo 1 = .ok (.iconst 0, 1) := by decide +kernel
theorem dX2_goTo_2 : decode cX2_goTo 2 = .ok (.putfield 206, 3) := by decide +kernel
theorem dX2_goTo_5 : decode cX2_goTo 5 = .ok (.iconst 0, 1) := by decide +kernel
theorem dX2_goTo_6 : decode cX2_goTo 6 = .ok (.istore_n 3, 1) := by decide +kernel
theorem dX2_goTo_7 : decode cX2_goTo 7 = .ok (.iload_n 2, 1) := by decide +kernel
theorem dX2_goTo_8 : decode cX2_goTo 8 = .ok (.istore 4, 2) := by decide +kernel
theorem dX2_goTo_10 : decode cX2_goTo 10 = .ok (.iload 4, 2) := by decide +kernel
theorem dX2_goTo_12 : decode cX2_goTo 12 = .ok (.iconst 1, 1) := by decide +kernel
theorem dX2_goTo_13 : decode cX2_goTo 13 = .ok (.if_icmp .le 140, 3) := by decide +kernel
theorem dX2_goTo_16 : decode cX2_goTo 16 = .ok (.iconst 1, 1) := by decide +kernel
theorem dX2_goTo_17 : decode cX2_goTo 17 = .ok (.istore 5, 2) := by decide +kernel
theorem dX2_goTo_19 : decode cX2_goTo 19 = .ok (.iconst 2, 1) := by decide +kernel
theorem dX2_goTo_20 : decode cX2_goTo 20 = .ok (.iload 5, 2) := by decide +kernel
theorem dX2_goTo_22 : decode cX2_goTo 22 = .ok (.imul, 1) := by decide +kernel
theorem dX2_goTo_23 : decode cX2_goTo 23 = .ok (.iload 4, 2) := by decide +kernel
theorem dX2_goTo_25 : decode cX2_goTo 25 = .ok (.if_icmp .ge 12, 3) := by decide +kernel
theorem dX2_goTo_28 : decode cX2_goTo 28 = .ok (.iconst 2, 1) := by decide +kernel
theorem dX2_goTo_29 : decode cX2_goTo 29 = .ok (.iload 5, 2) := by decide +kernel
theorem dX2_goTo_31 : decode cX2_goTo 31 = .ok (.imul, 1) := by decide +kernel
theorem dX2_goTo_32 : decode cX2_goTo 32 = .ok (.istore 5, 2) := by decide +kernel
theorem dX2_goTo_34 : decode cX2_goTo 34 = .ok (.goto (-15), 3) := by decide +kernel
theorem dX2_goTo_37 : decode cX2_goTo 37 = .ok (.iload_n 1, 1) := by decide +kernel
theorem dX2_goTo_38 : decode cX2_goTo 38 = .ok (.iload_n 3, 1) := by decide +kernel
theorem dX2_goTo_39 : decode cX2_goTo 39 = .ok (.iload 5, 2) := by decide +kernel
theorem dX2_goTo_41 : decode cX2_goTo 41 = .ok (.iadd, 1) := by decide +kernel
theorem dX2_goTo_42 : decode cX2_goTo 42 = .ok (.if_icmp .ge 7, 3) := by decide +kernel
theorem dX2_goTo_45 : decode cX2_goTo 45 = .ok (.iconst 1, 1) := by decide +kernel
theorem dX2_goTo_46 : decode cX2_goTo 46 = .ok (.goto 4, 3) := by decide +kernel
theorem dX2_goTo_49 : decode cX2_goTo 49 = .ok (.iconst 0, 1) := by decide +kernel
theorem dX2_goTo_50 : decode cX2_goTo 50 = .ok (.istore 6, 2) := by decide +kernel
theorem dX2_goTo_52 : decode cX2_goTo 52 = .ok (.aload_n 0, 1) := by decide +kernel
theorem dX2_goTo_53 : decode cX2_goTo 53 = .ok (.getfield 53, 3) := by decide +kernel
theorem dX2_goTo_56 : decode cX2_goTo 56 = .ok (.aload_n 0, 1) := by decide +kernel
theorem dX2_goTo_57 : decode cX2_goTo 57 = .ok (.getfield 206, 3) := by decide +kernel
theorem dX2_goTo_60 : decode cX2_goTo 60 = .ok (.iload 6, 2) := by decide +kernel
theorem dX2_goTo_62 : decode cX2_goTo 62 = .ok (.bastore, 1) := by decide +kernel
theorem dX2_goTo_63 : decode cX2_goTo 63 = .ok (.aload_n 0, 1) := by decide +kernel
theorem dX2_goTo_64 : decode cX2_goTo 64 = .ok (.getfield 47, 3) := by decide +kernel
theorem dX2_goTo_67 : decode cX2_goTo 67 = .ok (.aload_n 0, 1) := by decide +kernel
theorem dX2_goTo_68 : decode cX2_goTo 68 = .ok (.getfield 206, 3) := by decide +kernel
theorem dX2_goTo_71 : decode cX2_goTo 71 = .ok (.iload 6, 2) := by decide +kernel
theorem dX2_goTo_73 : decode cX2_goTo 73 = .ok (.ifCond .eq 10, 3) := by decide +kernel
theorem dX2_goTo_76 : decode cX2_goTo 76 = .ok (.iload_n 3, 1) := by decide +kernel
theorem dX2_goTo_77 : decode cX2_goTo 77 = .ok (.iload 5, 2) := by decide +kernel
theorem dX2_goTo_79 : decode cX2_goTo 79 = .ok (.iadd, 1) := by decide +kernel
theorem dX2_goTo_80 : decode cX2_goTo 80 = .ok (.goto 4, 3) := by decide +kernel
theorem dX2_goTo_83 : decode cX2_goTo 83 = .ok (.iload_n 3, 1) := by decide +kernel
theorem dX2_goTo_84 : decode cX2_goTo 84 = .ok (.iastore, 1) := by decide +kernel
theorem dX2_goTo_85 : decode cX2_goTo 85 = .ok (.aload_n 0, 1) := by decide +kernel
theorem dX2_goTo_86 : decode cX2_goTo 86 = .ok (.getfield 50, 3) := by decide +kernel
theorem dX2_goTo_89 : decode cX2_goTo 89 = .ok (.aload_n 0, 1) := by decide +kernel
theorem dX2_goTo_90 : decode cX2_goTo 90 = .ok (.getfield 206, 3) := by decide +kernel
theorem dX2_goTo_93 : decode cX2_goTo 93 = .ok (.iload 6, 2) := by decide +kernel
theorem dX2_goTo_95 : decode cX2_goTo 95 = .ok (.ifCond .eq 11, 3) := by decide +kernel
theorem dX2_goTo_98 : decode cX2_goTo 98 = .ok (.iload 4, 2) := by decide +kernel
theorem dX2_goTo_100 : decode cX2_goTo 100 = .ok (.iload 5, 2) := by decide +kernel
theorem dX2_goTo_102 : decode cX2_goTo 102 = .ok (.isub, 1) := by decide +kernel
theorem dX2_goTo_103 : decode cX2_goTo 103 = .ok (.goto 5, 3) := by decide +kernel
theorem dX2_goTo_106 : decode cX2_goTo 106 = .ok (.iload 5, 2) := by decide +kernel
theorem dX2_goTo_108 : decode cX2_goTo 108 = .ok (.iastore, 1) := by decide +kernel
theorem dX2_goTo_109 : decode cX2_goTo 109 = .ok (.aload_n 0, 1) := by decide +kernel
theorem dX2_goTo_110 : decode cX2_goTo 110 = .ok (.dup, 1) := by decide +kernel
theorem dX2_goTo_111 : decode cX2_goTo 111 = .ok (.getfield 206, 3) := by decide +kernel
theorem dX2_goTo_114 : decode cX2_goTo 114 = .ok (.iconst 1, 1) := by decide +kernel
theorem dX2_goTo_115 : decode cX2_goTo 115 = .ok (.iadd, 1) := by decide +kernel
theorem dX2_goTo_116 : decode cX2_goTo 116 = .ok (.putfield 206, 3) := by decide +kernel
theorem dX2_goTo_119 : decode cX2_goTo 119 = .ok (.iload 6, 2) := by decide +kernel
theorem dX2_goTo_121 : decode cX2_goTo 121 = .ok (.ifCond .eq 7, 3) := by decide +kernel
theorem dX2_goTo_124 : decode cX2_goTo 124 = .ok (.iload_n 3, 1) := by decide +kernel
theorem dX2_goTo_125 : decode cX2_goTo 125 = .ok (.goto 7, 3) := by decide +kernel
theorem dX2_goTo_128 : decode cX2_goTo 128 = .ok (.iload_n 3, 1) := by decide +kernel
theorem dX2_goTo_129 : decode cX2_goTo 129 = .ok (.iload 5, 2) := by decide +kernel
theorem dX2_goTo_131 : decode cX2_goTo 131 = .ok (.iadd, 1) := by decide +kernel
theorem dX2_goTo_132 : decode cX2_goTo 132 = .ok (.istore_n 3, 1) := by decide +kernel
theorem dX2_goTo_133 : decode cX2_goTo 133 = .ok (.iload 6, 2) := by decide +kernel
theorem dX2_goTo_135 : decode cX2_goTo 135 = .ok (.ifCond .eq 8, 3) := by decide +kernel
theorem dX2_goTo_138 : decode cX2_goTo 138 = .ok (.iload 5, 2) := by decide +kernel
theorem dX2_goTo_140 : decode cX2_goTo 140 = .ok (.goto 8, 3) := by decide +kernel
theorem dX2_goTo_143 : decode cX2_goTo 143 = .ok (.iload 4, 2) := by decide +kernel
theorem dX2_goTo_145 : decode cX2_goTo 145 = .ok (.iload 5, 2) := by decide +kernel
theorem dX2_goTo_147 : decode cX2_goTo 147 = .ok (.isub, 1) := by decide +kernel
theorem dX2_goTo_148 : decode cX2_goTo 148 = .ok (.istore 4, 2) := by decide +kernel
theorem dX2_goTo_150 : decode cX2_goTo 150 = .ok (.goto (-140), 3) := by decide +kernel
theorem dX2_goTo_153 : decode cX2_goTo 153 = .ok (.return_, 1) := by decide +kernel
theorem dX2_proof_0 : decode cX2_proof 0 = .ok (.aload_n 0, 1) := by decide +kernel
theorem dX2_proof_1 : decode cX2_proof 1 = .ok (.iload_n 1, 1) := by decide +kernel
theorem dX2_proof_2 : decode cX2_proof 2 = .ok (.iconst 0, 1) := by decide +kernel
theorem dX2_proof_3 : decode cX2_proof 3 = .ok (.aload_n 0, 1) := by decide +kernel
theorem dX2_proof_4 : decode cX2_proof 4 = .ok (.getfield 212, 3) := by decide +kernel
theorem dX2_proof_7 : decode cX2_proof 7 = .ok (.iconst 1, 1) := by decide +kernel
theorem dX2_proof_8 : decode cX2_proof 8 = .ok (.isub, 1) := by decide +kernel
theorem dX2_proof_9 : decode cX2_proof 9 = .ok (.invokestatic 130, 3) := by decide +kernel
theorem dX2_proof_12 : decode cX2_proof 12 = .ok (.ifCond .eq 14, 3) := by decide +kernel
theorem dX2_proof_15 : decode cX2_proof 15 = .ok (.iload_n 2, 1) := by decide +kernel
theorem dX2_proof_16 : decode cX2_proof 16 = .ok (.invokestatic 200, 3) := by decide +kernel
theorem dX2_proof_19 : decode cX2_proof 19 = .ok (.ifCond .eq 7, 3) := by decide +kernel
theorem dX2_proof_22 : decode cX2_proof 22 = .ok (.iconst 1, 1) := by decide +kernel
theorem dX2_proof_23 : decode cX2_proof 23 = .ok (.goto 4, 3) := by decide +kernel
theorem dX2_proof_26 : decode cX2_proof 26 = .ok (.iconst 0, 1) := by decide +kernel
theorem dX2_proof_27 : decode cX2_proof 27 = .ok (.iconst 1, 1) := by decide +kernel
theorem dX2_proof_28 : decode cX2_proof 28 = .ok (.iconst 1, 1) := by decide +kernel
theorem dX2_proof_29 : decode cX2_proof 29 = .ok (.invokevirtual 188, 3) := by decide +kernel
theorem dX2_proof_32 : decode cX2_proof 32 = .ok (.ifCond .ne 5, 3) := by decide +kernel
theorem dX2_proof_35 : decode cX2_proof 35 = .ok (.iconst 0, 1) := by decide +kernel
theorem dX2_proof_36 : decode cX2_proof 36 = .ok (.ireturn, 1) := by decide +kernel
theorem dX2_proof_37 : decode cX2_proof 37 = .ok (.aload_n 0, 1) := by decide +kernel
theorem dX2_proof_38 : decode cX2_proof 38 = .ok (.getfield 26, 3) := by decide +kernel
theorem dX2_proof_41 : decode cX2_proof 41 = .ok (.bipush 32, 2) := by decide +kernel
theorem dX2_proof_43 : decode cX2_proof 43 = .ok (.iload_n 1, 1) := by decide +kernel
theorem dX2_proof_44 : decode cX2_proof 44 = .ok (.imul, 1) := by decide +kernel
theorem dX2_proof_45 : decode cX2_proof 45 = .ok (.iload_n 2, 1) := by decide +kernel
theorem dX2_proof_46 : decode cX2_proof 46 = .ok (.iadd, 1) := by decide +kernel
theorem dX2_proof_47 : decode cX2_proof 47 = .ok (.iaload, 1) := by decide +kernel
theorem dX2_proof_48 : decode cX2_proof 48 = .ok (.ireturn, 1) := by decide +kernel
theorem dX2_bend_0 : decode cX2_bend 0 = .ok (.aload_n 0, 1) := by decide +kernel
theorem dX2_bend_1 : decode cX2_bend 1 = .ok (.iload_n 1, 1) := by decide +kernel
theorem dX2_bend_2 : decode cX2_bend 2 = .ok (.iconst 0, 1) := by decide +kernel
theorem dX2_bend_3 : decode cX2_bend 3 = .ok (.aload_n 0, 1) := by decide +kernel
theorem dX2_bend_4 : decode cX2_bend 4 = .ok (.getfield 212, 3) := by decide +kernel
theorem dX2_bend_7 : decode cX2_bend 7 = .ok (.iconst 1, 1) := by decide +kernel
theorem dX2_bend_8 : decode cX2_bend 8 = .ok (.isub, 1) := by decide +kernel
theorem dX2_bend_9 : decode cX2_bend 9 = .ok (.invokestatic 130, 3) := by decide +kernel
theorem dX2_bend_12 : decode cX2_bend 12 = .ok (.ifCond .eq 14, 3) := by decide +kernel
theorem dX2_bend_15 : decode cX2_bend 15 = .ok (.iload_n 2, 1) := by decide +kernel
theorem dX2_bend_16 : decode cX2_bend 16 = .ok (.invokestatic 200, 3) := by decide +kernel
theorem dX2_bend_19 : decode cX2_bend 19 = .ok (.ifCond .eq 7, 3) := by decide +kernel
theorem dX2_bend_22 : decode cX2_bend 22 = .ok (.iconst 1, 1) := by decide +kernel
theorem dX2_bend_23 : decode cX2_bend 23 = .ok (.goto 4, 3) := by decide +kernel
theorem dX2_bend_26 : decode cX2_bend 26 = .ok (.iconst 0, 1) := by decide +kernel
theorem dX2_bend_27 : decode cX2_bend 27 = .ok (.iload_n 3, 1) := by decide +kernel
theorem dX2_bend_28 : decode cX2_bend 28 = .ok (.iconst 1, 1) := by decide +kernel
theorem dX2_bend_29 : decode cX2_bend 29 = .ok (.sipush 255, 3) := by decide +kernel
theorem dX2_bend_32 : decode cX2_bend 32 = .ok (.invokestatic 130, 3) := by decide +kernel
theorem dX2_bend_35 : decode cX2_bend 35 = .ok (.iconst 1, 1) := by decide +kernel
theorem dX2_bend_36 : decode cX2_bend 36 = .ok (.invokevirtual 188, 3) := by decide +kernel
theorem dX2_bend_39 : decode cX2_bend 39 = .ok (.ifCond .eq 27, 3) := by decide +kernel
theorem dX2_bend_42 : decode cX2_bend 42 = .ok (.aload_n 0, 1) := by decide +kernel
theorem dX2_bend_43 : decode cX2_bend 43 = .ok (.getfield 26, 3) := by decide +kernel
theorem dX2_bend_46 : decode cX2_bend 46 = .ok (.bipush 32, 2) := by decide +kernel
theorem dX2_bend_48 : decode cX2_bend 48 = .ok (.iload_n 1, 1) := by decide +kernel
theorem dX2_bend_49 : decode cX2_bend 49 = .ok (.imul, 1) := by decide +kernel
theorem dX2_bend_50 : decode cX2_bend 50 = .ok (.iload_n 2, 1) := by decide +kernel
theorem dX2_bend_51 : decode cX2_bend 51 = .ok (.iadd, 1) := by decide +kernel
theorem dX2_bend_52 : decode cX2_bend 52 = .ok (.aload_n 0, 1) := by decide +kernel
theorem dX2_bend_53 : decode cX2_bend 53 = .ok (.getfield 26, 3) := by decide +kernel
theorem dX2_bend_56 : decode cX2_bend 56 = .ok (.bipush 32, 2) := by decide +kernel
theorem dX2_bend_58 : decode cX2_bend 58 = .ok (.iload_n 1, 1) := by decide +kernel
theorem dX2_bend_59 : decode cX2_bend 59 = .ok (.imul, 1) := by decide +kernel
theorem dX2_bend_60 : decode cX2_bend 60 = .ok (.iload_n 2, 1) := by decide +kernel
theorem dX2_bend_61 : decode cX2_bend 61 = .ok (.iadd, 1) := by decide +kernel
theorem dX2_bend_62 : decode cX2_bend 62 = .ok (.iaload, 1) := by decide +kernel
theorem dX2_bend_63 : decode cX2_bend 63 = .ok (.iload_n 3, 1) := by decide +kernel
theorem dX2_bend_64 : decode cX2_bend 64 = .ok (.ixor, 1) := by decide +kernel
theorem dX2_bend_65 : decode cX2_bend 65 = .ok (.iastore, 1) := by decide +kernel
theorem dX2_bend_66 : decode cX2_bend 66 = .ok (.return_, 1) := by decide +kernel
theorem dX2_check_0 : decode cX2_check 0 = .ok (.aload_n 0, 1) := by decide +kernel
theorem dX2_check_1 : decode cX2_check 1 = .ok (.aload_n 0, 1) := by decide +kernel
theorem dX2_check_2 : decode cX2_check 2 = .ok (.iload_n 1, 1) := by decide +kernel
theorem dX2_check_3 : decode cX2_check 3 = .ok (.invokevirtual 203, 3) := by decide +kernel
theorem dX2_check_6 : decode cX2_check 6 = .ok (.ifCond .eq 15, 3) := by decide +kernel
theorem dX2_check_9 : decode cX2_check 9 = .ok (.aload_n 0, 1) := by decide +kernel
theorem dX2_check_10 : decode cX2_check 10 = .ok (.iload_n 2, 1) := by decide +kernel
theorem dX2_check_11 : decode cX2_check 11 = .ok (.invokevirtual 196, 3) := by decide +kernel
theorem dX2_check_14 : decode cX2_check 14 = .ok (.ifCond .eq 7, 3) := by decide +kernel
theorem dX2_check_17 : decode cX2_check 17 = .ok (.iconst 1, 1) := by decide +kernel
theorem dX2_check_18 : decode cX2_check 18 = .ok (.goto 4, 3) := by decide +kernel
theorem dX2_check_21 : decode cX2_check 21 = .ok (.iconst 0, 1) := by decide +kernel
theorem dX2_check_22 : decode cX2_check 22 = .ok (.aload_n 0, 1) := by decide +kernel
theorem dX2_check_23 : decode cX2_check 23 = .ok (.getfield 215, 3) := by decide +kernel
theorem dX2_check_26 : decode cX2_check 26 = .ok (.iload_n 3, 1) := by decide +kernel
theorem dX2_check_27 : decode cX2_check 27 = .ok (.ifCond .lt 13, 3) := by decide +kernel
theorem dX2_check_30 : decode cX2_check 30 = .ok (.iload_n 3, 1) := by decide +kernel
theorem dX2_check_31 : decode cX2_check 31 = .ok (.iload 4, 2) := by decide +kernel
theorem dX2_check_33 : decode cX2_check 33 = .ok (.if_icmp .ge 7, 3) := by decide +kernel
theorem dX2_check_36 : decode cX2_check 36 = .ok (.iconst 1, 1) := by decide +kernel
theorem dX2_check_37 : decode cX2_check 37 = .ok (.goto 4, 3) := by decide +kernel
theorem dX2_check_40 : decode cX2_check 40 = .ok (.iconst 0, 1) := by decide +kernel
theorem dX2_check_41 : decode cX2_check 41 = .ok (.invokevirtual 188, 3) := by decide +kernel
theorem dX2_check_44 : decode cX2_check 44 = .ok (.ifCond .ne 5, 3) := by decide +kernel
theorem dX2_check_47 : decode cX2_check 47 = .ok (.iconst 0, 1) := by decide +kernel
theorem dX2_check_48 : decode cX2_check 48 = .ok (.ireturn, 1) := by decide +kernel
theorem dX2_check_49 : decode cX2_check 49 = .ok (.iload 4, 2) := by decide +kernel
theorem dX2_check_51 : decode cX2_check 51 = .ok (.aload_n 0, 1) := by decide +kernel
theorem dX2_check_52 : decode cX2_check 52 = .ok (.getfield 20, 3) := by decide +kernel
theorem dX2_check_55 : decode cX2_check 55 = .ok (.iload_n 2, 1) := by decide +kernel
theorem dX2_check_56 : decode cX2_check 56 = .ok (.iaload, 1) := by decide +kernel
theorem dX2_check_57 : decode cX2_check 57 = .ok (.if_icmp .eq 5, 3) := by decide +kernel
theorem dX2_check_60 : decode cX2_check 60 = .ok (.iconst 1, 1) := by decide +kernel
theorem dX2_check_61 : decode cX2_check 61 = .ok (.ireturn, 1) := by decide +kernel
theorem dX2_check_62 : decode cX2_check 62 = .ok (.aload_n 0, 1) := by decide +kernel
theorem dX2_check_63 : decode cX2_check 63 = .ok (.iload_n 3, 1) := by decide +kernel
theorem dX2_check_64 : decode cX2_check 64 = .ok (.iload 4, 2) := by decide +kernel
theorem dX2_check_66 : decode cX2_check 66 = .ok (.invokevirtual 209, 3) := by decide +kernel
theorem dX2_check_69 : decode cX2_check 69 = .ok (.aload_n 0, 1) := by decide +kernel
theorem dX2_check_70 : decode cX2_check 70 = .ok (.getfield 206, 3) := by decide +kernel
theorem dX2_check_73 : decode cX2_check 73 = .ok (.aload_n 0, 1) := by decide +kernel
theorem dX2_check_74 : decode cX2_check 74 = .ok (.getfield 212, 3) := by decide +kernel
theorem dX2_check_77 : decode cX2_check 77 = .ok (.if_icmp .eq 5, 3) := by decide +kernel
theorem dX2_check_80 : decode cX2_check 80 = .ok (.iconst 2, 1) := by decide +kernel
theorem dX2_check_81 : decode cX2_check 81 = .ok (.ireturn, 1) := by decide +kernel
theorem dX2_check_82 : decode cX2_check 82 = .ok (.iconst 0, 1) := by decide +kernel
theorem dX2_check_83 : decode cX2_check 83 = .ok (.istore 5, 2) := by decide +kernel
theorem dX2_check_85 : decode cX2_check 85 = .ok (.iload 5, 2) := by decide +kernel
theorem dX2_check_87 : decode cX2_check 87 = .ok (.bipush 32, 2) := by decide +kernel
theorem dX2_check_89 : decode cX2_check 89 = .ok (.if_icmp .ge 28, 3) := by decide +kernel
theorem dX2_check_92 : decode cX2_check 92 = .ok (.aload_n 0, 1) := by decide +kernel
theorem dX2_check_93 : decode cX2_check 93 = .ok (.getfield 41, 3) := by decide +kernel
theorem dX2_check_96 : decode cX2_check 96 = .ok (.iload 5, 2) := by decide +kernel
theorem dX2_check_98 : decode cX2_check 98 = .ok (.aload_n 0, 1) := by decide +kernel
theorem dX2_check_99 : decode cX2_check 99 = .ok (.getfield 13, 3) := by decide +kernel
theorem dX2_check_102 : decode cX2_check 102 = .ok (.bipush 32, 2) := by decide +kernel
theorem dX2_check_104 : decode cX2_check 104 = .ok (.iload_n 1, 1) := by decide +kernel
theorem dX2_check_105 : decode cX2_check 105 = .ok (.imul, 1) := by decide +kernel
theorem dX2_check_106 : decode cX2_check 106 = .ok (.iload 5, 2) := by decide +kernel
theorem dX2_check_108 : decode cX2_check 108 = .ok (.iadd, 1) := by decide +kernel
theorem dX2_check_109 : decode cX2_check 109 = .ok (.iaload, 1) := by decide +kernel
theorem dX2_check_110 : decode cX2_check 110 = .ok (.iastore, 1) := by decide +kernel
theorem dX2_check_111 : decode cX2_check 111 = .ok (.iinc 5 1, 3) := by decide +kernel
theorem dX2_check_114 : decode cX2_check 114 = .ok (.goto (-29), 3) := by decide +kernel
theorem dX2_check_117 : decode cX2_check 117 = .ok (.iconst 0, 1) := by decide +kernel
theorem dX2_check_118 : decode cX2_check 118 = .ok (.istore 5, 2) := by decide +kernel
theorem dX2_check_120 : decode cX2_check 120 = .ok (.iload 5, 2) := by decide +kernel
theorem dX2_check_122 : decode cX2_check 122 = .ok (.aload_n 0, 1) := by decide +kernel
theorem dX2_check_123 : decode cX2_check 123 = .ok (.getfield 206, 3) := by decide +kernel
theorem dX2_check_126 : decode cX2_check 126 = .ok (.if_icmp .ge 95, 3) := by decide +kernel
theorem dX2_check_129 : decode cX2_check 129 = .ok (.aload_n 0, 1) := by decide +kernel
theorem dX2_check_130 : decode cX2_check 130 = .ok (.getfield 53, 3) := by decide +kernel
theorem dX2_check_133 : decode cX2_check 133 = .ok (.aload_n 0, 1) := by decide +kernel
theorem dX2_check_134 : decode cX2_check 134 = .ok (.getfield 206, 3) := by decide +kernel
theorem dX2_check_137 : decode cX2_check 137 = .ok (.iconst 1, 1) := by decide +kernel
theorem dX2_check_138 : decode cX2_check 138 = .ok (.isub, 1) := by decide +kernel
theorem dX2_check_139 : decode cX2_check 139 = .ok (.iload 5, 2) := by decide +kernel
theorem dX2_check_141 : decode cX2_check 141 = .ok (.isub, 1) := by decide +kernel
theorem dX2_check_142 : decode cX2_check 142 = .ok (.baload, 1) := by decide +kernel
theorem dX2_check_143 : decode cX2_check 143 = .ok (.ifCond .eq 24, 3) := by decide +kernel
theorem dX2_check_146 : decode cX2_check 146 = .ok (.aload_n 0, 1) := by decide +kernel
theorem dX2_check_147 : decode cX2_check 147 = .ok (.aload_n 0, 1) := by decide +kernel
theorem dX2_check_148 : decode cX2_check 148 = .ok (.getfield 41, 3) := by decide +kernel
theorem dX2_check_151 : decode cX2_check 151 = .ok (.iconst 0, 1) := by decide +kernel
theorem dX2_check_152 : decode cX2_check 152 = .ok (.aload_n 0, 1) := by decide +kernel
theorem dX2_check_153 : decode cX2_check 153 = .ok (.getfield 26, 3) := by decide +kernel
theorem dX2_check_156 : decode cX2_check 156 = .ok (.bipush 32, 2) := by decide +kernel
theorem dX2_check_158 : decode cX2_check 158 = .ok (.iload 5, 2) := by decide +kernel
theorem dX2_check_160 : decode cX2_check 160 = .ok (.imul, 1) := by decide +kernel
theorem dX2_check_161 : decode cX2_check 161 = .ok (.invokevirtual 178, 3) := by decide +kernel
theorem dX2_check_164 : decode cX2_check 164 = .ok (.goto 21, 3) := by decide +kernel
theorem dX2_check_167 : decode cX2_check 167 = .ok (.aload_n 0, 1) := by decide +kernel
theorem dX2_check_168 : decode cX2_check 168 = .ok (.aload_n 0, 1) := by decide +kernel
theorem dX2_check_169 : decode cX2_check 169 = .ok (.getfield 26, 3) := by decide +kernel
theorem dX2_check_172 : decode cX2_check 172 = .ok (.bipush 32, 2) := by decide +kernel
theorem dX2_check_174 : decode cX2_check 174 = .ok (.iload 5, 2) := by decide +kernel
theorem dX2_check_176 : decode cX2_check 176 = .ok (.imul, 1) := by decide +kernel
theorem dX2_check_177 : decode cX2_check 177 = .ok (.aload_n 0, 1) := by decide +kernel
theorem dX2_check_178 : decode cX2_check 178 = .ok (.getfield 41, 3) := by decide +kernel
theorem dX2_check_181 : decode cX2_check 181 = .ok (.iconst 0, 1) := by decide +kernel
theorem dX2_check_182 : decode cX2_check 182 = .ok (.invokevirtual 178, 3) := by decide +kernel
theorem dX2_check_185 : decode cX2_check 185 = .ok (.iconst 0, 1) := by decide +kernel
theorem dX2_check_186 : decode cX2_check 186 = .ok (.istore 6, 2) := by decide +kernel
theorem dX2_check_188 : decode cX2_check 188 = .ok (.iload 6, 2) := by decide +kernel
theorem dX2_check_190 : decode cX2_check 190 = .ok (.bipush 32, 2) := by decide +kernel
theorem dX2_check_192 : decode cX2_check 192 = .ok (.if_icmp .ge 23, 3) := by decide +kernel
theorem dX2_check_195 : decode cX2_check 195 = .ok (.aload_n 0, 1) := by decide +kernel
theorem dX2_check_196 : decode cX2_check 196 = .ok (.getfield 41, 3) := by decide +kernel
theorem dX2_check_199 : decode cX2_check 199 = .ok (.iload 6, 2) := by decide +kernel
theorem dX2_check_201 : decode cX2_check 201 = .ok (.aload_n 0, 1) := by decide +kernel
theorem dX2_check_202 : decode cX2_check 202 = .ok (.getfield 32, 3) := by decide +kernel
theorem dX2_check_205 : decode cX2_check 205 = .ok (.iload 6, 2) := by decide +kernel
theorem dX2_check_207 : decode cX2_check 207 = .ok (.iaload, 1) := by decide +kernel
theorem dX2_check_208 : decode cX2_check 208 = .ok (.iastore, 1) := by decide +kernel
theorem dX2_check_209 : decode cX2_check 209 = .ok (.iinc 6 1, 3) := by decide +kernel
theorem dX2_check_212 : decode cX2_check 212 = .ok (.goto (-24), 3) := by decide +kernel
theorem dX2_check_215 : decode cX2_check 215 = .ok (.iinc 5 1, 3) := by decide +kernel
theorem dX2_check_218 : decode cX2_check 218 = .ok (.goto (-98), 3) := by decide +kernel
theorem dX2_check_221 : decode cX2_check 221 = .ok (.iconst 0, 1) := by decide +kernel
theorem dX2_check_222 : decode cX2_check 222 = .ok (.istore 5, 2) := by decide +kernel
theorem dX2_check_224 : decode cX2_check 224 = .ok (.iload 5, 2) := by decide +kernel
theorem dX2_check_226 : decode cX2_check 226 = .ok (.bipush 32, 2) := by decide +kernel
theorem dX2_check_228 : decode cX2_check 228 = .ok (.if_icmp .ge 23, 3) := by decide +kernel
theorem dX2_check_231 : decode cX2_check 231 = .ok (.aload_n 0, 1) := by decide +kernel
theorem dX2_check_232 : decode cX2_check 232 = .ok (.getfield 32, 3) := by decide +kernel
theorem dX2_check_235 : decode cX2_check 235 = .ok (.iload 5, 2) := by decide +kernel
theorem dX2_check_237 : decode cX2_check 237 = .ok (.aload_n 0, 1) := by decide +kernel
theorem dX2_check_238 : decode cX2_check 238 = .ok (.getfield 41, 3) := by decide +kernel
theorem dX2_check_241 : decode cX2_check 241 = .ok (.iload 5, 2) := by decide +kernel
theorem dX2_check_243 : decode cX2_check 243 = .ok (.iaload, 1) := by decide +kernel
theorem dX2_check_244 : decode cX2_check 244 = .ok (.iastore, 1) := by decide +kernel
theorem dX2_check_245 : decode cX2_check 245 = .ok (.iinc 5 1, 3) := by decide +kernel
theorem dX2_check_248 : decode cX2_check 248 = .ok (.goto (-24), 3) := by decide +kernel
theorem dX2_check_251 : decode cX2_check 251 = .ok (.aload_n 0, 1) := by decide +kernel
theorem dX2_check_252 : decode cX2_check 252 = .ok (.aload_n 0, 1) := by decide +kernel
theorem dX2_check_253 : decode cX2_check 253 = .ok (.getfield 23, 3) := by decide +kernel
theorem dX2_check_256 : decode cX2_check 256 = .ok (.bipush 32, 2) := by decide +kernel
theorem dX2_check_258 : decode cX2_check 258 = .ok (.iload_n 2, 1) := by decide +kernel
theorem dX2_check_259 : decode cX2_check 259 = .ok (.imul, 1) := by decide +kernel
theorem dX2_check_260 : decode cX2_check 260 = .ok (.invokevirtual 219, 3) := by decide +kernel
theorem dX2_check_263 : decode cX2_check 263 = .ok (.ifCond .eq 7, 3) := by decide +kernel
theorem dX2_check_266 : decode cX2_check 266 = .ok (.iconst 0, 1) := by decide +kernel
theorem dX2_check_267 : decode cX2_check 267 = .ok (.goto 4, 3) := by decide +kernel
theorem dX2_check_270 : decode cX2_check 270 = .ok (.iconst 3, 1) := by decide +kernel
theorem dX2_check_271 : decode cX2_check 271 = .ok (.ireturn, 1) := by decide +kernel
theorem dX2_isOut_0 : decode cX2_isOut 0 = .ok (.iconst 0, 1) := by decide +kernel
theorem dX2_isOut_1 : decode cX2_isOut 1 = .ok (.istore_n 3, 1) := by decide +kernel
theorem dX2_isOut_2 : decode cX2_isOut 2 = .ok (.iload_n 3, 1) := by decide +kernel
theorem dX2_isOut_3 : decode cX2_isOut 3 = .ok (.bipush 32, 2) := by decide +kernel
theorem dX2_isOut_5 : decode cX2_isOut 5 = .ok (.if_icmp .ge 25, 3) := by decide +kernel
theorem dX2_isOut_8 : decode cX2_isOut 8 = .ok (.aload_n 1, 1) := by decide +kernel
theorem dX2_isOut_9 : decode cX2_isOut 9 = .ok (.iload_n 2, 1) := by decide +kernel
theorem dX2_isOut_10 : decode cX2_isOut 10 = .ok (.iload_n 3, 1) := by decide +kernel
theorem dX2_isOut_11 : decode cX2_isOut 11 = .ok (.iadd, 1) := by decide +kernel
theorem dX2_isOut_12 : decode cX2_isOut 12 = .ok (.iaload, 1) := by decide +kernel
theorem dX2_isOut_13 : decode cX2_isOut 13 = .ok (.aload_n 0, 1) := by decide +kernel
theorem dX2_isOut_14 : decode cX2_isOut 14 = .ok (.getfield 32, 3) := by decide +kernel
theorem dX2_isOut_17 : decode cX2_isOut 17 = .ok (.iload_n 3, 1) := by decide +kernel
theorem dX2_isOut_18 : decode cX2_isOut 18 = .ok (.iaload, 1) := by decide +kernel
theorem dX2_isOut_19 : decode cX2_isOut 19 = .ok (.if_icmp .eq 5, 3) := by decide +kernel
theorem dX2_isOut_22 : decode cX2_isOut 22 = .ok (.iconst 0, 1) := by decide +kernel
theorem dX2_isOut_23 : decode cX2_isOut 23 = .ok (.ireturn, 1) := by decide +kernel
theorem dX2_isOut_24 : decode cX2_isOut 24 = .ok (.iinc 3 1, 3) := by decide +kernel
theorem dX2_isOut_27 : decode cX2_isOut 27 = .ok (.goto (-25), 3) := by decide +kernel
theorem dX2_isOut_30 : decode cX2_isOut 30 = .ok (.iconst 1, 1) := by decide +kernel
theorem dX2_isOut_31 : decode cX2_isOut 31 = .ok (.ireturn, 1) := by decide +kernel
theorem dX2_grew_0 : decode cX2_grew 0 = .ok (.aload_n 0, 1) := by decide +kernel
theorem dX2_grew_1 : decode cX2_grew 1 = .ok (.aload_n 0, 1) := by decide +kernel
theorem dX2_grew_2 : decode cX2_grew 2 = .ok (.iload_n 1, 1) := by decide +kernel
theorem dX2_grew_3 : decode cX2_grew 3 = .ok (.invokevirtual 196, 3) := by decide +kernel
theorem dX2_grew_6 : decode cX2_grew 6 = .ok (.ifCond .eq 15, 3) := by decide +kernel
theorem dX2_grew_9 : decode cX2_grew 9 = .ok (.aload_n 0, 1) := by decide +kernel
theorem dX2_grew_10 : decode cX2_grew 10 = .ok (.iload_n 2, 1) := by decide +kernel
theorem dX2_grew_11 : decode cX2_grew 11 = .ok (.invokevirtual 196, 3) := by decide +kernel
theorem dX2_grew_14 : decode cX2_grew 14 = .ok (.ifCond .eq 7, 3) := by decide +kernel
theorem dX2_grew_17 : decode cX2_grew 17 = .ok (.iconst 1, 1) := by decide +kernel
theorem dX2_grew_18 : decode cX2_grew 18 = .ok (.goto 4, 3) := by decide +kernel
theorem dX2_grew_21 : decode cX2_grew 21 = .ok (.iconst 0, 1) := by decide +kernel
theorem dX2_grew_22 : decode cX2_grew 22 = .ok (.iload_n 1, 1) := by decide +kernel
theorem dX2_grew_23 : decode cX2_grew 23 = .ok (.iload_n 2, 1) := by decide +kernel
theorem dX2_grew_24 : decode cX2_grew 24 = .ok (.if_icmp .gt 7, 3) := by decide +kernel
theorem dX2_grew_27 : decode cX2_grew 27 = .ok (.iconst 1, 1) := by decide +kernel
theorem dX2_grew_28 : decode cX2_grew 28 = .ok (.goto 4, 3) := by decide +kernel
theorem dX2_grew_31 : decode cX2_grew 31 = .ok (.iconst 0, 1) := by decide +kernel
theorem dX2_grew_32 : decode cX2_grew 32 = .ok (.iconst 1, 1) := by decide +kernel
theorem dX2_grew_33 : decode cX2_grew 33 = .ok (.invokevirtual 188, 3) := by decide +kernel
theorem dX2_grew_36 : decode cX2_grew 36 = .ok (.ifCond .ne 5, 3) := by decide +kernel
theorem dX2_grew_39 : decode cX2_grew 39 = .ok (.iconst 0, 1) := by decide +kernel
theorem dX2_grew_40 : decode cX2_grew 40 = .ok (.ireturn, 1) := by decide +kernel
theorem dX2_grew_41 : decode cX2_grew 41 = .ok (.aload_n 0, 1) := by decide +kernel
theorem dX2_grew_42 : decode cX2_grew 42 = .ok (.iconst 0, 1) := by decide +kernel
theorem dX2_grew_43 : decode cX2_grew 43 = .ok (.aload_n 0, 1) := by decide +kernel
theorem dX2_grew_44 : decode cX2_grew 44 = .ok (.getfield 20, 3) := by decide +kernel
theorem dX2_grew_47 : decode cX2_grew 47 = .ok (.iload_n 1, 1) := by decide +kernel
theorem dX2_grew_48 : decode cX2_grew 48 = .ok (.iaload, 1) := by decide +kernel
theorem dX2_grew_49 : decode cX2_grew 49 = .ok (.invokevirtual 192, 3) := by decide +kernel
theorem dX2_grew_52 : decode cX2_grew 52 = .ok (.aload_n 0, 1) := by decide +kernel
theorem dX2_grew_53 : decode cX2_grew 53 = .ok (.aload_n 0, 1) := by decide +kernel
theorem dX2_grew_54 : decode cX2_grew 54 = .ok (.getfield 23, 3) := by decide +kernel
theorem dX2_grew_57 : decode cX2_grew 57 = .ok (.bipush 32, 2) := by decide +kernel
theorem dX2_grew_59 : decode cX2_grew 59 = .ok (.iload_n 1, 1) := by decide +kernel
theorem dX2_grew_60 : decode cX2_grew 60 = .ok (.imul, 1) := by decide +kernel
theorem dX2_grew_61 : decode cX2_grew 61 = .ok (.invokevirtual 219, 3) := by decide +kernel
theorem dX2_grew_64 : decode cX2_grew 64 = .ok (.ifCond .ne 5, 3) := by decide +kernel
theorem dX2_grew_67 : decode cX2_grew 67 = .ok (.iconst 0, 1) := by decide +kernel
theorem dX2_grew_68 : decode cX2_grew 68 = .ok (.ireturn, 1) := by decide +kernel
theorem dX2_grew_69 : decode cX2_grew 69 = .ok (.aload_n 0, 1) := by decide +kernel
theorem dX2_grew_70 : decode cX2_grew 70 = .ok (.iconst 0, 1) := by decide +kernel
theorem dX2_grew_71 : decode cX2_grew 71 = .ok (.aload_n 0, 1) := by decide +kernel
theorem dX2_grew_72 : decode cX2_grew 72 = .ok (.getfield 20, 3) := by decide +kernel
theorem dX2_grew_75 : decode cX2_grew 75 = .ok (.iload_n 2, 1) := by decide +kernel
theorem dX2_grew_76 : decode cX2_grew 76 = .ok (.iaload, 1) := by decide +kernel
theorem dX2_grew_77 : decode cX2_grew 77 = .ok (.invokevirtual 192, 3) := by decide +kernel
theorem dX2_grew_80 : decode cX2_grew 80 = .ok (.aload_n 0, 1) := by decide +kernel
theorem dX2_grew_81 : decode cX2_grew 81 = .ok (.aload_n 0, 1) := by decide +kernel
theorem dX2_grew_82 : decode cX2_grew 82 = .ok (.getfield 23, 3) := by decide +kernel
theorem dX2_grew_85 : decode cX2_grew 85 = .ok (.bipush 32, 2) := by decide +kernel
theorem dX2_grew_87 : decode cX2_grew 87 = .ok (.iload_n 2, 1) := by decide +kernel
theorem dX2_grew_88 : decode cX2_grew 88 = .ok (.imul, 1) := by decide +kernel
theorem dX2_grew_89 : decode cX2_grew 89 = .ok (.invokevirtual 219, 3) := by decide +kernel
theorem dX2_grew_92 : decode cX2_grew 92 = .ok (.ireturn, 1) := by decide +kernel
theorem dX2_withdraw_0 : decode cX2_withdraw 0 = .ok (.aload_n 0, 1) := by decide +kernel
theorem dX2_withdraw_1 : decode cX2_withdraw 1 = .ok (.iload_n 1, 1) := by decide +kernel
theorem dX2_withdraw_2 : decode cX2_withdraw 2 = .ok (.invokevirtual 203, 3) := by decide +kernel
theorem dX2_withdraw_5 : decode cX2_withdraw 5 = .ok (.istore_n 2, 1) := by decide +kernel
theorem dX2_withdraw_6 : decode cX2_withdraw 6 = .ok (.aload_n 0, 1) := by decide +kernel
theorem dX2_withdraw_7 : decode cX2_withdraw 7 = .ok (.iload_n 2, 1) := by decide +kernel
theorem dX2_withdraw_8 : decode cX2_withdraw 8 = .ok (.iload_n 2, 1) := by decide +kernel
theorem dX2_withdraw_9 : decode cX2_withdraw 9 = .ok (.ifCond .eq 16, 3) := by decide +kernel
theorem dX2_withdraw_12 : decode cX2_withdraw 12 = .ok (.aload_n 0, 1) := by decide +kernel
theorem dX2_withdraw_13 : decode cX2_withdraw 13 = .ok (.getfield 16, 3) := by decide +kernel
theorem dX2_withdraw_16 : decode cX2_withdraw 16 = .ok (.iload_n 1, 1) := by decide +kernel
theorem dX2_withdraw_17 : decode cX2_withdraw 17 = .ok (.baload, 1) := by decide +kernel
theorem dX2_withdraw_18 : decode cX2_withdraw 18 = .ok (.ifCond .ne 7, 3) := by decide +kernel
theorem dX2_withdraw_21 : decode cX2_withdraw 21 = .ok (.iconst 1, 1) := by decide +kernel
theorem dX2_withdraw_22 : decode cX2_withdraw 22 = .ok (.goto 4, 3) := by decide +kernel
theorem dX2_withdraw_25 : decode cX2_withdraw 25 = .ok (.iconst 0, 1) := by decide +kernel
theorem dX2_withdraw_26 : decode cX2_withdraw 26 = .ok (.iconst 1, 1) := by decide +kernel
theorem dX2_withdraw_27 : decode cX2_withdraw 27 = .ok (.invokevirtual 188, 3) := by decide +kernel
theorem dX2_withdraw_30 : decode cX2_withdraw 30 = .ok (.ifCond .ne 5, 3) := by decide +kernel
theorem dX2_withdraw_33 : decode cX2_withdraw 33 = .ok (.iconst 0, 1) := by decide +kernel
theorem dX2_withdraw_34 : decode cX2_withdraw 34 = .ok (.ireturn, 1) := by decide +kernel
theorem dX2_withdraw_35 : decode cX2_withdraw 35 = .ok (.aload_n 0, 1) := by decide +kernel
theorem dX2_withdraw_36 : decode cX2_withdraw 36 = .ok (.getfield 16, 3) := by decide +kernel
theorem dX2_withdraw_39 : decode cX2_withdraw 39 = .ok (.iload_n 1, 1) := by decide +kernel
theorem dX2_withdraw_40 : decode cX2_withdraw 40 = .ok (.iconst 1, 1) := by decide +kernel
theorem dX2_withdraw_41 : decode cX2_withdraw 41 = .ok (.bastore, 1) := by decide +kernel
theorem dX2_withdraw_42 : decode cX2_withdraw 42 = .ok (.iconst 0, 1) := by decide +kernel
theorem dX2_withdraw_43 : decode cX2_withdraw 43 = .ok (.istore_n 3, 1) := by decide +kernel
theorem dX2_withdraw_44 : decode cX2_withdraw 44 = .ok (.iconst 0, 1) := by decide +kernel
theorem dX2_withdraw_45 : decode cX2_withdraw 45 = .ok (.istore 4, 2) := by decide +kernel
theorem dX2_withdraw_47 : decode cX2_withdraw 47 = .ok (.iload 4, 2) := by decide +kernel
theorem dX2_withdraw_49 : decode cX2_withdraw 49 = .ok (.aload_n 0, 1) := by decide +kernel
theorem dX2_withdraw_50 : decode cX2_withdraw 50 = .ok (.getfield 127, 3) := by decide +kernel
theorem dX2_withdraw_53 : decode cX2_withdraw 53 = .ok (.if_icmp .ge 22, 3) := by decide +kernel
theorem dX2_withdraw_56 : decode cX2_withdraw 56 = .ok (.aload_n 0, 1) := by decide +kernel
theorem dX2_withdraw_57 : decode cX2_withdraw 57 = .ok (.getfield 16, 3) := by decide +kernel
theorem dX2_withdraw_60 : decode cX2_withdraw 60 = .ok (.iload 4, 2) := by decide +kernel
theorem dX2_withdraw_62 : decode cX2_withdraw 62 = .ok (.baload, 1) := by decide +kernel
theorem dX2_withdraw_63 : decode cX2_withdraw 63 = .ok (.ifCond .eq 6, 3) := by decide +kernel
theorem dX2_withdraw_66 : decode cX2_withdraw 66 = .ok (.iinc 3 1, 3) := by decide +kernel
theorem dX2_withdraw_69 : decode cX2_withdraw 69 = .ok (.iinc 4 1, 3) := by decide +kernel
theorem dX2_withdraw_72 : decode cX2_withdraw 72 = .ok (.goto (-25), 3) := by decide +kernel
theorem dX2_withdraw_75 : decode cX2_withdraw 75 = .ok (.iload_n 3, 1) := by decide +kernel
theorem dX2_withdraw_76 : decode cX2_withdraw 76 = .ok (.ireturn, 1) := by decide +kernel
theorem dX2_absence_0 : decode cX2_absence 0 = .ok (.aload_n 0, 1) := by decide +kernel
theorem dX2_absence_1 : decode cX2_absence 1 = .ok (.iload_n 1, 1) := by decide +kernel
theorem dX2_absence_2 : decode cX2_absence 2 = .ok (.invokevirtual 203, 3) := by decide +kernel
theorem dX2_absence_5 : decode cX2_absence 5 = .ok (.ifCond .eq 16, 3) := by decide +kernel
theorem dX2_absence_8 : decode cX2_absence 8 = .ok (.iload_n 2, 1) := by decide +kernel
theorem dX2_absence_9 : decode cX2_absence 9 = .ok (.iconst 0, 1) := by decide +kernel
theorem dX2_absence_10 : decode cX2_absence 10 = .ok (.iconst 1, 1) := by decide +kernel
theorem dX2_absence_11 : decode cX2_absence 11 = .ok (.invokestatic 130, 3) := by decide +kernel
theorem dX2_absence_14 : decode cX2_absence 14 = .ok (.ifCond .eq 7, 3) := by decide +kernel
theorem dX2_absence_17 : decode cX2_absence 17 = .ok (.iconst 1, 1) := by decide +kernel
theorem dX2_absence_18 : decode cX2_absence 18 = .ok (.goto 4, 3) := by decide +kernel
theorem dX2_absence_21 : decode cX2_absence 21 = .ok (.iconst 0, 1) := by decide +kernel
theorem dX2_absence_22 : decode cX2_absence 22 = .ok (.istore_n 3, 1) := by decide +kernel
theorem dX2_absence_23 : decode cX2_absence 23 = .ok (.aload_n 0, 1) := by decide +kernel
theorem dX2_absence_24 : decode cX2_absence 24 = .ok (.iload_n 3, 1) := by decide +kernel
theorem dX2_absence_25 : decode cX2_absence 25 = .ok (.iload_n 3, 1) := by decide +kernel
theorem dX2_absence_26 : decode cX2_absence 26 = .ok (.ifCond .eq 16, 3) := by decide +kernel
theorem dX2_absence_29 : decode cX2_absence 29 = .ok (.aload_n 0, 1) := by decide +kernel
theorem dX2_absence_30 : decode cX2_absence 30 = .ok (.getfield 16, 3) := by decide +kernel
theorem dX2_absence_33 : decode cX2_absence 33 = .ok (.iload_n 1, 1) := by decide +kernel
theorem dX2_absence_34 : decode cX2_absence 34 = .ok (.baload, 1) := by decide +kernel
theorem dX2_absence_35 : decode cX2_absence 35 = .ok (.ifCond .ne 7, 3) := by decide +kernel
theorem dX2_absence_38 : decode cX2_absence 38 = .ok (.iconst 1, 1) := by decide +kernel
theorem dX2_absence_39 : decode cX2_absence 39 = .ok (.goto 4, 3) := by decide +kernel
theorem dX2_absence_42 : decode cX2_absence 42 = .ok (.iconst 0, 1) := by decide +kernel
theorem dX2_absence_43 : decode cX2_absence 43 = .ok (.iconst 1, 1) := by decide +kernel
theorem dX2_absence_44 : decode cX2_absence 44 = .ok (.invokevirtual 188, 3) := by decide +kernel
theorem dX2_absence_47 : decode cX2_absence 47 = .ok (.ifCond .ne 5, 3) := by decide +kernel
theorem dX2_absence_50 : decode cX2_absence 50 = .ok (.iconst 0, 1) := by decide +kernel
theorem dX2_absence_51 : decode cX2_absence 51 = .ok (.ireturn, 1) := by decide +kernel
theorem dX2_absence_52 : decode cX2_absence 52 = .ok (.iconst (-1), 1) := by decide +kernel
theorem dX2_absence_53 : decode cX2_absence 53 = .ok (.istore 4, 2) := by decide +kernel
theorem dX2_absence_55 : decode cX2_absence 55 = .ok (.iconst 0, 1) := by decide +kernel
theorem dX2_absence_56 : decode cX2_absence 56 = .ok (.istore 5, 2) := by decide +kernel
theorem dX2_absence_58 : decode cX2_absence 58 = .ok (.iload 5, 2) := by decide +kernel
theorem dX2_absence_60 : decode cX2_absence 60 = .ok (.aload_n 0, 1) := by decide +kernel
theorem dX2_absence_61 : decode cX2_absence 61 = .ok (.getfield 127, 3) := by decide +kernel
theorem dX2_absence_64 : decode cX2_absence 64 = .ok (.if_icmp .ge 86, 3) := by decide +kernel
theorem dX2_absence_67 : decode cX2_absence 67 = .ok (.aload_n 0, 1) := by decide +kernel
theorem dX2_absence_68 : decode cX2_absence 68 = .ok (.iload 5, 2) := by decide +kernel
theorem dX2_absence_70 : decode cX2_absence 70 = .ok (.iload_n 1, 1) := by decide +kernel
theorem dX2_absence_71 : decode cX2_absence 71 = .ok (.invokevirtual 223, 3) := by decide +kernel
theorem dX2_absence_74 : decode cX2_absence 74 = .ok (.istore 6, 2) := by decide +kernel
theorem dX2_absence_76 : decode cX2_absence 76 = .ok (.aload_n 0, 1) := by decide +kernel
theorem dX2_absence_77 : decode cX2_absence 77 = .ok (.getfield 16, 3) := by decide +kernel
theorem dX2_absence_80 : decode cX2_absence 80 = .ok (.iload 5, 2) := by decide +kernel
theorem dX2_absence_82 : decode cX2_absence 82 = .ok (.baload, 1) := by decide +kernel
theorem dX2_absence_83 : decode cX2_absence 83 = .ok (.ifCond .eq 61, 3) := by decide +kernel
theorem dX2_absence_86 : decode cX2_absence 86 = .ok (.iload_n 2, 1) := by decide +kernel
theorem dX2_absence_87 : decode cX2_absence 87 = .ok (.ifCond .ne 11, 3) := by decide +kernel
theorem dX2_absence_90 : decode cX2_absence 90 = .ok (.iload 6, 2) := by decide +kernel
theorem dX2_absence_92 : decode cX2_absence 92 = .ok (.ifCond .lt 14, 3) := by decide +kernel
theorem dX2_absence_95 : decode cX2_absence 95 = .ok (.goto 49, 3) := by decide +kernel
theorem dX2_absence_98 : decode cX2_absence 98 = .ok (.iload 6, 2) := by decide +kernel
theorem dX2_absence_100 : decode cX2_absence 100 = .ok (.ifCond .gt 6, 3) := by decide +kernel
theorem dX2_absence_103 : decode cX2_absence 103 = .ok (.goto 41, 3) := by decide +kernel
theorem dX2_absence_106 : decode cX2_absence 106 = .ok (.iload 4, 2) := by decide +kernel
theorem dX2_absence_108 : decode cX2_absence 108 = .ok (.ifCond .lt 32, 3) := by decide +kernel
theorem dX2_absence_111 : decode cX2_absence 111 = .ok (.iload_n 2, 1) := by decide +kernel
theorem dX2_absence_112 : decode cX2_absence 112 = .ok (.ifCond .ne 17, 3) := by decide +kernel
theorem dX2_absence_115 : decode cX2_absence 115 = .ok (.aload_n 0, 1) := by decide +kernel
theorem dX2_absence_116 : decode cX2_absence 116 = .ok (.iload 5, 2) := by decide +kernel
theorem dX2_absence_118 : decode cX2_absence 118 = .ok (.iload 4, 2) := by decide +kernel
theorem dX2_absence_120 : decode cX2_absence 120 = .ok (.invokevirtual 223, 3) := by decide +kernel
theorem dX2_absence_123 : decode cX2_absence 123 = .ok (.ifCond .le 21, 3) := by decide +kernel
theorem dX2_absence_126 : decode cX2_absence 126 = .ok (.goto 14, 3) := by decide +kernel
theorem dX2_absence_129 : decode cX2_absence 129 = .ok (.aload_n 0, 1) := by decide +kernel
theorem dX2_absence_130 : decode cX2_absence 130 = .ok (.iload 5, 2) := by decide +kernel
theorem dX2_absence_132 : decode cX2_absence 132 = .ok (.iload 4, 2) := by decide +kernel
theorem dX2_absence_134 : decode cX2_absence 134 = .ok (.invokevirtual 223, 3) := by decide +kernel
theorem dX2_absence_137 : decode cX2_absence 137 = .ok (.ifCond .ge 7, 3) := by decide +kernel
theorem dX2_absence_140 : decode cX2_absence 140 = .ok (.iload 5, 2) := by decide +kernel
theorem dX2_absence_142 : decode cX2_absence 142 = .ok (.istore 4, 2) := by decide +kernel
theorem dX2_absence_144 : decode cX2_absence 144 = .ok (.iinc 5 1, 3) := by decide +kernel
theorem dX2_absence_147 : decode cX2_absence 147 = .ok (.goto (-89), 3) := by decide +kernel
theorem dX2_absence_150 : decode cX2_absence 150 = .ok (.iload 4, 2) := by decide +kernel
theorem dX2_absence_152 : decode cX2_absence 152 = .ok (.ireturn, 1) := by decide +kernel
theorem dX2_order_0 : decode cX2_order 0 = .ok (.iconst 0, 1) := by decide +kernel
theorem dX2_order_1 : decode cX2_order 1 = .ok (.istore_n 3, 1) := by decide +kernel
theorem dX2_order_2 : decode cX2_order 2 = .ok (.iload_n 3, 1) := by decide +kernel
theorem dX2_order_3 : decode cX2_order 3 = .ok (.bipush 32, 2) := by decide +kernel
theorem dX2_order_5 : decode cX2_order 5 = .ok (.if_icmp .ge 42, 3) := by decide +kernel
theorem dX2_order_8 : decode cX2_order 8 = .ok (.aload_n 0, 1) := by decide +kernel
theorem dX2_order_9 : decode cX2_order 9 = .ok (.getfield 13, 3) := by decide +kernel
theorem dX2_order_12 : decode cX2_order 12 = .ok (.bipush 32, 2) := by decide +kernel
theorem dX2_order_14 : decode cX2_order 14 = .ok (.iload_n 1, 1) := by decide +kernel
theorem dX2_order_15 : decode cX2_order 15 = .ok (.imul, 1) := by decide +kernel
theorem dX2_order_16 : decode cX2_order 16 = .ok (.iload_n 3, 1) := by decide +kernel
theorem dX2_order_17 : decode cX2_order 17 = .ok (.iadd, 1) := by decide +kernel
theorem dX2_order_18 : decode cX2_order 18 = .ok (.iaload, 1) := by decide +kernel
theorem dX2_order_19 : decode cX2_order 19 = .ok (.aload_n 0, 1) := by decide +kernel
theorem dX2_order_20 : decode cX2_order 20 = .ok (.getfield 13, 3) := by decide +kernel
theorem dX2_order_23 : decode cX2_order 23 = .ok (.bipush 32, 2) := by decide +kernel
theorem dX2_order_25 : decode cX2_order 25 = .ok (.iload_n 2, 1) := by decide +kernel
theorem dX2_order_26 : decode cX2_order 26 = .ok (.imul, 1) := by decide +kernel
theorem dX2_order_27 : decode cX2_order 27 = .ok (.iload_n 3, 1) := by decide +kernel
theorem dX2_order_28 : decode cX2_order 28 = .ok (.iadd, 1) := by decide +kernel
theorem dX2_order_29 : decode cX2_order 29 = .ok (.iaload, 1) := by decide +kernel
theorem dX2_order_30 : decode cX2_order 30 = .ok (.isub, 1) := by decide +kernel
theorem dX2_order_31 : decode cX2_order 31 = .ok (.istore 4, 2) := by decide +kernel
theorem dX2_order_33 : decode cX2_order 33 = .ok (.iload 4, 2) := by decide +kernel
theorem dX2_order_35 : decode cX2_order 35 = .ok (.ifCond .eq 6, 3) := by decide +kernel
theorem dX2_order_38 : decode cX2_order 38 = .ok (.iload 4, 2) := by decide +kernel
theorem dX2_order_40 : decode cX2_order 40 = .ok (.ireturn, 1) := by decide +kernel
theorem dX2_order_41 : decode cX2_order 41 = .ok (.iinc 3 1, 3) := by decide +kernel
theorem dX2_order_44 : decode cX2_order 44 = .ok (.goto (-42), 3) := by decide +kernel
theorem dX2_order_47 : decode cX2_order 47 = .ok (.iconst 0, 1) := by decide +kernel
theorem dX2_order_48 : decode cX2_order 48 = .ok (.ireturn, 1) := by decide +kernel
theorem dX2_mark_0 : decode cX2_mark 0 = .ok (.aload_n 0, 1) := by decide +kernel
theorem dX2_mark_1 : decode cX2_mark 1 = .ok (.aload_n 0, 1) := by decide +kernel
theorem dX2_mark_2 : decode cX2_mark 2 = .ok (.iload_n 1, 1) := by decide +kernel
theorem dX2_mark_3 : decode cX2_mark 3 = .ok (.invokevirtual 203, 3) := by decide +kernel
theorem dX2_mark_6 : decode cX2_mark 6 = .ok (.ifCond .eq 15, 3) := by decide +kernel
theorem dX2_mark_9 : decode cX2_mark 9 = .ok (.iload 6, 2) := by decide +kernel
theorem dX2_mark_11 : decode cX2_mark 11 = .ok (.invokestatic 200, 3) := by decide +kernel
theorem dX2_mark_14 : decode cX2_mark 14 = .ok (.ifCond .eq 7, 3) := by decide +kernel
theorem dX2_mark_17 : decode cX2_mark 17 = .ok (.iconst 1, 1) := by decide +kernel
theorem dX2_mark_18 : decode cX2_mark 18 = .ok (.goto 4, 3) := by decide +kernel
theorem dX2_mark_21 : decode cX2_mark 21 = .ok (.iconst 0, 1) := by decide +kernel
theorem dX2_mark_22 : decode cX2_mark 22 = .ok (.iconst 1, 1) := by decide +kernel
theorem dX2_mark_23 : decode cX2_mark 23 = .ok (.iconst 1, 1) := by decide +kernel
theorem dX2_mark_24 : decode cX2_mark 24 = .ok (.invokevirtual 188, 3) := by decide +kernel
theorem dX2_mark_27 : decode cX2_mark 27 = .ok (.ifCond .ne 5, 3) := by decide +kernel
theorem dX2_mark_30 : decode cX2_mark 30 = .ok (.iconst 0, 1) := by decide +kernel
theorem dX2_mark_31 : decode cX2_mark 31 = .ok (.ireturn, 1) := by decide +kernel
theorem dX2_mark_32 : decode cX2_mark 32 = .ok (.aload_n 0, 1) := by decide +kernel
theorem dX2_mark_33 : decode cX2_mark 33 = .ok (.invokevirtual 165, 3) := by decide +kernel
theorem dX2_mark_36 : decode cX2_mark 36 = .ok (.aload_n 0, 1) := by decide +kernel
theorem dX2_mark_37 : decode cX2_mark 37 = .ok (.lload_n 2, 1) := by decide +kernel
theorem dX2_mark_38 : decode cX2_mark 38 = .ok (.invokevirtual 158, 3) := by decide +kernel
theorem dX2_mark_41 : decode cX2_mark 41 = .ok (.aload_n 0, 1) := by decide +kernel
theorem dX2_mark_42 : decode cX2_mark 42 = .ok (.aload_n 0, 1) := by decide +kernel
theorem dX2_mark_43 : decode cX2_mark 43 = .ok (.getfield 13, 3) := by decide +kernel
theorem dX2_mark_46 : decode cX2_mark 46 = .ok (.bipush 32, 2) := by decide +kernel
theorem dX2_mark_48 : decode cX2_mark 48 = .ok (.iload_n 1, 1) := by decide +kernel
theorem dX2_mark_49 : decode cX2_mark 49 = .ok (.imul, 1) := by decide +kernel
theorem dX2_mark_50 : decode cX2_mark 50 = .ok (.invokevirtual 168, 3) := by decide +kernel
theorem dX2_mark_53 : decode cX2_mark 53 = .ok (.aload_n 0, 1) := by decide +kernel
theorem dX2_mark_54 : decode cX2_mark 54 = .ok (.invokevirtual 172, 3) := by decide +kernel
theorem dX2_mark_57 : decode cX2_mark 57 = .ok (.iconst 0, 1) := by decide +kernel
theorem dX2_mark_58 : decode cX2_mark 58 = .ok (.istore 7, 2) := by decide +kernel
theorem dX2_mark_60 : decode cX2_mark 60 = .ok (.iload 7, 2) := by decide +kernel
theorem dX2_mark_62 : decode cX2_mark 62 = .ok (.bipush 32, 2) := by decide +kernel
theorem dX2_mark_64 : decode cX2_mark 64 = .ok (.if_icmp .ge 23, 3) := by decide +kernel
theorem dX2_mark_67 : decode cX2_mark 67 = .ok (.aload_n 0, 1) := by decide +kernel
theorem dX2_mark_68 : decode cX2_mark 68 = .ok (.getfield 41, 3) := by decide +kernel
theorem dX2_mark_71 : decode cX2_mark 71 = .ok (.iload 7, 2) := by decide +kernel
theorem dX2_mark_73 : decode cX2_mark 73 = .ok (.aload_n 0, 1) := by decide +kernel
theorem dX2_mark_74 : decode cX2_mark 74 = .ok (.getfield 32, 3) := by decide +kernel
theorem dX2_mark_77 : decode cX2_mark 77 = .ok (.iload 7, 2) := by decide +kernel
theorem dX2_mark_79 : decode cX2_mark 79 = .ok (.iaload, 1) := by decide +kernel
theorem dX2_mark_80 : decode cX2_mark 80 = .ok (.iastore, 1) := by decide +kernel
theorem dX2_mark_81 : decode cX2_mark 81 = .ok (.iinc 7 1, 3) := by decide +kernel
theorem dX2_mark_84 : decode cX2_mark 84 = .ok (.goto (-24), 3) := by decide +kernel
theorem dX2_mark_87 : decode cX2_mark 87 = .ok (.aload_n 0, 1) := by decide +kernel
theorem dX2_mark_88 : decode cX2_mark 88 = .ok (.invokevirtual 165, 3) := by decide +kernel
theorem dX2_mark_91 : decode cX2_mark 91 = .ok (.aload_n 0, 1) := by decide +kernel
theorem dX2_mark_92 : decode cX2_mark 92 = .ok (.lload 4, 2) := by decide +kernel
theorem dX2_mark_94 : decode cX2_mark 94 = .ok (.invokevirtual 158, 3) := by decide +kernel
theorem dX2_mark_97 : decode cX2_mark 97 = .ok (.aload_n 0, 1) := by decide +kernel
theorem dX2_mark_98 : decode cX2_mark 98 = .ok (.aload_n 0, 1) := by decide +kernel
theorem dX2_mark_99 : decode cX2_mark 99 = .ok (.getfield 41, 3) := by decide +kernel
theorem dX2_mark_102 : decode cX2_mark 102 = .ok (.iconst 0, 1) := by decide +kernel
theorem dX2_mark_103 : decode cX2_mark 103 = .ok (.invokevirtual 168, 3) := by decide +kernel
theorem dX2_mark_106 : decode cX2_mark 106 = .ok (.aload_n 0, 1) := by decide +kernel
theorem dX2_mark_107 : decode cX2_mark 107 = .ok (.invokevirtual 172, 3) := by decide +kernel
theorem dX2_mark_110 : decode cX2_mark 110 = .ok (.aload_n 0, 1) := by decide +kernel
theorem dX2_mark_111 : decode cX2_mark 111 = .ok (.getfield 32, 3) := by decide +kernel
theorem dX2_mark_114 : decode cX2_mark 114 = .ok (.iload 6, 2) := by decide +kernel
theorem dX2_mark_116 : decode cX2_mark 116 = .ok (.iaload, 1) := by decide +kernel
theorem dX2_mark_117 : decode cX2_mark 117 = .ok (.ireturn, 1) := by decide +kernel
theorem dX2_poke_0 : decode cX2_poke 0 = .ok (.aload_n 0, 1) := by decide +kernel
theorem dX2_poke_1 : decode cX2_poke 1 = .ok (.aload_n 0, 1) := by decide +kernel
theorem dX2_poke_2 : decode cX2_poke 2 = .ok (.iload_n 1, 1) := by decide +kernel
theorem dX2_poke_3 : decode cX2_poke 3 = .ok (.invokevirtual 203, 3) := by decide +kernel
theorem dX2_poke_6 : decode cX2_poke 6 = .ok (.ifCond .eq 14, 3) := by decide +kernel
theorem dX2_poke_9 : decode cX2_poke 9 = .ok (.iload_n 2, 1) := by decide +kernel
theorem dX2_poke_10 : decode cX2_poke 10 = .ok (.invokestatic 200, 3) := by decide +kernel
theorem dX2_poke_13 : decode cX2_poke 13 = .ok (.ifCond .eq 7, 3) := by decide +kernel
theorem dX2_poke_16 : decode cX2_poke 16 = .ok (.iconst 1, 1) := by decide +kernel
theorem dX2_poke_17 : decode cX2_poke 17 = .ok (.goto 4, 3) := by decide +kernel
theorem dX2_poke_20 : decode cX2_poke 20 = .ok (.iconst 0, 1) := by decide +kernel
theorem dX2_poke_21 : decode cX2_poke 21 = .ok (.iload_n 3, 1) := by decide +kernel
theorem dX2_poke_22 : decode cX2_poke 22 = .ok (.iconst 1, 1) := by decide +kernel
theorem dX2_poke_23 : decode cX2_poke 23 = .ok (.sipush 255, 3) := by decide +kernel
theorem dX2_poke_26 : decode cX2_poke 26 = .ok (.invokestatic 130, 3) := by decide +kernel
theorem dX2_poke_29 : decode cX2_poke 29 = .ok (.iconst 1, 1) := by decide +kernel
theorem dX2_poke_30 : decode cX2_poke 30 = .ok (.invokevirtual 188, 3) := by decide +kernel
theorem dX2_poke_33 : decode cX2_poke 33 = .ok (.ifCond .eq 27, 3) := by decide +kernel
theorem dX2_poke_36 : decode cX2_poke 36 = .ok (.aload_n 0, 1) := by decide +kernel
theorem dX2_poke_37 : decode cX2_poke 37 = .ok (.getfield 13, 3) := by decide +kernel
theorem dX2_poke_40 : decode cX2_poke 40 = .ok (.bipush 32, 2) := by decide +kernel
theorem dX2_poke_42 : decode cX2_poke 42 = .ok (.iload_n 1, 1) := by decide +kernel
theorem dX2_poke_43 : decode cX2_poke 43 = .ok (.imul, 1) := by decide +kernel
theorem dX2_poke_44 : decode cX2_poke 44 = .ok (.iload_n 2, 1) := by decide +kernel
theorem dX2_poke_45 : decode cX2_poke 45 = .ok (.iadd, 1) := by decide +kernel
theorem dX2_poke_46 : decode cX2_poke 46 = .ok (.aload_n 0, 1) := by decide +kernel
theorem dX2_poke_47 : decode cX2_poke 47 = .ok (.getfield 13, 3) := by decide +kernel
theorem dX2_poke_50 : decode cX2_poke 50 = .ok (.bipush 32, 2) := by decide +kernel
theorem dX2_poke_52 : decode cX2_poke 52 = .ok (.iload_n 1, 1) := by decide +kernel
theorem dX2_poke_53 : decode cX2_poke 53 = .ok (.imul, 1) := by decide +kernel
theorem dX2_poke_54 : decode cX2_poke 54 = .ok (.iload_n 2, 1) := by decide +kernel
theorem dX2_poke_55 : decode cX2_poke 55 = .ok (.iadd, 1) := by decide +kernel
theorem dX2_poke_56 : decode cX2_poke 56 = .ok (.iaload, 1) := by decide +kernel
theorem dX2_poke_57 : decode cX2_poke 57 = .ok (.iload_n 3, 1) := by decide +kernel
theorem dX2_poke_58 : decode cX2_poke 58 = .ok (.ixor, 1) := by decide +kernel
theorem dX2_poke_59 : decode cX2_poke 59 = .ok (.iastore, 1) := by decide +kernel
theorem dX2_poke_60 : decode cX2_poke 60 = .ok (.return_, 1) := by decide +kernel
