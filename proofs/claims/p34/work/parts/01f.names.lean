theorem dL_town_54 : decode cL_town 54 = .ok (.ishr, 1) := by decide +kernel
theorem dL_town_55 : decode cL_town 55 = .ok (.bipush 6, 2) := by decide +kernel
theorem dL_town_57 : decode cL_town 57 = .ok (.invokestatic 26, 3) := by decide +kernel
theorem dL_town_60 : decode cL_town 60 = .ok (.iadd, 1) := by decide +kernel
theorem dL_town_61 : decode cL_town 61 = .ok (.iastore, 1) := by decide +kernel
theorem dL_town_62 : decode cL_town 62 = .ok (.aload_n 3, 1) := by decide +kernel
theorem dL_town_63 : decode cL_town 63 = .ok (.bipush 44, 2) := by decide +kernel
theorem dL_town_65 : decode cL_town 65 = .ok (.iconst 1, 1) := by decide +kernel
theorem dL_town_66 : decode cL_town 66 = .ok (.aload_n 3, 1) := by decide +kernel
theorem dL_town_67 : decode cL_town 67 = .ok (.iconst 3, 1) := by decide +kernel
theorem dL_town_68 : decode cL_town 68 = .ok (.iaload, 1) := by decide +kernel
theorem dL_town_69 : decode cL_town 69 = .ok (.ishl, 1) := by decide +kernel
theorem dL_town_70 : decode cL_town 70 = .ok (.iconst 1, 1) := by decide +kernel
theorem dL_town_71 : decode cL_town 71 = .ok (.isub, 1) := by decide +kernel
theorem dL_town_72 : decode cL_town 72 = .ok (.iastore, 1) := by decide +kernel
theorem dL_town_73 : decode cL_town 73 = .ok (.aload_n 3, 1) := by decide +kernel
theorem dL_town_74 : decode cL_town 74 = .ok (.bipush 45, 2) := by decide +kernel
theorem dL_town_76 : decode cL_town 76 = .ok (.iconst 0, 1) := by decide +kernel
theorem dL_town_77 : decode cL_town 77 = .ok (.iastore, 1) := by decide +kernel
theorem dL_town_78 : decode cL_town 78 = .ok (.aload_n 0, 1) := by decide +kernel
theorem dL_town_79 : decode cL_town 79 = .ok (.invokevirtual 30, 3) := by decide +kernel
theorem dL_town_82 : decode cL_town 82 = .ok (.ifCond .lt 24, 3) := by decide +kernel
theorem dL_town_85 : decode cL_town 85 = .ok (.aload_n 0, 1) := by decide +kernel
theorem dL_town_86 : decode cL_town 86 = .ok (.bipush 108, 2) := by decide +kernel
theorem dL_town_88 : decode cL_town 88 = .ok (.iconst 1, 1) := by decide +kernel
theorem dL_town_89 : decode cL_town 89 = .ok (.aload_n 3, 1) := by decide +kernel
theorem dL_town_90 : decode cL_town 90 = .ok (.iconst 2, 1) := by decide +kernel
theorem dL_town_91 : decode cL_town 91 = .ok (.iaload, 1) := by decide +kernel
theorem dL_town_92 : decode cL_town 92 = .ok (.iconst 0, 1) := by decide +kernel
theorem dL_town_93 : decode cL_town 93 = .ok (.iconst 0, 1) := by decide +kernel
theorem dL_town_94 : decode cL_town 94 = .ok (.iconst 0, 1) := by decide +kernel
theorem dL_town_95 : decode cL_town 95 = .ok (.iconst 0, 1) := by decide +kernel
theorem dL_town_96 : decode cL_town 96 = .ok (.invokestatic 34, 3) := by decide +kernel
theorem dL_town_99 : decode cL_town 99 = .ok (.ifCond .eq 7, 3) := by decide +kernel
theorem dL_town_102 : decode cL_town 102 = .ok (.iconst 1, 1) := by decide +kernel
theorem dL_town_103 : decode cL_town 103 = .ok (.goto 4, 3) := by decide +kernel
theorem dL_town_106 : decode cL_town 106 = .ok (.iconst 0, 1) := by decide +kernel
theorem dL_town_107 : decode cL_town 107 = .ok (.istore 5, 2) := by decide +kernel
theorem dL_town_109 : decode cL_town 109 = .ok (.iconst 0, 1) := by decide +kernel
theorem dL_town_110 : decode cL_town 110 = .ok (.istore 6, 2) := by decide +kernel
theorem dL_town_112 : decode cL_town 112 = .ok (.iload 6, 2) := by decide +kernel
theorem dL_town_114 : decode cL_town 114 = .ok (.aload_n 3, 1) := by decide +kernel
theorem dL_town_115 : decode cL_town 115 = .ok (.iconst 0, 1) := by decide +kernel
theorem dL_town_116 : decode cL_town 116 = .ok (.iaload, 1) := by decide +kernel
theorem dL_town_117 : decode cL_town 117 = .ok (.if_icmp .ge 70, 3) := by decide +kernel
theorem dL_town_120 : decode cL_town 120 = .ok (.iload 4, 2) := by decide +kernel
theorem dL_town_122 : decode cL_town 122 = .ok (.bipush 9, 2) := by decide +kernel
theorem dL_town_124 : decode cL_town 124 = .ok (.iconst 2, 1) := by decide +kernel
theorem dL_town_125 : decode cL_town 125 = .ok (.iload 6, 2) := by decide +kernel
theorem dL_town_127 : decode cL_town 127 = .ok (.imul, 1) := by decide +kernel
theorem dL_town_128 : decode cL_town 128 = .ok (.iadd, 1) := by decide +kernel
theorem dL_town_129 : decode cL_town 129 = .ok (.ishr, 1) := by decide +kernel
theorem dL_town_130 : decode cL_town 130 = .ok (.iconst 3, 1) := by decide +kernel
theorem dL_town_131 : decode cL_town 131 = .ok (.iand, 1) := by decide +kernel
theorem dL_town_132 : decode cL_town 132 = .ok (.ifCond .ne 7, 3) := by decide +kernel
theorem dL_town_135 : decode cL_town 135 = .ok (.iconst 0, 1) := by decide +kernel
theorem dL_town_136 : decode cL_town 136 = .ok (.goto 4, 3) := by decide +kernel
theorem dL_town_139 : decode cL_town 139 = .ok (.iconst 1, 1) := by decide +kernel
theorem dL_town_140 : decode cL_town 140 = .ok (.istore 7, 2) := by decide +kernel
theorem dL_town_142 : decode cL_town 142 = .ok (.aload_n 3, 1) := by decide +kernel
theorem dL_town_143 : decode cL_town 143 = .ok (.iconst 1, 1) := by decide +kernel
theorem dL_town_144 : decode cL_town 144 = .ok (.dup2, 1) := by decide +kernel
theorem dL_town_145 : decode cL_town 145 = .ok (.iaload, 1) := by decide +kernel
theorem dL_town_146 : decode cL_town 146 = .ok (.iload 7, 2) := by decide +kernel
theorem dL_town_148 : decode cL_town 148 = .ok (.iload 6, 2) := by decide +kernel
theorem dL_town_150 : decode cL_town 150 = .ok (.ishl, 1) := by decide +kernel
theorem dL_town_151 : decode cL_town 151 = .ok (.ior, 1) := by decide +kernel
theorem dL_town_152 : decode cL_town 152 = .ok (.iastore, 1) := by decide +kernel
theorem dL_town_153 : decode cL_town 153 = .ok (.iload 5, 2) := by decide +kernel
theorem dL_town_155 : decode cL_town 155 = .ok (.ifCond .eq 23, 3) := by decide +kernel
theorem dL_town_158 : decode cL_town 158 = .ok (.aload_n 0, 1) := by decide +kernel
theorem dL_town_159 : decode cL_town 159 = .ok (.bipush 112, 2) := by decide +kernel
theorem dL_town_161 : decode cL_town 161 = .ok (.iconst 1, 1) := by decide +kernel
theorem dL_town_162 : decode cL_town 162 = .ok (.iload 7, 2) := by decide +kernel
theorem dL_town_164 : decode cL_town 164 = .ok (.iconst 0, 1) := by decide +kernel
theorem dL_town_165 : decode cL_town 165 = .ok (.iconst 0, 1) := by decide +kernel
theorem dL_town_166 : decode cL_town 166 = .ok (.iconst 0, 1) := by decide +kernel
theorem dL_town_167 : decode cL_town 167 = .ok (.iconst 0, 1) := by decide +kernel
theorem dL_town_168 : decode cL_town 168 = .ok (.invokestatic 34, 3) := by decide +kernel
theorem dL_town_171 : decode cL_town 171 = .ok (.ifCond .eq 7, 3) := by decide +kernel
theorem dL_town_174 : decode cL_town 174 = .ok (.iconst 1, 1) := by decide +kernel
theorem dL_town_175 : decode cL_town 175 = .ok (.goto 4, 3) := by decide +kernel
theorem dL_town_178 : decode cL_town 178 = .ok (.iconst 0, 1) := by decide +kernel
theorem dL_town_179 : decode cL_town 179 = .ok (.istore 5, 2) := by decide +kernel
theorem dL_town_181 : decode cL_town 181 = .ok (.iinc 6 1, 3) := by decide +kernel
theorem dL_town_184 : decode cL_town 184 = .ok (.goto (-72), 3) := by decide +kernel
theorem dL_town_187 : decode cL_town 187 = .ok (.iconst 0, 1) := by decide +kernel
theorem dL_town_188 : decode cL_town 188 = .ok (.istore 6, 2) := by decide +kernel
theorem dL_town_190 : decode cL_town 190 = .ok (.iload 6, 2) := by decide +kernel
theorem dL_town_192 : decode cL_town 192 = .ok (.aload_n 3, 1) := by decide +kernel
theorem dL_town_193 : decode cL_town 193 = .ok (.iconst 3, 1) := by decide +kernel
theorem dL_town_194 : decode cL_town 194 = .ok (.iaload, 1) := by decide +kernel
theorem dL_town_195 : decode cL_town 195 = .ok (.if_icmp .ge 227, 3) := by decide +kernel
theorem dL_town_198 : decode cL_town 198 = .ok (.aload_n 1, 1) := by decide +kernel
theorem dL_town_199 : decode cL_town 199 = .ok (.iload_n 2, 1) := by decide +kernel
theorem dL_town_200 : decode cL_town 200 = .ok (.iconst 1, 1) := by decide +kernel
theorem dL_town_201 : decode cL_town 201 = .ok (.iadd, 1) := by decide +kernel
theorem dL_town_202 : decode cL_town 202 = .ok (.iload 6, 2) := by decide +kernel
theorem dL_town_204 : decode cL_town 204 = .ok (.iadd, 1) := by decide +kernel
theorem dL_town_205 : decode cL_town 205 = .ok (.invokestatic 22, 3) := by decide +kernel
theorem dL_town_208 : decode cL_town 208 = .ok (.istore 7, 2) := by decide +kernel
theorem dL_town_210 : decode cL_town 210 = .ok (.aload_n 3, 1) := by decide +kernel
theorem dL_town_211 : decode cL_town 211 = .ok (.iconst 4, 1) := by decide +kernel
theorem dL_town_212 : decode cL_town 212 = .ok (.iload 6, 2) := by decide +kernel
theorem dL_town_214 : decode cL_town 214 = .ok (.iadd, 1) := by decide +kernel
theorem dL_town_215 : decode cL_town 215 = .ok (.iload 7, 2) := by decide +kernel
theorem dL_town_217 : decode cL_town 217 = .ok (.aload_n 3, 1) := by decide +kernel
theorem dL_town_218 : decode cL_town 218 = .ok (.iconst 0, 1) := by decide +kernel
theorem dL_town_219 : decode cL_town 219 = .ok (.iaload, 1) := by decide +kernel
theorem dL_town_220 : decode cL_town 220 = .ok (.invokestatic 26, 3) := by decide +kernel
theorem dL_town_223 : decode cL_town 223 = .ok (.iastore, 1) := by decide +kernel
theorem dL_town_224 : decode cL_town 224 = .ok (.aload_n 3, 1) := by decide +kernel
theorem dL_town_225 : decode cL_town 225 = .ok (.bipush 12, 2) := by decide +kernel
theorem dL_town_227 : decode cL_town 227 = .ok (.iload 6, 2) := by decide +kernel
theorem dL_town_229 : decode cL_town 229 = .ok (.iadd, 1) := by decide +kernel
theorem dL_town_230 : decode cL_town 230 = .ok (.aload_n 3, 1) := by decide +kernel
theorem dL_town_231 : decode cL_town 231 = .ok (.iconst 4, 1) := by decide +kernel
theorem dL_town_232 : decode cL_town 232 = .ok (.iload 6, 2) := by decide +kernel
theorem dL_town_234 : decode cL_town 234 = .ok (.iadd, 1) := by decide +kernel
theorem dL_town_235 : decode cL_town 235 = .ok (.iaload, 1) := by decide +kernel
theorem dL_town_236 : decode cL_town 236 = .ok (.iconst 1, 1) := by decide +kernel
theorem dL_town_237 : decode cL_town 237 = .ok (.iadd, 1) := by decide +kernel
theorem dL_town_238 : decode cL_town 238 = .ok (.iload 7, 2) := by decide +kernel
theorem dL_town_240 : decode cL_town 240 = .ok (.iconst 3, 1) := by decide +kernel
theorem dL_town_241 : decode cL_town 241 = .ok (.ishr, 1) := by decide +kernel
theorem dL_town_242 : decode cL_town 242 = .ok (.aload_n 3, 1) := by decide +kernel
theorem dL_town_243 : decode cL_town 243 = .ok (.iconst 0, 1) := by decide +kernel
theorem dL_town_244 : decode cL_town 244 = .ok (.iaload, 1) := by decide +kernel
theorem dL_town_245 : decode cL_town 245 = .ok (.iconst 1, 1) := by decide +kernel
theorem dL_town_246 : decode cL_town 246 = .ok (.isub, 1) := by decide +kernel
theorem dL_town_247 : decode cL_town 247 = .ok (.invokestatic 26, 3) := by decide +kernel
theorem dL_town_250 : decode cL_town 250 = .ok (.iadd, 1) := by decide +kernel
theorem dL_town_251 : decode cL_town 251 = .ok (.aload_n 3, 1) := by decide +kernel
theorem dL_town_252 : decode cL_town 252 = .ok (.iconst 0, 1) := by decide +kernel
theorem dL_town_253 : decode cL_town 253 = .ok (.iaload, 1) := by decide +kernel
theorem dL_town_254 : decode cL_town 254 = .ok (.irem, 1) := by decide +kernel
theorem dL_town_255 : decode cL_town 255 = .ok (.iastore, 1) := by decide +kernel
theorem dL_town_256 : decode cL_town 256 = .ok (.aload_n 3, 1) := by decide +kernel
theorem dL_town_257 : decode cL_town 257 = .ok (.bipush 20, 2) := by decide +kernel
theorem dL_town_259 : decode cL_town 259 = .ok (.iload 6, 2) := by decide +kernel
theorem dL_town_261 : decode cL_town 261 = .ok (.iadd, 1) := by decide +kernel
theorem dL_town_262 : decode cL_town 262 = .ok (.iload 7, 2) := by decide +kernel
theorem dL_town_264 : decode cL_town 264 = .ok (.iconst 5, 1) := by decide +kernel
theorem dL_town_265 : decode cL_town 265 = .ok (.ishr, 1) := by decide +kernel
theorem dL_town_266 : decode cL_town 266 = .ok (.iconst 3, 1) := by decide +kernel
theorem dL_town_267 : decode cL_town 267 = .ok (.iand, 1) := by decide +kernel
theorem dL_town_268 : decode cL_town 268 = .ok (.ifCond .ne 7, 3) := by decide +kernel
theorem dL_town_271 : decode cL_town 271 = .ok (.iconst 0, 1) := by decide +kernel
theorem dL_town_272 : decode cL_town 272 = .ok (.goto 21, 3) := by decide +kernel
theorem dL_town_275 : decode cL_town 275 = .ok (.iload 7, 2) := by decide +kernel
theorem dL_town_277 : decode cL_town 277 = .ok (.bipush 7, 2) := by decide +kernel
theorem dL_town_279 : decode cL_town 279 = .ok (.ishr, 1) := by decide +kernel
theorem dL_town_280 : decode cL_town 280 = .ok (.iload 7, 2) := by decide +kernel
theorem dL_town_282 : decode cL_town 282 = .ok (.bipush 15, 2) := by decide +kernel
theorem dL_town_284 : decode cL_town 284 = .ok (.ishr, 1) := by decide +kernel
theorem dL_town_285 : decode cL_town 285 = .ok (.iand, 1) := by decide +kernel
theorem dL_town_286 : decode cL_town 286 = .ok (.iconst 1, 1) := by decide +kernel
theorem dL_town_287 : decode cL_town 287 = .ok (.iload 6, 2) := by decide +kernel
theorem dL_town_289 : decode cL_town 289 = .ok (.ishl, 1) := by decide +kernel
theorem dL_town_290 : decode cL_town 290 = .ok (.iconst 1, 1) := by decide +kernel
theorem dL_town_291 : decode cL_town 291 = .ok (.isub, 1) := by decide +kernel
theorem dL_town_292 : decode cL_town 292 = .ok (.iand, 1) := by decide +kernel
theorem dL_town_293 : decode cL_town 293 = .ok (.iastore, 1) := by decide +kernel
theorem dL_town_294 : decode cL_town 294 = .ok (.aload_n 3, 1) := by decide +kernel
theorem dL_town_295 : decode cL_town 295 = .ok (.bipush 28, 2) := by decide +kernel
theorem dL_town_297 : decode cL_town 297 = .ok (.iload 6, 2) := by decide +kernel
theorem dL_town_299 : decode cL_town 299 = .ok (.iadd, 1) := by decide +kernel
theorem dL_town_300 : decode cL_town 300 = .ok (.iload 7, 2) := by decide +kernel
theorem dL_town_302 : decode cL_town 302 = .ok (.bipush 13, 2) := by decide +kernel
theorem dL_town_304 : decode cL_town 304 = .ok (.ishr, 1) := by decide +kernel
theorem dL_town_305 : decode cL_town 305 = .ok (.iload 7, 2) := by decide +kernel
theorem dL_town_307 : decode cL_town 307 = .ok (.ldc 38, 2) := by decide +kernel
theorem dL_town_309 : decode cL_town 309 = .ok (.iand, 1) := by decide +kernel
theorem dL_town_310 : decode cL_town 310 = .ok (.ifCond .ne 8, 3) := by decide +kernel
theorem dL_town_313 : decode cL_town 313 = .ok (.bipush 10, 2) := by decide +kernel
theorem dL_town_315 : decode cL_town 315 = .ok (.goto 5, 3) := by decide +kernel
theorem dL_town_318 : decode cL_town 318 = .ok (.bipush 100, 2) := by decide +kernel
theorem dL_town_320 : decode cL_town 320 = .ok (.invokestatic 26, 3) := by decide +kernel
theorem dL_town_323 : decode cL_town 323 = .ok (.iastore, 1) := by decide +kernel
theorem dL_town_324 : decode cL_town 324 = .ok (.aload_n 3, 1) := by decide +kernel
theorem dL_town_325 : decode cL_town 325 = .ok (.bipush 36, 2) := by decide +kernel
theorem dL_town_327 : decode cL_town 327 = .ok (.iload 6, 2) := by decide +kernel
theorem dL_town_329 : decode cL_town 329 = .ok (.iadd, 1) := by decide +kernel
theorem dL_town_330 : decode cL_town 330 = .ok (.iload 7, 2) := by decide +kernel
theorem dL_town_332 : decode cL_town 332 = .ok (.bipush 20, 2) := by decide +kernel
theorem dL_town_334 : decode cL_town 334 = .ok (.ishr, 1) := by decide +kernel
theorem dL_town_335 : decode cL_town 335 = .ok (.iconst 1, 1) := by decide +kernel
theorem dL_town_336 : decode cL_town 336 = .ok (.iand, 1) := by decide +kernel
theorem dL_town_337 : decode cL_town 337 = .ok (.ifCond .ne 15, 3) := by decide +kernel
theorem dL_town_340 : decode cL_town 340 = .ok (.iload 7, 2) := by decide +kernel
theorem dL_town_342 : decode cL_town 342 = .ok (.bipush 21, 2) := by decide +kernel
theorem dL_town_344 : decode cL_town 344 = .ok (.ishr, 1) := by decide +kernel
theorem dL_town_345 : decode cL_town 345 = .ok (.iconst 2, 1) := by decide +kernel
theorem dL_town_346 : decode cL_town 346 = .ok (.invokestatic 26, 3) := by decide +kernel
theorem dL_town_349 : decode cL_town 349 = .ok (.goto 10, 3) := by decide +kernel
theorem dL_town_352 : decode cL_town 352 = .ok (.iload 7, 2) := by decide +kernel
theorem dL_town_354 : decode cL_town 354 = .ok (.bipush 21, 2) := by decide +kernel
theorem dL_town_356 : decode cL_town 356 = .ok (.ishr, 1) := by decide +kernel
theorem dL_town_357 : decode cL_town 357 = .ok (.iconst 3, 1) := by decide +kernel
theorem dL_town_358 : decode cL_town 358 = .ok (.iand, 1) := by decide +kernel
theorem dL_town_359 : decode cL_town 359 = .ok (.iastore, 1) := by decide +kernel
theorem dL_town_360 : decode cL_town 360 = .ok (.iload 5, 2) := by decide +kernel
theorem dL_town_362 : decode cL_town 362 = .ok (.ifCond .eq 51, 3) := by decide +kernel
theorem dL_town_365 : decode cL_town 365 = .ok (.aload_n 0, 1) := by decide +kernel
theorem dL_town_366 : decode cL_town 366 = .ok (.bipush 107, 2) := by decide +kernel
theorem dL_town_368 : decode cL_town 368 = .ok (.iconst 5, 1) := by decide +kernel
theorem dL_town_369 : decode cL_town 369 = .ok (.aload_n 3, 1) := by decide +kernel
theorem dL_town_370 : decode cL_town 370 = .ok (.iconst 4, 1) := by decide +kernel
theorem dL_town_371 : decode cL_town 371 = .ok (.iload 6, 2) := by decide +kernel
theorem dL_town_373 : decode cL_town 373 = .ok (.iadd, 1) := by decide +kernel
theorem dL_town_374 : decode cL_town 374 = .ok (.iaload, 1) := by decide +kernel
theorem dL_town_375 : decode cL_town 375 = .ok (.aload_n 3, 1) := by decide +kernel
theorem dL_town_376 : decode cL_town 376 = .ok (.bipush 12, 2) := by decide +kernel
theorem dL_town_378 : decode cL_town 378 = .ok (.iload 6, 2) := by decide +kernel
theorem dL_town_380 : decode cL_town 380 = .ok (.iadd, 1) := by decide +kernel
theorem dL_town_381 : decode cL_town 381 = .ok (.iaload, 1) := by decide +kernel
theorem dL_town_382 : decode cL_town 382 = .ok (.aload_n 3, 1) := by decide +kernel
theorem dL_town_383 : decode cL_town 383 = .ok (.bipush 20, 2) := by decide +kernel
theorem dL_town_385 : decode cL_town 385 = .ok (.iload 6, 2) := by decide +kernel
theorem dL_town_387 : decode cL_town 387 = .ok (.iadd, 1) := by decide +kernel
theorem dL_town_388 : decode cL_town 388 = .ok (.iaload, 1) := by decide +kernel
theorem dL_town_389 : decode cL_town 389 = .ok (.aload_n 3, 1) := by decide +kernel
theorem dL_town_390 : decode cL_town 390 = .ok (.bipush 28, 2) := by decide +kernel
theorem dL_town_392 : decode cL_town 392 = .ok (.iload 6, 2) := by decide +kernel
theorem dL_town_394 : decode cL_town 394 = .ok (.iadd, 1) := by decide +kernel
theorem dL_town_395 : decode cL_town 395 = .ok (.iaload, 1) := by decide +kernel
theorem dL_town_396 : decode cL_town 396 = .ok (.aload_n 3, 1) := by decide +kernel
theorem dL_town_397 : decode cL_town 397 = .ok (.bipush 36, 2) := by decide +kernel
theorem dL_town_399 : decode cL_town 399 = .ok (.iload 6, 2) := by decide +kernel
theorem dL_town_401 : decode cL_town 401 = .ok (.iadd, 1) := by decide +kernel
theorem dL_town_402 : decode cL_town 402 = .ok (.iaload, 1) := by decide +kernel
theorem dL_town_403 : decode cL_town 403 = .ok (.invokestatic 34, 3) := by decide +kernel
theorem dL_town_406 : decode cL_town 406 = .ok (.ifCond .eq 7, 3) := by decide +kernel
theorem dL_town_409 : decode cL_town 409 = .ok (.iconst 1, 1) := by decide +kernel
theorem dL_town_410 : decode cL_town 410 = .ok (.goto 4, 3) := by decide +kernel
theorem dL_town_413 : decode cL_town 413 = .ok (.iconst 0, 1) := by decide +kernel
theorem dL_town_414 : decode cL_town 414 = .ok (.istore 5, 2) := by decide +kernel
theorem dL_town_416 : decode cL_town 416 = .ok (.iinc 6 1, 3) := by decide +kernel
theorem dL_town_419 : decode cL_town 419 = .ok (.goto (-229), 3) := by decide +kernel
theorem dL_town_422 : decode cL_town 422 = .ok (.iload 5, 2) := by decide +kernel
theorem dL_town_424 : decode cL_town 424 = .ok (.ifCond .eq 26, 3) := by decide +kernel
theorem dL_town_427 : decode cL_town 427 = .ok (.aload_n 0, 1) := by decide +kernel
theorem dL_town_428 : decode cL_town 428 = .ok (.invokevirtual 39, 3) := by decide +kernel
theorem dL_town_431 : decode cL_town 431 = .ok (.bipush (-4), 2) := by decide +kernel
theorem dL_town_433 : decode cL_town 433 = .ok (.if_icmp .ne 17, 3) := by decide +kernel
theorem dL_town_436 : decode cL_town 436 = .ok (.aload_n 0, 1) := by decide +kernel
theorem dL_town_437 : decode cL_town 437 = .ok (.invokevirtual 42, 3) := by decide +kernel
theorem dL_town_440 : decode cL_town 440 = .ok (.aload_n 3, 1) := by decide +kernel
theorem dL_town_441 : decode cL_town 441 = .ok (.iconst 3, 1) := by decide +kernel
theorem dL_town_442 : decode cL_town 442 = .ok (.iaload, 1) := by decide +kernel
theorem dL_town_443 : decode cL_town 443 = .ok (.if_icmp .ne 7, 3) := by decide +kernel
theorem dL_town_446 : decode cL_town 446 = .ok (.iconst 1, 1) := by decide +kernel
theorem dL_town_447 : decode cL_town 447 = .ok (.goto 4, 3) := by decide +kernel
theorem dL_town_450 : decode cL_town 450 = .ok (.iconst 0, 1) := by decide +kernel
theorem dL_town_451 : decode cL_town 451 = .ok (.ireturn, 1) := by decide +kernel
set_option maxRecDepth 20000 in
theorem ggL_act_L_some : GoodIn wsL_act wsL_some := goodIn_r _ [8, 9] (by decide +kernel) (by decide +kernel)
set_option maxRecDepth 20000 in
theorem gL_act_L_some : GoodIn wsL_act (va_wsS RL 26 yL_some wsL_some) := goodIn_app (goodIn_of _ (by decide +kernel)) ggL_act_L_some
set_option maxRecDepth 20000 in
theorem ggL_act_X7_undo : GoodIn wsL_act wsX7_undo := goodIn_r _ [14, 15, 16, 17, 18, 19, 20, 21, 22, 23, 24, 25, 26, 27, 28, 29, 30, 31, 32, 33, 34, 35, 36, 13, 37, 38, 39, 40, 41, 42, 43, 44, 45, 46, 47, 48, 49, 50, 51, 52, 53, 54, 55, 56, 57, 58, 59, 60, 61, 62, 63, 64, 65, 66, 67, 68, 69, 70, 71, 72, 73, 74, 75, 76, 77, 383, 384, 385, 386, 387, 388, 389, 390, 391, 392, 393, 394, 395, 396, 397, 398, 399, 400, 401, 402, 403, 404, 405, 406, 407, 408, 409, 410] (by decide +kernel) (by decide +kernel)
set_option maxRecDepth 20000 in
theorem gL_act_X7_undo : GoodIn wsL_act (wsV RL 68 RX7 yX7_undo wsX7_undo) := goodIn_app (goodIn_of _ (by decide +kernel)) ggL_act_X7_undo
set_option maxRecDepth 20000 in
theorem ggL_act_X7_tie : GoodIn wsL_act wsX7_tie := goodIn_r _ [81, 15, 57, 82, 83, 84, 85, 19, 86, 87, 88, 89, 90, 91, 92, 93, 94, 95, 21, 50, 13, 51, 52, 96, 43, 44, 58, 59, 60, 61, 62, 63, 64, 65, 66, 67, 68, 69, 70, 97, 98, 99, 100, 101, 102, 103, 104, 105, 106, 107, 108, 32, 49, 34, 33, 109, 110, 383, 384, 385, 386, 387, 388, 389, 390, 391, 392, 393, 394, 395, 396, 397, 398, 399, 400, 401, 402, 403, 404, 405, 406, 407, 408, 409, 410, 411, 412] (by decide +kernel) (by decide +kernel)
set_option maxRecDepth 20000 in
theorem gL_act_X7_tie : GoodIn wsL_act (wsV RL 77 RX7 yX7_tie wsX7_tie) := goodIn_app (goodIn_of _ (by decide +kernel)) ggL_act_X7_tie
set_option maxRecDepth 20000 in
theorem ggL_act_X7_pull : GoodIn wsL_act wsX7_pull := goodIn_r _ [114, 15, 16, 17, 18, 19, 20, 21, 52, 50, 13, 51, 115, 116, 117, 118, 109, 49, 36, 37, 119, 120, 121, 122, 123, 33, 96, 43, 44, 53, 54, 55, 56, 57, 58, 59, 60, 61, 62, 63, 64, 65, 66, 67, 68, 69, 70, 71, 72, 73, 74, 75, 76, 77, 383, 384, 385, 386, 387, 388, 389, 390, 391, 392, 393, 394, 395, 396, 397, 398, 399, 400, 401, 402, 403, 404, 405, 406, 407, 408, 409, 410] (by decide +kernel) (by decide +kernel)
set_option maxRecDepth 20000 in
theorem gL_act_X7_pull : GoodIn wsL_act (wsV RL 81 RX7 yX7_pull wsX7_pull) := goodIn_app (goodIn_of _ (by decide +kernel)) ggL_act_X7_pull
set_option maxRecDepth 20000 in
theorem ggL_act_X7_cut : GoodIn wsL_act wsX7_cut := goodIn_r _ [127, 15, 16, 17, 18, 19, 20, 21, 119, 36, 13, 37, 52, 50, 51, 115, 116, 117, 118, 109, 49, 53, 54, 55, 56, 57, 58, 59, 60, 61, 62, 63, 64, 65, 66, 67, 68, 69, 70, 71, 72, 73, 74, 75, 76, 77, 383, 384, 385, 386, 387, 388, 389, 390, 391, 392, 393, 394, 395, 396, 397, 398, 399, 400, 401, 402, 403, 404, 405, 406, 407, 408, 409, 410] (by decide +kernel) (by decide +kernel)
set_option maxRecDepth 20000 in
theorem gL_act_X7_cut : GoodIn wsL_act (wsV RL 71 RX7 yX7_cut wsX7_cut) := goodIn_app (goodIn_of _ (by decide +kernel)) ggL_act_X7_cut
set_option maxRecDepth 20000 in
theorem ggL_act_X7_days : GoodIn wsL_act wsX7_days := goodIn_r _ [131, 15, 57, 58, 59, 60, 61, 62, 63, 64, 65, 66, 67, 68, 69, 70, 383, 384, 385, 386, 387, 388, 389, 390, 391, 392, 393, 394, 395, 396, 397, 398, 399, 400, 401, 402, 403, 404, 405, 406, 407, 408, 409, 410] (by decide +kernel) (by decide +kernel)
set_option maxRecDepth 20000 in
theorem gL_act_X7_days : GoodIn wsL_act (wsV RL 74 RX7 yX7_days wsX7_days) := goodIn_app (goodIn_of _ (by decide +kernel)) ggL_act_X7_days
set_option maxRecDepth 20000 in
theorem ggL_act_X7_takeBack : GoodIn wsL_act wsX7_takeBack := goodIn_r _ [135, 57, 15, 82, 136, 137, 138, 61, 139, 63, 140, 141, 142, 143, 64, 65, 66, 97, 98, 99, 100, 101, 102, 383, 384, 385, 386, 387, 388, 389, 390, 391, 392, 393, 394, 407, 408, 409, 410, 395, 396, 397, 398, 399, 400, 401, 402, 403, 404, 405, 406, 411, 412] (by decide +kernel) (by decide +kernel)
set_option maxRecDepth 20000 in
theorem gL_act_X7_takeBack : GoodIn wsL_act (wsV RL 84 RX7 yX7_takeBack wsX7_takeBack) := goodIn_app (goodIn_of _ (by decide +kernel)) ggL_act_X7_takeBack
set_option maxRecDepth 20000 in
theorem ggL_act_X7_loosen : GoodIn wsL_act wsX7_loosen := goodIn_r _ [147, 15, 148, 16, 17, 18, 19, 20, 21, 119, 36, 13, 37, 149, 150, 151, 152, 153, 154, 155, 156, 157, 158, 159, 29, 30, 31, 32, 33, 34, 35, 38, 39, 40, 41, 42, 43, 44, 45, 46, 47, 48, 49, 50, 51, 52, 160, 161, 162, 163, 164, 383, 384, 385, 386, 387, 388, 389, 390, 391, 392, 393, 394, 395, 396, 397, 398, 399, 400, 401, 402, 403, 404, 405, 406, 413, 414] (by decide +kernel) (by decide +kernel)
set_option maxRecDepth 20000 in
theorem gL_act_X7_loosen : GoodIn wsL_act (wsV RL 87 RX7 yX7_loosen wsX7_loosen) := goodIn_app (goodIn_of _ (by decide +kernel)) ggL_act_X7_loosen
set_option maxRecDepth 20000 in
theorem ggL_act_X7_pay : GoodIn wsL_act wsX7_pay := goodIn_r _ [168, 15, 148, 169, 170, 171, 19, 172, 109, 34, 26, 36, 13, 37, 50, 51, 149, 150, 151, 152, 153, 154, 155, 156, 157, 158, 159, 29, 30, 31, 32, 33, 35, 17, 18, 20, 21, 38, 39, 40, 41, 42, 43, 44, 45, 46, 47, 48, 49, 160, 161, 162, 163, 164, 71, 72, 73, 74, 75, 76, 77, 173, 174, 175, 176, 177, 178, 179, 180, 181, 23, 24, 25, 27, 28, 383, 384, 385, 386, 387, 388, 389, 390, 391, 392, 393, 394, 395, 396, 397, 398, 399, 400, 401, 402, 403, 404, 405, 406, 413, 414] (by decide +kernel) (by decide +kernel)
set_option maxRecDepth 20000 in
theorem gL_act_X7_pay : GoodIn wsL_act (wsV RL 92 RX7 yX7_pay wsX7_pay) := goodIn_app (goodIn_of _ (by decide +kernel)) ggL_act_X7_pay
set_option maxRecDepth 20000 in
theorem ggL_act_X7_forEver : GoodIn wsL_act wsX7_forEver := goodIn_r _ [185, 148, 15, 186, 187, 188, 152, 189, 155, 156, 157, 158, 154, 159, 29, 30, 19, 31, 32, 33, 34, 35, 17, 18, 20, 21, 36, 13, 37, 38, 39, 40, 41, 42, 43, 44, 45, 46, 47, 48, 49, 50, 51, 383, 384, 385, 386, 387, 388, 389, 390, 391, 392, 393, 394, 395, 396, 397, 398, 399, 400, 401, 402, 403, 404, 405, 406, 413, 414] (by decide +kernel) (by decide +kernel)
set_option maxRecDepth 20000 in
theorem gL_act_X7_forEver : GoodIn wsL_act (wsV RL 95 RX7 yX7_forEver wsX7_forEver) := goodIn_app (goodIn_of _ (by decide +kernel)) ggL_act_X7_forEver
set_option maxRecDepth 20000 in
theorem ggL_act_X7_frees : GoodIn wsL_act wsX7_frees := goodIn_r _ [193, 15, 148, 194, 88, 89, 19, 90, 91, 186, 187, 188, 152, 189, 155, 156, 157, 158, 154, 159, 29, 30, 31, 32, 33, 34, 35, 17, 18, 20, 21, 36, 13, 37, 38, 39, 40, 41, 42, 43, 44, 45, 46, 47, 48, 49, 50, 51, 52, 71, 72, 73, 74, 75, 76, 77, 383, 384, 385, 386, 387, 388, 389, 390, 391, 392, 393, 394, 395, 396, 397, 398, 399, 400, 401, 402, 403, 404, 405, 406, 413, 414] (by decide +kernel) (by decide +kernel)
set_option maxRecDepth 20000 in
theorem gL_act_X7_frees : GoodIn wsL_act (wsV RL 98 RX7 yX7_frees wsX7_frees) := goodIn_app (goodIn_of _ (by decide +kernel)) ggL_act_X7_frees
set_option maxRecDepth 20000 in
theorem ggL_act_X7_fresh : GoodIn wsL_act wsX7_fresh := goodIn_r _ [198, 15, 148, 199, 93, 94, 19, 95, 21, 50, 13, 51, 200, 201, 202, 152, 203, 154, 36, 37, 204, 116, 117, 118, 109, 49, 205, 206, 207, 208, 209, 210, 72, 73, 74, 75, 76, 77, 43, 44, 211, 212, 213, 214, 215, 216, 119, 217, 383, 384, 385, 386, 387, 388, 389, 390, 391, 392, 393, 394, 395, 396, 397, 398, 399, 400, 401, 402, 403, 404, 405, 406, 413, 414] (by decide +kernel) (by decide +kernel)
set_option maxRecDepth 20000 in
theorem gL_act_X7_fresh : GoodIn wsL_act (wsV RL 101 RX7 yX7_fresh wsX7_fresh) := goodIn_app (goodIn_of _ (by decide +kernel)) ggL_act_X7_fresh
set_option maxRecDepth 20000 in
theorem ggL_act_X7_orders : GoodIn wsL_act wsX7_orders := goodIn_r _ [221, 148, 222, 223, 224, 152, 225, 209, 154, 43, 13, 44, 226, 227, 228, 229, 36, 37, 50, 51, 383, 384, 385, 386, 387, 388, 389, 390, 391, 392, 393, 394, 413, 414, 395, 396, 397, 398, 399, 400, 401, 402, 403, 404, 405, 406] (by decide +kernel) (by decide +kernel)
set_option maxRecDepth 20000 in
theorem gL_act_X7_orders : GoodIn wsL_act (wsV RL 105 RX7 yX7_orders wsX7_orders) := goodIn_app (goodIn_of _ (by decide +kernel)) ggL_act_X7_orders
set_option maxRecDepth 20000 in
theorem ggL_act_X7_noRow : GoodIn wsL_act wsX7_noRow := goodIn_r _ [233, 82, 234, 235, 236, 100, 237, 102, 97, 98, 99, 101, 383, 384, 385, 386, 387, 388, 389, 390, 391, 392, 393, 394, 411, 412] (by decide +kernel) (by decide +kernel)
set_option maxRecDepth 20000 in
theorem gL_act_X7_noRow : GoodIn wsL_act (wsV RL 108 RX7 yX7_noRow wsX7_noRow) := goodIn_app (goodIn_of _ (by decide +kernel)) ggL_act_X7_noRow
set_option maxRecDepth 20000 in
theorem ggL_act_X7_tell : GoodIn wsL_act wsX7_tell := goodIn_r _ [241, 15, 82, 16, 17, 18, 19, 20, 21, 242, 243, 244, 100, 245, 246, 247, 248, 249, 102, 250, 50, 13, 51, 36, 37, 251, 252, 253, 254, 234, 235, 236, 237, 383, 384, 385, 386, 387, 388, 389, 390, 391, 392, 393, 394, 395, 396, 397, 398, 399, 400, 401, 402, 403, 404, 405, 406, 411, 412] (by decide +kernel) (by decide +kernel)
set_option maxRecDepth 20000 in
theorem gL_act_X7_tell : GoodIn wsL_act (wsV RL 111 RX7 yX7_tell wsX7_tell) := goodIn_app (goodIn_of _ (by decide +kernel)) ggL_act_X7_tell
set_option maxRecDepth 20000 in
theorem ggL_act_X7_judge : GoodIn wsL_act wsX7_judge := goodIn_r _ [258, 82, 15, 259, 260, 261, 100, 262, 102, 250, 263, 17, 18, 19, 20, 21, 246, 247, 248, 249, 50, 13, 51, 383, 384, 385, 386, 387, 388, 389, 390, 391, 392, 393, 394, 411, 412, 395, 396, 397, 398, 399, 400, 401, 402, 403, 404, 405, 406] (by decide +kernel) (by decide +kernel)
set_option maxRecDepth 20000 in
theorem gL_act_X7_judge : GoodIn wsL_act (wsV RL 114 RX7 yX7_judge wsX7_judge) := goodIn_app (goodIn_of _ (by decide +kernel)) ggL_act_X7_judge
set_option maxRecDepth 20000 in
theorem ggL_act_X7_smooth : GoodIn wsL_act wsX7_smooth := goodIn_r _ [267, 268, 269, 13, 270, 271, 272, 273, 274, 275, 276, 277, 278, 279, 280, 281, 282, 283, 284, 285, 286, 287, 383, 384, 385, 386, 387, 388, 389, 390, 391, 392, 393, 394, 415, 416, 417] (by decide +kernel) (by decide +kernel)
set_option maxRecDepth 20000 in
theorem gL_act_X7_smooth : GoodIn wsL_act (wsV RL 117 RX7 yX7_smooth wsX7_smooth) := goodIn_app (goodIn_of _ (by decide +kernel)) ggL_act_X7_smooth
set_option maxRecDepth 20000 in
theorem ggL_act_X7_cross : GoodIn wsL_act wsX7_cross := goodIn_r _ [291, 268, 269, 13, 270, 271, 272, 273, 274, 275, 276, 277, 278, 279, 280, 281, 282, 292, 293, 294, 295, 287, 296, 297, 298, 299, 300, 301, 302, 303, 383, 384, 385, 386, 387, 388, 389, 390, 391, 392, 393, 394, 415, 416, 417] (by decide +kernel) (by decide +kernel)
set_option maxRecDepth 20000 in
theorem gL_act_X7_cross : GoodIn wsL_act (wsV RL 120 RX7 yX7_cross wsX7_cross) := goodIn_app (goodIn_of _ (by decide +kernel)) ggL_act_X7_cross
set_option maxRecDepth 20000 in
theorem ggL_act_X7_alike : GoodIn wsL_act wsX7_alike := goodIn_r _ [307, 275, 276, 308, 309, 310, 280, 311, 287, 312, 313, 314, 315, 297, 298, 299, 300, 296, 316, 317, 318, 319, 320, 321, 322, 323, 301, 302, 303, 324, 325, 13, 326, 383, 384, 385, 386, 387, 388, 389, 390, 391, 392, 393, 394, 415, 416, 417] (by decide +kernel) (by decide +kernel)
set_option maxRecDepth 20000 in
theorem gL_act_X7_alike : GoodIn wsL_act (wsV RL 125 RX7 yX7_alike wsX7_alike) := goodIn_app (goodIn_of _ (by decide +kernel)) ggL_act_X7_alike
set_option maxRecDepth 20000 in
theorem ggL_act_X7_mark : GoodIn wsL_act wsX7_mark := goodIn_r _ [330, 268, 269, 13, 270, 271, 272, 273, 274, 275, 276, 331, 332, 333, 280, 334, 287, 297, 298, 299, 300, 296, 383, 384, 385, 386, 387, 388, 389, 390, 391, 392, 393, 394, 415, 416, 417] (by decide +kernel) (by decide +kernel)
set_option maxRecDepth 20000 in
theorem gL_act_X7_mark : GoodIn wsL_act (wsV RL 130 RX7 yX7_mark wsX7_mark) := goodIn_app (goodIn_of _ (by decide +kernel)) ggL_act_X7_mark
set_option maxRecDepth 20000 in
theorem ggL_act_X7_loose : GoodIn wsL_act wsX7_loose := goodIn_r _ [338, 268, 269, 13, 270, 271, 272, 273, 274, 275, 276, 339, 340, 341, 280, 342, 287, 343, 298, 299, 300, 296, 383, 384, 385, 386, 387, 388, 389, 390, 391, 392, 393, 394, 415, 416, 417] (by decide +kernel) (by decide +kernel)
set_option maxRecDepth 20000 in
theorem gL_act_X7_loose : GoodIn wsL_act (wsV RL 135 RX7 yX7_loose wsX7_loose) := goodIn_app (goodIn_of _ (by decide +kernel)) ggL_act_X7_loose
set_option maxRecDepth 20000 in
theorem ggL_act_X7_year : GoodIn wsL_act wsX7_year := goodIn_r _ [347, 15, 148, 348, 349, 350, 152, 351, 352, 353, 154, 354, 355, 356, 357, 358, 359, 17, 18, 19, 20, 21, 36, 13, 37, 181, 23, 24, 25, 26, 27, 28, 29, 30, 31, 32, 33, 34, 35, 38, 39, 40, 41, 42, 43, 44, 45, 46, 47, 48, 49, 50, 51, 383, 384, 385, 386, 387, 388, 389, 390, 391, 392, 393, 394, 395, 396, 397, 398, 399, 400, 401, 402, 403, 404, 405, 406, 413, 414] (by decide +kernel) (by decide +kernel)
set_option maxRecDepth 20000 in
theorem gL_act_X7_year : GoodIn wsL_act (wsV RL 138 RX7 yX7_year wsX7_year) := goodIn_app (goodIn_of _ (by decide +kernel)) ggL_act_X7_year
set_option maxRecDepth 20000 in
theorem ggL_act_X7_keep : GoodIn wsL_act wsX7_keep := goodIn_r _ [363, 364, 15, 365, 366, 367, 13, 368, 369, 370, 371, 372, 373, 19, 374, 107, 108, 32, 49, 34, 33, 91, 27, 42, 21, 109, 26, 383, 384, 385, 386, 387, 388, 389, 390, 391, 392, 393, 394, 395, 396, 397, 398, 399, 400, 401, 402, 403, 404, 405, 406] (by decide +kernel) (by decide +kernel)
set_option maxRecDepth 20000 in
theorem gL_act_X7_keep : GoodIn wsL_act (wsV RL 141 RX7 yX7_keep wsX7_keep) := goodIn_app (goodIn_of _ (by decide +kernel)) ggL_act_X7_keep
set_option maxRecDepth 20000 in
theorem ggL_act_X7_back : GoodIn wsL_act wsX7_back := goodIn_r _ [378, 364, 15, 57, 82, 365, 366, 367, 13, 368, 369, 370, 371, 372, 373, 19, 374, 107, 108, 32, 49, 34, 33, 91, 27, 42, 21, 109, 26, 379, 380, 381, 61, 382, 63, 97, 98, 99, 100, 101, 102, 383, 384, 385, 386, 387, 388, 389, 390, 391, 392, 393, 394, 395, 396, 397, 398, 399, 400, 401, 402, 403, 404, 405, 406, 407, 408, 409, 410, 411, 412] (by decide +kernel) (by decide +kernel)
set_option maxRecDepth 20000 in
theorem gL_act_X7_back : GoodIn wsL_act (wsV RL 144 RX7 yX7_back wsX7_back) := goodIn_app (goodIn_of _ (by decide +kernel)) ggL_act_X7_back
theorem dL_act_0 : decode cL_act 0 = .ok (.iload_n 2, 1) := by decide +kernel
theorem dL_act_1 : decode cL_act 1 = .ok (.aload_n 3, 1) := by decide +kernel
theorem dL_act_2 : decode cL_act 2 = .ok (.iconst 3, 1) := by decide +kernel
theorem dL_act_3 : decode cL_act 3 = .ok (.iaload, 1) := by decide +kernel
theorem dL_act_4 : decode cL_act 4 = .ok (.invokestatic 26, 3) := by decide +kernel
theorem dL_act_7 : decode cL_act 7 = .ok (.istore 4, 2) := by decide +kernel
theorem dL_act_9 : decode cL_act 9 = .ok (.iload_n 2, 1) := by decide +kernel
theorem dL_act_10 : decode cL_act 10 = .ok (.iconst 3, 1) := by decide +kernel
theorem dL_act_11 : decode cL_act 11 = .ok (.ishr, 1) := by decide +kernel
theorem dL_act_12 : decode cL_act 12 = .ok (.aload_n 3, 1) := by decide +kernel
theorem dL_act_13 : decode cL_act 13 = .ok (.iconst 0, 1) := by decide +kernel
theorem dL_act_14 : decode cL_act 14 = .ok (.iaload, 1) := by decide +kernel
theorem dL_act_15 : decode cL_act 15 = .ok (.invokestatic 26, 3) := by decide +kernel
theorem dL_act_18 : decode cL_act 18 = .ok (.istore 5, 2) := by decide +kernel
theorem dL_act_20 : decode cL_act 20 = .ok (.iload_n 1, 1) := by decide +kernel
theorem dL_act_21 : decode cL_act 21 = .ok (.bipush 15, 2) := by decide +kernel
theorem dL_act_23 : decode cL_act 23 = .ok (.iand, 1) := by decide +kernel
theorem dL_act_24 : decode cL_act 24 = .ok (.tableswitch 407 0 14 #[76, 76, 84, 84, 127, 152, 168, 174, 201, 219, 249, 255, 288, 288, 378], 76) := by decide +kernel
theorem dL_act_100 : decode cL_act 100 = .ok (.aload_n 0, 1) := by decide +kernel
theorem dL_act_101 : decode cL_act 101 = .ok (.iload 4, 2) := by decide +kernel
theorem dL_act_103 : decode cL_act 103 = .ok (.invokevirtual 68, 3) := by decide +kernel
theorem dL_act_106 : decode cL_act 106 = .ok (.i2l, 1) := by decide +kernel
theorem dL_act_107 : decode cL_act 107 = .ok (.lreturn, 1) := by decide +kernel
theorem dL_act_108 : decode cL_act 108 = .ok (.aload_n 0, 1) := by decide +kernel
theorem dL_act_109 : decode cL_act 109 = .ok (.iload 5, 2) := by decide +kernel
theorem dL_act_111 : decode cL_act 111 = .ok (.iload 5, 2) := by decide +kernel
theorem dL_act_113 : decode cL_act 113 = .ok (.iconst 1, 1) := by decide +kernel
theorem dL_act_114 : decode cL_act 114 = .ok (.iadd, 1) := by decide +kernel
theorem dL_act_115 : decode cL_act 115 = .ok (.aload_n 3, 1) := by decide +kernel
theorem dL_act_116 : decode cL_act 116 = .ok (.iconst 0, 1) := by decide +kernel
theorem dL_act_117 : decode cL_act 117 = .ok (.iaload, 1) := by decide +kernel
theorem dL_act_118 : decode cL_act 118 = .ok (.irem, 1) := by decide +kernel
theorem dL_act_119 : decode cL_act 119 = .ok (.iload_n 1, 1) := by decide +kernel
theorem dL_act_120 : decode cL_act 120 = .ok (.iconst 4, 1) := by decide +kernel
theorem dL_act_121 : decode cL_act 121 = .ok (.ishr, 1) := by decide +kernel
theorem dL_act_122 : decode cL_act 122 = .ok (.iload_n 1, 1) := by decide +kernel
theorem dL_act_123 : decode cL_act 123 = .ok (.bipush 12, 2) := by decide +kernel
theorem dL_act_125 : decode cL_act 125 = .ok (.ishr, 1) := by decide +kernel
theorem dL_act_126 : decode cL_act 126 = .ok (.iand, 1) := by decide +kernel
theorem dL_act_127 : decode cL_act 127 = .ok (.sipush 255, 3) := by decide +kernel
theorem dL_act_130 : decode cL_act 130 = .ok (.iand, 1) := by decide +kernel
theorem dL_act_131 : decode cL_act 131 = .ok (.iload_n 2, 1) := by decide +kernel
theorem dL_act_132 : decode cL_act 132 = .ok (.bipush 6, 2) := by decide +kernel
theorem dL_act_134 : decode cL_act 134 = .ok (.ishr, 1) := by decide +kernel
theorem dL_act_135 : decode cL_act 135 = .ok (.bipush 100, 2) := by decide +kernel
theorem dL_act_137 : decode cL_act 137 = .ok (.invokestatic 26, 3) := by decide +kernel
theorem dL_act_140 : decode cL_act 140 = .ok (.iload_n 2, 1) := by decide +kernel
theorem dL_act_141 : decode cL_act 141 = .ok (.bipush 14, 2) := by decide +kernel
theorem dL_act_143 : decode cL_act 143 = .ok (.ishr, 1) := by decide +kernel
theorem dL_act_144 : decode cL_act 144 = .ok (.iconst 3, 1) := by decide +kernel
theorem dL_act_145 : decode cL_act 145 = .ok (.iand, 1) := by decide +kernel
theorem dL_act_146 : decode cL_act 146 = .ok (.invokevirtual 77, 3) := by decide +kernel
theorem dL_act_149 : decode cL_act 149 = .ok (.i2l, 1) := by decide +kernel
theorem dL_act_150 : decode cL_act 150 = .ok (.lreturn, 1) := by decide +kernel
theorem dL_act_151 : decode cL_act 151 = .ok (.iload_n 1, 1) := by decide +kernel
theorem dL_act_152 : decode cL_act 152 = .ok (.bipush 16, 2) := by decide +kernel
theorem dL_act_154 : decode cL_act 154 = .ok (.iand, 1) := by decide +kernel
theorem dL_act_155 : decode cL_act 155 = .ok (.ifCond .ne 13, 3) := by decide +kernel
theorem dL_act_158 : decode cL_act 158 = .ok (.aload_n 0, 1) := by decide +kernel
theorem dL_act_159 : decode cL_act 159 = .ok (.iload 4, 2) := by decide +kernel
theorem dL_act_161 : decode cL_act 161 = .ok (.invokevirtual 81, 3) := by decide +kernel
theorem dL_act_164 : decode cL_act 164 = .ok (.i2l, 1) := by decide +kernel
theorem dL_act_165 : decode cL_act 165 = .ok (.goto 10, 3) := by decide +kernel
theorem dL_act_168 : decode cL_act 168 = .ok (.aload_n 0, 1) := by decide +kernel
theorem dL_act_169 : decode cL_act 169 = .ok (.iload 4, 2) := by decide +kernel
theorem dL_act_171 : decode cL_act 171 = .ok (.invokevirtual 71, 3) := by decide +kernel
theorem dL_act_174 : decode cL_act 174 = .ok (.i2l, 1) := by decide +kernel
theorem dL_act_175 : decode cL_act 175 = .ok (.lreturn, 1) := by decide +kernel
theorem dL_act_176 : decode cL_act 176 = .ok (.aload_n 0, 1) := by decide +kernel
theorem dL_act_177 : decode cL_act 177 = .ok (.iconst 1, 1) := by decide +kernel
theorem dL_act_178 : decode cL_act 178 = .ok (.iload_n 1, 1) := by decide +kernel
theorem dL_act_179 : decode cL_act 179 = .ok (.iconst 4, 1) := by decide +kernel
theorem dL_act_180 : decode cL_act 180 = .ok (.ishr, 1) := by decide +kernel
theorem dL_act_181 : decode cL_act 181 = .ok (.bipush 20, 2) := by decide +kernel
theorem dL_act_183 : decode cL_act 183 = .ok (.invokestatic 26, 3) := by decide +kernel
theorem dL_act_186 : decode cL_act 186 = .ok (.iadd, 1) := by decide +kernel
theorem dL_act_187 : decode cL_act 187 = .ok (.invokevirtual 74, 3) := by decide +kernel
theorem dL_act_190 : decode cL_act 190 = .ok (.i2l, 1) := by decide +kernel
theorem dL_act_191 : decode cL_act 191 = .ok (.lreturn, 1) := by decide +kernel
theorem dL_act_192 : decode cL_act 192 = .ok (.aload_n 0, 1) := by decide +kernel
theorem dL_act_193 : decode cL_act 193 = .ok (.invokevirtual 84, 3) := by decide +kernel
theorem dL_act_196 : decode cL_act 196 = .ok (.i2l, 1) := by decide +kernel
theorem dL_act_197 : decode cL_act 197 = .ok (.lreturn, 1) := by decide +kernel
theorem dL_act_198 : decode cL_act 198 = .ok (.aload_n 0, 1) := by decide +kernel
theorem dL_act_199 : decode cL_act 199 = .ok (.iload 4, 2) := by decide +kernel
theorem dL_act_201 : decode cL_act 201 = .ok (.invokevirtual 87, 3) := by decide +kernel
theorem dL_act_204 : decode cL_act 204 = .ok (.i2l, 1) := by decide +kernel
theorem dL_act_205 : decode cL_act 205 = .ok (.ldc2_w 90, 3) := by decide +kernel
theorem dL_act_208 : decode cL_act 208 = .ok (.lmul, 1) := by decide +kernel
theorem dL_act_209 : decode cL_act 209 = .ok (.aload_n 0, 1) := by decide +kernel
theorem dL_act_210 : decode cL_act 210 = .ok (.iload_n 1, 1) := by decide +kernel
theorem dL_act_211 : decode cL_act 211 = .ok (.iconst 4, 1) := by decide +kernel
theorem dL_act_212 : decode cL_act 212 = .ok (.ishr, 1) := by decide +kernel
theorem dL_act_213 : decode cL_act 213 = .ok (.iconst 5, 1) := by decide +kernel
theorem dL_act_214 : decode cL_act 214 = .ok (.invokestatic 26, 3) := by decide +kernel
theorem dL_act_217 : decode cL_act 217 = .ok (.iconst 1, 1) := by decide +kernel
theorem dL_act_218 : decode cL_act 218 = .ok (.isub, 1) := by decide +kernel
theorem dL_act_219 : decode cL_act 219 = .ok (.invokevirtual 92, 3) := by decide +kernel
theorem dL_act_222 : decode cL_act 222 = .ok (.i2l, 1) := by decide +kernel
theorem dL_act_223 : decode cL_act 223 = .ok (.ladd, 1) := by decide +kernel
theorem dL_act_224 : decode cL_act 224 = .ok (.lreturn, 1) := by decide +kernel
theorem dL_act_225 : decode cL_act 225 = .ok (.aload_n 0, 1) := by decide +kernel
theorem dL_act_226 : decode cL_act 226 = .ok (.invokevirtual 95, 3) := by decide +kernel
theorem dL_act_229 : decode cL_act 229 = .ok (.i2l, 1) := by decide +kernel
theorem dL_act_230 : decode cL_act 230 = .ok (.ldc2_w 90, 3) := by decide +kernel
theorem dL_act_233 : decode cL_act 233 = .ok (.lmul, 1) := by decide +kernel
theorem dL_act_234 : decode cL_act 234 = .ok (.aload_n 0, 1) := by decide +kernel
theorem dL_act_235 : decode cL_act 235 = .ok (.iload 5, 2) := by decide +kernel
theorem dL_act_237 : decode cL_act 237 = .ok (.invokevirtual 98, 3) := by decide +kernel
theorem dL_act_240 : decode cL_act 240 = .ok (.i2l, 1) := by decide +kernel
theorem dL_act_241 : decode cL_act 241 = .ok (.ladd, 1) := by decide +kernel
theorem dL_act_242 : decode cL_act 242 = .ok (.lreturn, 1) := by decide +kernel
theorem dL_act_243 : decode cL_act 243 = .ok (.aload_n 0, 1) := by decide +kernel
theorem dL_act_244 : decode cL_act 244 = .ok (.iconst 1, 1) := by decide +kernel
theorem dL_act_245 : decode cL_act 245 = .ok (.iload_n 1, 1) := by decide +kernel
theorem dL_act_246 : decode cL_act 246 = .ok (.iconst 4, 1) := by decide +kernel
theorem dL_act_247 : decode cL_act 247 = .ok (.ishr, 1) := by decide +kernel
theorem dL_act_248 : decode cL_act 248 = .ok (.iconst 3, 1) := by decide +kernel
theorem dL_act_249 : decode cL_act 249 = .ok (.invokestatic 26, 3) := by decide +kernel
theorem dL_act_252 : decode cL_act 252 = .ok (.iadd, 1) := by decide +kernel
theorem dL_act_253 : decode cL_act 253 = .ok (.iload_n 2, 1) := by decide +kernel
theorem dL_act_254 : decode cL_act 254 = .ok (.iconst 1, 1) := by decide +kernel
theorem dL_act_255 : decode cL_act 255 = .ok (.aload_n 3, 1) := by decide +kernel
theorem dL_act_256 : decode cL_act 256 = .ok (.iconst 3, 1) := by decide +kernel
theorem dL_act_257 : decode cL_act 257 = .ok (.iaload, 1) := by decide +kernel
theorem dL_act_258 : decode cL_act 258 = .ok (.ishl, 1) := by decide +kernel
theorem dL_act_259 : decode cL_act 259 = .ok (.invokestatic 26, 3) := by decide +kernel
theorem dL_act_262 : decode cL_act 262 = .ok (.iload_n 1, 1) := by decide +kernel
theorem dL_act_263 : decode cL_act 263 = .ok (.bipush 8, 2) := by decide +kernel
theorem dL_act_265 : decode cL_act 265 = .ok (.ishr, 1) := by decide +kernel
theorem dL_act_266 : decode cL_act 266 = .ok (.iconst 1, 1) := by decide +kernel
theorem dL_act_267 : decode cL_act 267 = .ok (.iand, 1) := by decide +kernel
theorem dL_act_268 : decode cL_act 268 = .ok (.invokevirtual 101, 3) := by decide +kernel
theorem dL_act_271 : decode cL_act 271 = .ok (.i2l, 1) := by decide +kernel
theorem dL_act_272 : decode cL_act 272 = .ok (.lreturn, 1) := by decide +kernel
theorem dL_act_273 : decode cL_act 273 = .ok (.aload_n 0, 1) := by decide +kernel
theorem dL_act_274 : decode cL_act 274 = .ok (.invokevirtual 105, 3) := by decide +kernel
theorem dL_act_277 : decode cL_act 277 = .ok (.i2l, 1) := by decide +kernel
theorem dL_act_278 : decode cL_act 278 = .ok (.lreturn, 1) := by decide +kernel
theorem dL_act_279 : decode cL_act 279 = .ok (.iload_n 1, 1) := by decide +kernel
theorem dL_act_280 : decode cL_act 280 = .ok (.bipush 112, 2) := by decide +kernel
theorem dL_act_282 : decode cL_act 282 = .ok (.iand, 1) := by decide +kernel
theorem dL_act_283 : decode cL_act 283 = .ok (.ifCond .ne 11, 3) := by decide +kernel
theorem dL_act_286 : decode cL_act 286 = .ok (.aload_n 0, 1) := by decide +kernel
theorem dL_act_287 : decode cL_act 287 = .ok (.invokevirtual 108, 3) := by decide +kernel
theorem dL_act_290 : decode cL_act 290 = .ok (.i2l, 1) := by decide +kernel
theorem dL_act_291 : decode cL_act 291 = .ok (.goto 20, 3) := by decide +kernel
theorem dL_act_294 : decode cL_act 294 = .ok (.aload_n 0, 1) := by decide +kernel
theorem dL_act_295 : decode cL_act 295 = .ok (.iload 4, 2) := by decide +kernel
