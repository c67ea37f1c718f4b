theorem dX8_textured_58 : decode cX8_textured 58 = .ok (.aload_n 0, 1) := by decide +kernel
theorem dX8_textured_59 : decode cX8_textured 59 = .ok (.getfield 63, 3) := by decide +kernel
theorem dX8_textured_62 : decode cX8_textured 62 = .ok (.aload_n 0, 1) := by decide +kernel
theorem dX8_textured_63 : decode cX8_textured 63 = .ok (.getfield 168, 3) := by decide +kernel
theorem dX8_textured_66 : decode cX8_textured 66 = .ok (.dup2, 1) := by decide +kernel
theorem dX8_textured_67 : decode cX8_textured 67 = .ok (.iaload, 1) := by decide +kernel
theorem dX8_textured_68 : decode cX8_textured 68 = .ok (.aload_n 0, 1) := by decide +kernel
theorem dX8_textured_69 : decode cX8_textured 69 = .ok (.iload_n 1, 1) := by decide +kernel
theorem dX8_textured_70 : decode cX8_textured 70 = .ok (.aload_n 0, 1) := by decide +kernel
theorem dX8_textured_71 : decode cX8_textured 71 = .ok (.getfield 54, 3) := by decide +kernel
theorem dX8_textured_74 : decode cX8_textured 74 = .ok (.iload_n 2, 1) := by decide +kernel
theorem dX8_textured_75 : decode cX8_textured 75 = .ok (.iaload, 1) := by decide +kernel
theorem dX8_textured_76 : decode cX8_textured 76 = .ok (.invokevirtual 126, 3) := by decide +kernel
theorem dX8_textured_79 : decode cX8_textured 79 = .ok (.iconst 3, 1) := by decide +kernel
theorem dX8_textured_80 : decode cX8_textured 80 = .ok (.if_icmp .gt 9, 3) := by decide +kernel
theorem dX8_textured_83 : decode cX8_textured 83 = .ok (.iconst 1, 1) := by decide +kernel
theorem dX8_textured_84 : decode cX8_textured 84 = .ok (.iload_n 2, 1) := by decide +kernel
theorem dX8_textured_85 : decode cX8_textured 85 = .ok (.ishl, 1) := by decide +kernel
theorem dX8_textured_86 : decode cX8_textured 86 = .ok (.goto 4, 3) := by decide +kernel
theorem dX8_textured_89 : decode cX8_textured 89 = .ok (.iconst 0, 1) := by decide +kernel
theorem dX8_textured_90 : decode cX8_textured 90 = .ok (.ior, 1) := by decide +kernel
theorem dX8_textured_91 : decode cX8_textured 91 = .ok (.iastore, 1) := by decide +kernel
theorem dX8_textured_92 : decode cX8_textured 92 = .ok (.iinc 2 1, 3) := by decide +kernel
theorem dX8_textured_95 : decode cX8_textured 95 = .ok (.goto (-45), 3) := by decide +kernel
theorem dX8_textured_98 : decode cX8_textured 98 = .ok (.aload_n 0, 1) := by decide +kernel
theorem dX8_textured_99 : decode cX8_textured 99 = .ok (.dup, 1) := by decide +kernel
theorem dX8_textured_100 : decode cX8_textured 100 = .ok (.getfield 168, 3) := by decide +kernel
theorem dX8_textured_103 : decode cX8_textured 103 = .ok (.iconst 1, 1) := by decide +kernel
theorem dX8_textured_104 : decode cX8_textured 104 = .ok (.iadd, 1) := by decide +kernel
theorem dX8_textured_105 : decode cX8_textured 105 = .ok (.putfield 168, 3) := by decide +kernel
theorem dX8_textured_108 : decode cX8_textured 108 = .ok (.iinc 1 1, 3) := by decide +kernel
theorem dX8_textured_111 : decode cX8_textured 111 = .ok (.goto (-104), 3) := by decide +kernel
theorem dX8_textured_114 : decode cX8_textured 114 = .ok (.aload_n 0, 1) := by decide +kernel
theorem dX8_textured_115 : decode cX8_textured 115 = .ok (.getfield 45, 3) := by decide +kernel
theorem dX8_textured_118 : decode cX8_textured 118 = .ok (.iconst 0, 1) := by decide +kernel
theorem dX8_textured_119 : decode cX8_textured 119 = .ok (.iaload, 1) := by decide +kernel
theorem dX8_textured_120 : decode cX8_textured 120 = .ok (.istore_n 1, 1) := by decide +kernel
theorem dX8_textured_121 : decode cX8_textured 121 = .ok (.iconst 1, 1) := by decide +kernel
theorem dX8_textured_122 : decode cX8_textured 122 = .ok (.istore_n 2, 1) := by decide +kernel
theorem dX8_textured_123 : decode cX8_textured 123 = .ok (.iload_n 2, 1) := by decide +kernel
theorem dX8_textured_124 : decode cX8_textured 124 = .ok (.iconst 4, 1) := by decide +kernel
theorem dX8_textured_125 : decode cX8_textured 125 = .ok (.if_icmp .ge 30, 3) := by decide +kernel
theorem dX8_textured_128 : decode cX8_textured 128 = .ok (.aload_n 0, 1) := by decide +kernel
theorem dX8_textured_129 : decode cX8_textured 129 = .ok (.getfield 45, 3) := by decide +kernel
theorem dX8_textured_132 : decode cX8_textured 132 = .ok (.iload_n 2, 1) := by decide +kernel
theorem dX8_textured_133 : decode cX8_textured 133 = .ok (.iaload, 1) := by decide +kernel
theorem dX8_textured_134 : decode cX8_textured 134 = .ok (.iload_n 1, 1) := by decide +kernel
theorem dX8_textured_135 : decode cX8_textured 135 = .ok (.if_icmp .ge 12, 3) := by decide +kernel
theorem dX8_textured_138 : decode cX8_textured 138 = .ok (.aload_n 0, 1) := by decide +kernel
theorem dX8_textured_139 : decode cX8_textured 139 = .ok (.getfield 45, 3) := by decide +kernel
theorem dX8_textured_142 : decode cX8_textured 142 = .ok (.iload_n 2, 1) := by decide +kernel
theorem dX8_textured_143 : decode cX8_textured 143 = .ok (.iaload, 1) := by decide +kernel
theorem dX8_textured_144 : decode cX8_textured 144 = .ok (.goto 4, 3) := by decide +kernel
theorem dX8_textured_147 : decode cX8_textured 147 = .ok (.iload_n 1, 1) := by decide +kernel
theorem dX8_textured_148 : decode cX8_textured 148 = .ok (.istore_n 1, 1) := by decide +kernel
theorem dX8_textured_149 : decode cX8_textured 149 = .ok (.iinc 2 1, 3) := by decide +kernel
theorem dX8_textured_152 : decode cX8_textured 152 = .ok (.goto (-29), 3) := by decide +kernel
theorem dX8_textured_155 : decode cX8_textured 155 = .ok (.aload_n 0, 1) := by decide +kernel
theorem dX8_textured_156 : decode cX8_textured 156 = .ok (.iconst (-1), 1) := by decide +kernel
theorem dX8_textured_157 : decode cX8_textured 157 = .ok (.putfield 171, 3) := by decide +kernel
theorem dX8_textured_160 : decode cX8_textured 160 = .ok (.iconst 0, 1) := by decide +kernel
theorem dX8_textured_161 : decode cX8_textured 161 = .ok (.istore_n 2, 1) := by decide +kernel
theorem dX8_textured_162 : decode cX8_textured 162 = .ok (.iconst 0, 1) := by decide +kernel
theorem dX8_textured_163 : decode cX8_textured 163 = .ok (.istore_n 3, 1) := by decide +kernel
theorem dX8_textured_164 : decode cX8_textured 164 = .ok (.aload_n 0, 1) := by decide +kernel
theorem dX8_textured_165 : decode cX8_textured 165 = .ok (.getfield 57, 3) := by decide +kernel
theorem dX8_textured_168 : decode cX8_textured 168 = .ok (.iconst 0, 1) := by decide +kernel
theorem dX8_textured_169 : decode cX8_textured 169 = .ok (.iconst (-1), 1) := by decide +kernel
theorem dX8_textured_170 : decode cX8_textured 170 = .ok (.iastore, 1) := by decide +kernel
theorem dX8_textured_171 : decode cX8_textured 171 = .ok (.aload_n 0, 1) := by decide +kernel
theorem dX8_textured_172 : decode cX8_textured 172 = .ok (.getfield 168, 3) := by decide +kernel
theorem dX8_textured_175 : decode cX8_textured 175 = .ok (.ifCond .ne 8, 3) := by decide +kernel
theorem dX8_textured_178 : decode cX8_textured 178 = .ok (.aload_n 0, 1) := by decide +kernel
theorem dX8_textured_179 : decode cX8_textured 179 = .ok (.iconst 0, 1) := by decide +kernel
theorem dX8_textured_180 : decode cX8_textured 180 = .ok (.putfield 171, 3) := by decide +kernel
theorem dX8_textured_183 : decode cX8_textured 183 = .ok (.iload_n 2, 1) := by decide +kernel
theorem dX8_textured_184 : decode cX8_textured 184 = .ok (.ifCond .lt 251, 3) := by decide +kernel
theorem dX8_textured_187 : decode cX8_textured 187 = .ok (.aload_n 0, 1) := by decide +kernel
theorem dX8_textured_188 : decode cX8_textured 188 = .ok (.getfield 168, 3) := by decide +kernel
theorem dX8_textured_191 : decode cX8_textured 191 = .ok (.ifCond .le 244, 3) := by decide +kernel
theorem dX8_textured_194 : decode cX8_textured 194 = .ok (.aload_n 0, 1) := by decide +kernel
theorem dX8_textured_195 : decode cX8_textured 195 = .ok (.getfield 57, 3) := by decide +kernel
theorem dX8_textured_198 : decode cX8_textured 198 = .ok (.iload_n 2, 1) := by decide +kernel
theorem dX8_textured_199 : decode cX8_textured 199 = .ok (.iaload, 1) := by decide +kernel
theorem dX8_textured_200 : decode cX8_textured 200 = .ok (.iconst (-1), 1) := by decide +kernel
theorem dX8_textured_201 : decode cX8_textured 201 = .ok (.if_icmp .eq 17, 3) := by decide +kernel
theorem dX8_textured_204 : decode cX8_textured 204 = .ok (.iload_n 3, 1) := by decide +kernel
theorem dX8_textured_205 : decode cX8_textured 205 = .ok (.aload_n 0, 1) := by decide +kernel
theorem dX8_textured_206 : decode cX8_textured 206 = .ok (.getfield 45, 3) := by decide +kernel
theorem dX8_textured_209 : decode cX8_textured 209 = .ok (.aload_n 0, 1) := by decide +kernel
theorem dX8_textured_210 : decode cX8_textured 210 = .ok (.getfield 57, 3) := by decide +kernel
theorem dX8_textured_213 : decode cX8_textured 213 = .ok (.iload_n 2, 1) := by decide +kernel
theorem dX8_textured_214 : decode cX8_textured 214 = .ok (.iaload, 1) := by decide +kernel
theorem dX8_textured_215 : decode cX8_textured 215 = .ok (.iaload, 1) := by decide +kernel
theorem dX8_textured_216 : decode cX8_textured 216 = .ok (.isub, 1) := by decide +kernel
theorem dX8_textured_217 : decode cX8_textured 217 = .ok (.istore_n 3, 1) := by decide +kernel
theorem dX8_textured_218 : decode cX8_textured 218 = .ok (.aload_n 0, 1) := by decide +kernel
theorem dX8_textured_219 : decode cX8_textured 219 = .ok (.getfield 57, 3) := by decide +kernel
theorem dX8_textured_222 : decode cX8_textured 222 = .ok (.iload_n 2, 1) := by decide +kernel
theorem dX8_textured_223 : decode cX8_textured 223 = .ok (.dup2, 1) := by decide +kernel
theorem dX8_textured_224 : decode cX8_textured 224 = .ok (.iaload, 1) := by decide +kernel
theorem dX8_textured_225 : decode cX8_textured 225 = .ok (.iconst 1, 1) := by decide +kernel
theorem dX8_textured_226 : decode cX8_textured 226 = .ok (.iadd, 1) := by decide +kernel
theorem dX8_textured_227 : decode cX8_textured 227 = .ok (.iastore, 1) := by decide +kernel
theorem dX8_textured_228 : decode cX8_textured 228 = .ok (.aload_n 0, 1) := by decide +kernel
theorem dX8_textured_229 : decode cX8_textured 229 = .ok (.getfield 57, 3) := by decide +kernel
theorem dX8_textured_232 : decode cX8_textured 232 = .ok (.iload_n 2, 1) := by decide +kernel
theorem dX8_textured_233 : decode cX8_textured 233 = .ok (.iaload, 1) := by decide +kernel
theorem dX8_textured_234 : decode cX8_textured 234 = .ok (.iconst 4, 1) := by decide +kernel
theorem dX8_textured_235 : decode cX8_textured 235 = .ok (.if_icmp .ne 16, 3) := by decide +kernel
theorem dX8_textured_238 : decode cX8_textured 238 = .ok (.aload_n 0, 1) := by decide +kernel
theorem dX8_textured_239 : decode cX8_textured 239 = .ok (.getfield 57, 3) := by decide +kernel
theorem dX8_textured_242 : decode cX8_textured 242 = .ok (.iload_n 2, 1) := by decide +kernel
theorem dX8_textured_243 : decode cX8_textured 243 = .ok (.iconst (-1), 1) := by decide +kernel
theorem dX8_textured_244 : decode cX8_textured 244 = .ok (.iastore, 1) := by decide +kernel
theorem dX8_textured_245 : decode cX8_textured 245 = .ok (.iinc 2 (-1), 3) := by decide +kernel
theorem dX8_textured_248 : decode cX8_textured 248 = .ok (.goto (-65), 3) := by decide +kernel
theorem dX8_textured_251 : decode cX8_textured 251 = .ok (.iload_n 3, 1) := by decide +kernel
theorem dX8_textured_252 : decode cX8_textured 252 = .ok (.aload_n 0, 1) := by decide +kernel
theorem dX8_textured_253 : decode cX8_textured 253 = .ok (.getfield 45, 3) := by decide +kernel
theorem dX8_textured_256 : decode cX8_textured 256 = .ok (.aload_n 0, 1) := by decide +kernel
theorem dX8_textured_257 : decode cX8_textured 257 = .ok (.getfield 57, 3) := by decide +kernel
theorem dX8_textured_260 : decode cX8_textured 260 = .ok (.iload_n 2, 1) := by decide +kernel
theorem dX8_textured_261 : decode cX8_textured 261 = .ok (.iaload, 1) := by decide +kernel
theorem dX8_textured_262 : decode cX8_textured 262 = .ok (.iaload, 1) := by decide +kernel
theorem dX8_textured_263 : decode cX8_textured 263 = .ok (.iadd, 1) := by decide +kernel
theorem dX8_textured_264 : decode cX8_textured 264 = .ok (.istore_n 3, 1) := by decide +kernel
theorem dX8_textured_265 : decode cX8_textured 265 = .ok (.aload_n 0, 1) := by decide +kernel
theorem dX8_textured_266 : decode cX8_textured 266 = .ok (.getfield 171, 3) := by decide +kernel
theorem dX8_textured_269 : decode cX8_textured 269 = .ok (.iconst (-1), 1) := by decide +kernel
theorem dX8_textured_270 : decode cX8_textured 270 = .ok (.if_icmp .eq 22, 3) := by decide +kernel
theorem dX8_textured_273 : decode cX8_textured 273 = .ok (.iload_n 3, 1) := by decide +kernel
theorem dX8_textured_274 : decode cX8_textured 274 = .ok (.iload_n 1, 1) := by decide +kernel
theorem dX8_textured_275 : decode cX8_textured 275 = .ok (.aload_n 0, 1) := by decide +kernel
theorem dX8_textured_276 : decode cX8_textured 276 = .ok (.getfield 168, 3) := by decide +kernel
theorem dX8_textured_279 : decode cX8_textured 279 = .ok (.iconst 1, 1) := by decide +kernel
theorem dX8_textured_280 : decode cX8_textured 280 = .ok (.isub, 1) := by decide +kernel
theorem dX8_textured_281 : decode cX8_textured 281 = .ok (.iload_n 2, 1) := by decide +kernel
theorem dX8_textured_282 : decode cX8_textured 282 = .ok (.isub, 1) := by decide +kernel
theorem dX8_textured_283 : decode cX8_textured 283 = .ok (.imul, 1) := by decide +kernel
theorem dX8_textured_284 : decode cX8_textured 284 = .ok (.iadd, 1) := by decide +kernel
theorem dX8_textured_285 : decode cX8_textured 285 = .ok (.aload_n 0, 1) := by decide +kernel
theorem dX8_textured_286 : decode cX8_textured 286 = .ok (.getfield 171, 3) := by decide +kernel
theorem dX8_textured_289 : decode cX8_textured 289 = .ok (.if_icmp .ge 7, 3) := by decide +kernel
theorem dX8_textured_292 : decode cX8_textured 292 = .ok (.iconst 1, 1) := by decide +kernel
theorem dX8_textured_293 : decode cX8_textured 293 = .ok (.goto 4, 3) := by decide +kernel
theorem dX8_textured_296 : decode cX8_textured 296 = .ok (.iconst 0, 1) := by decide +kernel
theorem dX8_textured_297 : decode cX8_textured 297 = .ok (.istore 4, 2) := by decide +kernel
theorem dX8_textured_299 : decode cX8_textured 299 = .ok (.iconst 0, 1) := by decide +kernel
theorem dX8_textured_300 : decode cX8_textured 300 = .ok (.istore 5, 2) := by decide +kernel
theorem dX8_textured_302 : decode cX8_textured 302 = .ok (.iload 5, 2) := by decide +kernel
theorem dX8_textured_304 : decode cX8_textured 304 = .ok (.iload_n 2, 1) := by decide +kernel
theorem dX8_textured_305 : decode cX8_textured 305 = .ok (.if_icmp .ge 59, 3) := by decide +kernel
theorem dX8_textured_308 : decode cX8_textured 308 = .ok (.iload 4, 2) := by decide +kernel
theorem dX8_textured_310 : decode cX8_textured 310 = .ok (.ifCond .eq 54, 3) := by decide +kernel
theorem dX8_textured_313 : decode cX8_textured 313 = .ok (.aload_n 0, 1) := by decide +kernel
theorem dX8_textured_314 : decode cX8_textured 314 = .ok (.getfield 63, 3) := by decide +kernel
theorem dX8_textured_317 : decode cX8_textured 317 = .ok (.iload_n 2, 1) := by decide +kernel
theorem dX8_textured_318 : decode cX8_textured 318 = .ok (.iaload, 1) := by decide +kernel
theorem dX8_textured_319 : decode cX8_textured 319 = .ok (.iload 5, 2) := by decide +kernel
theorem dX8_textured_321 : decode cX8_textured 321 = .ok (.ishr, 1) := by decide +kernel
theorem dX8_textured_322 : decode cX8_textured 322 = .ok (.iconst 1, 1) := by decide +kernel
theorem dX8_textured_323 : decode cX8_textured 323 = .ok (.iand, 1) := by decide +kernel
theorem dX8_textured_324 : decode cX8_textured 324 = .ok (.ifCond .eq 27, 3) := by decide +kernel
theorem dX8_textured_327 : decode cX8_textured 327 = .ok (.aload_n 0, 1) := by decide +kernel
theorem dX8_textured_328 : decode cX8_textured 328 = .ok (.getfield 42, 3) := by decide +kernel
theorem dX8_textured_331 : decode cX8_textured 331 = .ok (.iconst 4, 1) := by decide +kernel
theorem dX8_textured_332 : decode cX8_textured 332 = .ok (.aload_n 0, 1) := by decide +kernel
theorem dX8_textured_333 : decode cX8_textured 333 = .ok (.getfield 57, 3) := by decide +kernel
theorem dX8_textured_336 : decode cX8_textured 336 = .ok (.iload 5, 2) := by decide +kernel
theorem dX8_textured_338 : decode cX8_textured 338 = .ok (.iaload, 1) := by decide +kernel
theorem dX8_textured_339 : decode cX8_textured 339 = .ok (.imul, 1) := by decide +kernel
theorem dX8_textured_340 : decode cX8_textured 340 = .ok (.aload_n 0, 1) := by decide +kernel
theorem dX8_textured_341 : decode cX8_textured 341 = .ok (.getfield 57, 3) := by decide +kernel
theorem dX8_textured_344 : decode cX8_textured 344 = .ok (.iload_n 2, 1) := by decide +kernel
theorem dX8_textured_345 : decode cX8_textured 345 = .ok (.iaload, 1) := by decide +kernel
theorem dX8_textured_346 : decode cX8_textured 346 = .ok (.iadd, 1) := by decide +kernel
theorem dX8_textured_347 : decode cX8_textured 347 = .ok (.baload, 1) := by decide +kernel
theorem dX8_textured_348 : decode cX8_textured 348 = .ok (.ifCond .eq 7, 3) := by decide +kernel
theorem dX8_textured_351 : decode cX8_textured 351 = .ok (.iconst 1, 1) := by decide +kernel
theorem dX8_textured_352 : decode cX8_textured 352 = .ok (.goto 4, 3) := by decide +kernel
theorem dX8_textured_355 : decode cX8_textured 355 = .ok (.iconst 0, 1) := by decide +kernel
theorem dX8_textured_356 : decode cX8_textured 356 = .ok (.istore 4, 2) := by decide +kernel
theorem dX8_textured_358 : decode cX8_textured 358 = .ok (.iinc 5 1, 3) := by decide +kernel
theorem dX8_textured_361 : decode cX8_textured 361 = .ok (.goto (-59), 3) := by decide +kernel
theorem dX8_textured_364 : decode cX8_textured 364 = .ok (.iload 4, 2) := by decide +kernel
theorem dX8_textured_366 : decode cX8_textured 366 = .ok (.ifCond .ne 6, 3) := by decide +kernel
theorem dX8_textured_369 : decode cX8_textured 369 = .ok (.goto (-186), 3) := by decide +kernel
theorem dX8_textured_372 : decode cX8_textured 372 = .ok (.iload_n 2, 1) := by decide +kernel
theorem dX8_textured_373 : decode cX8_textured 373 = .ok (.aload_n 0, 1) := by decide +kernel
theorem dX8_textured_374 : decode cX8_textured 374 = .ok (.getfield 168, 3) := by decide +kernel
theorem dX8_textured_377 : decode cX8_textured 377 = .ok (.iconst 1, 1) := by decide +kernel
theorem dX8_textured_378 : decode cX8_textured 378 = .ok (.isub, 1) := by decide +kernel
theorem dX8_textured_379 : decode cX8_textured 379 = .ok (.if_icmp .ne 43, 3) := by decide +kernel
theorem dX8_textured_382 : decode cX8_textured 382 = .ok (.aload_n 0, 1) := by decide +kernel
theorem dX8_textured_383 : decode cX8_textured 383 = .ok (.iload_n 3, 1) := by decide +kernel
theorem dX8_textured_384 : decode cX8_textured 384 = .ok (.putfield 171, 3) := by decide +kernel
theorem dX8_textured_387 : decode cX8_textured 387 = .ok (.iconst 0, 1) := by decide +kernel
theorem dX8_textured_388 : decode cX8_textured 388 = .ok (.istore 5, 2) := by decide +kernel
theorem dX8_textured_390 : decode cX8_textured 390 = .ok (.iload 5, 2) := by decide +kernel
theorem dX8_textured_392 : decode cX8_textured 392 = .ok (.aload_n 0, 1) := by decide +kernel
theorem dX8_textured_393 : decode cX8_textured 393 = .ok (.getfield 168, 3) := by decide +kernel
theorem dX8_textured_396 : decode cX8_textured 396 = .ok (.if_icmp .ge 23, 3) := by decide +kernel
theorem dX8_textured_399 : decode cX8_textured 399 = .ok (.aload_n 0, 1) := by decide +kernel
theorem dX8_textured_400 : decode cX8_textured 400 = .ok (.getfield 60, 3) := by decide +kernel
theorem dX8_textured_403 : decode cX8_textured 403 = .ok (.iload 5, 2) := by decide +kernel
theorem dX8_textured_405 : decode cX8_textured 405 = .ok (.aload_n 0, 1) := by decide +kernel
theorem dX8_textured_406 : decode cX8_textured 406 = .ok (.getfield 57, 3) := by decide +kernel
theorem dX8_textured_409 : decode cX8_textured 409 = .ok (.iload 5, 2) := by decide +kernel
theorem dX8_textured_411 : decode cX8_textured 411 = .ok (.iaload, 1) := by decide +kernel
theorem dX8_textured_412 : decode cX8_textured 412 = .ok (.iastore, 1) := by decide +kernel
theorem dX8_textured_413 : decode cX8_textured 413 = .ok (.iinc 5 1, 3) := by decide +kernel
theorem dX8_textured_416 : decode cX8_textured 416 = .ok (.goto (-26), 3) := by decide +kernel
theorem dX8_textured_419 : decode cX8_textured 419 = .ok (.goto (-236), 3) := by decide +kernel
theorem dX8_textured_422 : decode cX8_textured 422 = .ok (.iinc 2 1, 3) := by decide +kernel
theorem dX8_textured_425 : decode cX8_textured 425 = .ok (.aload_n 0, 1) := by decide +kernel
theorem dX8_textured_426 : decode cX8_textured 426 = .ok (.getfield 57, 3) := by decide +kernel
theorem dX8_textured_429 : decode cX8_textured 429 = .ok (.iload_n 2, 1) := by decide +kernel
theorem dX8_textured_430 : decode cX8_textured 430 = .ok (.iconst (-1), 1) := by decide +kernel
theorem dX8_textured_431 : decode cX8_textured 431 = .ok (.iastore, 1) := by decide +kernel
theorem dX8_textured_432 : decode cX8_textured 432 = .ok (.goto (-249), 3) := by decide +kernel
theorem dX8_textured_435 : decode cX8_textured 435 = .ok (.return_, 1) := by decide +kernel
theorem dX8_cost_0 : decode cX8_cost 0 = .ok (.aload_n 0, 1) := by decide +kernel
theorem dX8_cost_1 : decode cX8_cost 1 = .ok (.invokevirtual 174, 3) := by decide +kernel
theorem dX8_cost_4 : decode cX8_cost 4 = .ok (.aload_n 0, 1) := by decide +kernel
theorem dX8_cost_5 : decode cX8_cost 5 = .ok (.getfield 171, 3) := by decide +kernel
theorem dX8_cost_8 : decode cX8_cost 8 = .ok (.ireturn, 1) := by decide +kernel
theorem dX8_textureOf_0 : decode cX8_textureOf 0 = .ok (.aload_n 0, 1) := by decide +kernel
theorem dX8_textureOf_1 : decode cX8_textureOf 1 = .ok (.getfield 171, 3) := by decide +kernel
theorem dX8_textureOf_4 : decode cX8_textureOf 4 = .ok (.iconst (-1), 1) := by decide +kernel
theorem dX8_textureOf_5 : decode cX8_textureOf 5 = .ok (.if_icmp .ne 5, 3) := by decide +kernel
theorem dX8_textureOf_8 : decode cX8_textureOf 8 = .ok (.iconst (-1), 1) := by decide +kernel
theorem dX8_textureOf_9 : decode cX8_textureOf 9 = .ok (.ireturn, 1) := by decide +kernel
theorem dX8_textureOf_10 : decode cX8_textureOf 10 = .ok (.iconst 0, 1) := by decide +kernel
theorem dX8_textureOf_11 : decode cX8_textureOf 11 = .ok (.istore_n 2, 1) := by decide +kernel
theorem dX8_textureOf_12 : decode cX8_textureOf 12 = .ok (.iload_n 2, 1) := by decide +kernel
theorem dX8_textureOf_13 : decode cX8_textureOf 13 = .ok (.aload_n 0, 1) := by decide +kernel
theorem dX8_textureOf_14 : decode cX8_textureOf 14 = .ok (.getfield 168, 3) := by decide +kernel
theorem dX8_textureOf_17 : decode cX8_textureOf 17 = .ok (.if_icmp .ge 26, 3) := by decide +kernel
theorem dX8_textureOf_20 : decode cX8_textureOf 20 = .ok (.aload_n 0, 1) := by decide +kernel
theorem dX8_textureOf_21 : decode cX8_textureOf 21 = .ok (.getfield 54, 3) := by decide +kernel
theorem dX8_textureOf_24 : decode cX8_textureOf 24 = .ok (.iload_n 2, 1) := by decide +kernel
theorem dX8_textureOf_25 : decode cX8_textureOf 25 = .ok (.iaload, 1) := by decide +kernel
theorem dX8_textureOf_26 : decode cX8_textureOf 26 = .ok (.iload_n 1, 1) := by decide +kernel
theorem dX8_textureOf_27 : decode cX8_textureOf 27 = .ok (.if_icmp .ne 10, 3) := by decide +kernel
theorem dX8_textureOf_30 : decode cX8_textureOf 30 = .ok (.aload_n 0, 1) := by decide +kernel
theorem dX8_textureOf_31 : decode cX8_textureOf 31 = .ok (.getfield 60, 3) := by decide +kernel
theorem dX8_textureOf_34 : decode cX8_textureOf 34 = .ok (.iload_n 2, 1) := by decide +kernel
theorem dX8_textureOf_35 : decode cX8_textureOf 35 = .ok (.iaload, 1) := by decide +kernel
theorem dX8_textureOf_36 : decode cX8_textureOf 36 = .ok (.ireturn, 1) := by decide +kernel
theorem dX8_textureOf_37 : decode cX8_textureOf 37 = .ok (.iinc 2 1, 3) := by decide +kernel
theorem dX8_textureOf_40 : decode cX8_textureOf 40 = .ok (.goto (-28), 3) := by decide +kernel
theorem dX8_textureOf_43 : decode cX8_textureOf 43 = .ok (.iconst (-1), 1) := by decide +kernel
theorem dX8_textureOf_44 : decode cX8_textureOf 44 = .ok (.ireturn, 1) := by decide +kernel
theorem dX8_texture_0 : decode cX8_texture 0 = .ok (.aload_n 0, 1) := by decide +kernel
theorem dX8_texture_1 : decode cX8_texture 1 = .ok (.iload_n 1, 1) := by decide +kernel
theorem dX8_texture_2 : decode cX8_texture 2 = .ok (.invokevirtual 101, 3) := by decide +kernel
theorem dX8_texture_5 : decode cX8_texture 5 = .ok (.ifCond .eq 13, 3) := by decide +kernel
theorem dX8_texture_8 : decode cX8_texture 8 = .ok (.aload_n 0, 1) := by decide +kernel
theorem dX8_texture_9 : decode cX8_texture 9 = .ok (.getfield 20, 3) := by decide +kernel
theorem dX8_texture_12 : decode cX8_texture 12 = .ok (.iload_n 1, 1) := by decide +kernel
theorem dX8_texture_13 : decode cX8_texture 13 = .ok (.iaload, 1) := by decide +kernel
theorem dX8_texture_14 : decode cX8_texture 14 = .ok (.iconst 1, 1) := by decide +kernel
theorem dX8_texture_15 : decode cX8_texture 15 = .ok (.if_icmp .eq 5, 3) := by decide +kernel
theorem dX8_texture_18 : decode cX8_texture 18 = .ok (.iconst (-1), 1) := by decide +kernel
theorem dX8_texture_19 : decode cX8_texture 19 = .ok (.ireturn, 1) := by decide +kernel
theorem dX8_texture_20 : decode cX8_texture 20 = .ok (.aload_n 0, 1) := by decide +kernel
theorem dX8_texture_21 : decode cX8_texture 21 = .ok (.invokevirtual 174, 3) := by decide +kernel
theorem dX8_texture_24 : decode cX8_texture 24 = .ok (.aload_n 0, 1) := by decide +kernel
theorem dX8_texture_25 : decode cX8_texture 25 = .ok (.iload_n 1, 1) := by decide +kernel
theorem dX8_texture_26 : decode cX8_texture 26 = .ok (.invokevirtual 177, 3) := by decide +kernel
theorem dX8_texture_29 : decode cX8_texture 29 = .ok (.ireturn, 1) := by decide +kernel
theorem dX8_isUp_0 : decode cX8_isUp 0 = .ok (.aload_n 0, 1) := by decide +kernel
theorem dX8_isUp_1 : decode cX8_isUp 1 = .ok (.iload_n 1, 1) := by decide +kernel
theorem dX8_isUp_2 : decode cX8_isUp 2 = .ok (.iload_n 2, 1) := by decide +kernel
theorem dX8_isUp_3 : decode cX8_isUp 3 = .ok (.iload_n 3, 1) := by decide +kernel
theorem dX8_isUp_4 : decode cX8_isUp 4 = .ok (.invokevirtual 123, 3) := by decide +kernel
theorem dX8_isUp_7 : decode cX8_isUp 7 = .ok (.ifCond .ne 5, 3) := by decide +kernel
theorem dX8_isUp_10 : decode cX8_isUp 10 = .ok (.iconst 0, 1) := by decide +kernel
theorem dX8_isUp_11 : decode cX8_isUp 11 = .ok (.ireturn, 1) := by decide +kernel
theorem dX8_isUp_12 : decode cX8_isUp 12 = .ok (.bipush 8, 2) := by decide +kernel
theorem dX8_isUp_14 : decode cX8_isUp 14 = .ok (.iload_n 1, 1) := by decide +kernel
theorem dX8_isUp_15 : decode cX8_isUp 15 = .ok (.imul, 1) := by decide +kernel
theorem dX8_isUp_16 : decode cX8_isUp 16 = .ok (.istore 5, 2) := by decide +kernel
theorem dX8_isUp_18 : decode cX8_isUp 18 = .ok (.aload_n 0, 1) := by decide +kernel
theorem dX8_isUp_19 : decode cX8_isUp 19 = .ok (.getfield 20, 3) := by decide +kernel
theorem dX8_isUp_22 : decode cX8_isUp 22 = .ok (.iload_n 1, 1) := by decide +kernel
theorem dX8_isUp_23 : decode cX8_isUp 23 = .ok (.iaload, 1) := by decide +kernel
theorem dX8_isUp_24 : decode cX8_isUp 24 = .ok (.iconst 1, 1) := by decide +kernel
theorem dX8_isUp_25 : decode cX8_isUp 25 = .ok (.if_icmp .ne 51, 3) := by decide +kernel
theorem dX8_isUp_28 : decode cX8_isUp 28 = .ok (.iload_n 2, 1) := by decide +kernel
theorem dX8_isUp_29 : decode cX8_isUp 29 = .ok (.aload_n 0, 1) := by decide +kernel
theorem dX8_isUp_30 : decode cX8_isUp 30 = .ok (.getfield 29, 3) := by decide +kernel
theorem dX8_isUp_33 : decode cX8_isUp 33 = .ok (.iload 5, 2) := by decide +kernel
theorem dX8_isUp_35 : decode cX8_isUp 35 = .ok (.iaload, 1) := by decide +kernel
theorem dX8_isUp_36 : decode cX8_isUp 36 = .ok (.if_icmp .eq 40, 3) := by decide +kernel
theorem dX8_isUp_39 : decode cX8_isUp 39 = .ok (.iload_n 2, 1) := by decide +kernel
theorem dX8_isUp_40 : decode cX8_isUp 40 = .ok (.aload_n 0, 1) := by decide +kernel
theorem dX8_isUp_41 : decode cX8_isUp 41 = .ok (.getfield 29, 3) := by decide +kernel
theorem dX8_isUp_44 : decode cX8_isUp 44 = .ok (.iload 5, 2) := by decide +kernel
theorem dX8_isUp_46 : decode cX8_isUp 46 = .ok (.iconst 1, 1) := by decide +kernel
theorem dX8_isUp_47 : decode cX8_isUp 47 = .ok (.iadd, 1) := by decide +kernel
theorem dX8_isUp_48 : decode cX8_isUp 48 = .ok (.iaload, 1) := by decide +kernel
theorem dX8_isUp_49 : decode cX8_isUp 49 = .ok (.if_icmp .eq 27, 3) := by decide +kernel
theorem dX8_isUp_52 : decode cX8_isUp 52 = .ok (.iload_n 3, 1) := by decide +kernel
theorem dX8_isUp_53 : decode cX8_isUp 53 = .ok (.aload_n 0, 1) := by decide +kernel
theorem dX8_isUp_54 : decode cX8_isUp 54 = .ok (.getfield 32, 3) := by decide +kernel
theorem dX8_isUp_57 : decode cX8_isUp 57 = .ok (.iload 5, 2) := by decide +kernel
theorem dX8_isUp_59 : decode cX8_isUp 59 = .ok (.iaload, 1) := by decide +kernel
theorem dX8_isUp_60 : decode cX8_isUp 60 = .ok (.if_icmp .eq 16, 3) := by decide +kernel
theorem dX8_isUp_63 : decode cX8_isUp 63 = .ok (.iload_n 3, 1) := by decide +kernel
theorem dX8_isUp_64 : decode cX8_isUp 64 = .ok (.aload_n 0, 1) := by decide +kernel
theorem dX8_isUp_65 : decode cX8_isUp 65 = .ok (.getfield 32, 3) := by decide +kernel
theorem dX8_isUp_68 : decode cX8_isUp 68 = .ok (.iload 5, 2) := by decide +kernel
theorem dX8_isUp_70 : decode cX8_isUp 70 = .ok (.iconst 1, 1) := by decide +kernel
theorem dX8_isUp_71 : decode cX8_isUp 71 = .ok (.iadd, 1) := by decide +kernel
theorem dX8_isUp_72 : decode cX8_isUp 72 = .ok (.iaload, 1) := by decide +kernel
theorem dX8_isUp_73 : decode cX8_isUp 73 = .ok (.if_icmp .ne 5, 3) := by decide +kernel
theorem dX8_isUp_76 : decode cX8_isUp 76 = .ok (.iconst 1, 1) := by decide +kernel
theorem dX8_isUp_77 : decode cX8_isUp 77 = .ok (.ireturn, 1) := by decide +kernel
theorem dX8_isUp_78 : decode cX8_isUp 78 = .ok (.iload 4, 2) := by decide +kernel
theorem dX8_isUp_80 : decode cX8_isUp 80 = .ok (.tableswitch 72 0 3 #[32, 34, 48, 60], 32) := by decide +kernel
theorem dX8_isUp_112 : decode cX8_isUp 112 = .ok (.iconst 0, 1) := by decide +kernel
theorem dX8_isUp_113 : decode cX8_isUp 113 = .ok (.ireturn, 1) := by decide +kernel
theorem dX8_isUp_114 : decode cX8_isUp 114 = .ok (.iload_n 2, 1) := by decide +kernel
theorem dX8_isUp_115 : decode cX8_isUp 115 = .ok (.iload_n 3, 1) := by decide +kernel
theorem dX8_isUp_116 : decode cX8_isUp 116 = .ok (.iadd, 1) := by decide +kernel
theorem dX8_isUp_117 : decode cX8_isUp 117 = .ok (.iconst 2, 1) := by decide +kernel
theorem dX8_isUp_118 : decode cX8_isUp 118 = .ok (.irem, 1) := by decide +kernel
theorem dX8_isUp_119 : decode cX8_isUp 119 = .ok (.ifCond .ne 7, 3) := by decide +kernel
theorem dX8_isUp_122 : decode cX8_isUp 122 = .ok (.iconst 1, 1) := by decide +kernel
theorem dX8_isUp_123 : decode cX8_isUp 123 = .ok (.goto 4, 3) := by decide +kernel
theorem dX8_isUp_126 : decode cX8_isUp 126 = .ok (.iconst 0, 1) := by decide +kernel
theorem dX8_isUp_127 : decode cX8_isUp 127 = .ok (.ireturn, 1) := by decide +kernel
theorem dX8_isUp_128 : decode cX8_isUp 128 = .ok (.iload_n 2, 1) := by decide +kernel
theorem dX8_isUp_129 : decode cX8_isUp 129 = .ok (.iconst 2, 1) := by decide +kernel
theorem dX8_isUp_130 : decode cX8_isUp 130 = .ok (.irem, 1) := by decide +kernel
theorem dX8_isUp_131 : decode cX8_isUp 131 = .ok (.ifCond .ne 7, 3) := by decide +kernel
theorem dX8_isUp_134 : decode cX8_isUp 134 = .ok (.iconst 1, 1) := by decide +kernel
theorem dX8_isUp_135 : decode cX8_isUp 135 = .ok (.goto 4, 3) := by decide +kernel
theorem dX8_isUp_138 : decode cX8_isUp 138 = .ok (.iconst 0, 1) := by decide +kernel
theorem dX8_isUp_139 : decode cX8_isUp 139 = .ok (.ireturn, 1) := by decide +kernel
theorem dX8_isUp_140 : decode cX8_isUp 140 = .ok (.iload_n 3, 1) := by decide +kernel
theorem dX8_isUp_141 : decode cX8_isUp 141 = .ok (.iconst 2, 1) := by decide +kernel
theorem dX8_isUp_142 : decode cX8_isUp 142 = .ok (.irem, 1) := by decide +kernel
theorem dX8_isUp_143 : decode cX8_isUp 143 = .ok (.ifCond .ne 7, 3) := by decide +kernel
theorem dX8_isUp_146 : decode cX8_isUp 146 = .ok (.iconst 1, 1) := by decide +kernel
theorem dX8_isUp_147 : decode cX8_isUp 147 = .ok (.goto 4, 3) := by decide +kernel
theorem dX8_isUp_150 : decode cX8_isUp 150 = .ok (.iconst 0, 1) := by decide +kernel
theorem dX8_isUp_151 : decode cX8_isUp 151 = .ok (.ireturn, 1) := by decide +kernel
theorem dX8_isUp_152 : decode cX8_isUp 152 = .ok (.iconst 1, 1) := by decide +kernel
theorem dX8_isUp_153 : decode cX8_isUp 153 = .ok (.ireturn, 1) := by decide +kernel
theorem dX8_print_0 : decode cX8_print 0 = .ok (.iload_n 1, 1) := by decide +kernel
theorem dX8_print_1 : decode cX8_print 1 = .ok (.iconst 0, 1) := by decide +kernel
theorem dX8_print_2 : decode cX8_print 2 = .ok (.iconst 1, 1) := by decide +kernel
theorem dX8_print_3 : decode cX8_print 3 = .ok (.aload_n 0, 1) := by decide +kernel
theorem dX8_print_4 : decode cX8_print 4 = .ok (.getfield 79, 3) := by decide +kernel
theorem dX8_print_7 : decode cX8_print 7 = .ok (.ishl, 1) := by decide +kernel
theorem dX8_print_8 : decode cX8_print 8 = .ok (.iconst 1, 1) := by decide +kernel
theorem dX8_print_9 : decode cX8_print 9 = .ok (.isub, 1) := by decide +kernel
theorem dX8_print_10 : decode cX8_print 10 = .ok (.invokestatic 75, 3) := by decide +kernel
theorem dX8_print_13 : decode cX8_print 13 = .ok (.ifCond .ne 5, 3) := by decide +kernel
theorem dX8_print_16 : decode cX8_print 16 = .ok (.iconst (-1), 1) := by decide +kernel
theorem dX8_print_17 : decode cX8_print 17 = .ok (.ireturn, 1) := by decide +kernel
theorem dX8_print_18 : decode cX8_print 18 = .ok (.iconst 0, 1) := by decide +kernel
theorem dX8_print_19 : decode cX8_print 19 = .ok (.istore_n 2, 1) := by decide +kernel
theorem dX8_print_20 : decode cX8_print 20 = .ok (.iload_n 2, 1) := by decide +kernel
theorem dX8_print_21 : decode cX8_print 21 = .ok (.sipush 576, 3) := by decide +kernel
theorem dX8_print_24 : decode cX8_print 24 = .ok (.if_icmp .ge 16, 3) := by decide +kernel
theorem dX8_print_27 : decode cX8_print 27 = .ok (.aload_n 0, 1) := by decide +kernel
theorem dX8_print_28 : decode cX8_print 28 = .ok (.getfield 66, 3) := by decide +kernel
theorem dX8_print_31 : decode cX8_print 31 = .ok (.iload_n 2, 1) := by decide +kernel
theorem dX8_print_32 : decode cX8_print 32 = .ok (.iconst 0, 1) := by decide +kernel
theorem dX8_print_33 : decode cX8_print 33 = .ok (.bastore, 1) := by decide +kernel
theorem dX8_print_34 : decode cX8_print 34 = .ok (.iinc 2 1, 3) := by decide +kernel
theorem dX8_print_37 : decode cX8_print 37 = .ok (.goto (-17), 3) := by decide +kernel
theorem dX8_print_40 : decode cX8_print 40 = .ok (.aload_n 0, 1) := by decide +kernel
theorem dX8_print_41 : decode cX8_print 41 = .ok (.invokevirtual 174, 3) := by decide +kernel
theorem dX8_print_44 : decode cX8_print 44 = .ok (.iconst 0, 1) := by decide +kernel
theorem dX8_print_45 : decode cX8_print 45 = .ok (.istore_n 2, 1) := by decide +kernel
theorem dX8_print_46 : decode cX8_print 46 = .ok (.iload_n 2, 1) := by decide +kernel
theorem dX8_print_47 : decode cX8_print 47 = .ok (.aload_n 0, 1) := by decide +kernel
theorem dX8_print_48 : decode cX8_print 48 = .ok (.getfield 79, 3) := by decide +kernel
theorem dX8_print_51 : decode cX8_print 51 = .ok (.if_icmp .ge 84, 3) := by decide +kernel
theorem dX8_print_54 : decode cX8_print 54 = .ok (.iload_n 1, 1) := by decide +kernel
theorem dX8_print_55 : decode cX8_print 55 = .ok (.iload_n 2, 1) := by decide +kernel
theorem dX8_print_56 : decode cX8_print 56 = .ok (.ishr, 1) := by decide +kernel
theorem dX8_print_57 : decode cX8_print 57 = .ok (.iconst 1, 1) := by decide +kernel
theorem dX8_print_58 : decode cX8_print 58 = .ok (.iand, 1) := by decide +kernel
theorem dX8_print_59 : decode cX8_print 59 = .ok (.ifCond .ne 6, 3) := by decide +kernel
theorem dX8_print_62 : decode cX8_print 62 = .ok (.goto 67, 3) := by decide +kernel
theorem dX8_print_65 : decode cX8_print 65 = .ok (.aload_n 0, 1) := by decide +kernel
theorem dX8_print_66 : decode cX8_print 66 = .ok (.iload_n 2, 1) := by decide +kernel
theorem dX8_print_67 : decode cX8_print 67 = .ok (.invokevirtual 177, 3) := by decide +kernel
theorem dX8_print_70 : decode cX8_print 70 = .ok (.istore_n 3, 1) := by decide +kernel
theorem dX8_print_71 : decode cX8_print 71 = .ok (.iconst 0, 1) := by decide +kernel
theorem dX8_print_72 : decode cX8_print 72 = .ok (.istore 4, 2) := by decide +kernel
theorem dX8_print_74 : decode cX8_print 74 = .ok (.iload 4, 2) := by decide +kernel
theorem dX8_print_76 : decode cX8_print 76 = .ok (.sipush 576, 3) := by decide +kernel
theorem dX8_print_79 : decode cX8_print 79 = .ok (.if_icmp .ge 50, 3) := by decide +kernel
theorem dX8_print_82 : decode cX8_print 82 = .ok (.aload_n 0, 1) := by decide +kernel
theorem dX8_print_83 : decode cX8_print 83 = .ok (.getfield 66, 3) := by decide +kernel
theorem dX8_print_86 : decode cX8_print 86 = .ok (.iload 4, 2) := by decide +kernel
theorem dX8_print_88 : decode cX8_print 88 = .ok (.aload_n 0, 1) := by decide +kernel
theorem dX8_print_89 : decode cX8_print 89 = .ok (.getfield 66, 3) := by decide +kernel
theorem dX8_print_92 : decode cX8_print 92 = .ok (.iload 4, 2) := by decide +kernel
theorem dX8_print_94 : decode cX8_print 94 = .ok (.baload, 1) := by decide +kernel
theorem dX8_print_95 : decode cX8_print 95 = .ok (.ifCond .ne 22, 3) := by decide +kernel
theorem dX8_print_98 : decode cX8_print 98 = .ok (.aload_n 0, 1) := by decide +kernel
theorem dX8_print_99 : decode cX8_print 99 = .ok (.iload_n 2, 1) := by decide +kernel
theorem dX8_print_100 : decode cX8_print 100 = .ok (.iload 4, 2) := by decide +kernel
theorem dX8_print_102 : decode cX8_print 102 = .ok (.bipush 24, 2) := by decide +kernel
theorem dX8_print_104 : decode cX8_print 104 = .ok (.irem, 1) := by decide +kernel
theorem dX8_print_105 : decode cX8_print 105 = .ok (.iload 4, 2) := by decide +kernel
theorem dX8_print_107 : decode cX8_print 107 = .ok (.bipush 24, 2) := by decide +kernel
theorem dX8_print_109 : decode cX8_print 109 = .ok (.idiv, 1) := by decide +kernel
theorem dX8_print_110 : decode cX8_print 110 = .ok (.iload_n 3, 1) := by decide +kernel
theorem dX8_print_111 : decode cX8_print 111 = .ok (.invokevirtual 180, 3) := by decide +kernel
theorem dX8_print_114 : decode cX8_print 114 = .ok (.ifCond .eq 7, 3) := by decide +kernel
theorem dX8_print_117 : decode cX8_print 117 = .ok (.iconst 1, 1) := by decide +kernel
theorem dX8_print_118 : decode cX8_print 118 = .ok (.goto 4, 3) := by decide +kernel
theorem dX8_print_121 : decode cX8_print 121 = .ok (.iconst 0, 1) := by decide +kernel
theorem dX8_print_122 : decode cX8_print 122 = .ok (.bastore, 1) := by decide +kernel
theorem dX8_print_123 : decode cX8_print 123 = .ok (.iinc 4 1, 3) := by decide +kernel
theorem dX8_print_126 : decode cX8_print 126 = .ok (.goto (-52), 3) := by decide +kernel
theorem dX8_print_129 : decode cX8_print 129 = .ok (.iinc 2 1, 3) := by decide +kernel
theorem dX8_print_132 : decode cX8_print 132 = .ok (.goto (-86), 3) := by decide +kernel
theorem dX8_print_135 : decode cX8_print 135 = .ok (.iconst 0, 1) := by decide +kernel
theorem dX8_print_136 : decode cX8_print 136 = .ok (.istore_n 2, 1) := by decide +kernel
theorem dX8_print_137 : decode cX8_print 137 = .ok (.iconst 0, 1) := by decide +kernel
theorem dX8_print_138 : decode cX8_print 138 = .ok (.istore_n 3, 1) := by decide +kernel
theorem dX8_print_139 : decode cX8_print 139 = .ok (.iload_n 3, 1) := by decide +kernel
theorem dX8_print_140 : decode cX8_print 140 = .ok (.sipush 576, 3) := by decide +kernel
theorem dX8_print_143 : decode cX8_print 143 = .ok (.if_icmp .ge 26, 3) := by decide +kernel
theorem dX8_print_146 : decode cX8_print 146 = .ok (.iload_n 2, 1) := by decide +kernel
theorem dX8_print_147 : decode cX8_print 147 = .ok (.aload_n 0, 1) := by decide +kernel
theorem dX8_print_148 : decode cX8_print 148 = .ok (.getfield 66, 3) := by decide +kernel
theorem dX8_print_151 : decode cX8_print 151 = .ok (.iload_n 3, 1) := by decide +kernel
theorem dX8_print_152 : decode cX8_print 152 = .ok (.baload, 1) := by decide +kernel
theorem dX8_print_153 : decode cX8_print 153 = .ok (.ifCond .eq 7, 3) := by decide +kernel
theorem dX8_print_156 : decode cX8_print 156 = .ok (.iconst 1, 1) := by decide +kernel
theorem dX8_print_157 : decode cX8_print 157 = .ok (.goto 4, 3) := by decide +kernel
theorem dX8_print_160 : decode cX8_print 160 = .ok (.iconst 0, 1) := by decide +kernel
theorem dX8_print_161 : decode cX8_print 161 = .ok (.iadd, 1) := by decide +kernel
theorem dX8_print_162 : decode cX8_print 162 = .ok (.istore_n 2, 1) := by decide +kernel
theorem dX8_print_163 : decode cX8_print 163 = .ok (.iinc 3 1, 3) := by decide +kernel
theorem dX8_print_166 : decode cX8_print 166 = .ok (.goto (-27), 3) := by decide +kernel
theorem dX8_print_169 : decode cX8_print 169 = .ok (.iload_n 2, 1) := by decide +kernel
theorem dX8_print_170 : decode cX8_print 170 = .ok (.ireturn, 1) := by decide +kernel
theorem dX8_up_0 : decode cX8_up 0 = .ok (.iload_n 1, 1) := by decide +kernel
theorem dX8_up_1 : decode cX8_up 1 = .ok (.iload_n 2, 1) := by decide +kernel
theorem dX8_up_2 : decode cX8_up 2 = .ok (.invokestatic 82, 3) := by decide +kernel
theorem dX8_up_5 : decode cX8_up 5 = .ok (.ifCond .ne 7, 3) := by decide +kernel
theorem dX8_up_8 : decode cX8_up 8 = .ok (.iconst (-1), 1) := by decide +kernel
theorem dX8_up_9 : decode cX8_up 9 = .ok (.goto 22, 3) := by decide +kernel
theorem dX8_up_12 : decode cX8_up 12 = .ok (.aload_n 0, 1) := by decide +kernel
theorem dX8_up_13 : decode cX8_up 13 = .ok (.getfield 66, 3) := by decide +kernel
theorem dX8_up_16 : decode cX8_up 16 = .ok (.bipush 24, 2) := by decide +kernel
theorem dX8_up_18 : decode cX8_up 18 = .ok (.iload_n 2, 1) := by decide +kernel
theorem dX8_up_19 : decode cX8_up 19 = .ok (.imul, 1) := by decide +kernel
theorem dX8_up_20 : decode cX8_up 20 = .ok (.iload_n 1, 1) := by decide +kernel
theorem dX8_up_21 : decode cX8_up 21 = .ok (.iadd, 1) := by decide +kernel
theorem dX8_up_22 : decode cX8_up 22 = .ok (.baload, 1) := by decide +kernel
theorem dX8_up_23 : decode cX8_up 23 = .ok (.ifCond .eq 7, 3) := by decide +kernel
theorem dX8_up_26 : decode cX8_up 26 = .ok (.iconst 1, 1) := by decide +kernel
theorem dX8_up_27 : decode cX8_up 27 = .ok (.goto 4, 3) := by decide +kernel
theorem dX8_up_30 : decode cX8_up 30 = .ok (.iconst 0, 1) := by decide +kernel
theorem dX8_up_31 : decode cX8_up 31 = .ok (.ireturn, 1) := by decide +kernel
theorem dX8_feels_0 : decode cX8_feels 0 = .ok (.aload_n 0, 1) := by decide +kernel
theorem dX8_feels_1 : decode cX8_feels 1 = .ok (.iconst 0, 1) := by decide +kernel
theorem dX8_feels_2 : decode cX8_feels 2 = .ok (.putfield 183, 3) := by decide +kernel
theorem dX8_feels_5 : decode cX8_feels 5 = .ok (.iconst 0, 1) := by decide +kernel
theorem dX8_feels_6 : decode cX8_feels 6 = .ok (.istore_n 1, 1) := by decide +kernel
theorem dX8_feels_7 : decode cX8_feels 7 = .ok (.iload_n 1, 1) := by decide +kernel
theorem dX8_feels_8 : decode cX8_feels 8 = .ok (.sipush 576, 3) := by decide +kernel
theorem dX8_feels_11 : decode cX8_feels 11 = .ok (.if_icmp .ge 16, 3) := by decide +kernel
theorem dX8_feels_14 : decode cX8_feels 14 = .ok (.aload_n 0, 1) := by decide +kernel
theorem dX8_feels_15 : decode cX8_feels 15 = .ok (.getfield 69, 3) := by decide +kernel
theorem dX8_feels_18 : decode cX8_feels 18 = .ok (.iload_n 1, 1) := by decide +kernel
theorem dX8_feels_19 : decode cX8_feels 19 = .ok (.iconst (-1), 1) := by decide +kernel
theorem dX8_feels_20 : decode cX8_feels 20 = .ok (.iastore, 1) := by decide +kernel
theorem dX8_feels_21 : decode cX8_feels 21 = .ok (.iinc 1 1, 3) := by decide +kernel
theorem dX8_feels_24 : decode cX8_feels 24 = .ok (.goto (-17), 3) := by decide +kernel
theorem dX8_feels_27 : decode cX8_feels 27 = .ok (.iconst 0, 1) := by decide +kernel
theorem dX8_feels_28 : decode cX8_feels 28 = .ok (.istore_n 1, 1) := by decide +kernel
theorem dX8_feels_29 : decode cX8_feels 29 = .ok (.iload_n 1, 1) := by decide +kernel
theorem dX8_feels_30 : decode cX8_feels 30 = .ok (.sipush 576, 3) := by decide +kernel
theorem dX8_feels_33 : decode cX8_feels 33 = .ok (.if_icmp .ge 205, 3) := by decide +kernel
theorem dX8_feels_36 : decode cX8_feels 36 = .ok (.aload_n 0, 1) := by decide +kernel
theorem dX8_feels_37 : decode cX8_feels 37 = .ok (.getfield 66, 3) := by decide +kernel
theorem dX8_feels_40 : decode cX8_feels 40 = .ok (.iload_n 1, 1) := by decide +kernel
theorem dX8_feels_41 : decode cX8_feels 41 = .ok (.baload, 1) := by decide +kernel
theorem dX8_feels_42 : decode cX8_feels 42 = .ok (.ifCond .eq 190, 3) := by decide +kernel
theorem dX8_feels_45 : decode cX8_feels 45 = .ok (.aload_n 0, 1) := by decide +kernel
theorem dX8_feels_46 : decode cX8_feels 46 = .ok (.getfield 69, 3) := by decide +kernel
theorem dX8_feels_49 : decode cX8_feels 49 = .ok (.iload_n 1, 1) := by decide +kernel
theorem dX8_feels_50 : decode cX8_feels 50 = .ok (.iaload, 1) := by decide +kernel
theorem dX8_feels_51 : decode cX8_feels 51 = .ok (.iconst (-1), 1) := by decide +kernel
theorem dX8_feels_52 : decode cX8_feels 52 = .ok (.if_icmp .eq 6, 3) := by decide +kernel
theorem dX8_feels_55 : decode cX8_feels 55 = .ok (.goto 177, 3) := by decide +kernel
theorem dX8_feels_58 : decode cX8_feels 58 = .ok (.iconst 1, 1) := by decide +kernel
theorem dX8_feels_59 : decode cX8_feels 59 = .ok (.istore_n 2, 1) := by decide +kernel
theorem dX8_feels_60 : decode cX8_feels 60 = .ok (.aload_n 0, 1) := by decide +kernel
theorem dX8_feels_61 : decode cX8_feels 61 = .ok (.getfield 72, 3) := by decide +kernel
theorem dX8_feels_64 : decode cX8_feels 64 = .ok (.iconst 0, 1) := by decide +kernel
theorem dX8_feels_65 : decode cX8_feels 65 = .ok (.iload_n 1, 1) := by decide +kernel
theorem dX8_feels_66 : decode cX8_feels 66 = .ok (.iastore, 1) := by decide +kernel
theorem dX8_feels_67 : decode cX8_feels 67 = .ok (.aload_n 0, 1) := by decide +kernel
theorem dX8_feels_68 : decode cX8_feels 68 = .ok (.getfield 69, 3) := by decide +kernel
theorem dX8_feels_71 : decode cX8_feels 71 = .ok (.iload_n 1, 1) := by decide +kernel
theorem dX8_feels_72 : decode cX8_feels 72 = .ok (.aload_n 0, 1) := by decide +kernel
theorem dX8_feels_73 : decode cX8_feels 73 = .ok (.getfield 183, 3) := by decide +kernel
theorem dX8_feels_76 : decode cX8_feels 76 = .ok (.iastore, 1) := by decide +kernel
theorem dX8_feels_77 : decode cX8_feels 77 = .ok (.iconst 0, 1) := by decide +kernel
theorem dX8_feels_78 : decode cX8_feels 78 = .ok (.istore_n 3, 1) := by decide +kernel
theorem dX8_feels_79 : decode cX8_feels 79 = .ok (.iload_n 3, 1) := by decide +kernel
theorem dX8_feels_80 : decode cX8_feels 80 = .ok (.iload_n 2, 1) := by decide +kernel
theorem dX8_feels_81 : decode cX8_feels 81 = .ok (.if_icmp .ge 141, 3) := by decide +kernel
theorem dX8_feels_84 : decode cX8_feels 84 = .ok (.iconst 0, 1) := by decide +kernel
theorem dX8_feels_85 : decode cX8_feels 85 = .ok (.istore 4, 2) := by decide +kernel
theorem dX8_feels_87 : decode cX8_feels 87 = .ok (.iload 4, 2) := by decide +kernel
theorem dX8_feels_89 : decode cX8_feels 89 = .ok (.bipush 9, 2) := by decide +kernel
theorem dX8_feels_91 : decode cX8_feels 91 = .ok (.if_icmp .ge 125, 3) := by decide +kernel
theorem dX8_feels_94 : decode cX8_feels 94 = .ok (.aload_n 0, 1) := by decide +kernel
theorem dX8_feels_95 : decode cX8_feels 95 = .ok (.getfield 72, 3) := by decide +kernel
theorem dX8_feels_98 : decode cX8_feels 98 = .ok (.iload_n 3, 1) := by decide +kernel
theorem dX8_feels_99 : decode cX8_feels 99 = .ok (.iaload, 1) := by decide +kernel
theorem dX8_feels_100 : decode cX8_feels 100 = .ok (.bipush 24, 2) := by decide +kernel
theorem dX8_feels_102 : decode cX8_feels 102 = .ok (.irem, 1) := by decide +kernel
theorem dX8_feels_103 : decode cX8_feels 103 = .ok (.iload 4, 2) := by decide +kernel
theorem dX8_feels_105 : decode cX8_feels 105 = .ok (.iconst 3, 1) := by decide +kernel
theorem dX8_feels_106 : decode cX8_feels 106 = .ok (.irem, 1) := by decide +kernel
theorem dX8_feels_107 : decode cX8_feels 107 = .ok (.iadd, 1) := by decide +kernel
theorem dX8_feels_108 : decode cX8_feels 108 = .ok (.iconst 1, 1) := by decide +kernel
theorem dX8_feels_109 : decode cX8_feels 109 = .ok (.isub, 1) := by decide +kernel
theorem dX8_feels_110 : decode cX8_feels 110 = .ok (.istore 5, 2) := by decide +kernel
theorem dX8_feels_112 : decode cX8_feels 112 = .ok (.aload_n 0, 1) := by decide +kernel
theorem dX8_feels_113 : decode cX8_feels 113 = .ok (.getfield 72, 3) := by decide +kernel
theorem dX8_feels_116 : decode cX8_feels 116 = .ok (.iload_n 3, 1) := by decide +kernel
theorem dX8_feels_117 : decode cX8_feels 117 = .ok (.iaload, 1) := by decide +kernel
theorem dX8_feels_118 : decode cX8_feels 118 = .ok (.bipush 24, 2) := by decide +kernel
theorem dX8_feels_120 : decode cX8_feels 120 = .ok (.idiv, 1) := by decide +kernel
theorem dX8_feels_121 : decode cX8_feels 121 = .ok (.iload 4, 2) := by decide +kernel
theorem dX8_feels_123 : decode cX8_feels 123 = .ok (.iconst 3, 1) := by decide +kernel
theorem dX8_feels_124 : decode cX8_feels 124 = .ok (.idiv, 1) := by decide +kernel
theorem dX8_feels_125 : decode cX8_feels 125 = .ok (.iadd, 1) := by decide +kernel
theorem dX8_feels_126 : decode cX8_feels 126 = .ok (.iconst 1, 1) := by decide +kernel
theorem dX8_feels_127 : decode cX8_feels 127 = .ok (.isub, 1) := by decide +kernel
theorem dX8_feels_128 : decode cX8_feels 128 = .ok (.istore 6, 2) := by decide +kernel
theorem dX8_feels_130 : decode cX8_feels 130 = .ok (.iload 5, 2) := by decide +kernel
theorem dX8_feels_132 : decode cX8_feels 132 = .ok (.iload 6, 2) := by decide +kernel
theorem dX8_feels_134 : decode cX8_feels 134 = .ok (.invokestatic 82, 3) := by decide +kernel
theorem dX8_feels_137 : decode cX8_feels 137 = .ok (.ifCond .eq 73, 3) := by decide +kernel
theorem dX8_feels_140 : decode cX8_feels 140 = .ok (.aload_n 0, 1) := by decide +kernel
theorem dX8_feels_141 : decode cX8_feels 141 = .ok (.getfield 66, 3) := by decide +kernel
theorem dX8_feels_144 : decode cX8_feels 144 = .ok (.bipush 24, 2) := by decide +kernel
theorem dX8_feels_146 : decode cX8_feels 146 = .ok (.iload 6, 2) := by decide +kernel
theorem dX8_feels_148 : decode cX8_feels 148 = .ok (.imul, 1) := by decide +kernel
theorem dX8_feels_149 : decode cX8_feels 149 = .ok (.iload 5, 2) := by decide +kernel
theorem dX8_feels_151 : decode cX8_feels 151 = .ok (.iadd, 1) := by decide +kernel
theorem dX8_feels_152 : decode cX8_feels 152 = .ok (.baload, 1) := by decide +kernel
theorem dX8_feels_153 : decode cX8_feels 153 = .ok (.ifCond .eq 57, 3) := by decide +kernel
theorem dX8_feels_156 : decode cX8_feels 156 = .ok (.aload_n 0, 1) := by decide +kernel
theorem dX8_feels_157 : decode cX8_feels 157 = .ok (.getfield 69, 3) := by decide +kernel
theorem dX8_feels_160 : decode cX8_feels 160 = .ok (.bipush 24, 2) := by decide +kernel
theorem dX8_feels_162 : decode cX8_feels 162 = .ok (.iload 6, 2) := by decide +kernel
theorem dX8_feels_164 : decode cX8_feels 164 = .ok (.imul, 1) := by decide +kernel
theorem dX8_feels_165 : decode cX8_feels 165 = .ok (.iload 5, 2) := by decide +kernel
theorem dX8_feels_167 : decode cX8_feels 167 = .ok (.iadd, 1) := by decide +kernel
theorem dX8_feels_168 : decode cX8_feels 168 = .ok (.iaload, 1) := by decide +kernel
theorem dX8_feels_169 : decode cX8_feels 169 = .ok (.iconst (-1), 1) := by decide +kernel
theorem dX8_feels_170 : decode cX8_feels 170 = .ok (.if_icmp .eq 6, 3) := by decide +kernel
theorem dX8_feels_173 : decode cX8_feels 173 = .ok (.goto 37, 3) := by decide +kernel
theorem dX8_feels_176 : decode cX8_feels 176 = .ok (.aload_n 0, 1) := by decide +kernel
theorem dX8_feels_177 : decode cX8_feels 177 = .ok (.getfield 69, 3) := by decide +kernel
theorem dX8_feels_180 : decode cX8_feels 180 = .ok (.bipush 24, 2) := by decide +kernel
theorem dX8_feels_182 : decode cX8_feels 182 = .ok (.iload 6, 2) := by decide +kernel
theorem dX8_feels_184 : decode cX8_feels 184 = .ok (.imul, 1) := by decide +kernel
theorem dX8_feels_185 : decode cX8_feels 185 = .ok (.iload 5, 2) := by decide +kernel
theorem dX8_feels_187 : decode cX8_feels 187 = .ok (.iadd, 1) := by decide +kernel
theorem dX8_feels_188 : decode cX8_feels 188 = .ok (.aload_n 0, 1) := by decide +kernel
theorem dX8_feels_189 : decode cX8_feels 189 = .ok (.getfield 183, 3) := by decide +kernel
theorem dX8_feels_192 : decode cX8_feels 192 = .ok (.iastore, 1) := by decide +kernel
theorem dX8_feels_193 : decode cX8_feels 193 = .ok (.aload_n 0, 1) := by decide +kernel
theorem dX8_feels_194 : decode cX8_feels 194 = .ok (.getfield 72, 3) := by decide +kernel
theorem dX8_feels_197 : decode cX8_feels 197 = .ok (.iload_n 2, 1) := by decide +kernel
theorem dX8_feels_198 : decode cX8_feels 198 = .ok (.bipush 24, 2) := by decide +kernel
theorem dX8_feels_200 : decode cX8_feels 200 = .ok (.iload 6, 2) := by decide +kernel
theorem dX8_feels_202 : decode cX8_feels 202 = .ok (.imul, 1) := by decide +kernel
theorem dX8_feels_203 : decode cX8_feels 203 = .ok (.iload 5, 2) := by decide +kernel
theorem dX8_feels_205 : decode cX8_feels 205 = .ok (.iadd, 1) := by decide +kernel
theorem dX8_feels_206 : decode cX8_feels 206 = .ok (.iastore, 1) := by decide +kernel
theorem dX8_feels_207 : decode cX8_feels 207 = .ok (.iinc 2 1, 3) := by decide +kernel
theorem dX8_feels_210 : decode cX8_feels 210 = .ok (.iinc 4 1, 3) := by decide +kernel
theorem dX8_feels_213 : decode cX8_feels 213 = .ok (.goto (-126), 3) := by decide +kernel
theorem dX8_feels_216 : decode cX8_feels 216 = .ok (.iinc 3 1, 3) := by decide +kernel
theorem dX8_feels_219 : decode cX8_feels 219 = .ok (.goto (-140), 3) := by decide +kernel
theorem dX8_feels_222 : decode cX8_feels 222 = .ok (.aload_n 0, 1) := by decide +kernel
theorem dX8_feels_223 : decode cX8_feels 223 = .ok (.dup, 1) := by decide +kernel
theorem dX8_feels_224 : decode cX8_feels 224 = .ok (.getfield 183, 3) := by decide +kernel
theorem dX8_feels_227 : decode cX8_feels 227 = .ok (.iconst 1, 1) := by decide +kernel
theorem dX8_feels_228 : decode cX8_feels 228 = .ok (.iadd, 1) := by decide +kernel
theorem dX8_feels_229 : decode cX8_feels 229 = .ok (.putfield 183, 3) := by decide +kernel
theorem dX8_feels_232 : decode cX8_feels 232 = .ok (.iinc 1 1, 3) := by decide +kernel
theorem dX8_feels_235 : decode cX8_feels 235 = .ok (.goto (-206), 3) := by decide +kernel
theorem dX8_feels_238 : decode cX8_feels 238 = .ok (.return_, 1) := by decide +kernel
theorem dX8_things_0 : decode cX8_things 0 = .ok (.aload_n 0, 1) := by decide +kernel
theorem dX8_things_1 : decode cX8_things 1 = .ok (.invokevirtual 186, 3) := by decide +kernel
theorem dX8_things_4 : decode cX8_things 4 = .ok (.aload_n 0, 1) := by decide +kernel
theorem dX8_things_5 : decode cX8_things 5 = .ok (.getfield 183, 3) := by decide +kernel
theorem dX8_things_8 : decode cX8_things 8 = .ok (.ireturn, 1) := by decide +kernel
theorem dX8_beside_0 : decode cX8_beside 0 = .ok (.iconst 0, 1) := by decide +kernel
theorem dX8_beside_1 : decode cX8_beside 1 = .ok (.istore_n 2, 1) := by decide +kernel
theorem dX8_beside_2 : decode cX8_beside 2 = .ok (.iconst 0, 1) := by decide +kernel
theorem dX8_beside_3 : decode cX8_beside 3 = .ok (.istore_n 3, 1) := by decide +kernel
theorem dX8_beside_4 : decode cX8_beside 4 = .ok (.iload_n 3, 1) := by decide +kernel
theorem dX8_beside_5 : decode cX8_beside 5 = .ok (.bipush 9, 2) := by decide +kernel
theorem dX8_beside_7 : decode cX8_beside 7 = .ok (.if_icmp .ge 72, 3) := by decide +kernel
theorem dX8_beside_10 : decode cX8_beside 10 = .ok (.iload_n 1, 1) := by decide +kernel
theorem dX8_beside_11 : decode cX8_beside 11 = .ok (.bipush 24, 2) := by decide +kernel
theorem dX8_beside_13 : decode cX8_beside 13 = .ok (.irem, 1) := by decide +kernel
theorem dX8_beside_14 : decode cX8_beside 14 = .ok (.iload_n 3, 1) := by decide +kernel
theorem dX8_beside_15 : decode cX8_beside 15 = .ok (.iconst 3, 1) := by decide +kernel
theorem dX8_beside_16 : decode cX8_beside 16 = .ok (.irem, 1) := by decide +kernel
theorem dX8_beside_17 : decode cX8_beside 17 = .ok (.iadd, 1) := by decide +kernel
theorem dX8_beside_18 : decode cX8_beside 18 = .ok (.iconst 1, 1) := by decide +kernel
theorem dX8_beside_19 : decode cX8_beside 19 = .ok (.isub, 1) := by decide +kernel
theorem dX8_beside_20 : decode cX8_beside 20 = .ok (.istore 4, 2) := by decide +kernel
theorem dX8_beside_22 : decode cX8_beside 22 = .ok (.iload_n 1, 1) := by decide +kernel
theorem dX8_beside_23 : decode cX8_beside 23 = .ok (.bipush 24, 2) := by decide +kernel
theorem dX8_beside_25 : decode cX8_beside 25 = .ok (.idiv, 1) := by decide +kernel
theorem dX8_beside_26 : decode cX8_beside 26 = .ok (.iload_n 3, 1) := by decide +kernel
theorem dX8_beside_27 : decode cX8_beside 27 = .ok (.iconst 3, 1) := by decide +kernel
theorem dX8_beside_28 : decode cX8_beside 28 = .ok (.idiv, 1) := by decide +kernel
theorem dX8_beside_29 : decode cX8_beside 29 = .ok (.iadd, 1) := by decide +kernel
theorem dX8_beside_30 : decode cX8_beside 30 = .ok (.iconst 1, 1) := by decide +kernel
theorem dX8_beside_31 : decode cX8_beside 31 = .ok (.isub, 1) := by decide +kernel
theorem dX8_beside_32 : decode cX8_beside 32 = .ok (.istore 5, 2) := by decide +kernel
theorem dX8_beside_34 : decode cX8_beside 34 = .ok (.iload_n 2, 1) := by decide +kernel
theorem dX8_beside_35 : decode cX8_beside 35 = .ok (.iload_n 3, 1) := by decide +kernel
theorem dX8_beside_36 : decode cX8_beside 36 = .ok (.iconst 4, 1) := by decide +kernel
theorem dX8_beside_37 : decode cX8_beside 37 = .ok (.if_icmp .eq 33, 3) := by decide +kernel
theorem dX8_beside_40 : decode cX8_beside 40 = .ok (.iload 4, 2) := by decide +kernel
theorem dX8_beside_42 : decode cX8_beside 42 = .ok (.iload 5, 2) := by decide +kernel
theorem dX8_beside_44 : decode cX8_beside 44 = .ok (.invokestatic 82, 3) := by decide +kernel
theorem dX8_beside_47 : decode cX8_beside 47 = .ok (.ifCond .eq 23, 3) := by decide +kernel
theorem dX8_beside_50 : decode cX8_beside 50 = .ok (.aload_n 0, 1) := by decide +kernel
theorem dX8_beside_51 : decode cX8_beside 51 = .ok (.getfield 66, 3) := by decide +kernel
theorem dX8_beside_54 : decode cX8_beside 54 = .ok (.bipush 24, 2) := by decide +kernel
theorem dX8_beside_56 : decode cX8_beside 56 = .ok (.iload 5, 2) := by decide +kernel
theorem dX8_beside_58 : decode cX8_beside 58 = .ok (.imul, 1) := by decide +kernel
theorem dX8_beside_59 : decode cX8_beside 59 = .ok (.iload 4, 2) := by decide +kernel
theorem dX8_beside_61 : decode cX8_beside 61 = .ok (.iadd, 1) := by decide +kernel
theorem dX8_beside_62 : decode cX8_beside 62 = .ok (.baload, 1) := by decide +kernel
theorem dX8_beside_63 : decode cX8_beside 63 = .ok (.ifCond .eq 7, 3) := by decide +kernel
theorem dX8_beside_66 : decode cX8_beside 66 = .ok (.iconst 1, 1) := by decide +kernel
theorem dX8_beside_67 : decode cX8_beside 67 = .ok (.goto 4, 3) := by decide +kernel
theorem dX8_beside_70 : decode cX8_beside 70 = .ok (.iconst 0, 1) := by decide +kernel
theorem dX8_beside_71 : decode cX8_beside 71 = .ok (.iadd, 1) := by decide +kernel
theorem dX8_beside_72 : decode cX8_beside 72 = .ok (.istore_n 2, 1) := by decide +kernel
theorem dX8_beside_73 : decode cX8_beside 73 = .ok (.iinc 3 1, 3) := by decide +kernel
theorem dX8_beside_76 : decode cX8_beside 76 = .ok (.goto (-72), 3) := by decide +kernel
theorem dX8_beside_79 : decode cX8_beside 79 = .ok (.iload_n 2, 1) := by decide +kernel
theorem dX8_beside_80 : decode cX8_beside 80 = .ok (.ireturn, 1) := by decide +kernel
theorem dX8_thing_0 : decode cX8_thing 0 = .ok (.aload_n 0, 1) := by decide +kernel
theorem dX8_thing_1 : decode cX8_thing 1 = .ok (.invokevirtual 186, 3) := by decide +kernel
theorem dX8_thing_4 : decode cX8_thing 4 = .ok (.iload_n 1, 1) := by decide +kernel
theorem dX8_thing_5 : decode cX8_thing 5 = .ok (.iconst 0, 1) := by decide +kernel
theorem dX8_thing_6 : decode cX8_thing 6 = .ok (.aload_n 0, 1) := by decide +kernel
theorem dX8_thing_7 : decode cX8_thing 7 = .ok (.getfield 183, 3) := by decide +kernel
theorem dX8_thing_10 : decode cX8_thing 10 = .ok (.iconst 1, 1) := by decide +kernel
theorem dX8_thing_11 : decode cX8_thing 11 = .ok (.isub, 1) := by decide +kernel
theorem dX8_thing_12 : decode cX8_thing 12 = .ok (.invokestatic 75, 3) := by decide +kernel
theorem dX8_thing_15 : decode cX8_thing 15 = .ok (.ifCond .eq 12, 3) := by decide +kernel
theorem dX8_thing_18 : decode cX8_thing 18 = .ok (.iload_n 2, 1) := by decide +kernel
theorem dX8_thing_19 : decode cX8_thing 19 = .ok (.iconst 0, 1) := by decide +kernel
theorem dX8_thing_20 : decode cX8_thing 20 = .ok (.iconst 5, 1) := by decide +kernel
theorem dX8_thing_21 : decode cX8_thing 21 = .ok (.invokestatic 75, 3) := by decide +kernel
theorem dX8_thing_24 : decode cX8_thing 24 = .ok (.ifCond .ne 5, 3) := by decide +kernel
theorem dX8_thing_27 : decode cX8_thing 27 = .ok (.iconst (-1), 1) := by decide +kernel
theorem dX8_thing_28 : decode cX8_thing 28 = .ok (.ireturn, 1) := by decide +kernel
theorem dX8_thing_29 : decode cX8_thing 29 = .ok (.iconst 0, 1) := by decide +kernel
theorem dX8_thing_30 : decode cX8_thing 30 = .ok (.istore_n 3, 1) := by decide +kernel
theorem dX8_thing_31 : decode cX8_thing 31 = .ok (.iconst 0, 1) := by decide +kernel
theorem dX8_thing_32 : decode cX8_thing 32 = .ok (.istore 4, 2) := by decide +kernel
theorem dX8_thing_34 : decode cX8_thing 34 = .ok (.bipush 24, 2) := by decide +kernel
theorem dX8_thing_36 : decode cX8_thing 36 = .ok (.istore 5, 2) := by decide +kernel
theorem dX8_thing_38 : decode cX8_thing 38 = .ok (.bipush 24, 2) := by decide +kernel
theorem dX8_thing_40 : decode cX8_thing 40 = .ok (.istore 6, 2) := by decide +kernel
theorem dX8_thing_42 : decode cX8_thing 42 = .ok (.iconst 0, 1) := by decide +kernel
theorem dX8_thing_43 : decode cX8_thing 43 = .ok (.istore 7, 2) := by decide +kernel
theorem dX8_thing_45 : decode cX8_thing 45 = .ok (.iconst 0, 1) := by decide +kernel
theorem dX8_thing_46 : decode cX8_thing 46 = .ok (.istore 8, 2) := by decide +kernel
theorem dX8_thing_48 : decode cX8_thing 48 = .ok (.iconst 0, 1) := by decide +kernel
theorem dX8_thing_49 : decode cX8_thing 49 = .ok (.istore 9, 2) := by decide +kernel
theorem dX8_thing_51 : decode cX8_thing 51 = .ok (.iload 9, 2) := by decide +kernel
theorem dX8_thing_53 : decode cX8_thing 53 = .ok (.sipush 576, 3) := by decide +kernel
theorem dX8_thing_56 : decode cX8_thing 56 = .ok (.if_icmp .ge 134, 3) := by decide +kernel
theorem dX8_thing_59 : decode cX8_thing 59 = .ok (.aload_n 0, 1) := by decide +kernel
theorem dX8_thing_60 : decode cX8_thing 60 = .ok (.getfield 69, 3) := by decide +kernel
theorem dX8_thing_63 : decode cX8_thing 63 = .ok (.iload 9, 2) := by decide +kernel
theorem dX8_thing_65 : decode cX8_thing 65 = .ok (.iaload, 1) := by decide +kernel
theorem dX8_thing_66 : decode cX8_thing 66 = .ok (.iload_n 1, 1) := by decide +kernel
theorem dX8_thing_67 : decode cX8_thing 67 = .ok (.if_icmp .eq 6, 3) := by decide +kernel
theorem dX8_thing_70 : decode cX8_thing 70 = .ok (.goto 114, 3) := by decide +kernel
theorem dX8_thing_73 : decode cX8_thing 73 = .ok (.iinc 3 1, 3) := by decide +kernel
theorem dX8_thing_76 : decode cX8_thing 76 = .ok (.iload 4, 2) := by decide +kernel
theorem dX8_thing_78 : decode cX8_thing 78 = .ok (.aload_n 0, 1) := by decide +kernel
theorem dX8_thing_79 : decode cX8_thing 79 = .ok (.iload 9, 2) := by decide +kernel
theorem dX8_thing_81 : decode cX8_thing 81 = .ok (.invokevirtual 189, 3) := by decide +kernel
theorem dX8_thing_84 : decode cX8_thing 84 = .ok (.iconst 1, 1) := by decide +kernel
theorem dX8_thing_85 : decode cX8_thing 85 = .ok (.if_icmp .ne 7, 3) := by decide +kernel
theorem dX8_thing_88 : decode cX8_thing 88 = .ok (.iconst 1, 1) := by decide +kernel
theorem dX8_thing_89 : decode cX8_thing 89 = .ok (.goto 4, 3) := by decide +kernel
theorem dX8_thing_92 : decode cX8_thing 92 = .ok (.iconst 0, 1) := by decide +kernel
theorem dX8_thing_93 : decode cX8_thing 93 = .ok (.iadd, 1) := by decide +kernel
theorem dX8_thing_94 : decode cX8_thing 94 = .ok (.istore 4, 2) := by decide +kernel
theorem dX8_thing_96 : decode cX8_thing 96 = .ok (.iload 9, 2) := by decide +kernel
theorem dX8_thing_98 : decode cX8_thing 98 = .ok (.bipush 24, 2) := by decide +kernel
theorem dX8_thing_100 : decode cX8_thing 100 = .ok (.irem, 1) := by decide +kernel
theorem dX8_thing_101 : decode cX8_thing 101 = .ok (.iload 5, 2) := by decide +kernel
theorem dX8_thing_103 : decode cX8_thing 103 = .ok (.if_icmp .ge 11, 3) := by decide +kernel
theorem dX8_thing_106 : decode cX8_thing 106 = .ok (.iload 9, 2) := by decide +kernel
theorem dX8_thing_108 : decode cX8_thing 108 = .ok (.bipush 24, 2) := by decide +kernel
theorem dX8_thing_110 : decode cX8_thing 110 = .ok (.irem, 1) := by decide +kernel
theorem dX8_thing_111 : decode cX8_thing 111 = .ok (.goto 5, 3) := by decide +kernel
theorem dX8_thing_114 : decode cX8_thing 114 = .ok (.iload 5, 2) := by decide +kernel
theorem dX8_thing_116 : decode cX8_thing 116 = .ok (.istore 5, 2) := by decide +kernel
theorem dX8_thing_118 : decode cX8_thing 118 = .ok (.iload 9, 2) := by decide +kernel
theorem dX8_thing_120 : decode cX8_thing 120 = .ok (.bipush 24, 2) := by decide +kernel
theorem dX8_thing_122 : decode cX8_thing 122 = .ok (.idiv, 1) := by decide +kernel
theorem dX8_thing_123 : decode cX8_thing 123 = .ok (.iload 6, 2) := by decide +kernel
theorem dX8_thing_125 : decode cX8_thing 125 = .ok (.if_icmp .ge 11, 3) := by decide +kernel
theorem dX8_thing_128 : decode cX8_thing 128 = .ok (.iload 9, 2) := by decide +kernel
theorem dX8_thing_130 : decode cX8_thing 130 = .ok (.bipush 24, 2) := by decide +kernel
theorem dX8_thing_132 : decode cX8_thing 132 = .ok (.idiv, 1) := by decide +kernel
theorem dX8_thing_133 : decode cX8_thing 133 = .ok (.goto 5, 3) := by decide +kernel
theorem dX8_thing_136 : decode cX8_thing 136 = .ok (.iload 6, 2) := by decide +kernel
theorem dX8_thing_138 : decode cX8_thing 138 = .ok (.istore 6, 2) := by decide +kernel
theorem dX8_thing_140 : decode cX8_thing 140 = .ok (.iload 9, 2) := by decide +kernel
theorem dX8_thing_142 : decode cX8_thing 142 = .ok (.bipush 24, 2) := by decide +kernel
theorem dX8_thing_144 : decode cX8_thing 144 = .ok (.irem, 1) := by decide +kernel
theorem dX8_thing_145 : decode cX8_thing 145 = .ok (.iload 7, 2) := by decide +kernel
theorem dX8_thing_147 : decode cX8_thing 147 = .ok (.if_icmp .le 11, 3) := by decide +kernel
theorem dX8_thing_150 : decode cX8_thing 150 = .ok (.iload 9, 2) := by decide +kernel
theorem dX8_thing_152 : decode cX8_thing 152 = .ok (.bipush 24, 2) := by decide +kernel
theorem dX8_thing_154 : decode cX8_thing 154 = .ok (.irem, 1) := by decide +kernel
theorem dX8_thing_155 : decode cX8_thing 155 = .ok (.goto 5, 3) := by decide +kernel
theorem dX8_thing_158 : decode cX8_thing 158 = .ok (.iload 7, 2) := by decide +kernel
theorem dX8_thing_160 : decode cX8_thing 160 = .ok (.istore 7, 2) := by decide +kernel
theorem dX8_thing_162 : decode cX8_thing 162 = .ok (.iload 9, 2) := by decide +kernel
theorem dX8_thing_164 : decode cX8_thing 164 = .ok (.bipush 24, 2) := by decide +kernel
theorem dX8_thing_166 : decode cX8_thing 166 = .ok (.idiv, 1) := by decide +kernel
theorem dX8_thing_167 : decode cX8_thing 167 = .ok (.iload 8, 2) := by decide +kernel
theorem dX8_thing_169 : decode cX8_thing 169 = .ok (.if_icmp .le 11, 3) := by decide +kernel
theorem dX8_thing_172 : decode cX8_thing 172 = .ok (.iload 9, 2) := by decide +kernel
theorem dX8_thing_174 : decode cX8_thing 174 = .ok (.bipush 24, 2) := by decide +kernel
theorem dX8_thing_176 : decode cX8_thing 176 = .ok (.idiv, 1) := by decide +kernel
theorem dX8_thing_177 : decode cX8_thing 177 = .ok (.goto 5, 3) := by decide +kernel
theorem dX8_thing_180 : decode cX8_thing 180 = .ok (.iload 8, 2) := by decide +kernel
theorem dX8_thing_182 : decode cX8_thing 182 = .ok (.istore 8, 2) := by decide +kernel
theorem dX8_thing_184 : decode cX8_thing 184 = .ok (.iinc 9 1, 3) := by decide +kernel
theorem dX8_thing_187 : decode cX8_thing 187 = .ok (.goto (-136), 3) := by decide +kernel
theorem dX8_thing_190 : decode cX8_thing 190 = .ok (.iload_n 2, 1) := by decide +kernel
theorem dX8_thing_191 : decode cX8_thing 191 = .ok (.ifCond .ne 7, 3) := by decide +kernel
theorem dX8_thing_194 : decode cX8_thing 194 = .ok (.iload_n 3, 1) := by decide +kernel
theorem dX8_thing_195 : decode cX8_thing 195 = .ok (.goto 45, 3) := by decide +kernel
theorem dX8_thing_198 : decode cX8_thing 198 = .ok (.iload_n 2, 1) := by decide +kernel
theorem dX8_thing_199 : decode cX8_thing 199 = .ok (.iconst 1, 1) := by decide +kernel
theorem dX8_thing_200 : decode cX8_thing 200 = .ok (.if_icmp .ne 8, 3) := by decide +kernel
theorem dX8_thing_203 : decode cX8_thing 203 = .ok (.iload 5, 2) := by decide +kernel
theorem dX8_thing_205 : decode cX8_thing 205 = .ok (.goto 35, 3) := by decide +kernel
theorem dX8_thing_208 : decode cX8_thing 208 = .ok (.iload_n 2, 1) := by decide +kernel
theorem dX8_thing_209 : decode cX8_thing 209 = .ok (.iconst 2, 1) := by decide +kernel
theorem dX8_thing_210 : decode cX8_thing 210 = .ok (.if_icmp .ne 8, 3) := by decide +kernel
theorem dX8_thing_213 : decode cX8_thing 213 = .ok (.iload 6, 2) := by decide +kernel
theorem dX8_thing_215 : decode cX8_thing 215 = .ok (.goto 25, 3) := by decide +kernel
theorem dX8_thing_218 : decode cX8_thing 218 = .ok (.iload_n 2, 1) := by decide +kernel
theorem dX8_thing_219 : decode cX8_thing 219 = .ok (.iconst 3, 1) := by decide +kernel
theorem dX8_thing_220 : decode cX8_thing 220 = .ok (.if_icmp .ne 8, 3) := by decide +kernel
theorem dX8_thing_223 : decode cX8_thing 223 = .ok (.iload 7, 2) := by decide +kernel
theorem dX8_thing_225 : decode cX8_thing 225 = .ok (.goto 15, 3) := by decide +kernel
theorem dX8_thing_228 : decode cX8_thing 228 = .ok (.iload_n 2, 1) := by decide +kernel
theorem dX8_thing_229 : decode cX8_thing 229 = .ok (.iconst 4, 1) := by decide +kernel
theorem dX8_thing_230 : decode cX8_thing 230 = .ok (.if_icmp .ne 8, 3) := by decide +kernel
theorem dX8_thing_233 : decode cX8_thing 233 = .ok (.iload 8, 2) := by decide +kernel
theorem dX8_thing_235 : decode cX8_thing 235 = .ok (.goto 5, 3) := by decide +kernel
theorem dX8_thing_238 : decode cX8_thing 238 = .ok (.iload 4, 2) := by decide +kernel
theorem dX8_thing_240 : decode cX8_thing 240 = .ok (.ireturn, 1) := by decide +kernel
