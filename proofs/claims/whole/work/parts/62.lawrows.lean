/-! The law: decode rows, links; printed by wip/whole/gen/lawrows.py -/
abbrev c_L_law : ByteArray := code
def y_L_law : MethodName := x
theorem d_L_law_0 : decode c_L_law 0 = .ok (.new 8, 3) := by decide +kernel
theorem d_L_law_3 : decode c_L_law 3 = .ok (.dup, 1) := by decide +kernel
theorem d_L_law_4 : decode c_L_law 4 = .ok (.aload_n 0, 1) := by decide +kernel
theorem d_L_law_5 : decode c_L_law 5 = .ok (.iconst (0), 1) := by decide +kernel
theorem d_L_law_6 : decode c_L_law 6 = .ok (.invokestatic 56, 3) := by decide +kernel
theorem d_L_law_9 : decode c_L_law 9 = .ok (.aload_n 0, 1) := by decide +kernel
theorem d_L_law_10 : decode c_L_law 10 = .ok (.iconst (1), 1) := by decide +kernel
theorem d_L_law_11 : decode c_L_law 11 = .ok (.invokestatic 56, 3) := by decide +kernel
theorem d_L_law_14 : decode c_L_law 14 = .ok (.invokespecial 62, 3) := by decide +kernel
theorem d_L_law_17 : decode c_L_law 17 = .ok (.astore_n 1, 1) := by decide +kernel
theorem d_L_law_18 : decode c_L_law 18 = .ok (.new 65, 3) := by decide +kernel
theorem d_L_law_21 : decode c_L_law 21 = .ok (.dup, 1) := by decide +kernel
theorem d_L_law_22 : decode c_L_law 22 = .ok (.aload_n 0, 1) := by decide +kernel
theorem d_L_law_23 : decode c_L_law 23 = .ok (.iconst (0), 1) := by decide +kernel
theorem d_L_law_24 : decode c_L_law 24 = .ok (.invokestatic 56, 3) := by decide +kernel
theorem d_L_law_27 : decode c_L_law 27 = .ok (.aload_n 0, 1) := by decide +kernel
theorem d_L_law_28 : decode c_L_law 28 = .ok (.iconst (1), 1) := by decide +kernel
theorem d_L_law_29 : decode c_L_law 29 = .ok (.invokestatic 56, 3) := by decide +kernel
theorem d_L_law_32 : decode c_L_law 32 = .ok (.invokespecial 67, 3) := by decide +kernel
theorem d_L_law_35 : decode c_L_law 35 = .ok (.astore_n 2, 1) := by decide +kernel
theorem d_L_law_36 : decode c_L_law 36 = .ok (.iconst (1), 1) := by decide +kernel
theorem d_L_law_37 : decode c_L_law 37 = .ok (.newarray .long, 2) := by decide +kernel
theorem d_L_law_39 : decode c_L_law 39 = .ok (.astore_n 3, 1) := by decide +kernel
theorem d_L_law_40 : decode c_L_law 40 = .ok (.iconst (2), 1) := by decide +kernel
theorem d_L_law_41 : decode c_L_law 41 = .ok (.istore 4, 2) := by decide +kernel
theorem d_L_law_43 : decode c_L_law 43 = .ok (.iload 4, 2) := by decide +kernel
theorem d_L_law_45 : decode c_L_law 45 = .ok (.aload_n 0, 1) := by decide +kernel
theorem d_L_law_46 : decode c_L_law 46 = .ok (.arraylength, 1) := by decide +kernel
theorem d_L_law_47 : decode c_L_law 47 = .ok (.iconst (5), 1) := by decide +kernel
theorem d_L_law_48 : decode c_L_law 48 = .ok (.isub, 1) := by decide +kernel
theorem d_L_law_49 : decode c_L_law 49 = .ok (.if_icmp .gt (948), 3) := by decide +kernel
theorem d_L_law_52 : decode c_L_law 52 = .ok (.aload_n 0, 1) := by decide +kernel
theorem d_L_law_53 : decode c_L_law 53 = .ok (.iload 4, 2) := by decide +kernel
theorem d_L_law_55 : decode c_L_law 55 = .ok (.iaload, 1) := by decide +kernel
theorem d_L_law_56 : decode c_L_law 56 = .ok (.bipush (15), 2) := by decide +kernel
theorem d_L_law_58 : decode c_L_law 58 = .ok (.iand, 1) := by decide +kernel
theorem d_L_law_59 : decode c_L_law 59 = .ok (.tableswitch (932) 0 15 #[77, 146, 157, 213, 269, 325, 381, 437, 493, 506, 562, 654, 734, 814, 839, 864], 77) := by decide +kernel
theorem d_L_law_136 : decode c_L_law 136 = .ok (.aload_n 1, 1) := by decide +kernel
theorem d_L_law_137 : decode c_L_law 137 = .ok (.aload_n 0, 1) := by decide +kernel
theorem d_L_law_138 : decode c_L_law 138 = .ok (.iload 4, 2) := by decide +kernel
theorem d_L_law_140 : decode c_L_law 140 = .ok (.iconst (1), 1) := by decide +kernel
theorem d_L_law_141 : decode c_L_law 141 = .ok (.iadd, 1) := by decide +kernel
theorem d_L_law_142 : decode c_L_law 142 = .ok (.iaload, 1) := by decide +kernel
theorem d_L_law_143 : decode c_L_law 143 = .ok (.aload_n 0, 1) := by decide +kernel
theorem d_L_law_144 : decode c_L_law 144 = .ok (.iload 4, 2) := by decide +kernel
theorem d_L_law_146 : decode c_L_law 146 = .ok (.iconst (2), 1) := by decide +kernel
theorem d_L_law_147 : decode c_L_law 147 = .ok (.iadd, 1) := by decide +kernel
theorem d_L_law_148 : decode c_L_law 148 = .ok (.iaload, 1) := by decide +kernel
theorem d_L_law_149 : decode c_L_law 149 = .ok (.i2l, 1) := by decide +kernel
theorem d_L_law_150 : decode c_L_law 150 = .ok (.bipush (32), 2) := by decide +kernel
theorem d_L_law_152 : decode c_L_law 152 = .ok (.lshl, 1) := by decide +kernel
theorem d_L_law_153 : decode c_L_law 153 = .ok (.aload_n 0, 1) := by decide +kernel
theorem d_L_law_154 : decode c_L_law 154 = .ok (.iload 4, 2) := by decide +kernel
theorem d_L_law_156 : decode c_L_law 156 = .ok (.iconst (3), 1) := by decide +kernel
theorem d_L_law_157 : decode c_L_law 157 = .ok (.iadd, 1) := by decide +kernel
theorem d_L_law_158 : decode c_L_law 158 = .ok (.iaload, 1) := by decide +kernel
theorem d_L_law_159 : decode c_L_law 159 = .ok (.i2l, 1) := by decide +kernel
theorem d_L_law_160 : decode c_L_law 160 = .ok (.ldc2_w 68, 3) := by decide +kernel
theorem d_L_law_163 : decode c_L_law 163 = .ok (.land, 1) := by decide +kernel
theorem d_L_law_164 : decode c_L_law 164 = .ok (.lor, 1) := by decide +kernel
theorem d_L_law_165 : decode c_L_law 165 = .ok (.invokevirtual 70, 3) := by decide +kernel
theorem d_L_law_168 : decode c_L_law 168 = .ok (.aload_n 2, 1) := by decide +kernel
theorem d_L_law_169 : decode c_L_law 169 = .ok (.aload_n 0, 1) := by decide +kernel
theorem d_L_law_170 : decode c_L_law 170 = .ok (.iload 4, 2) := by decide +kernel
theorem d_L_law_172 : decode c_L_law 172 = .ok (.iconst (1), 1) := by decide +kernel
theorem d_L_law_173 : decode c_L_law 173 = .ok (.iadd, 1) := by decide +kernel
theorem d_L_law_174 : decode c_L_law 174 = .ok (.iaload, 1) := by decide +kernel
theorem d_L_law_175 : decode c_L_law 175 = .ok (.aload_n 0, 1) := by decide +kernel
theorem d_L_law_176 : decode c_L_law 176 = .ok (.iload 4, 2) := by decide +kernel
theorem d_L_law_178 : decode c_L_law 178 = .ok (.iconst (2), 1) := by decide +kernel
theorem d_L_law_179 : decode c_L_law 179 = .ok (.iadd, 1) := by decide +kernel
theorem d_L_law_180 : decode c_L_law 180 = .ok (.iaload, 1) := by decide +kernel
theorem d_L_law_181 : decode c_L_law 181 = .ok (.i2l, 1) := by decide +kernel
theorem d_L_law_182 : decode c_L_law 182 = .ok (.bipush (32), 2) := by decide +kernel
theorem d_L_law_184 : decode c_L_law 184 = .ok (.lshl, 1) := by decide +kernel
theorem d_L_law_185 : decode c_L_law 185 = .ok (.aload_n 0, 1) := by decide +kernel
theorem d_L_law_186 : decode c_L_law 186 = .ok (.iload 4, 2) := by decide +kernel
theorem d_L_law_188 : decode c_L_law 188 = .ok (.iconst (3), 1) := by decide +kernel
theorem d_L_law_189 : decode c_L_law 189 = .ok (.iadd, 1) := by decide +kernel
theorem d_L_law_190 : decode c_L_law 190 = .ok (.iaload, 1) := by decide +kernel
theorem d_L_law_191 : decode c_L_law 191 = .ok (.i2l, 1) := by decide +kernel
theorem d_L_law_192 : decode c_L_law 192 = .ok (.ldc2_w 68, 3) := by decide +kernel
theorem d_L_law_195 : decode c_L_law 195 = .ok (.land, 1) := by decide +kernel
theorem d_L_law_196 : decode c_L_law 196 = .ok (.lor, 1) := by decide +kernel
theorem d_L_law_197 : decode c_L_law 197 = .ok (.invokevirtual 74, 3) := by decide +kernel
theorem d_L_law_200 : decode c_L_law 200 = .ok (.if_icmp .eq (791), 3) := by decide +kernel
theorem d_L_law_203 : decode c_L_law 203 = .ok (.iconst (0), 1) := by decide +kernel
theorem d_L_law_204 : decode c_L_law 204 = .ok (.ireturn, 1) := by decide +kernel
theorem d_L_law_205 : decode c_L_law 205 = .ok (.aload_n 1, 1) := by decide +kernel
theorem d_L_law_206 : decode c_L_law 206 = .ok (.invokevirtual 75, 3) := by decide +kernel
theorem d_L_law_209 : decode c_L_law 209 = .ok (.aload_n 2, 1) := by decide +kernel
theorem d_L_law_210 : decode c_L_law 210 = .ok (.invokevirtual 78, 3) := by decide +kernel
theorem d_L_law_213 : decode c_L_law 213 = .ok (.goto (778), 3) := by decide +kernel
theorem d_L_law_216 : decode c_L_law 216 = .ok (.aload_n 1, 1) := by decide +kernel
theorem d_L_law_217 : decode c_L_law 217 = .ok (.aload_n 0, 1) := by decide +kernel
theorem d_L_law_218 : decode c_L_law 218 = .ok (.iload 4, 2) := by decide +kernel
theorem d_L_law_220 : decode c_L_law 220 = .ok (.iconst (1), 1) := by decide +kernel
theorem d_L_law_221 : decode c_L_law 221 = .ok (.iadd, 1) := by decide +kernel
theorem d_L_law_222 : decode c_L_law 222 = .ok (.iaload, 1) := by decide +kernel
theorem d_L_law_223 : decode c_L_law 223 = .ok (.aload_n 3, 1) := by decide +kernel
theorem d_L_law_224 : decode c_L_law 224 = .ok (.invokestatic 79, 3) := by decide +kernel
theorem d_L_law_227 : decode c_L_law 227 = .ok (.istore 5, 2) := by decide +kernel
theorem d_L_law_229 : decode c_L_law 229 = .ok (.aload_n 2, 1) := by decide +kernel
theorem d_L_law_230 : decode c_L_law 230 = .ok (.aload_n 0, 1) := by decide +kernel
theorem d_L_law_231 : decode c_L_law 231 = .ok (.iload 4, 2) := by decide +kernel
theorem d_L_law_233 : decode c_L_law 233 = .ok (.iconst (1), 1) := by decide +kernel
theorem d_L_law_234 : decode c_L_law 234 = .ok (.iadd, 1) := by decide +kernel
theorem d_L_law_235 : decode c_L_law 235 = .ok (.iaload, 1) := by decide +kernel
theorem d_L_law_236 : decode c_L_law 236 = .ok (.invokevirtual 82, 3) := by decide +kernel
theorem d_L_law_239 : decode c_L_law 239 = .ok (.istore 6, 2) := by decide +kernel
theorem d_L_law_241 : decode c_L_law 241 = .ok (.aload_n 2, 1) := by decide +kernel
theorem d_L_law_242 : decode c_L_law 242 = .ok (.invokevirtual 83, 3) := by decide +kernel
theorem d_L_law_245 : decode c_L_law 245 = .ok (.iload 5, 2) := by decide +kernel
theorem d_L_law_247 : decode c_L_law 247 = .ok (.if_icmp .eq (5), 3) := by decide +kernel
theorem d_L_law_250 : decode c_L_law 250 = .ok (.iconst (0), 1) := by decide +kernel
theorem d_L_law_251 : decode c_L_law 251 = .ok (.ireturn, 1) := by decide +kernel
theorem d_L_law_252 : decode c_L_law 252 = .ok (.iload 5, 2) := by decide +kernel
theorem d_L_law_254 : decode c_L_law 254 = .ok (.ifCond .ne (15), 3) := by decide +kernel
theorem d_L_law_257 : decode c_L_law 257 = .ok (.aload_n 3, 1) := by decide +kernel
theorem d_L_law_258 : decode c_L_law 258 = .ok (.iconst (0), 1) := by decide +kernel
theorem d_L_law_259 : decode c_L_law 259 = .ok (.laload, 1) := by decide +kernel
theorem d_L_law_260 : decode c_L_law 260 = .ok (.iload 6, 2) := by decide +kernel
theorem d_L_law_262 : decode c_L_law 262 = .ok (.i2l, 1) := by decide +kernel
theorem d_L_law_263 : decode c_L_law 263 = .ok (.lcmp, 1) := by decide +kernel
theorem d_L_law_264 : decode c_L_law 264 = .ok (.ifCond .eq (5), 3) := by decide +kernel
theorem d_L_law_267 : decode c_L_law 267 = .ok (.iconst (0), 1) := by decide +kernel
theorem d_L_law_268 : decode c_L_law 268 = .ok (.ireturn, 1) := by decide +kernel
theorem d_L_law_269 : decode c_L_law 269 = .ok (.goto (722), 3) := by decide +kernel
theorem d_L_law_272 : decode c_L_law 272 = .ok (.aload_n 1, 1) := by decide +kernel
theorem d_L_law_273 : decode c_L_law 273 = .ok (.aload_n 0, 1) := by decide +kernel
theorem d_L_law_274 : decode c_L_law 274 = .ok (.iload 4, 2) := by decide +kernel
theorem d_L_law_276 : decode c_L_law 276 = .ok (.iconst (1), 1) := by decide +kernel
theorem d_L_law_277 : decode c_L_law 277 = .ok (.iadd, 1) := by decide +kernel
theorem d_L_law_278 : decode c_L_law 278 = .ok (.iaload, 1) := by decide +kernel
theorem d_L_law_279 : decode c_L_law 279 = .ok (.aload_n 3, 1) := by decide +kernel
theorem d_L_law_280 : decode c_L_law 280 = .ok (.invokestatic 87, 3) := by decide +kernel
theorem d_L_law_283 : decode c_L_law 283 = .ok (.istore 5, 2) := by decide +kernel
theorem d_L_law_285 : decode c_L_law 285 = .ok (.aload_n 2, 1) := by decide +kernel
theorem d_L_law_286 : decode c_L_law 286 = .ok (.aload_n 0, 1) := by decide +kernel
theorem d_L_law_287 : decode c_L_law 287 = .ok (.iload 4, 2) := by decide +kernel
theorem d_L_law_289 : decode c_L_law 289 = .ok (.iconst (1), 1) := by decide +kernel
theorem d_L_law_290 : decode c_L_law 290 = .ok (.iadd, 1) := by decide +kernel
theorem d_L_law_291 : decode c_L_law 291 = .ok (.iaload, 1) := by decide +kernel
theorem d_L_law_292 : decode c_L_law 292 = .ok (.invokevirtual 89, 3) := by decide +kernel
theorem d_L_law_295 : decode c_L_law 295 = .ok (.istore 6, 2) := by decide +kernel
theorem d_L_law_297 : decode c_L_law 297 = .ok (.aload_n 2, 1) := by decide +kernel
theorem d_L_law_298 : decode c_L_law 298 = .ok (.invokevirtual 83, 3) := by decide +kernel
theorem d_L_law_301 : decode c_L_law 301 = .ok (.iload 5, 2) := by decide +kernel
theorem d_L_law_303 : decode c_L_law 303 = .ok (.if_icmp .eq (5), 3) := by decide +kernel
theorem d_L_law_306 : decode c_L_law 306 = .ok (.iconst (0), 1) := by decide +kernel
theorem d_L_law_307 : decode c_L_law 307 = .ok (.ireturn, 1) := by decide +kernel
theorem d_L_law_308 : decode c_L_law 308 = .ok (.iload 5, 2) := by decide +kernel
theorem d_L_law_310 : decode c_L_law 310 = .ok (.ifCond .ne (15), 3) := by decide +kernel
theorem d_L_law_313 : decode c_L_law 313 = .ok (.aload_n 3, 1) := by decide +kernel
theorem d_L_law_314 : decode c_L_law 314 = .ok (.iconst (0), 1) := by decide +kernel
theorem d_L_law_315 : decode c_L_law 315 = .ok (.laload, 1) := by decide +kernel
theorem d_L_law_316 : decode c_L_law 316 = .ok (.iload 6, 2) := by decide +kernel
theorem d_L_law_318 : decode c_L_law 318 = .ok (.i2l, 1) := by decide +kernel
theorem d_L_law_319 : decode c_L_law 319 = .ok (.lcmp, 1) := by decide +kernel
theorem d_L_law_320 : decode c_L_law 320 = .ok (.ifCond .eq (5), 3) := by decide +kernel
theorem d_L_law_323 : decode c_L_law 323 = .ok (.iconst (0), 1) := by decide +kernel
theorem d_L_law_324 : decode c_L_law 324 = .ok (.ireturn, 1) := by decide +kernel
theorem d_L_law_325 : decode c_L_law 325 = .ok (.goto (666), 3) := by decide +kernel
theorem d_L_law_328 : decode c_L_law 328 = .ok (.aload_n 1, 1) := by decide +kernel
theorem d_L_law_329 : decode c_L_law 329 = .ok (.aload_n 0, 1) := by decide +kernel
theorem d_L_law_330 : decode c_L_law 330 = .ok (.iload 4, 2) := by decide +kernel
theorem d_L_law_332 : decode c_L_law 332 = .ok (.iconst (1), 1) := by decide +kernel
theorem d_L_law_333 : decode c_L_law 333 = .ok (.iadd, 1) := by decide +kernel
theorem d_L_law_334 : decode c_L_law 334 = .ok (.iaload, 1) := by decide +kernel
theorem d_L_law_335 : decode c_L_law 335 = .ok (.aload_n 3, 1) := by decide +kernel
theorem d_L_law_336 : decode c_L_law 336 = .ok (.invokestatic 90, 3) := by decide +kernel
theorem d_L_law_339 : decode c_L_law 339 = .ok (.istore 5, 2) := by decide +kernel
theorem d_L_law_341 : decode c_L_law 341 = .ok (.aload_n 2, 1) := by decide +kernel
theorem d_L_law_342 : decode c_L_law 342 = .ok (.aload_n 0, 1) := by decide +kernel
theorem d_L_law_343 : decode c_L_law 343 = .ok (.iload 4, 2) := by decide +kernel
theorem d_L_law_345 : decode c_L_law 345 = .ok (.iconst (1), 1) := by decide +kernel
theorem d_L_law_346 : decode c_L_law 346 = .ok (.iadd, 1) := by decide +kernel
theorem d_L_law_347 : decode c_L_law 347 = .ok (.iaload, 1) := by decide +kernel
theorem d_L_law_348 : decode c_L_law 348 = .ok (.invokevirtual 92, 3) := by decide +kernel
theorem d_L_law_351 : decode c_L_law 351 = .ok (.istore 6, 2) := by decide +kernel
theorem d_L_law_353 : decode c_L_law 353 = .ok (.aload_n 2, 1) := by decide +kernel
theorem d_L_law_354 : decode c_L_law 354 = .ok (.invokevirtual 83, 3) := by decide +kernel
theorem d_L_law_357 : decode c_L_law 357 = .ok (.iload 5, 2) := by decide +kernel
theorem d_L_law_359 : decode c_L_law 359 = .ok (.if_icmp .eq (5), 3) := by decide +kernel
theorem d_L_law_362 : decode c_L_law 362 = .ok (.iconst (0), 1) := by decide +kernel
theorem d_L_law_363 : decode c_L_law 363 = .ok (.ireturn, 1) := by decide +kernel
theorem d_L_law_364 : decode c_L_law 364 = .ok (.iload 5, 2) := by decide +kernel
theorem d_L_law_366 : decode c_L_law 366 = .ok (.ifCond .ne (15), 3) := by decide +kernel
theorem d_L_law_369 : decode c_L_law 369 = .ok (.aload_n 3, 1) := by decide +kernel
theorem d_L_law_370 : decode c_L_law 370 = .ok (.iconst (0), 1) := by decide +kernel
theorem d_L_law_371 : decode c_L_law 371 = .ok (.laload, 1) := by decide +kernel
theorem d_L_law_372 : decode c_L_law 372 = .ok (.iload 6, 2) := by decide +kernel
theorem d_L_law_374 : decode c_L_law 374 = .ok (.i2l, 1) := by decide +kernel
theorem d_L_law_375 : decode c_L_law 375 = .ok (.lcmp, 1) := by decide +kernel
theorem d_L_law_376 : decode c_L_law 376 = .ok (.ifCond .eq (5), 3) := by decide +kernel
theorem d_L_law_379 : decode c_L_law 379 = .ok (.iconst (0), 1) := by decide +kernel
theorem d_L_law_380 : decode c_L_law 380 = .ok (.ireturn, 1) := by decide +kernel
theorem d_L_law_381 : decode c_L_law 381 = .ok (.goto (610), 3) := by decide +kernel
theorem d_L_law_384 : decode c_L_law 384 = .ok (.aload_n 1, 1) := by decide +kernel
theorem d_L_law_385 : decode c_L_law 385 = .ok (.aload_n 0, 1) := by decide +kernel
theorem d_L_law_386 : decode c_L_law 386 = .ok (.iload 4, 2) := by decide +kernel
theorem d_L_law_388 : decode c_L_law 388 = .ok (.iconst (1), 1) := by decide +kernel
theorem d_L_law_389 : decode c_L_law 389 = .ok (.iadd, 1) := by decide +kernel
theorem d_L_law_390 : decode c_L_law 390 = .ok (.iaload, 1) := by decide +kernel
theorem d_L_law_391 : decode c_L_law 391 = .ok (.aload_n 3, 1) := by decide +kernel
theorem d_L_law_392 : decode c_L_law 392 = .ok (.invokestatic 93, 3) := by decide +kernel
theorem d_L_law_395 : decode c_L_law 395 = .ok (.istore 5, 2) := by decide +kernel
theorem d_L_law_397 : decode c_L_law 397 = .ok (.aload_n 2, 1) := by decide +kernel
theorem d_L_law_398 : decode c_L_law 398 = .ok (.aload_n 0, 1) := by decide +kernel
theorem d_L_law_399 : decode c_L_law 399 = .ok (.iload 4, 2) := by decide +kernel
theorem d_L_law_401 : decode c_L_law 401 = .ok (.iconst (1), 1) := by decide +kernel
theorem d_L_law_402 : decode c_L_law 402 = .ok (.iadd, 1) := by decide +kernel
theorem d_L_law_403 : decode c_L_law 403 = .ok (.iaload, 1) := by decide +kernel
theorem d_L_law_404 : decode c_L_law 404 = .ok (.invokevirtual 95, 3) := by decide +kernel
theorem d_L_law_407 : decode c_L_law 407 = .ok (.istore 6, 2) := by decide +kernel
theorem d_L_law_409 : decode c_L_law 409 = .ok (.aload_n 2, 1) := by decide +kernel
theorem d_L_law_410 : decode c_L_law 410 = .ok (.invokevirtual 83, 3) := by decide +kernel
theorem d_L_law_413 : decode c_L_law 413 = .ok (.iload 5, 2) := by decide +kernel
theorem d_L_law_415 : decode c_L_law 415 = .ok (.if_icmp .eq (5), 3) := by decide +kernel
theorem d_L_law_418 : decode c_L_law 418 = .ok (.iconst (0), 1) := by decide +kernel
theorem d_L_law_419 : decode c_L_law 419 = .ok (.ireturn, 1) := by decide +kernel
theorem d_L_law_420 : decode c_L_law 420 = .ok (.iload 5, 2) := by decide +kernel
theorem d_L_law_422 : decode c_L_law 422 = .ok (.ifCond .ne (15), 3) := by decide +kernel
theorem d_L_law_425 : decode c_L_law 425 = .ok (.aload_n 3, 1) := by decide +kernel
theorem d_L_law_426 : decode c_L_law 426 = .ok (.iconst (0), 1) := by decide +kernel
theorem d_L_law_427 : decode c_L_law 427 = .ok (.laload, 1) := by decide +kernel
theorem d_L_law_428 : decode c_L_law 428 = .ok (.iload 6, 2) := by decide +kernel
theorem d_L_law_430 : decode c_L_law 430 = .ok (.i2l, 1) := by decide +kernel
theorem d_L_law_431 : decode c_L_law 431 = .ok (.lcmp, 1) := by decide +kernel
theorem d_L_law_432 : decode c_L_law 432 = .ok (.ifCond .eq (5), 3) := by decide +kernel
theorem d_L_law_435 : decode c_L_law 435 = .ok (.iconst (0), 1) := by decide +kernel
theorem d_L_law_436 : decode c_L_law 436 = .ok (.ireturn, 1) := by decide +kernel
theorem d_L_law_437 : decode c_L_law 437 = .ok (.goto (554), 3) := by decide +kernel
theorem d_L_law_440 : decode c_L_law 440 = .ok (.aload_n 1, 1) := by decide +kernel
theorem d_L_law_441 : decode c_L_law 441 = .ok (.aload_n 0, 1) := by decide +kernel
theorem d_L_law_442 : decode c_L_law 442 = .ok (.iload 4, 2) := by decide +kernel
theorem d_L_law_444 : decode c_L_law 444 = .ok (.iconst (1), 1) := by decide +kernel
theorem d_L_law_445 : decode c_L_law 445 = .ok (.iadd, 1) := by decide +kernel
theorem d_L_law_446 : decode c_L_law 446 = .ok (.iaload, 1) := by decide +kernel
theorem d_L_law_447 : decode c_L_law 447 = .ok (.aload_n 3, 1) := by decide +kernel
theorem d_L_law_448 : decode c_L_law 448 = .ok (.invokestatic 96, 3) := by decide +kernel
theorem d_L_law_451 : decode c_L_law 451 = .ok (.istore 5, 2) := by decide +kernel
theorem d_L_law_453 : decode c_L_law 453 = .ok (.aload_n 2, 1) := by decide +kernel
theorem d_L_law_454 : decode c_L_law 454 = .ok (.aload_n 0, 1) := by decide +kernel
theorem d_L_law_455 : decode c_L_law 455 = .ok (.iload 4, 2) := by decide +kernel
theorem d_L_law_457 : decode c_L_law 457 = .ok (.iconst (1), 1) := by decide +kernel
theorem d_L_law_458 : decode c_L_law 458 = .ok (.iadd, 1) := by decide +kernel
theorem d_L_law_459 : decode c_L_law 459 = .ok (.iaload, 1) := by decide +kernel
theorem d_L_law_460 : decode c_L_law 460 = .ok (.invokevirtual 98, 3) := by decide +kernel
theorem d_L_law_463 : decode c_L_law 463 = .ok (.istore 6, 2) := by decide +kernel
theorem d_L_law_465 : decode c_L_law 465 = .ok (.aload_n 2, 1) := by decide +kernel
theorem d_L_law_466 : decode c_L_law 466 = .ok (.invokevirtual 83, 3) := by decide +kernel
theorem d_L_law_469 : decode c_L_law 469 = .ok (.iload 5, 2) := by decide +kernel
theorem d_L_law_471 : decode c_L_law 471 = .ok (.if_icmp .eq (5), 3) := by decide +kernel
theorem d_L_law_474 : decode c_L_law 474 = .ok (.iconst (0), 1) := by decide +kernel
theorem d_L_law_475 : decode c_L_law 475 = .ok (.ireturn, 1) := by decide +kernel
theorem d_L_law_476 : decode c_L_law 476 = .ok (.iload 5, 2) := by decide +kernel
theorem d_L_law_478 : decode c_L_law 478 = .ok (.ifCond .ne (15), 3) := by decide +kernel
theorem d_L_law_481 : decode c_L_law 481 = .ok (.aload_n 3, 1) := by decide +kernel
theorem d_L_law_482 : decode c_L_law 482 = .ok (.iconst (0), 1) := by decide +kernel
theorem d_L_law_483 : decode c_L_law 483 = .ok (.laload, 1) := by decide +kernel
theorem d_L_law_484 : decode c_L_law 484 = .ok (.iload 6, 2) := by decide +kernel
theorem d_L_law_486 : decode c_L_law 486 = .ok (.i2l, 1) := by decide +kernel
theorem d_L_law_487 : decode c_L_law 487 = .ok (.lcmp, 1) := by decide +kernel
theorem d_L_law_488 : decode c_L_law 488 = .ok (.ifCond .eq (5), 3) := by decide +kernel
theorem d_L_law_491 : decode c_L_law 491 = .ok (.iconst (0), 1) := by decide +kernel
theorem d_L_law_492 : decode c_L_law 492 = .ok (.ireturn, 1) := by decide +kernel
theorem d_L_law_493 : decode c_L_law 493 = .ok (.goto (498), 3) := by decide +kernel
theorem d_L_law_496 : decode c_L_law 496 = .ok (.aload_n 1, 1) := by decide +kernel
theorem d_L_law_497 : decode c_L_law 497 = .ok (.aload_n 0, 1) := by decide +kernel
theorem d_L_law_498 : decode c_L_law 498 = .ok (.iload 4, 2) := by decide +kernel
theorem d_L_law_500 : decode c_L_law 500 = .ok (.iconst (1), 1) := by decide +kernel
theorem d_L_law_501 : decode c_L_law 501 = .ok (.iadd, 1) := by decide +kernel
theorem d_L_law_502 : decode c_L_law 502 = .ok (.iaload, 1) := by decide +kernel
theorem d_L_law_503 : decode c_L_law 503 = .ok (.aload_n 3, 1) := by decide +kernel
theorem d_L_law_504 : decode c_L_law 504 = .ok (.invokestatic 99, 3) := by decide +kernel
theorem d_L_law_507 : decode c_L_law 507 = .ok (.istore 5, 2) := by decide +kernel
theorem d_L_law_509 : decode c_L_law 509 = .ok (.aload_n 2, 1) := by decide +kernel
theorem d_L_law_510 : decode c_L_law 510 = .ok (.aload_n 0, 1) := by decide +kernel
theorem d_L_law_511 : decode c_L_law 511 = .ok (.iload 4, 2) := by decide +kernel
theorem d_L_law_513 : decode c_L_law 513 = .ok (.iconst (1), 1) := by decide +kernel
theorem d_L_law_514 : decode c_L_law 514 = .ok (.iadd, 1) := by decide +kernel
theorem d_L_law_515 : decode c_L_law 515 = .ok (.iaload, 1) := by decide +kernel
theorem d_L_law_516 : decode c_L_law 516 = .ok (.invokevirtual 101, 3) := by decide +kernel
theorem d_L_law_519 : decode c_L_law 519 = .ok (.istore 6, 2) := by decide +kernel
theorem d_L_law_521 : decode c_L_law 521 = .ok (.aload_n 2, 1) := by decide +kernel
theorem d_L_law_522 : decode c_L_law 522 = .ok (.invokevirtual 83, 3) := by decide +kernel
theorem d_L_law_525 : decode c_L_law 525 = .ok (.iload 5, 2) := by decide +kernel
theorem d_L_law_527 : decode c_L_law 527 = .ok (.if_icmp .eq (5), 3) := by decide +kernel
theorem d_L_law_530 : decode c_L_law 530 = .ok (.iconst (0), 1) := by decide +kernel
theorem d_L_law_531 : decode c_L_law 531 = .ok (.ireturn, 1) := by decide +kernel
theorem d_L_law_532 : decode c_L_law 532 = .ok (.iload 5, 2) := by decide +kernel
theorem d_L_law_534 : decode c_L_law 534 = .ok (.ifCond .ne (15), 3) := by decide +kernel
theorem d_L_law_537 : decode c_L_law 537 = .ok (.aload_n 3, 1) := by decide +kernel
theorem d_L_law_538 : decode c_L_law 538 = .ok (.iconst (0), 1) := by decide +kernel
theorem d_L_law_539 : decode c_L_law 539 = .ok (.laload, 1) := by decide +kernel
theorem d_L_law_540 : decode c_L_law 540 = .ok (.iload 6, 2) := by decide +kernel
theorem d_L_law_542 : decode c_L_law 542 = .ok (.i2l, 1) := by decide +kernel
theorem d_L_law_543 : decode c_L_law 543 = .ok (.lcmp, 1) := by decide +kernel
theorem d_L_law_544 : decode c_L_law 544 = .ok (.ifCond .eq (5), 3) := by decide +kernel
theorem d_L_law_547 : decode c_L_law 547 = .ok (.iconst (0), 1) := by decide +kernel
theorem d_L_law_548 : decode c_L_law 548 = .ok (.ireturn, 1) := by decide +kernel
theorem d_L_law_549 : decode c_L_law 549 = .ok (.goto (442), 3) := by decide +kernel
theorem d_L_law_552 : decode c_L_law 552 = .ok (.aload_n 1, 1) := by decide +kernel
theorem d_L_law_553 : decode c_L_law 553 = .ok (.invokevirtual 102, 3) := by decide +kernel
theorem d_L_law_556 : decode c_L_law 556 = .ok (.aload_n 2, 1) := by decide +kernel
theorem d_L_law_557 : decode c_L_law 557 = .ok (.invokevirtual 105, 3) := by decide +kernel
theorem d_L_law_560 : decode c_L_law 560 = .ok (.if_icmp .eq (431), 3) := by decide +kernel
theorem d_L_law_563 : decode c_L_law 563 = .ok (.iconst (0), 1) := by decide +kernel
theorem d_L_law_564 : decode c_L_law 564 = .ok (.ireturn, 1) := by decide +kernel
theorem d_L_law_565 : decode c_L_law 565 = .ok (.aload_n 1, 1) := by decide +kernel
theorem d_L_law_566 : decode c_L_law 566 = .ok (.aload_n 0, 1) := by decide +kernel
theorem d_L_law_567 : decode c_L_law 567 = .ok (.iload 4, 2) := by decide +kernel
theorem d_L_law_569 : decode c_L_law 569 = .ok (.iconst (1), 1) := by decide +kernel
theorem d_L_law_570 : decode c_L_law 570 = .ok (.iadd, 1) := by decide +kernel
theorem d_L_law_571 : decode c_L_law 571 = .ok (.iaload, 1) := by decide +kernel
theorem d_L_law_572 : decode c_L_law 572 = .ok (.aload_n 3, 1) := by decide +kernel
theorem d_L_law_573 : decode c_L_law 573 = .ok (.invokestatic 106, 3) := by decide +kernel
theorem d_L_law_576 : decode c_L_law 576 = .ok (.istore 5, 2) := by decide +kernel
theorem d_L_law_578 : decode c_L_law 578 = .ok (.aload_n 2, 1) := by decide +kernel
theorem d_L_law_579 : decode c_L_law 579 = .ok (.aload_n 0, 1) := by decide +kernel
theorem d_L_law_580 : decode c_L_law 580 = .ok (.iload 4, 2) := by decide +kernel
theorem d_L_law_582 : decode c_L_law 582 = .ok (.iconst (1), 1) := by decide +kernel
theorem d_L_law_583 : decode c_L_law 583 = .ok (.iadd, 1) := by decide +kernel
theorem d_L_law_584 : decode c_L_law 584 = .ok (.iaload, 1) := by decide +kernel
theorem d_L_law_585 : decode c_L_law 585 = .ok (.invokevirtual 108, 3) := by decide +kernel
theorem d_L_law_588 : decode c_L_law 588 = .ok (.istore 6, 2) := by decide +kernel
theorem d_L_law_590 : decode c_L_law 590 = .ok (.aload_n 2, 1) := by decide +kernel
theorem d_L_law_591 : decode c_L_law 591 = .ok (.invokevirtual 83, 3) := by decide +kernel
theorem d_L_law_594 : decode c_L_law 594 = .ok (.iload 5, 2) := by decide +kernel
theorem d_L_law_596 : decode c_L_law 596 = .ok (.if_icmp .eq (5), 3) := by decide +kernel
theorem d_L_law_599 : decode c_L_law 599 = .ok (.iconst (0), 1) := by decide +kernel
theorem d_L_law_600 : decode c_L_law 600 = .ok (.ireturn, 1) := by decide +kernel
theorem d_L_law_601 : decode c_L_law 601 = .ok (.iload 5, 2) := by decide +kernel
theorem d_L_law_603 : decode c_L_law 603 = .ok (.ifCond .ne (15), 3) := by decide +kernel
theorem d_L_law_606 : decode c_L_law 606 = .ok (.aload_n 3, 1) := by decide +kernel
theorem d_L_law_607 : decode c_L_law 607 = .ok (.iconst (0), 1) := by decide +kernel
theorem d_L_law_608 : decode c_L_law 608 = .ok (.laload, 1) := by decide +kernel
theorem d_L_law_609 : decode c_L_law 609 = .ok (.iload 6, 2) := by decide +kernel
theorem d_L_law_611 : decode c_L_law 611 = .ok (.i2l, 1) := by decide +kernel
theorem d_L_law_612 : decode c_L_law 612 = .ok (.lcmp, 1) := by decide +kernel
theorem d_L_law_613 : decode c_L_law 613 = .ok (.ifCond .eq (5), 3) := by decide +kernel
theorem d_L_law_616 : decode c_L_law 616 = .ok (.iconst (0), 1) := by decide +kernel
theorem d_L_law_617 : decode c_L_law 617 = .ok (.ireturn, 1) := by decide +kernel
theorem d_L_law_618 : decode c_L_law 618 = .ok (.goto (373), 3) := by decide +kernel
theorem d_L_law_621 : decode c_L_law 621 = .ok (.aload_n 1, 1) := by decide +kernel
theorem d_L_law_622 : decode c_L_law 622 = .ok (.aload_n 0, 1) := by decide +kernel
theorem d_L_law_623 : decode c_L_law 623 = .ok (.iload 4, 2) := by decide +kernel
theorem d_L_law_625 : decode c_L_law 625 = .ok (.iconst (1), 1) := by decide +kernel
theorem d_L_law_626 : decode c_L_law 626 = .ok (.iadd, 1) := by decide +kernel
theorem d_L_law_627 : decode c_L_law 627 = .ok (.iaload, 1) := by decide +kernel
theorem d_L_law_628 : decode c_L_law 628 = .ok (.aload_n 0, 1) := by decide +kernel
theorem d_L_law_629 : decode c_L_law 629 = .ok (.iload 4, 2) := by decide +kernel
theorem d_L_law_631 : decode c_L_law 631 = .ok (.iconst (2), 1) := by decide +kernel
theorem d_L_law_632 : decode c_L_law 632 = .ok (.iadd, 1) := by decide +kernel
theorem d_L_law_633 : decode c_L_law 633 = .ok (.iaload, 1) := by decide +kernel
theorem d_L_law_634 : decode c_L_law 634 = .ok (.aload_n 0, 1) := by decide +kernel
theorem d_L_law_635 : decode c_L_law 635 = .ok (.iload 4, 2) := by decide +kernel
theorem d_L_law_637 : decode c_L_law 637 = .ok (.iconst (3), 1) := by decide +kernel
theorem d_L_law_638 : decode c_L_law 638 = .ok (.iadd, 1) := by decide +kernel
theorem d_L_law_639 : decode c_L_law 639 = .ok (.iaload, 1) := by decide +kernel
theorem d_L_law_640 : decode c_L_law 640 = .ok (.aload_n 0, 1) := by decide +kernel
theorem d_L_law_641 : decode c_L_law 641 = .ok (.iload 4, 2) := by decide +kernel
theorem d_L_law_643 : decode c_L_law 643 = .ok (.iconst (4), 1) := by decide +kernel
theorem d_L_law_644 : decode c_L_law 644 = .ok (.iadd, 1) := by decide +kernel
theorem d_L_law_645 : decode c_L_law 645 = .ok (.iaload, 1) := by decide +kernel
theorem d_L_law_646 : decode c_L_law 646 = .ok (.aload_n 3, 1) := by decide +kernel
theorem d_L_law_647 : decode c_L_law 647 = .ok (.invokestatic 109, 3) := by decide +kernel
theorem d_L_law_650 : decode c_L_law 650 = .ok (.istore 5, 2) := by decide +kernel
theorem d_L_law_652 : decode c_L_law 652 = .ok (.aload_n 2, 1) := by decide +kernel
theorem d_L_law_653 : decode c_L_law 653 = .ok (.aload_n 0, 1) := by decide +kernel
theorem d_L_law_654 : decode c_L_law 654 = .ok (.iload 4, 2) := by decide +kernel
theorem d_L_law_656 : decode c_L_law 656 = .ok (.iconst (1), 1) := by decide +kernel
theorem d_L_law_657 : decode c_L_law 657 = .ok (.iadd, 1) := by decide +kernel
theorem d_L_law_658 : decode c_L_law 658 = .ok (.iaload, 1) := by decide +kernel
theorem d_L_law_659 : decode c_L_law 659 = .ok (.aload_n 0, 1) := by decide +kernel
theorem d_L_law_660 : decode c_L_law 660 = .ok (.iload 4, 2) := by decide +kernel
theorem d_L_law_662 : decode c_L_law 662 = .ok (.iconst (2), 1) := by decide +kernel
theorem d_L_law_663 : decode c_L_law 663 = .ok (.iadd, 1) := by decide +kernel
theorem d_L_law_664 : decode c_L_law 664 = .ok (.iaload, 1) := by decide +kernel
theorem d_L_law_665 : decode c_L_law 665 = .ok (.aload_n 0, 1) := by decide +kernel
theorem d_L_law_666 : decode c_L_law 666 = .ok (.iload 4, 2) := by decide +kernel
theorem d_L_law_668 : decode c_L_law 668 = .ok (.iconst (3), 1) := by decide +kernel
theorem d_L_law_669 : decode c_L_law 669 = .ok (.iadd, 1) := by decide +kernel
theorem d_L_law_670 : decode c_L_law 670 = .ok (.iaload, 1) := by decide +kernel
theorem d_L_law_671 : decode c_L_law 671 = .ok (.aload_n 0, 1) := by decide +kernel
theorem d_L_law_672 : decode c_L_law 672 = .ok (.iload 4, 2) := by decide +kernel
theorem d_L_law_674 : decode c_L_law 674 = .ok (.iconst (4), 1) := by decide +kernel
theorem d_L_law_675 : decode c_L_law 675 = .ok (.iadd, 1) := by decide +kernel
theorem d_L_law_676 : decode c_L_law 676 = .ok (.iaload, 1) := by decide +kernel
theorem d_L_law_677 : decode c_L_law 677 = .ok (.invokevirtual 112, 3) := by decide +kernel
theorem d_L_law_680 : decode c_L_law 680 = .ok (.istore 6, 2) := by decide +kernel
theorem d_L_law_682 : decode c_L_law 682 = .ok (.aload_n 2, 1) := by decide +kernel
theorem d_L_law_683 : decode c_L_law 683 = .ok (.invokevirtual 83, 3) := by decide +kernel
theorem d_L_law_686 : decode c_L_law 686 = .ok (.iload 5, 2) := by decide +kernel
theorem d_L_law_688 : decode c_L_law 688 = .ok (.if_icmp .eq (5), 3) := by decide +kernel
theorem d_L_law_691 : decode c_L_law 691 = .ok (.iconst (0), 1) := by decide +kernel
theorem d_L_law_692 : decode c_L_law 692 = .ok (.ireturn, 1) := by decide +kernel
theorem d_L_law_693 : decode c_L_law 693 = .ok (.iload 5, 2) := by decide +kernel
theorem d_L_law_695 : decode c_L_law 695 = .ok (.ifCond .ne (15), 3) := by decide +kernel
theorem d_L_law_698 : decode c_L_law 698 = .ok (.aload_n 3, 1) := by decide +kernel
theorem d_L_law_699 : decode c_L_law 699 = .ok (.iconst (0), 1) := by decide +kernel
theorem d_L_law_700 : decode c_L_law 700 = .ok (.laload, 1) := by decide +kernel
theorem d_L_law_701 : decode c_L_law 701 = .ok (.iload 6, 2) := by decide +kernel
theorem d_L_law_703 : decode c_L_law 703 = .ok (.i2l, 1) := by decide +kernel
theorem d_L_law_704 : decode c_L_law 704 = .ok (.lcmp, 1) := by decide +kernel
theorem d_L_law_705 : decode c_L_law 705 = .ok (.ifCond .eq (5), 3) := by decide +kernel
theorem d_L_law_708 : decode c_L_law 708 = .ok (.iconst (0), 1) := by decide +kernel
theorem d_L_law_709 : decode c_L_law 709 = .ok (.ireturn, 1) := by decide +kernel
theorem d_L_law_710 : decode c_L_law 710 = .ok (.goto (281), 3) := by decide +kernel
theorem d_L_law_713 : decode c_L_law 713 = .ok (.aload_n 1, 1) := by decide +kernel
theorem d_L_law_714 : decode c_L_law 714 = .ok (.aload_n 0, 1) := by decide +kernel
theorem d_L_law_715 : decode c_L_law 715 = .ok (.iload 4, 2) := by decide +kernel
theorem d_L_law_717 : decode c_L_law 717 = .ok (.iconst (1), 1) := by decide +kernel
theorem d_L_law_718 : decode c_L_law 718 = .ok (.iadd, 1) := by decide +kernel
theorem d_L_law_719 : decode c_L_law 719 = .ok (.iaload, 1) := by decide +kernel
theorem d_L_law_720 : decode c_L_law 720 = .ok (.aload_n 0, 1) := by decide +kernel
theorem d_L_law_721 : decode c_L_law 721 = .ok (.iload 4, 2) := by decide +kernel
theorem d_L_law_723 : decode c_L_law 723 = .ok (.iconst (2), 1) := by decide +kernel
theorem d_L_law_724 : decode c_L_law 724 = .ok (.iadd, 1) := by decide +kernel
theorem d_L_law_725 : decode c_L_law 725 = .ok (.iaload, 1) := by decide +kernel
theorem d_L_law_726 : decode c_L_law 726 = .ok (.aload_n 0, 1) := by decide +kernel
theorem d_L_law_727 : decode c_L_law 727 = .ok (.iload 4, 2) := by decide +kernel
theorem d_L_law_729 : decode c_L_law 729 = .ok (.iconst (3), 1) := by decide +kernel
theorem d_L_law_730 : decode c_L_law 730 = .ok (.iadd, 1) := by decide +kernel
theorem d_L_law_731 : decode c_L_law 731 = .ok (.iaload, 1) := by decide +kernel
theorem d_L_law_732 : decode c_L_law 732 = .ok (.aload_n 3, 1) := by decide +kernel
theorem d_L_law_733 : decode c_L_law 733 = .ok (.invokestatic 113, 3) := by decide +kernel
theorem d_L_law_736 : decode c_L_law 736 = .ok (.istore 5, 2) := by decide +kernel
theorem d_L_law_738 : decode c_L_law 738 = .ok (.aload_n 2, 1) := by decide +kernel
theorem d_L_law_739 : decode c_L_law 739 = .ok (.aload_n 0, 1) := by decide +kernel
theorem d_L_law_740 : decode c_L_law 740 = .ok (.iload 4, 2) := by decide +kernel
theorem d_L_law_742 : decode c_L_law 742 = .ok (.iconst (1), 1) := by decide +kernel
theorem d_L_law_743 : decode c_L_law 743 = .ok (.iadd, 1) := by decide +kernel
theorem d_L_law_744 : decode c_L_law 744 = .ok (.iaload, 1) := by decide +kernel
theorem d_L_law_745 : decode c_L_law 745 = .ok (.aload_n 0, 1) := by decide +kernel
theorem d_L_law_746 : decode c_L_law 746 = .ok (.iload 4, 2) := by decide +kernel
theorem d_L_law_748 : decode c_L_law 748 = .ok (.iconst (2), 1) := by decide +kernel
theorem d_L_law_749 : decode c_L_law 749 = .ok (.iadd, 1) := by decide +kernel
theorem d_L_law_750 : decode c_L_law 750 = .ok (.iaload, 1) := by decide +kernel
theorem d_L_law_751 : decode c_L_law 751 = .ok (.aload_n 0, 1) := by decide +kernel
theorem d_L_law_752 : decode c_L_law 752 = .ok (.iload 4, 2) := by decide +kernel
theorem d_L_law_754 : decode c_L_law 754 = .ok (.iconst (3), 1) := by decide +kernel
theorem d_L_law_755 : decode c_L_law 755 = .ok (.iadd, 1) := by decide +kernel
theorem d_L_law_756 : decode c_L_law 756 = .ok (.iaload, 1) := by decide +kernel
theorem d_L_law_757 : decode c_L_law 757 = .ok (.invokevirtual 116, 3) := by decide +kernel
theorem d_L_law_760 : decode c_L_law 760 = .ok (.istore 6, 2) := by decide +kernel
theorem d_L_law_762 : decode c_L_law 762 = .ok (.aload_n 2, 1) := by decide +kernel
theorem d_L_law_763 : decode c_L_law 763 = .ok (.invokevirtual 83, 3) := by decide +kernel
theorem d_L_law_766 : decode c_L_law 766 = .ok (.iload 5, 2) := by decide +kernel
theorem d_L_law_768 : decode c_L_law 768 = .ok (.if_icmp .eq (5), 3) := by decide +kernel
theorem d_L_law_771 : decode c_L_law 771 = .ok (.iconst (0), 1) := by decide +kernel
theorem d_L_law_772 : decode c_L_law 772 = .ok (.ireturn, 1) := by decide +kernel
theorem d_L_law_773 : decode c_L_law 773 = .ok (.iload 5, 2) := by decide +kernel
theorem d_L_law_775 : decode c_L_law 775 = .ok (.ifCond .ne (15), 3) := by decide +kernel
theorem d_L_law_778 : decode c_L_law 778 = .ok (.aload_n 3, 1) := by decide +kernel
theorem d_L_law_779 : decode c_L_law 779 = .ok (.iconst (0), 1) := by decide +kernel
theorem d_L_law_780 : decode c_L_law 780 = .ok (.laload, 1) := by decide +kernel
theorem d_L_law_781 : decode c_L_law 781 = .ok (.iload 6, 2) := by decide +kernel
theorem d_L_law_783 : decode c_L_law 783 = .ok (.i2l, 1) := by decide +kernel
theorem d_L_law_784 : decode c_L_law 784 = .ok (.lcmp, 1) := by decide +kernel
theorem d_L_law_785 : decode c_L_law 785 = .ok (.ifCond .eq (5), 3) := by decide +kernel
theorem d_L_law_788 : decode c_L_law 788 = .ok (.iconst (0), 1) := by decide +kernel
theorem d_L_law_789 : decode c_L_law 789 = .ok (.ireturn, 1) := by decide +kernel
theorem d_L_law_790 : decode c_L_law 790 = .ok (.goto (201), 3) := by decide +kernel
theorem d_L_law_793 : decode c_L_law 793 = .ok (.aload_n 1, 1) := by decide +kernel
theorem d_L_law_794 : decode c_L_law 794 = .ok (.aload_n 0, 1) := by decide +kernel
theorem d_L_law_795 : decode c_L_law 795 = .ok (.iload 4, 2) := by decide +kernel
theorem d_L_law_797 : decode c_L_law 797 = .ok (.iconst (1), 1) := by decide +kernel
theorem d_L_law_798 : decode c_L_law 798 = .ok (.iadd, 1) := by decide +kernel
theorem d_L_law_799 : decode c_L_law 799 = .ok (.iaload, 1) := by decide +kernel
theorem d_L_law_800 : decode c_L_law 800 = .ok (.aload_n 0, 1) := by decide +kernel
theorem d_L_law_801 : decode c_L_law 801 = .ok (.iload 4, 2) := by decide +kernel
theorem d_L_law_803 : decode c_L_law 803 = .ok (.iconst (2), 1) := by decide +kernel
theorem d_L_law_804 : decode c_L_law 804 = .ok (.iadd, 1) := by decide +kernel
theorem d_L_law_805 : decode c_L_law 805 = .ok (.iaload, 1) := by decide +kernel
theorem d_L_law_806 : decode c_L_law 806 = .ok (.aload_n 0, 1) := by decide +kernel
theorem d_L_law_807 : decode c_L_law 807 = .ok (.iload 4, 2) := by decide +kernel
theorem d_L_law_809 : decode c_L_law 809 = .ok (.iconst (3), 1) := by decide +kernel
theorem d_L_law_810 : decode c_L_law 810 = .ok (.iadd, 1) := by decide +kernel
theorem d_L_law_811 : decode c_L_law 811 = .ok (.iaload, 1) := by decide +kernel
theorem d_L_law_812 : decode c_L_law 812 = .ok (.aload_n 3, 1) := by decide +kernel
theorem d_L_law_813 : decode c_L_law 813 = .ok (.invokestatic 117, 3) := by decide +kernel
theorem d_L_law_816 : decode c_L_law 816 = .ok (.istore 5, 2) := by decide +kernel
theorem d_L_law_818 : decode c_L_law 818 = .ok (.aload_n 2, 1) := by decide +kernel
theorem d_L_law_819 : decode c_L_law 819 = .ok (.aload_n 0, 1) := by decide +kernel
theorem d_L_law_820 : decode c_L_law 820 = .ok (.iload 4, 2) := by decide +kernel
theorem d_L_law_822 : decode c_L_law 822 = .ok (.iconst (1), 1) := by decide +kernel
theorem d_L_law_823 : decode c_L_law 823 = .ok (.iadd, 1) := by decide +kernel
theorem d_L_law_824 : decode c_L_law 824 = .ok (.iaload, 1) := by decide +kernel
theorem d_L_law_825 : decode c_L_law 825 = .ok (.aload_n 0, 1) := by decide +kernel
theorem d_L_law_826 : decode c_L_law 826 = .ok (.iload 4, 2) := by decide +kernel
theorem d_L_law_828 : decode c_L_law 828 = .ok (.iconst (2), 1) := by decide +kernel
theorem d_L_law_829 : decode c_L_law 829 = .ok (.iadd, 1) := by decide +kernel
theorem d_L_law_830 : decode c_L_law 830 = .ok (.iaload, 1) := by decide +kernel
theorem d_L_law_831 : decode c_L_law 831 = .ok (.aload_n 0, 1) := by decide +kernel
theorem d_L_law_832 : decode c_L_law 832 = .ok (.iload 4, 2) := by decide +kernel
theorem d_L_law_834 : decode c_L_law 834 = .ok (.iconst (3), 1) := by decide +kernel
theorem d_L_law_835 : decode c_L_law 835 = .ok (.iadd, 1) := by decide +kernel
theorem d_L_law_836 : decode c_L_law 836 = .ok (.iaload, 1) := by decide +kernel
theorem d_L_law_837 : decode c_L_law 837 = .ok (.invokevirtual 119, 3) := by decide +kernel
theorem d_L_law_840 : decode c_L_law 840 = .ok (.istore 6, 2) := by decide +kernel
theorem d_L_law_842 : decode c_L_law 842 = .ok (.aload_n 2, 1) := by decide +kernel
theorem d_L_law_843 : decode c_L_law 843 = .ok (.invokevirtual 83, 3) := by decide +kernel
theorem d_L_law_846 : decode c_L_law 846 = .ok (.iload 5, 2) := by decide +kernel
theorem d_L_law_848 : decode c_L_law 848 = .ok (.if_icmp .eq (5), 3) := by decide +kernel
theorem d_L_law_851 : decode c_L_law 851 = .ok (.iconst (0), 1) := by decide +kernel
theorem d_L_law_852 : decode c_L_law 852 = .ok (.ireturn, 1) := by decide +kernel
theorem d_L_law_853 : decode c_L_law 853 = .ok (.iload 5, 2) := by decide +kernel
theorem d_L_law_855 : decode c_L_law 855 = .ok (.ifCond .ne (15), 3) := by decide +kernel
theorem d_L_law_858 : decode c_L_law 858 = .ok (.aload_n 3, 1) := by decide +kernel
theorem d_L_law_859 : decode c_L_law 859 = .ok (.iconst (0), 1) := by decide +kernel
theorem d_L_law_860 : decode c_L_law 860 = .ok (.laload, 1) := by decide +kernel
theorem d_L_law_861 : decode c_L_law 861 = .ok (.iload 6, 2) := by decide +kernel
theorem d_L_law_863 : decode c_L_law 863 = .ok (.i2l, 1) := by decide +kernel
theorem d_L_law_864 : decode c_L_law 864 = .ok (.lcmp, 1) := by decide +kernel
theorem d_L_law_865 : decode c_L_law 865 = .ok (.ifCond .eq (5), 3) := by decide +kernel
theorem d_L_law_868 : decode c_L_law 868 = .ok (.iconst (0), 1) := by decide +kernel
theorem d_L_law_869 : decode c_L_law 869 = .ok (.ireturn, 1) := by decide +kernel
theorem d_L_law_870 : decode c_L_law 870 = .ok (.goto (121), 3) := by decide +kernel
theorem d_L_law_873 : decode c_L_law 873 = .ok (.aload_n 1, 1) := by decide +kernel
theorem d_L_law_874 : decode c_L_law 874 = .ok (.aload_n 0, 1) := by decide +kernel
theorem d_L_law_875 : decode c_L_law 875 = .ok (.iload 4, 2) := by decide +kernel
theorem d_L_law_877 : decode c_L_law 877 = .ok (.iconst (1), 1) := by decide +kernel
theorem d_L_law_878 : decode c_L_law 878 = .ok (.iadd, 1) := by decide +kernel
theorem d_L_law_879 : decode c_L_law 879 = .ok (.iaload, 1) := by decide +kernel
theorem d_L_law_880 : decode c_L_law 880 = .ok (.invokevirtual 120, 3) := by decide +kernel
theorem d_L_law_883 : decode c_L_law 883 = .ok (.aload_n 2, 1) := by decide +kernel
theorem d_L_law_884 : decode c_L_law 884 = .ok (.aload_n 0, 1) := by decide +kernel
theorem d_L_law_885 : decode c_L_law 885 = .ok (.iload 4, 2) := by decide +kernel
theorem d_L_law_887 : decode c_L_law 887 = .ok (.iconst (1), 1) := by decide +kernel
theorem d_L_law_888 : decode c_L_law 888 = .ok (.iadd, 1) := by decide +kernel
theorem d_L_law_889 : decode c_L_law 889 = .ok (.iaload, 1) := by decide +kernel
theorem d_L_law_890 : decode c_L_law 890 = .ok (.invokevirtual 123, 3) := by decide +kernel
theorem d_L_law_893 : decode c_L_law 893 = .ok (.if_icmp .eq (98), 3) := by decide +kernel
theorem d_L_law_896 : decode c_L_law 896 = .ok (.iconst (0), 1) := by decide +kernel
theorem d_L_law_897 : decode c_L_law 897 = .ok (.ireturn, 1) := by decide +kernel
theorem d_L_law_898 : decode c_L_law 898 = .ok (.aload_n 1, 1) := by decide +kernel
theorem d_L_law_899 : decode c_L_law 899 = .ok (.aload_n 0, 1) := by decide +kernel
theorem d_L_law_900 : decode c_L_law 900 = .ok (.iload 4, 2) := by decide +kernel
theorem d_L_law_902 : decode c_L_law 902 = .ok (.iconst (1), 1) := by decide +kernel
theorem d_L_law_903 : decode c_L_law 903 = .ok (.iadd, 1) := by decide +kernel
theorem d_L_law_904 : decode c_L_law 904 = .ok (.iaload, 1) := by decide +kernel
theorem d_L_law_905 : decode c_L_law 905 = .ok (.invokevirtual 124, 3) := by decide +kernel
theorem d_L_law_908 : decode c_L_law 908 = .ok (.aload_n 2, 1) := by decide +kernel
theorem d_L_law_909 : decode c_L_law 909 = .ok (.aload_n 0, 1) := by decide +kernel
theorem d_L_law_910 : decode c_L_law 910 = .ok (.iload 4, 2) := by decide +kernel
theorem d_L_law_912 : decode c_L_law 912 = .ok (.iconst (1), 1) := by decide +kernel
theorem d_L_law_913 : decode c_L_law 913 = .ok (.iadd, 1) := by decide +kernel
theorem d_L_law_914 : decode c_L_law 914 = .ok (.iaload, 1) := by decide +kernel
theorem d_L_law_915 : decode c_L_law 915 = .ok (.invokevirtual 127, 3) := by decide +kernel
theorem d_L_law_918 : decode c_L_law 918 = .ok (.if_icmp .eq (73), 3) := by decide +kernel
theorem d_L_law_921 : decode c_L_law 921 = .ok (.iconst (0), 1) := by decide +kernel
theorem d_L_law_922 : decode c_L_law 922 = .ok (.ireturn, 1) := by decide +kernel
theorem d_L_law_923 : decode c_L_law 923 = .ok (.aload_n 1, 1) := by decide +kernel
theorem d_L_law_924 : decode c_L_law 924 = .ok (.aload_n 0, 1) := by decide +kernel
theorem d_L_law_925 : decode c_L_law 925 = .ok (.iload 4, 2) := by decide +kernel
theorem d_L_law_927 : decode c_L_law 927 = .ok (.iconst (1), 1) := by decide +kernel
theorem d_L_law_928 : decode c_L_law 928 = .ok (.iadd, 1) := by decide +kernel
theorem d_L_law_929 : decode c_L_law 929 = .ok (.iaload, 1) := by decide +kernel
theorem d_L_law_930 : decode c_L_law 930 = .ok (.aload_n 0, 1) := by decide +kernel
theorem d_L_law_931 : decode c_L_law 931 = .ok (.iload 4, 2) := by decide +kernel
theorem d_L_law_933 : decode c_L_law 933 = .ok (.iconst (2), 1) := by decide +kernel
theorem d_L_law_934 : decode c_L_law 934 = .ok (.iadd, 1) := by decide +kernel
theorem d_L_law_935 : decode c_L_law 935 = .ok (.iaload, 1) := by decide +kernel
theorem d_L_law_936 : decode c_L_law 936 = .ok (.aload_n 3, 1) := by decide +kernel
theorem d_L_law_937 : decode c_L_law 937 = .ok (.invokestatic 128, 3) := by decide +kernel
theorem d_L_law_940 : decode c_L_law 940 = .ok (.istore 5, 2) := by decide +kernel
theorem d_L_law_942 : decode c_L_law 942 = .ok (.aload_n 2, 1) := by decide +kernel
theorem d_L_law_943 : decode c_L_law 943 = .ok (.aload_n 0, 1) := by decide +kernel
theorem d_L_law_944 : decode c_L_law 944 = .ok (.iload 4, 2) := by decide +kernel
theorem d_L_law_946 : decode c_L_law 946 = .ok (.iconst (1), 1) := by decide +kernel
theorem d_L_law_947 : decode c_L_law 947 = .ok (.iadd, 1) := by decide +kernel
theorem d_L_law_948 : decode c_L_law 948 = .ok (.iaload, 1) := by decide +kernel
theorem d_L_law_949 : decode c_L_law 949 = .ok (.aload_n 0, 1) := by decide +kernel
theorem d_L_law_950 : decode c_L_law 950 = .ok (.iload 4, 2) := by decide +kernel
theorem d_L_law_952 : decode c_L_law 952 = .ok (.iconst (2), 1) := by decide +kernel
theorem d_L_law_953 : decode c_L_law 953 = .ok (.iadd, 1) := by decide +kernel
theorem d_L_law_954 : decode c_L_law 954 = .ok (.iaload, 1) := by decide +kernel
theorem d_L_law_955 : decode c_L_law 955 = .ok (.invokevirtual 131, 3) := by decide +kernel
theorem d_L_law_958 : decode c_L_law 958 = .ok (.istore 6, 2) := by decide +kernel
theorem d_L_law_960 : decode c_L_law 960 = .ok (.aload_n 2, 1) := by decide +kernel
theorem d_L_law_961 : decode c_L_law 961 = .ok (.invokevirtual 83, 3) := by decide +kernel
theorem d_L_law_964 : decode c_L_law 964 = .ok (.iload 5, 2) := by decide +kernel
theorem d_L_law_966 : decode c_L_law 966 = .ok (.if_icmp .eq (5), 3) := by decide +kernel
theorem d_L_law_969 : decode c_L_law 969 = .ok (.iconst (0), 1) := by decide +kernel
theorem d_L_law_970 : decode c_L_law 970 = .ok (.ireturn, 1) := by decide +kernel
theorem d_L_law_971 : decode c_L_law 971 = .ok (.iload 5, 2) := by decide +kernel
theorem d_L_law_973 : decode c_L_law 973 = .ok (.ifCond .ne (15), 3) := by decide +kernel
theorem d_L_law_976 : decode c_L_law 976 = .ok (.aload_n 3, 1) := by decide +kernel
theorem d_L_law_977 : decode c_L_law 977 = .ok (.iconst (0), 1) := by decide +kernel
theorem d_L_law_978 : decode c_L_law 978 = .ok (.laload, 1) := by decide +kernel
theorem d_L_law_979 : decode c_L_law 979 = .ok (.iload 6, 2) := by decide +kernel
theorem d_L_law_981 : decode c_L_law 981 = .ok (.i2l, 1) := by decide +kernel
theorem d_L_law_982 : decode c_L_law 982 = .ok (.lcmp, 1) := by decide +kernel
theorem d_L_law_983 : decode c_L_law 983 = .ok (.ifCond .eq (5), 3) := by decide +kernel
theorem d_L_law_986 : decode c_L_law 986 = .ok (.iconst (0), 1) := by decide +kernel
theorem d_L_law_987 : decode c_L_law 987 = .ok (.ireturn, 1) := by decide +kernel
theorem d_L_law_988 : decode c_L_law 988 = .ok (.goto (3), 3) := by decide +kernel
theorem d_L_law_991 : decode c_L_law 991 = .ok (.iinc 4 (5), 3) := by decide +kernel
theorem d_L_law_994 : decode c_L_law 994 = .ok (.goto (-951), 3) := by decide +kernel
theorem d_L_law_997 : decode c_L_law 997 = .ok (.iconst (1), 1) := by decide +kernel
theorem d_L_law_998 : decode c_L_law 998 = .ok (.ireturn, 1) := by decide +kernel
