theorem d_La_law_0 : decode (mB m_La_law) 0 = .ok (.new 8, 3) := by decide +kernel
theorem d_La_law_3 : decode (mB m_La_law) 3 = .ok (.dup, 1) := by decide +kernel
theorem d_La_law_4 : decode (mB m_La_law) 4 = .ok (.invokespecial 67, 3) := by decide +kernel
theorem d_La_law_7 : decode (mB m_La_law) 7 = .ok (.astore_n 1, 1) := by decide +kernel
theorem d_La_law_8 : decode (mB m_La_law) 8 = .ok (.new 68, 3) := by decide +kernel
theorem d_La_law_11 : decode (mB m_La_law) 11 = .ok (.dup, 1) := by decide +kernel
theorem d_La_law_12 : decode (mB m_La_law) 12 = .ok (.invokespecial 70, 3) := by decide +kernel
theorem d_La_law_15 : decode (mB m_La_law) 15 = .ok (.astore_n 2, 1) := by decide +kernel
theorem d_La_law_16 : decode (mB m_La_law) 16 = .ok (.iconst 1, 1) := by decide +kernel
theorem d_La_law_17 : decode (mB m_La_law) 17 = .ok (.newarray .long, 2) := by decide +kernel
theorem d_La_law_19 : decode (mB m_La_law) 19 = .ok (.astore_n 3, 1) := by decide +kernel
theorem d_La_law_20 : decode (mB m_La_law) 20 = .ok (.iconst 1, 1) := by decide +kernel
theorem d_La_law_21 : decode (mB m_La_law) 21 = .ok (.newarray .double, 2) := by decide +kernel
theorem d_La_law_23 : decode (mB m_La_law) 23 = .ok (.astore 4, 2) := by decide +kernel
theorem d_La_law_25 : decode (mB m_La_law) 25 = .ok (.iconst 0, 1) := by decide +kernel
theorem d_La_law_26 : decode (mB m_La_law) 26 = .ok (.istore 5, 2) := by decide +kernel
theorem d_La_law_28 : decode (mB m_La_law) 28 = .ok (.iload 5, 2) := by decide +kernel
theorem d_La_law_30 : decode (mB m_La_law) 30 = .ok (.aload_n 0, 1) := by decide +kernel
theorem d_La_law_31 : decode (mB m_La_law) 31 = .ok (.arraylength, 1) := by decide +kernel
theorem d_La_law_32 : decode (mB m_La_law) 32 = .ok (.iconst 4, 1) := by decide +kernel
theorem d_La_law_33 : decode (mB m_La_law) 33 = .ok (.isub, 1) := by decide +kernel
theorem d_La_law_34 : decode (mB m_La_law) 34 = .ok (.if_icmp .gt 978, 3) := by decide +kernel
theorem d_La_law_37 : decode (mB m_La_law) 37 = .ok (.aload_n 0, 1) := by decide +kernel
theorem d_La_law_38 : decode (mB m_La_law) 38 = .ok (.iload 5, 2) := by decide +kernel
theorem d_La_law_40 : decode (mB m_La_law) 40 = .ok (.iaload, 1) := by decide +kernel
theorem d_La_law_41 : decode (mB m_La_law) 41 = .ok (.bipush 15, 2) := by decide +kernel
theorem d_La_law_43 : decode (mB m_La_law) 43 = .ok (.iand, 1) := by decide +kernel
theorem d_La_law_44 : decode (mB m_La_law) 44 = .ok (.tableswitch 962 0 14 #[76, 164, 177, 190, 234, 306, 406, 462, 506, 550, 605, 682, 782, 850, 906], 76) := by decide +kernel
theorem d_La_law_120 : decode (mB m_La_law) 120 = .ok (.aload_n 1, 1) := by decide +kernel
theorem d_La_law_121 : decode (mB m_La_law) 121 = .ok (.aload_n 0, 1) := by decide +kernel
theorem d_La_law_122 : decode (mB m_La_law) 122 = .ok (.iload 5, 2) := by decide +kernel
theorem d_La_law_124 : decode (mB m_La_law) 124 = .ok (.iconst 1, 1) := by decide +kernel
theorem d_La_law_125 : decode (mB m_La_law) 125 = .ok (.iadd, 1) := by decide +kernel
theorem d_La_law_126 : decode (mB m_La_law) 126 = .ok (.iaload, 1) := by decide +kernel
theorem d_La_law_127 : decode (mB m_La_law) 127 = .ok (.i2l, 1) := by decide +kernel
theorem d_La_law_128 : decode (mB m_La_law) 128 = .ok (.bipush 32, 2) := by decide +kernel
theorem d_La_law_130 : decode (mB m_La_law) 130 = .ok (.lshl, 1) := by decide +kernel
theorem d_La_law_131 : decode (mB m_La_law) 131 = .ok (.aload_n 0, 1) := by decide +kernel
theorem d_La_law_132 : decode (mB m_La_law) 132 = .ok (.iload 5, 2) := by decide +kernel
theorem d_La_law_134 : decode (mB m_La_law) 134 = .ok (.iconst 2, 1) := by decide +kernel
theorem d_La_law_135 : decode (mB m_La_law) 135 = .ok (.iadd, 1) := by decide +kernel
theorem d_La_law_136 : decode (mB m_La_law) 136 = .ok (.iaload, 1) := by decide +kernel
theorem d_La_law_137 : decode (mB m_La_law) 137 = .ok (.i2l, 1) := by decide +kernel
theorem d_La_law_138 : decode (mB m_La_law) 138 = .ok (.ldc2_w 71, 3) := by decide +kernel
theorem d_La_law_141 : decode (mB m_La_law) 141 = .ok (.land, 1) := by decide +kernel
theorem d_La_law_142 : decode (mB m_La_law) 142 = .ok (.lor, 1) := by decide +kernel
theorem d_La_law_143 : decode (mB m_La_law) 143 = .ok (.aload_n 3, 1) := by decide +kernel
theorem d_La_law_144 : decode (mB m_La_law) 144 = .ok (.invokestatic 73, 3) := by decide +kernel
theorem d_La_law_147 : decode (mB m_La_law) 147 = .ok (.istore 6, 2) := by decide +kernel
theorem d_La_law_149 : decode (mB m_La_law) 149 = .ok (.aload_n 2, 1) := by decide +kernel
theorem d_La_law_150 : decode (mB m_La_law) 150 = .ok (.aload_n 0, 1) := by decide +kernel
theorem d_La_law_151 : decode (mB m_La_law) 151 = .ok (.iload 5, 2) := by decide +kernel
theorem d_La_law_153 : decode (mB m_La_law) 153 = .ok (.iconst 1, 1) := by decide +kernel
theorem d_La_law_154 : decode (mB m_La_law) 154 = .ok (.iadd, 1) := by decide +kernel
theorem d_La_law_155 : decode (mB m_La_law) 155 = .ok (.iaload, 1) := by decide +kernel
theorem d_La_law_156 : decode (mB m_La_law) 156 = .ok (.i2l, 1) := by decide +kernel
theorem d_La_law_157 : decode (mB m_La_law) 157 = .ok (.bipush 32, 2) := by decide +kernel
theorem d_La_law_159 : decode (mB m_La_law) 159 = .ok (.lshl, 1) := by decide +kernel
theorem d_La_law_160 : decode (mB m_La_law) 160 = .ok (.aload_n 0, 1) := by decide +kernel
theorem d_La_law_161 : decode (mB m_La_law) 161 = .ok (.iload 5, 2) := by decide +kernel
theorem d_La_law_163 : decode (mB m_La_law) 163 = .ok (.iconst 2, 1) := by decide +kernel
theorem d_La_law_164 : decode (mB m_La_law) 164 = .ok (.iadd, 1) := by decide +kernel
theorem d_La_law_165 : decode (mB m_La_law) 165 = .ok (.iaload, 1) := by decide +kernel
theorem d_La_law_166 : decode (mB m_La_law) 166 = .ok (.i2l, 1) := by decide +kernel
theorem d_La_law_167 : decode (mB m_La_law) 167 = .ok (.ldc2_w 71, 3) := by decide +kernel
theorem d_La_law_170 : decode (mB m_La_law) 170 = .ok (.land, 1) := by decide +kernel
theorem d_La_law_171 : decode (mB m_La_law) 171 = .ok (.lor, 1) := by decide +kernel
theorem d_La_law_172 : decode (mB m_La_law) 172 = .ok (.invokevirtual 78, 3) := by decide +kernel
theorem d_La_law_175 : decode (mB m_La_law) 175 = .ok (.istore 7, 2) := by decide +kernel
theorem d_La_law_177 : decode (mB m_La_law) 177 = .ok (.aload_n 2, 1) := by decide +kernel
theorem d_La_law_178 : decode (mB m_La_law) 178 = .ok (.invokevirtual 79, 3) := by decide +kernel
theorem d_La_law_181 : decode (mB m_La_law) 181 = .ok (.iload 6, 2) := by decide +kernel
theorem d_La_law_183 : decode (mB m_La_law) 183 = .ok (.if_icmp .eq 5, 3) := by decide +kernel
theorem d_La_law_186 : decode (mB m_La_law) 186 = .ok (.iconst 0, 1) := by decide +kernel
theorem d_La_law_187 : decode (mB m_La_law) 187 = .ok (.ireturn, 1) := by decide +kernel
theorem d_La_law_188 : decode (mB m_La_law) 188 = .ok (.iload 6, 2) := by decide +kernel
theorem d_La_law_190 : decode (mB m_La_law) 190 = .ok (.ifCond .ne 15, 3) := by decide +kernel
theorem d_La_law_193 : decode (mB m_La_law) 193 = .ok (.aload_n 3, 1) := by decide +kernel
theorem d_La_law_194 : decode (mB m_La_law) 194 = .ok (.iconst 0, 1) := by decide +kernel
theorem d_La_law_195 : decode (mB m_La_law) 195 = .ok (.laload, 1) := by decide +kernel
theorem d_La_law_196 : decode (mB m_La_law) 196 = .ok (.iload 7, 2) := by decide +kernel
theorem d_La_law_198 : decode (mB m_La_law) 198 = .ok (.i2l, 1) := by decide +kernel
theorem d_La_law_199 : decode (mB m_La_law) 199 = .ok (.lcmp, 1) := by decide +kernel
theorem d_La_law_200 : decode (mB m_La_law) 200 = .ok (.ifCond .eq 5, 3) := by decide +kernel
theorem d_La_law_203 : decode (mB m_La_law) 203 = .ok (.iconst 0, 1) := by decide +kernel
theorem d_La_law_204 : decode (mB m_La_law) 204 = .ok (.ireturn, 1) := by decide +kernel
theorem d_La_law_205 : decode (mB m_La_law) 205 = .ok (.goto 801, 3) := by decide +kernel
theorem d_La_law_208 : decode (mB m_La_law) 208 = .ok (.aload_n 1, 1) := by decide +kernel
theorem d_La_law_209 : decode (mB m_La_law) 209 = .ok (.invokevirtual 82, 3) := by decide +kernel
theorem d_La_law_212 : decode (mB m_La_law) 212 = .ok (.aload_n 2, 1) := by decide +kernel
theorem d_La_law_213 : decode (mB m_La_law) 213 = .ok (.invokevirtual 85, 3) := by decide +kernel
theorem d_La_law_216 : decode (mB m_La_law) 216 = .ok (.if_icmp .eq 790, 3) := by decide +kernel
theorem d_La_law_219 : decode (mB m_La_law) 219 = .ok (.iconst 0, 1) := by decide +kernel
theorem d_La_law_220 : decode (mB m_La_law) 220 = .ok (.ireturn, 1) := by decide +kernel
theorem d_La_law_221 : decode (mB m_La_law) 221 = .ok (.aload_n 1, 1) := by decide +kernel
theorem d_La_law_222 : decode (mB m_La_law) 222 = .ok (.invokevirtual 86, 3) := by decide +kernel
theorem d_La_law_225 : decode (mB m_La_law) 225 = .ok (.aload_n 2, 1) := by decide +kernel
theorem d_La_law_226 : decode (mB m_La_law) 226 = .ok (.invokevirtual 89, 3) := by decide +kernel
theorem d_La_law_229 : decode (mB m_La_law) 229 = .ok (.if_icmp .eq 777, 3) := by decide +kernel
theorem d_La_law_232 : decode (mB m_La_law) 232 = .ok (.iconst 0, 1) := by decide +kernel
theorem d_La_law_233 : decode (mB m_La_law) 233 = .ok (.ireturn, 1) := by decide +kernel
theorem d_La_law_234 : decode (mB m_La_law) 234 = .ok (.aload_n 1, 1) := by decide +kernel
theorem d_La_law_235 : decode (mB m_La_law) 235 = .ok (.aload_n 3, 1) := by decide +kernel
theorem d_La_law_236 : decode (mB m_La_law) 236 = .ok (.invokestatic 90, 3) := by decide +kernel
theorem d_La_law_239 : decode (mB m_La_law) 239 = .ok (.istore 6, 2) := by decide +kernel
theorem d_La_law_241 : decode (mB m_La_law) 241 = .ok (.aload_n 2, 1) := by decide +kernel
theorem d_La_law_242 : decode (mB m_La_law) 242 = .ok (.invokevirtual 93, 3) := by decide +kernel
theorem d_La_law_245 : decode (mB m_La_law) 245 = .ok (.istore 7, 2) := by decide +kernel
theorem d_La_law_247 : decode (mB m_La_law) 247 = .ok (.aload_n 2, 1) := by decide +kernel
theorem d_La_law_248 : decode (mB m_La_law) 248 = .ok (.invokevirtual 79, 3) := by decide +kernel
theorem d_La_law_251 : decode (mB m_La_law) 251 = .ok (.iload 6, 2) := by decide +kernel
theorem d_La_law_253 : decode (mB m_La_law) 253 = .ok (.if_icmp .eq 5, 3) := by decide +kernel
theorem d_La_law_256 : decode (mB m_La_law) 256 = .ok (.iconst 0, 1) := by decide +kernel
theorem d_La_law_257 : decode (mB m_La_law) 257 = .ok (.ireturn, 1) := by decide +kernel
theorem d_La_law_258 : decode (mB m_La_law) 258 = .ok (.iload 6, 2) := by decide +kernel
theorem d_La_law_260 : decode (mB m_La_law) 260 = .ok (.ifCond .ne 15, 3) := by decide +kernel
theorem d_La_law_263 : decode (mB m_La_law) 263 = .ok (.aload_n 3, 1) := by decide +kernel
theorem d_La_law_264 : decode (mB m_La_law) 264 = .ok (.iconst 0, 1) := by decide +kernel
theorem d_La_law_265 : decode (mB m_La_law) 265 = .ok (.laload, 1) := by decide +kernel
theorem d_La_law_266 : decode (mB m_La_law) 266 = .ok (.iload 7, 2) := by decide +kernel
theorem d_La_law_268 : decode (mB m_La_law) 268 = .ok (.i2l, 1) := by decide +kernel
theorem d_La_law_269 : decode (mB m_La_law) 269 = .ok (.lcmp, 1) := by decide +kernel
theorem d_La_law_270 : decode (mB m_La_law) 270 = .ok (.ifCond .eq 5, 3) := by decide +kernel
theorem d_La_law_273 : decode (mB m_La_law) 273 = .ok (.iconst 0, 1) := by decide +kernel
theorem d_La_law_274 : decode (mB m_La_law) 274 = .ok (.ireturn, 1) := by decide +kernel
theorem d_La_law_275 : decode (mB m_La_law) 275 = .ok (.goto 731, 3) := by decide +kernel
theorem d_La_law_278 : decode (mB m_La_law) 278 = .ok (.aload_n 1, 1) := by decide +kernel
theorem d_La_law_279 : decode (mB m_La_law) 279 = .ok (.aload_n 0, 1) := by decide +kernel
theorem d_La_law_280 : decode (mB m_La_law) 280 = .ok (.iload 5, 2) := by decide +kernel
theorem d_La_law_282 : decode (mB m_La_law) 282 = .ok (.iconst 1, 1) := by decide +kernel
theorem d_La_law_283 : decode (mB m_La_law) 283 = .ok (.iadd, 1) := by decide +kernel
theorem d_La_law_284 : decode (mB m_La_law) 284 = .ok (.iaload, 1) := by decide +kernel
theorem d_La_law_285 : decode (mB m_La_law) 285 = .ok (.ifCond .eq 7, 3) := by decide +kernel
theorem d_La_law_288 : decode (mB m_La_law) 288 = .ok (.iconst 1, 1) := by decide +kernel
theorem d_La_law_289 : decode (mB m_La_law) 289 = .ok (.goto 4, 3) := by decide +kernel
theorem d_La_law_292 : decode (mB m_La_law) 292 = .ok (.iconst 0, 1) := by decide +kernel
theorem d_La_law_293 : decode (mB m_La_law) 293 = .ok (.aload_n 3, 1) := by decide +kernel
theorem d_La_law_294 : decode (mB m_La_law) 294 = .ok (.invokestatic 94, 3) := by decide +kernel
theorem d_La_law_297 : decode (mB m_La_law) 297 = .ok (.istore 6, 2) := by decide +kernel
theorem d_La_law_299 : decode (mB m_La_law) 299 = .ok (.aload_n 2, 1) := by decide +kernel
theorem d_La_law_300 : decode (mB m_La_law) 300 = .ok (.aload_n 0, 1) := by decide +kernel
theorem d_La_law_301 : decode (mB m_La_law) 301 = .ok (.iload 5, 2) := by decide +kernel
theorem d_La_law_303 : decode (mB m_La_law) 303 = .ok (.iconst 1, 1) := by decide +kernel
theorem d_La_law_304 : decode (mB m_La_law) 304 = .ok (.iadd, 1) := by decide +kernel
theorem d_La_law_305 : decode (mB m_La_law) 305 = .ok (.iaload, 1) := by decide +kernel
theorem d_La_law_306 : decode (mB m_La_law) 306 = .ok (.ifCond .eq 7, 3) := by decide +kernel
theorem d_La_law_309 : decode (mB m_La_law) 309 = .ok (.iconst 1, 1) := by decide +kernel
theorem d_La_law_310 : decode (mB m_La_law) 310 = .ok (.goto 4, 3) := by decide +kernel
theorem d_La_law_313 : decode (mB m_La_law) 313 = .ok (.iconst 0, 1) := by decide +kernel
theorem d_La_law_314 : decode (mB m_La_law) 314 = .ok (.invokevirtual 97, 3) := by decide +kernel
theorem d_La_law_317 : decode (mB m_La_law) 317 = .ok (.istore 7, 2) := by decide +kernel
theorem d_La_law_319 : decode (mB m_La_law) 319 = .ok (.aload_n 2, 1) := by decide +kernel
theorem d_La_law_320 : decode (mB m_La_law) 320 = .ok (.invokevirtual 79, 3) := by decide +kernel
theorem d_La_law_323 : decode (mB m_La_law) 323 = .ok (.iload 6, 2) := by decide +kernel
theorem d_La_law_325 : decode (mB m_La_law) 325 = .ok (.if_icmp .eq 5, 3) := by decide +kernel
theorem d_La_law_328 : decode (mB m_La_law) 328 = .ok (.iconst 0, 1) := by decide +kernel
theorem d_La_law_329 : decode (mB m_La_law) 329 = .ok (.ireturn, 1) := by decide +kernel
theorem d_La_law_330 : decode (mB m_La_law) 330 = .ok (.iload 6, 2) := by decide +kernel
theorem d_La_law_332 : decode (mB m_La_law) 332 = .ok (.ifCond .ne 15, 3) := by decide +kernel
theorem d_La_law_335 : decode (mB m_La_law) 335 = .ok (.aload_n 3, 1) := by decide +kernel
theorem d_La_law_336 : decode (mB m_La_law) 336 = .ok (.iconst 0, 1) := by decide +kernel
theorem d_La_law_337 : decode (mB m_La_law) 337 = .ok (.laload, 1) := by decide +kernel
theorem d_La_law_338 : decode (mB m_La_law) 338 = .ok (.iload 7, 2) := by decide +kernel
theorem d_La_law_340 : decode (mB m_La_law) 340 = .ok (.i2l, 1) := by decide +kernel
theorem d_La_law_341 : decode (mB m_La_law) 341 = .ok (.lcmp, 1) := by decide +kernel
theorem d_La_law_342 : decode (mB m_La_law) 342 = .ok (.ifCond .eq 5, 3) := by decide +kernel
theorem d_La_law_345 : decode (mB m_La_law) 345 = .ok (.iconst 0, 1) := by decide +kernel
theorem d_La_law_346 : decode (mB m_La_law) 346 = .ok (.ireturn, 1) := by decide +kernel
theorem d_La_law_347 : decode (mB m_La_law) 347 = .ok (.goto 659, 3) := by decide +kernel
theorem d_La_law_350 : decode (mB m_La_law) 350 = .ok (.aload_n 1, 1) := by decide +kernel
theorem d_La_law_351 : decode (mB m_La_law) 351 = .ok (.aload_n 0, 1) := by decide +kernel
theorem d_La_law_352 : decode (mB m_La_law) 352 = .ok (.iload 5, 2) := by decide +kernel
theorem d_La_law_354 : decode (mB m_La_law) 354 = .ok (.iconst 1, 1) := by decide +kernel
theorem d_La_law_355 : decode (mB m_La_law) 355 = .ok (.iadd, 1) := by decide +kernel
theorem d_La_law_356 : decode (mB m_La_law) 356 = .ok (.iaload, 1) := by decide +kernel
theorem d_La_law_357 : decode (mB m_La_law) 357 = .ok (.i2l, 1) := by decide +kernel
theorem d_La_law_358 : decode (mB m_La_law) 358 = .ok (.bipush 32, 2) := by decide +kernel
theorem d_La_law_360 : decode (mB m_La_law) 360 = .ok (.lshl, 1) := by decide +kernel
theorem d_La_law_361 : decode (mB m_La_law) 361 = .ok (.aload_n 0, 1) := by decide +kernel
theorem d_La_law_362 : decode (mB m_La_law) 362 = .ok (.iload 5, 2) := by decide +kernel
theorem d_La_law_364 : decode (mB m_La_law) 364 = .ok (.iconst 2, 1) := by decide +kernel
theorem d_La_law_365 : decode (mB m_La_law) 365 = .ok (.iadd, 1) := by decide +kernel
theorem d_La_law_366 : decode (mB m_La_law) 366 = .ok (.iaload, 1) := by decide +kernel
theorem d_La_law_367 : decode (mB m_La_law) 367 = .ok (.i2l, 1) := by decide +kernel
theorem d_La_law_368 : decode (mB m_La_law) 368 = .ok (.ldc2_w 71, 3) := by decide +kernel
theorem d_La_law_371 : decode (mB m_La_law) 371 = .ok (.land, 1) := by decide +kernel
theorem d_La_law_372 : decode (mB m_La_law) 372 = .ok (.lor, 1) := by decide +kernel
theorem d_La_law_373 : decode (mB m_La_law) 373 = .ok (.aload_n 0, 1) := by decide +kernel
theorem d_La_law_374 : decode (mB m_La_law) 374 = .ok (.iload 5, 2) := by decide +kernel
theorem d_La_law_376 : decode (mB m_La_law) 376 = .ok (.iconst 3, 1) := by decide +kernel
theorem d_La_law_377 : decode (mB m_La_law) 377 = .ok (.iadd, 1) := by decide +kernel
theorem d_La_law_378 : decode (mB m_La_law) 378 = .ok (.iaload, 1) := by decide +kernel
theorem d_La_law_379 : decode (mB m_La_law) 379 = .ok (.aload_n 3, 1) := by decide +kernel
theorem d_La_law_380 : decode (mB m_La_law) 380 = .ok (.invokestatic 98, 3) := by decide +kernel
theorem d_La_law_383 : decode (mB m_La_law) 383 = .ok (.istore 6, 2) := by decide +kernel
theorem d_La_law_385 : decode (mB m_La_law) 385 = .ok (.aload_n 2, 1) := by decide +kernel
theorem d_La_law_386 : decode (mB m_La_law) 386 = .ok (.aload_n 0, 1) := by decide +kernel
theorem d_La_law_387 : decode (mB m_La_law) 387 = .ok (.iload 5, 2) := by decide +kernel
theorem d_La_law_389 : decode (mB m_La_law) 389 = .ok (.iconst 1, 1) := by decide +kernel
theorem d_La_law_390 : decode (mB m_La_law) 390 = .ok (.iadd, 1) := by decide +kernel
theorem d_La_law_391 : decode (mB m_La_law) 391 = .ok (.iaload, 1) := by decide +kernel
theorem d_La_law_392 : decode (mB m_La_law) 392 = .ok (.i2l, 1) := by decide +kernel
theorem d_La_law_393 : decode (mB m_La_law) 393 = .ok (.bipush 32, 2) := by decide +kernel
theorem d_La_law_395 : decode (mB m_La_law) 395 = .ok (.lshl, 1) := by decide +kernel
theorem d_La_law_396 : decode (mB m_La_law) 396 = .ok (.aload_n 0, 1) := by decide +kernel
theorem d_La_law_397 : decode (mB m_La_law) 397 = .ok (.iload 5, 2) := by decide +kernel
theorem d_La_law_399 : decode (mB m_La_law) 399 = .ok (.iconst 2, 1) := by decide +kernel
theorem d_La_law_400 : decode (mB m_La_law) 400 = .ok (.iadd, 1) := by decide +kernel
theorem d_La_law_401 : decode (mB m_La_law) 401 = .ok (.iaload, 1) := by decide +kernel
theorem d_La_law_402 : decode (mB m_La_law) 402 = .ok (.i2l, 1) := by decide +kernel
theorem d_La_law_403 : decode (mB m_La_law) 403 = .ok (.ldc2_w 71, 3) := by decide +kernel
theorem d_La_law_406 : decode (mB m_La_law) 406 = .ok (.land, 1) := by decide +kernel
theorem d_La_law_407 : decode (mB m_La_law) 407 = .ok (.lor, 1) := by decide +kernel
theorem d_La_law_408 : decode (mB m_La_law) 408 = .ok (.aload_n 0, 1) := by decide +kernel
theorem d_La_law_409 : decode (mB m_La_law) 409 = .ok (.iload 5, 2) := by decide +kernel
theorem d_La_law_411 : decode (mB m_La_law) 411 = .ok (.iconst 3, 1) := by decide +kernel
theorem d_La_law_412 : decode (mB m_La_law) 412 = .ok (.iadd, 1) := by decide +kernel
theorem d_La_law_413 : decode (mB m_La_law) 413 = .ok (.iaload, 1) := by decide +kernel
theorem d_La_law_414 : decode (mB m_La_law) 414 = .ok (.invokevirtual 101, 3) := by decide +kernel
theorem d_La_law_417 : decode (mB m_La_law) 417 = .ok (.istore 7, 2) := by decide +kernel
theorem d_La_law_419 : decode (mB m_La_law) 419 = .ok (.aload_n 2, 1) := by decide +kernel
theorem d_La_law_420 : decode (mB m_La_law) 420 = .ok (.invokevirtual 79, 3) := by decide +kernel
theorem d_La_law_423 : decode (mB m_La_law) 423 = .ok (.iload 6, 2) := by decide +kernel
theorem d_La_law_425 : decode (mB m_La_law) 425 = .ok (.if_icmp .eq 5, 3) := by decide +kernel
theorem d_La_law_428 : decode (mB m_La_law) 428 = .ok (.iconst 0, 1) := by decide +kernel
theorem d_La_law_429 : decode (mB m_La_law) 429 = .ok (.ireturn, 1) := by decide +kernel
theorem d_La_law_430 : decode (mB m_La_law) 430 = .ok (.iload 6, 2) := by decide +kernel
theorem d_La_law_432 : decode (mB m_La_law) 432 = .ok (.ifCond .ne 15, 3) := by decide +kernel
theorem d_La_law_435 : decode (mB m_La_law) 435 = .ok (.aload_n 3, 1) := by decide +kernel
theorem d_La_law_436 : decode (mB m_La_law) 436 = .ok (.iconst 0, 1) := by decide +kernel
theorem d_La_law_437 : decode (mB m_La_law) 437 = .ok (.laload, 1) := by decide +kernel
theorem d_La_law_438 : decode (mB m_La_law) 438 = .ok (.iload 7, 2) := by decide +kernel
theorem d_La_law_440 : decode (mB m_La_law) 440 = .ok (.i2l, 1) := by decide +kernel
theorem d_La_law_441 : decode (mB m_La_law) 441 = .ok (.lcmp, 1) := by decide +kernel
theorem d_La_law_442 : decode (mB m_La_law) 442 = .ok (.ifCond .eq 5, 3) := by decide +kernel
theorem d_La_law_445 : decode (mB m_La_law) 445 = .ok (.iconst 0, 1) := by decide +kernel
theorem d_La_law_446 : decode (mB m_La_law) 446 = .ok (.ireturn, 1) := by decide +kernel
theorem d_La_law_447 : decode (mB m_La_law) 447 = .ok (.goto 559, 3) := by decide +kernel
theorem d_La_law_450 : decode (mB m_La_law) 450 = .ok (.aload_n 1, 1) := by decide +kernel
theorem d_La_law_451 : decode (mB m_La_law) 451 = .ok (.aload_n 0, 1) := by decide +kernel
theorem d_La_law_452 : decode (mB m_La_law) 452 = .ok (.iload 5, 2) := by decide +kernel
theorem d_La_law_454 : decode (mB m_La_law) 454 = .ok (.iconst 1, 1) := by decide +kernel
theorem d_La_law_455 : decode (mB m_La_law) 455 = .ok (.iadd, 1) := by decide +kernel
theorem d_La_law_456 : decode (mB m_La_law) 456 = .ok (.iaload, 1) := by decide +kernel
theorem d_La_law_457 : decode (mB m_La_law) 457 = .ok (.aload_n 3, 1) := by decide +kernel
theorem d_La_law_458 : decode (mB m_La_law) 458 = .ok (.invokestatic 102, 3) := by decide +kernel
theorem d_La_law_461 : decode (mB m_La_law) 461 = .ok (.istore 6, 2) := by decide +kernel
theorem d_La_law_463 : decode (mB m_La_law) 463 = .ok (.aload_n 2, 1) := by decide +kernel
theorem d_La_law_464 : decode (mB m_La_law) 464 = .ok (.aload_n 0, 1) := by decide +kernel
theorem d_La_law_465 : decode (mB m_La_law) 465 = .ok (.iload 5, 2) := by decide +kernel
theorem d_La_law_467 : decode (mB m_La_law) 467 = .ok (.iconst 1, 1) := by decide +kernel
theorem d_La_law_468 : decode (mB m_La_law) 468 = .ok (.iadd, 1) := by decide +kernel
theorem d_La_law_469 : decode (mB m_La_law) 469 = .ok (.iaload, 1) := by decide +kernel
theorem d_La_law_470 : decode (mB m_La_law) 470 = .ok (.invokevirtual 105, 3) := by decide +kernel
theorem d_La_law_473 : decode (mB m_La_law) 473 = .ok (.istore 7, 2) := by decide +kernel
theorem d_La_law_475 : decode (mB m_La_law) 475 = .ok (.aload_n 2, 1) := by decide +kernel
theorem d_La_law_476 : decode (mB m_La_law) 476 = .ok (.invokevirtual 79, 3) := by decide +kernel
theorem d_La_law_479 : decode (mB m_La_law) 479 = .ok (.iload 6, 2) := by decide +kernel
theorem d_La_law_481 : decode (mB m_La_law) 481 = .ok (.if_icmp .eq 5, 3) := by decide +kernel
theorem d_La_law_484 : decode (mB m_La_law) 484 = .ok (.iconst 0, 1) := by decide +kernel
theorem d_La_law_485 : decode (mB m_La_law) 485 = .ok (.ireturn, 1) := by decide +kernel
theorem d_La_law_486 : decode (mB m_La_law) 486 = .ok (.iload 6, 2) := by decide +kernel
theorem d_La_law_488 : decode (mB m_La_law) 488 = .ok (.ifCond .ne 15, 3) := by decide +kernel
theorem d_La_law_491 : decode (mB m_La_law) 491 = .ok (.aload_n 3, 1) := by decide +kernel
theorem d_La_law_492 : decode (mB m_La_law) 492 = .ok (.iconst 0, 1) := by decide +kernel
theorem d_La_law_493 : decode (mB m_La_law) 493 = .ok (.laload, 1) := by decide +kernel
theorem d_La_law_494 : decode (mB m_La_law) 494 = .ok (.iload 7, 2) := by decide +kernel
theorem d_La_law_496 : decode (mB m_La_law) 496 = .ok (.i2l, 1) := by decide +kernel
theorem d_La_law_497 : decode (mB m_La_law) 497 = .ok (.lcmp, 1) := by decide +kernel
theorem d_La_law_498 : decode (mB m_La_law) 498 = .ok (.ifCond .eq 5, 3) := by decide +kernel
theorem d_La_law_501 : decode (mB m_La_law) 501 = .ok (.iconst 0, 1) := by decide +kernel
theorem d_La_law_502 : decode (mB m_La_law) 502 = .ok (.ireturn, 1) := by decide +kernel
theorem d_La_law_503 : decode (mB m_La_law) 503 = .ok (.goto 503, 3) := by decide +kernel
theorem d_La_law_506 : decode (mB m_La_law) 506 = .ok (.aload_n 1, 1) := by decide +kernel
theorem d_La_law_507 : decode (mB m_La_law) 507 = .ok (.aload_n 3, 1) := by decide +kernel
theorem d_La_law_508 : decode (mB m_La_law) 508 = .ok (.invokestatic 106, 3) := by decide +kernel
theorem d_La_law_511 : decode (mB m_La_law) 511 = .ok (.istore 6, 2) := by decide +kernel
theorem d_La_law_513 : decode (mB m_La_law) 513 = .ok (.aload_n 2, 1) := by decide +kernel
theorem d_La_law_514 : decode (mB m_La_law) 514 = .ok (.invokevirtual 108, 3) := by decide +kernel
theorem d_La_law_517 : decode (mB m_La_law) 517 = .ok (.istore 7, 2) := by decide +kernel
theorem d_La_law_519 : decode (mB m_La_law) 519 = .ok (.aload_n 2, 1) := by decide +kernel
theorem d_La_law_520 : decode (mB m_La_law) 520 = .ok (.invokevirtual 79, 3) := by decide +kernel
theorem d_La_law_523 : decode (mB m_La_law) 523 = .ok (.iload 6, 2) := by decide +kernel
theorem d_La_law_525 : decode (mB m_La_law) 525 = .ok (.if_icmp .eq 5, 3) := by decide +kernel
theorem d_La_law_528 : decode (mB m_La_law) 528 = .ok (.iconst 0, 1) := by decide +kernel
theorem d_La_law_529 : decode (mB m_La_law) 529 = .ok (.ireturn, 1) := by decide +kernel
theorem d_La_law_530 : decode (mB m_La_law) 530 = .ok (.iload 6, 2) := by decide +kernel
theorem d_La_law_532 : decode (mB m_La_law) 532 = .ok (.ifCond .ne 15, 3) := by decide +kernel
theorem d_La_law_535 : decode (mB m_La_law) 535 = .ok (.aload_n 3, 1) := by decide +kernel
theorem d_La_law_536 : decode (mB m_La_law) 536 = .ok (.iconst 0, 1) := by decide +kernel
theorem d_La_law_537 : decode (mB m_La_law) 537 = .ok (.laload, 1) := by decide +kernel
theorem d_La_law_538 : decode (mB m_La_law) 538 = .ok (.iload 7, 2) := by decide +kernel
theorem d_La_law_540 : decode (mB m_La_law) 540 = .ok (.i2l, 1) := by decide +kernel
theorem d_La_law_541 : decode (mB m_La_law) 541 = .ok (.lcmp, 1) := by decide +kernel
theorem d_La_law_542 : decode (mB m_La_law) 542 = .ok (.ifCond .eq 5, 3) := by decide +kernel
theorem d_La_law_545 : decode (mB m_La_law) 545 = .ok (.iconst 0, 1) := by decide +kernel
theorem d_La_law_546 : decode (mB m_La_law) 546 = .ok (.ireturn, 1) := by decide +kernel
theorem d_La_law_547 : decode (mB m_La_law) 547 = .ok (.goto 459, 3) := by decide +kernel
theorem d_La_law_550 : decode (mB m_La_law) 550 = .ok (.aload_n 1, 1) := by decide +kernel
theorem d_La_law_551 : decode (mB m_La_law) 551 = .ok (.aload_n 3, 1) := by decide +kernel
theorem d_La_law_552 : decode (mB m_La_law) 552 = .ok (.invokestatic 109, 3) := by decide +kernel
theorem d_La_law_555 : decode (mB m_La_law) 555 = .ok (.istore 6, 2) := by decide +kernel
theorem d_La_law_557 : decode (mB m_La_law) 557 = .ok (.aload_n 2, 1) := by decide +kernel
theorem d_La_law_558 : decode (mB m_La_law) 558 = .ok (.invokevirtual 111, 3) := by decide +kernel
theorem d_La_law_561 : decode (mB m_La_law) 561 = .ok (.istore 7, 2) := by decide +kernel
theorem d_La_law_563 : decode (mB m_La_law) 563 = .ok (.aload_n 2, 1) := by decide +kernel
theorem d_La_law_564 : decode (mB m_La_law) 564 = .ok (.invokevirtual 79, 3) := by decide +kernel
theorem d_La_law_567 : decode (mB m_La_law) 567 = .ok (.iload 6, 2) := by decide +kernel
theorem d_La_law_569 : decode (mB m_La_law) 569 = .ok (.if_icmp .eq 5, 3) := by decide +kernel
theorem d_La_law_572 : decode (mB m_La_law) 572 = .ok (.iconst 0, 1) := by decide +kernel
theorem d_La_law_573 : decode (mB m_La_law) 573 = .ok (.ireturn, 1) := by decide +kernel
theorem d_La_law_574 : decode (mB m_La_law) 574 = .ok (.iload 6, 2) := by decide +kernel
theorem d_La_law_576 : decode (mB m_La_law) 576 = .ok (.ifCond .ne 15, 3) := by decide +kernel
theorem d_La_law_579 : decode (mB m_La_law) 579 = .ok (.aload_n 3, 1) := by decide +kernel
theorem d_La_law_580 : decode (mB m_La_law) 580 = .ok (.iconst 0, 1) := by decide +kernel
theorem d_La_law_581 : decode (mB m_La_law) 581 = .ok (.laload, 1) := by decide +kernel
theorem d_La_law_582 : decode (mB m_La_law) 582 = .ok (.iload 7, 2) := by decide +kernel
theorem d_La_law_584 : decode (mB m_La_law) 584 = .ok (.i2l, 1) := by decide +kernel
theorem d_La_law_585 : decode (mB m_La_law) 585 = .ok (.lcmp, 1) := by decide +kernel
theorem d_La_law_586 : decode (mB m_La_law) 586 = .ok (.ifCond .eq 5, 3) := by decide +kernel
theorem d_La_law_589 : decode (mB m_La_law) 589 = .ok (.iconst 0, 1) := by decide +kernel
theorem d_La_law_590 : decode (mB m_La_law) 590 = .ok (.ireturn, 1) := by decide +kernel
theorem d_La_law_591 : decode (mB m_La_law) 591 = .ok (.goto 415, 3) := by decide +kernel
theorem d_La_law_594 : decode (mB m_La_law) 594 = .ok (.aload_n 1, 1) := by decide +kernel
theorem d_La_law_595 : decode (mB m_La_law) 595 = .ok (.aload_n 0, 1) := by decide +kernel
theorem d_La_law_596 : decode (mB m_La_law) 596 = .ok (.iload 5, 2) := by decide +kernel
theorem d_La_law_598 : decode (mB m_La_law) 598 = .ok (.iconst 1, 1) := by decide +kernel
theorem d_La_law_599 : decode (mB m_La_law) 599 = .ok (.iadd, 1) := by decide +kernel
theorem d_La_law_600 : decode (mB m_La_law) 600 = .ok (.iaload, 1) := by decide +kernel
theorem d_La_law_601 : decode (mB m_La_law) 601 = .ok (.aload_n 3, 1) := by decide +kernel
theorem d_La_law_602 : decode (mB m_La_law) 602 = .ok (.invokestatic 112, 3) := by decide +kernel
theorem d_La_law_605 : decode (mB m_La_law) 605 = .ok (.istore 6, 2) := by decide +kernel
theorem d_La_law_607 : decode (mB m_La_law) 607 = .ok (.aload_n 2, 1) := by decide +kernel
theorem d_La_law_608 : decode (mB m_La_law) 608 = .ok (.aload_n 0, 1) := by decide +kernel
theorem d_La_law_609 : decode (mB m_La_law) 609 = .ok (.iload 5, 2) := by decide +kernel
theorem d_La_law_611 : decode (mB m_La_law) 611 = .ok (.iconst 1, 1) := by decide +kernel
theorem d_La_law_612 : decode (mB m_La_law) 612 = .ok (.iadd, 1) := by decide +kernel
theorem d_La_law_613 : decode (mB m_La_law) 613 = .ok (.iaload, 1) := by decide +kernel
theorem d_La_law_614 : decode (mB m_La_law) 614 = .ok (.invokevirtual 114, 3) := by decide +kernel
theorem d_La_law_617 : decode (mB m_La_law) 617 = .ok (.lstore 7, 2) := by decide +kernel
theorem d_La_law_619 : decode (mB m_La_law) 619 = .ok (.aload_n 2, 1) := by decide +kernel
theorem d_La_law_620 : decode (mB m_La_law) 620 = .ok (.invokevirtual 79, 3) := by decide +kernel
theorem d_La_law_623 : decode (mB m_La_law) 623 = .ok (.iload 6, 2) := by decide +kernel
theorem d_La_law_625 : decode (mB m_La_law) 625 = .ok (.if_icmp .eq 5, 3) := by decide +kernel
theorem d_La_law_628 : decode (mB m_La_law) 628 = .ok (.iconst 0, 1) := by decide +kernel
theorem d_La_law_629 : decode (mB m_La_law) 629 = .ok (.ireturn, 1) := by decide +kernel
theorem d_La_law_630 : decode (mB m_La_law) 630 = .ok (.iload 6, 2) := by decide +kernel
theorem d_La_law_632 : decode (mB m_La_law) 632 = .ok (.ifCond .ne 14, 3) := by decide +kernel
theorem d_La_law_635 : decode (mB m_La_law) 635 = .ok (.aload_n 3, 1) := by decide +kernel
theorem d_La_law_636 : decode (mB m_La_law) 636 = .ok (.iconst 0, 1) := by decide +kernel
theorem d_La_law_637 : decode (mB m_La_law) 637 = .ok (.laload, 1) := by decide +kernel
theorem d_La_law_638 : decode (mB m_La_law) 638 = .ok (.lload 7, 2) := by decide +kernel
theorem d_La_law_640 : decode (mB m_La_law) 640 = .ok (.lcmp, 1) := by decide +kernel
theorem d_La_law_641 : decode (mB m_La_law) 641 = .ok (.ifCond .eq 5, 3) := by decide +kernel
theorem d_La_law_644 : decode (mB m_La_law) 644 = .ok (.iconst 0, 1) := by decide +kernel
theorem d_La_law_645 : decode (mB m_La_law) 645 = .ok (.ireturn, 1) := by decide +kernel
theorem d_La_law_646 : decode (mB m_La_law) 646 = .ok (.goto 360, 3) := by decide +kernel
theorem d_La_law_649 : decode (mB m_La_law) 649 = .ok (.aload_n 1, 1) := by decide +kernel
theorem d_La_law_650 : decode (mB m_La_law) 650 = .ok (.aload_n 0, 1) := by decide +kernel
theorem d_La_law_651 : decode (mB m_La_law) 651 = .ok (.iload 5, 2) := by decide +kernel
theorem d_La_law_653 : decode (mB m_La_law) 653 = .ok (.iconst 1, 1) := by decide +kernel
theorem d_La_law_654 : decode (mB m_La_law) 654 = .ok (.iadd, 1) := by decide +kernel
theorem d_La_law_655 : decode (mB m_La_law) 655 = .ok (.iaload, 1) := by decide +kernel
theorem d_La_law_656 : decode (mB m_La_law) 656 = .ok (.aload 4, 2) := by decide +kernel
theorem d_La_law_658 : decode (mB m_La_law) 658 = .ok (.invokestatic 115, 3) := by decide +kernel
theorem d_La_law_661 : decode (mB m_La_law) 661 = .ok (.istore 6, 2) := by decide +kernel
theorem d_La_law_663 : decode (mB m_La_law) 663 = .ok (.aload_n 2, 1) := by decide +kernel
theorem d_La_law_664 : decode (mB m_La_law) 664 = .ok (.aload_n 0, 1) := by decide +kernel
theorem d_La_law_665 : decode (mB m_La_law) 665 = .ok (.iload 5, 2) := by decide +kernel
theorem d_La_law_667 : decode (mB m_La_law) 667 = .ok (.iconst 1, 1) := by decide +kernel
theorem d_La_law_668 : decode (mB m_La_law) 668 = .ok (.iadd, 1) := by decide +kernel
theorem d_La_law_669 : decode (mB m_La_law) 669 = .ok (.iaload, 1) := by decide +kernel
theorem d_La_law_670 : decode (mB m_La_law) 670 = .ok (.invokevirtual 118, 3) := by decide +kernel
theorem d_La_law_673 : decode (mB m_La_law) 673 = .ok (.dstore 7, 2) := by decide +kernel
theorem d_La_law_675 : decode (mB m_La_law) 675 = .ok (.aload_n 2, 1) := by decide +kernel
theorem d_La_law_676 : decode (mB m_La_law) 676 = .ok (.invokevirtual 79, 3) := by decide +kernel
theorem d_La_law_679 : decode (mB m_La_law) 679 = .ok (.iload 6, 2) := by decide +kernel
theorem d_La_law_681 : decode (mB m_La_law) 681 = .ok (.if_icmp .eq 5, 3) := by decide +kernel
theorem d_La_law_684 : decode (mB m_La_law) 684 = .ok (.iconst 0, 1) := by decide +kernel
theorem d_La_law_685 : decode (mB m_La_law) 685 = .ok (.ireturn, 1) := by decide +kernel
theorem d_La_law_686 : decode (mB m_La_law) 686 = .ok (.iload 6, 2) := by decide +kernel
theorem d_La_law_688 : decode (mB m_La_law) 688 = .ok (.ifCond .ne 35, 3) := by decide +kernel
theorem d_La_law_691 : decode (mB m_La_law) 691 = .ok (.aload 4, 2) := by decide +kernel
theorem d_La_law_693 : decode (mB m_La_law) 693 = .ok (.iconst 0, 1) := by decide +kernel
theorem d_La_law_694 : decode (mB m_La_law) 694 = .ok (.daload, 1) := by decide +kernel
theorem d_La_law_695 : decode (mB m_La_law) 695 = .ok (.dload 7, 2) := by decide +kernel
theorem d_La_law_697 : decode (mB m_La_law) 697 = .ok (.dcmp .l, 1) := by decide +kernel
theorem d_La_law_698 : decode (mB m_La_law) 698 = .ok (.ifCond .eq 25, 3) := by decide +kernel
theorem d_La_law_701 : decode (mB m_La_law) 701 = .ok (.aload 4, 2) := by decide +kernel
theorem d_La_law_703 : decode (mB m_La_law) 703 = .ok (.iconst 0, 1) := by decide +kernel
theorem d_La_law_704 : decode (mB m_La_law) 704 = .ok (.daload, 1) := by decide +kernel
theorem d_La_law_705 : decode (mB m_La_law) 705 = .ok (.aload 4, 2) := by decide +kernel
theorem d_La_law_707 : decode (mB m_La_law) 707 = .ok (.iconst 0, 1) := by decide +kernel
theorem d_La_law_708 : decode (mB m_La_law) 708 = .ok (.daload, 1) := by decide +kernel
theorem d_La_law_709 : decode (mB m_La_law) 709 = .ok (.dcmp .l, 1) := by decide +kernel
theorem d_La_law_710 : decode (mB m_La_law) 710 = .ok (.ifCond .eq 11, 3) := by decide +kernel
theorem d_La_law_713 : decode (mB m_La_law) 713 = .ok (.dload 7, 2) := by decide +kernel
theorem d_La_law_715 : decode (mB m_La_law) 715 = .ok (.dload 7, 2) := by decide +kernel
theorem d_La_law_717 : decode (mB m_La_law) 717 = .ok (.dcmp .l, 1) := by decide +kernel
theorem d_La_law_718 : decode (mB m_La_law) 718 = .ok (.ifCond .ne 5, 3) := by decide +kernel
theorem d_La_law_721 : decode (mB m_La_law) 721 = .ok (.iconst 0, 1) := by decide +kernel
theorem d_La_law_722 : decode (mB m_La_law) 722 = .ok (.ireturn, 1) := by decide +kernel
theorem d_La_law_723 : decode (mB m_La_law) 723 = .ok (.goto 283, 3) := by decide +kernel
theorem d_La_law_726 : decode (mB m_La_law) 726 = .ok (.aload_n 1, 1) := by decide +kernel
theorem d_La_law_727 : decode (mB m_La_law) 727 = .ok (.aload_n 0, 1) := by decide +kernel
theorem d_La_law_728 : decode (mB m_La_law) 728 = .ok (.iload 5, 2) := by decide +kernel
theorem d_La_law_730 : decode (mB m_La_law) 730 = .ok (.iconst 1, 1) := by decide +kernel
theorem d_La_law_731 : decode (mB m_La_law) 731 = .ok (.iadd, 1) := by decide +kernel
theorem d_La_law_732 : decode (mB m_La_law) 732 = .ok (.iaload, 1) := by decide +kernel
theorem d_La_law_733 : decode (mB m_La_law) 733 = .ok (.aload_n 0, 1) := by decide +kernel
theorem d_La_law_734 : decode (mB m_La_law) 734 = .ok (.iload 5, 2) := by decide +kernel
theorem d_La_law_736 : decode (mB m_La_law) 736 = .ok (.iconst 2, 1) := by decide +kernel
theorem d_La_law_737 : decode (mB m_La_law) 737 = .ok (.iadd, 1) := by decide +kernel
theorem d_La_law_738 : decode (mB m_La_law) 738 = .ok (.iaload, 1) := by decide +kernel
theorem d_La_law_739 : decode (mB m_La_law) 739 = .ok (.i2l, 1) := by decide +kernel
theorem d_La_law_740 : decode (mB m_La_law) 740 = .ok (.bipush 32, 2) := by decide +kernel
theorem d_La_law_742 : decode (mB m_La_law) 742 = .ok (.lshl, 1) := by decide +kernel
theorem d_La_law_743 : decode (mB m_La_law) 743 = .ok (.aload_n 0, 1) := by decide +kernel
theorem d_La_law_744 : decode (mB m_La_law) 744 = .ok (.iload 5, 2) := by decide +kernel
theorem d_La_law_746 : decode (mB m_La_law) 746 = .ok (.iconst 3, 1) := by decide +kernel
theorem d_La_law_747 : decode (mB m_La_law) 747 = .ok (.iadd, 1) := by decide +kernel
theorem d_La_law_748 : decode (mB m_La_law) 748 = .ok (.iaload, 1) := by decide +kernel
theorem d_La_law_749 : decode (mB m_La_law) 749 = .ok (.i2l, 1) := by decide +kernel
theorem d_La_law_750 : decode (mB m_La_law) 750 = .ok (.ldc2_w 71, 3) := by decide +kernel
theorem d_La_law_753 : decode (mB m_La_law) 753 = .ok (.land, 1) := by decide +kernel
theorem d_La_law_754 : decode (mB m_La_law) 754 = .ok (.lor, 1) := by decide +kernel
theorem d_La_law_755 : decode (mB m_La_law) 755 = .ok (.aload_n 3, 1) := by decide +kernel
theorem d_La_law_756 : decode (mB m_La_law) 756 = .ok (.invokestatic 119, 3) := by decide +kernel
theorem d_La_law_759 : decode (mB m_La_law) 759 = .ok (.istore 6, 2) := by decide +kernel
theorem d_La_law_761 : decode (mB m_La_law) 761 = .ok (.aload_n 2, 1) := by decide +kernel
theorem d_La_law_762 : decode (mB m_La_law) 762 = .ok (.aload_n 0, 1) := by decide +kernel
theorem d_La_law_763 : decode (mB m_La_law) 763 = .ok (.iload 5, 2) := by decide +kernel
theorem d_La_law_765 : decode (mB m_La_law) 765 = .ok (.iconst 1, 1) := by decide +kernel
theorem d_La_law_766 : decode (mB m_La_law) 766 = .ok (.iadd, 1) := by decide +kernel
theorem d_La_law_767 : decode (mB m_La_law) 767 = .ok (.iaload, 1) := by decide +kernel
theorem d_La_law_768 : decode (mB m_La_law) 768 = .ok (.aload_n 0, 1) := by decide +kernel
theorem d_La_law_769 : decode (mB m_La_law) 769 = .ok (.iload 5, 2) := by decide +kernel
theorem d_La_law_771 : decode (mB m_La_law) 771 = .ok (.iconst 2, 1) := by decide +kernel
theorem d_La_law_772 : decode (mB m_La_law) 772 = .ok (.iadd, 1) := by decide +kernel
theorem d_La_law_773 : decode (mB m_La_law) 773 = .ok (.iaload, 1) := by decide +kernel
theorem d_La_law_774 : decode (mB m_La_law) 774 = .ok (.i2l, 1) := by decide +kernel
theorem d_La_law_775 : decode (mB m_La_law) 775 = .ok (.bipush 32, 2) := by decide +kernel
theorem d_La_law_777 : decode (mB m_La_law) 777 = .ok (.lshl, 1) := by decide +kernel
theorem d_La_law_778 : decode (mB m_La_law) 778 = .ok (.aload_n 0, 1) := by decide +kernel
theorem d_La_law_779 : decode (mB m_La_law) 779 = .ok (.iload 5, 2) := by decide +kernel
theorem d_La_law_781 : decode (mB m_La_law) 781 = .ok (.iconst 3, 1) := by decide +kernel
theorem d_La_law_782 : decode (mB m_La_law) 782 = .ok (.iadd, 1) := by decide +kernel
theorem d_La_law_783 : decode (mB m_La_law) 783 = .ok (.iaload, 1) := by decide +kernel
theorem d_La_law_784 : decode (mB m_La_law) 784 = .ok (.i2l, 1) := by decide +kernel
theorem d_La_law_785 : decode (mB m_La_law) 785 = .ok (.ldc2_w 71, 3) := by decide +kernel
theorem d_La_law_788 : decode (mB m_La_law) 788 = .ok (.land, 1) := by decide +kernel
theorem d_La_law_789 : decode (mB m_La_law) 789 = .ok (.lor, 1) := by decide +kernel
theorem d_La_law_790 : decode (mB m_La_law) 790 = .ok (.invokevirtual 122, 3) := by decide +kernel
theorem d_La_law_793 : decode (mB m_La_law) 793 = .ok (.istore 7, 2) := by decide +kernel
theorem d_La_law_795 : decode (mB m_La_law) 795 = .ok (.aload_n 2, 1) := by decide +kernel
theorem d_La_law_796 : decode (mB m_La_law) 796 = .ok (.invokevirtual 79, 3) := by decide +kernel
theorem d_La_law_799 : decode (mB m_La_law) 799 = .ok (.iload 6, 2) := by decide +kernel
theorem d_La_law_801 : decode (mB m_La_law) 801 = .ok (.if_icmp .eq 5, 3) := by decide +kernel
theorem d_La_law_804 : decode (mB m_La_law) 804 = .ok (.iconst 0, 1) := by decide +kernel
theorem d_La_law_805 : decode (mB m_La_law) 805 = .ok (.ireturn, 1) := by decide +kernel
theorem d_La_law_806 : decode (mB m_La_law) 806 = .ok (.iload 6, 2) := by decide +kernel
theorem d_La_law_808 : decode (mB m_La_law) 808 = .ok (.ifCond .ne 15, 3) := by decide +kernel
theorem d_La_law_811 : decode (mB m_La_law) 811 = .ok (.aload_n 3, 1) := by decide +kernel
theorem d_La_law_812 : decode (mB m_La_law) 812 = .ok (.iconst 0, 1) := by decide +kernel
theorem d_La_law_813 : decode (mB m_La_law) 813 = .ok (.laload, 1) := by decide +kernel
theorem d_La_law_814 : decode (mB m_La_law) 814 = .ok (.iload 7, 2) := by decide +kernel
theorem d_La_law_816 : decode (mB m_La_law) 816 = .ok (.i2l, 1) := by decide +kernel
theorem d_La_law_817 : decode (mB m_La_law) 817 = .ok (.lcmp, 1) := by decide +kernel
theorem d_La_law_818 : decode (mB m_La_law) 818 = .ok (.ifCond .eq 5, 3) := by decide +kernel
theorem d_La_law_821 : decode (mB m_La_law) 821 = .ok (.iconst 0, 1) := by decide +kernel
theorem d_La_law_822 : decode (mB m_La_law) 822 = .ok (.ireturn, 1) := by decide +kernel
theorem d_La_law_823 : decode (mB m_La_law) 823 = .ok (.goto 183, 3) := by decide +kernel
theorem d_La_law_826 : decode (mB m_La_law) 826 = .ok (.aload_n 1, 1) := by decide +kernel
theorem d_La_law_827 : decode (mB m_La_law) 827 = .ok (.aload_n 0, 1) := by decide +kernel
theorem d_La_law_828 : decode (mB m_La_law) 828 = .ok (.iload 5, 2) := by decide +kernel
theorem d_La_law_830 : decode (mB m_La_law) 830 = .ok (.iconst 1, 1) := by decide +kernel
theorem d_La_law_831 : decode (mB m_La_law) 831 = .ok (.iadd, 1) := by decide +kernel
theorem d_La_law_832 : decode (mB m_La_law) 832 = .ok (.iaload, 1) := by decide +kernel
theorem d_La_law_833 : decode (mB m_La_law) 833 = .ok (.aload_n 0, 1) := by decide +kernel
theorem d_La_law_834 : decode (mB m_La_law) 834 = .ok (.iload 5, 2) := by decide +kernel
theorem d_La_law_836 : decode (mB m_La_law) 836 = .ok (.iconst 2, 1) := by decide +kernel
theorem d_La_law_837 : decode (mB m_La_law) 837 = .ok (.iadd, 1) := by decide +kernel
theorem d_La_law_838 : decode (mB m_La_law) 838 = .ok (.iaload, 1) := by decide +kernel
theorem d_La_law_839 : decode (mB m_La_law) 839 = .ok (.aload_n 3, 1) := by decide +kernel
theorem d_La_law_840 : decode (mB m_La_law) 840 = .ok (.invokestatic 123, 3) := by decide +kernel
theorem d_La_law_843 : decode (mB m_La_law) 843 = .ok (.istore 6, 2) := by decide +kernel
theorem d_La_law_845 : decode (mB m_La_law) 845 = .ok (.aload_n 2, 1) := by decide +kernel
theorem d_La_law_846 : decode (mB m_La_law) 846 = .ok (.aload_n 0, 1) := by decide +kernel
theorem d_La_law_847 : decode (mB m_La_law) 847 = .ok (.iload 5, 2) := by decide +kernel
theorem d_La_law_849 : decode (mB m_La_law) 849 = .ok (.iconst 1, 1) := by decide +kernel
theorem d_La_law_850 : decode (mB m_La_law) 850 = .ok (.iadd, 1) := by decide +kernel
theorem d_La_law_851 : decode (mB m_La_law) 851 = .ok (.iaload, 1) := by decide +kernel
theorem d_La_law_852 : decode (mB m_La_law) 852 = .ok (.aload_n 0, 1) := by decide +kernel
theorem d_La_law_853 : decode (mB m_La_law) 853 = .ok (.iload 5, 2) := by decide +kernel
theorem d_La_law_855 : decode (mB m_La_law) 855 = .ok (.iconst 2, 1) := by decide +kernel
theorem d_La_law_856 : decode (mB m_La_law) 856 = .ok (.iadd, 1) := by decide +kernel
theorem d_La_law_857 : decode (mB m_La_law) 857 = .ok (.iaload, 1) := by decide +kernel
theorem d_La_law_858 : decode (mB m_La_law) 858 = .ok (.invokevirtual 126, 3) := by decide +kernel
theorem d_La_law_861 : decode (mB m_La_law) 861 = .ok (.istore 7, 2) := by decide +kernel
theorem d_La_law_863 : decode (mB m_La_law) 863 = .ok (.aload_n 2, 1) := by decide +kernel
theorem d_La_law_864 : decode (mB m_La_law) 864 = .ok (.invokevirtual 79, 3) := by decide +kernel
theorem d_La_law_867 : decode (mB m_La_law) 867 = .ok (.iload 6, 2) := by decide +kernel
theorem d_La_law_869 : decode (mB m_La_law) 869 = .ok (.if_icmp .eq 5, 3) := by decide +kernel
theorem d_La_law_872 : decode (mB m_La_law) 872 = .ok (.iconst 0, 1) := by decide +kernel
theorem d_La_law_873 : decode (mB m_La_law) 873 = .ok (.ireturn, 1) := by decide +kernel
theorem d_La_law_874 : decode (mB m_La_law) 874 = .ok (.iload 6, 2) := by decide +kernel
theorem d_La_law_876 : decode (mB m_La_law) 876 = .ok (.ifCond .ne 15, 3) := by decide +kernel
theorem d_La_law_879 : decode (mB m_La_law) 879 = .ok (.aload_n 3, 1) := by decide +kernel
theorem d_La_law_880 : decode (mB m_La_law) 880 = .ok (.iconst 0, 1) := by decide +kernel
theorem d_La_law_881 : decode (mB m_La_law) 881 = .ok (.laload, 1) := by decide +kernel
theorem d_La_law_882 : decode (mB m_La_law) 882 = .ok (.iload 7, 2) := by decide +kernel
theorem d_La_law_884 : decode (mB m_La_law) 884 = .ok (.i2l, 1) := by decide +kernel
theorem d_La_law_885 : decode (mB m_La_law) 885 = .ok (.lcmp, 1) := by decide +kernel
theorem d_La_law_886 : decode (mB m_La_law) 886 = .ok (.ifCond .eq 5, 3) := by decide +kernel
theorem d_La_law_889 : decode (mB m_La_law) 889 = .ok (.iconst 0, 1) := by decide +kernel
theorem d_La_law_890 : decode (mB m_La_law) 890 = .ok (.ireturn, 1) := by decide +kernel
theorem d_La_law_891 : decode (mB m_La_law) 891 = .ok (.goto 115, 3) := by decide +kernel
theorem d_La_law_894 : decode (mB m_La_law) 894 = .ok (.aload_n 1, 1) := by decide +kernel
theorem d_La_law_895 : decode (mB m_La_law) 895 = .ok (.aload_n 0, 1) := by decide +kernel
theorem d_La_law_896 : decode (mB m_La_law) 896 = .ok (.iload 5, 2) := by decide +kernel
theorem d_La_law_898 : decode (mB m_La_law) 898 = .ok (.iconst 1, 1) := by decide +kernel
theorem d_La_law_899 : decode (mB m_La_law) 899 = .ok (.iadd, 1) := by decide +kernel
theorem d_La_law_900 : decode (mB m_La_law) 900 = .ok (.iaload, 1) := by decide +kernel
theorem d_La_law_901 : decode (mB m_La_law) 901 = .ok (.aload_n 3, 1) := by decide +kernel
theorem d_La_law_902 : decode (mB m_La_law) 902 = .ok (.invokestatic 127, 3) := by decide +kernel
theorem d_La_law_905 : decode (mB m_La_law) 905 = .ok (.istore 6, 2) := by decide +kernel
theorem d_La_law_907 : decode (mB m_La_law) 907 = .ok (.aload_n 2, 1) := by decide +kernel
theorem d_La_law_908 : decode (mB m_La_law) 908 = .ok (.aload_n 0, 1) := by decide +kernel
theorem d_La_law_909 : decode (mB m_La_law) 909 = .ok (.iload 5, 2) := by decide +kernel
theorem d_La_law_911 : decode (mB m_La_law) 911 = .ok (.iconst 1, 1) := by decide +kernel
theorem d_La_law_912 : decode (mB m_La_law) 912 = .ok (.iadd, 1) := by decide +kernel
theorem d_La_law_913 : decode (mB m_La_law) 913 = .ok (.iaload, 1) := by decide +kernel
theorem d_La_law_914 : decode (mB m_La_law) 914 = .ok (.invokevirtual 129, 3) := by decide +kernel
theorem d_La_law_917 : decode (mB m_La_law) 917 = .ok (.istore 7, 2) := by decide +kernel
theorem d_La_law_919 : decode (mB m_La_law) 919 = .ok (.aload_n 2, 1) := by decide +kernel
theorem d_La_law_920 : decode (mB m_La_law) 920 = .ok (.invokevirtual 79, 3) := by decide +kernel
theorem d_La_law_923 : decode (mB m_La_law) 923 = .ok (.iload 6, 2) := by decide +kernel
theorem d_La_law_925 : decode (mB m_La_law) 925 = .ok (.if_icmp .eq 5, 3) := by decide +kernel
theorem d_La_law_928 : decode (mB m_La_law) 928 = .ok (.iconst 0, 1) := by decide +kernel
theorem d_La_law_929 : decode (mB m_La_law) 929 = .ok (.ireturn, 1) := by decide +kernel
theorem d_La_law_930 : decode (mB m_La_law) 930 = .ok (.iload 6, 2) := by decide +kernel
theorem d_La_law_932 : decode (mB m_La_law) 932 = .ok (.ifCond .ne 15, 3) := by decide +kernel
theorem d_La_law_935 : decode (mB m_La_law) 935 = .ok (.aload_n 3, 1) := by decide +kernel
theorem d_La_law_936 : decode (mB m_La_law) 936 = .ok (.iconst 0, 1) := by decide +kernel
theorem d_La_law_937 : decode (mB m_La_law) 937 = .ok (.laload, 1) := by decide +kernel
theorem d_La_law_938 : decode (mB m_La_law) 938 = .ok (.iload 7, 2) := by decide +kernel
theorem d_La_law_940 : decode (mB m_La_law) 940 = .ok (.i2l, 1) := by decide +kernel
theorem d_La_law_941 : decode (mB m_La_law) 941 = .ok (.lcmp, 1) := by decide +kernel
theorem d_La_law_942 : decode (mB m_La_law) 942 = .ok (.ifCond .eq 5, 3) := by decide +kernel
theorem d_La_law_945 : decode (mB m_La_law) 945 = .ok (.iconst 0, 1) := by decide +kernel
theorem d_La_law_946 : decode (mB m_La_law) 946 = .ok (.ireturn, 1) := by decide +kernel
theorem d_La_law_947 : decode (mB m_La_law) 947 = .ok (.goto 59, 3) := by decide +kernel
theorem d_La_law_950 : decode (mB m_La_law) 950 = .ok (.aload_n 1, 1) := by decide +kernel
theorem d_La_law_951 : decode (mB m_La_law) 951 = .ok (.aload_n 0, 1) := by decide +kernel
theorem d_La_law_952 : decode (mB m_La_law) 952 = .ok (.iload 5, 2) := by decide +kernel
theorem d_La_law_954 : decode (mB m_La_law) 954 = .ok (.iconst 1, 1) := by decide +kernel
theorem d_La_law_955 : decode (mB m_La_law) 955 = .ok (.iadd, 1) := by decide +kernel
theorem d_La_law_956 : decode (mB m_La_law) 956 = .ok (.iaload, 1) := by decide +kernel
theorem d_La_law_957 : decode (mB m_La_law) 957 = .ok (.aload_n 3, 1) := by decide +kernel
theorem d_La_law_958 : decode (mB m_La_law) 958 = .ok (.invokestatic 130, 3) := by decide +kernel
theorem d_La_law_961 : decode (mB m_La_law) 961 = .ok (.istore 6, 2) := by decide +kernel
theorem d_La_law_963 : decode (mB m_La_law) 963 = .ok (.aload_n 2, 1) := by decide +kernel
theorem d_La_law_964 : decode (mB m_La_law) 964 = .ok (.aload_n 0, 1) := by decide +kernel
theorem d_La_law_965 : decode (mB m_La_law) 965 = .ok (.iload 5, 2) := by decide +kernel
theorem d_La_law_967 : decode (mB m_La_law) 967 = .ok (.iconst 1, 1) := by decide +kernel
theorem d_La_law_968 : decode (mB m_La_law) 968 = .ok (.iadd, 1) := by decide +kernel
theorem d_La_law_969 : decode (mB m_La_law) 969 = .ok (.iaload, 1) := by decide +kernel
theorem d_La_law_970 : decode (mB m_La_law) 970 = .ok (.invokevirtual 132, 3) := by decide +kernel
theorem d_La_law_973 : decode (mB m_La_law) 973 = .ok (.istore 7, 2) := by decide +kernel
theorem d_La_law_975 : decode (mB m_La_law) 975 = .ok (.aload_n 2, 1) := by decide +kernel
theorem d_La_law_976 : decode (mB m_La_law) 976 = .ok (.invokevirtual 79, 3) := by decide +kernel
theorem d_La_law_979 : decode (mB m_La_law) 979 = .ok (.iload 6, 2) := by decide +kernel
theorem d_La_law_981 : decode (mB m_La_law) 981 = .ok (.if_icmp .eq 5, 3) := by decide +kernel
theorem d_La_law_984 : decode (mB m_La_law) 984 = .ok (.iconst 0, 1) := by decide +kernel
theorem d_La_law_985 : decode (mB m_La_law) 985 = .ok (.ireturn, 1) := by decide +kernel
theorem d_La_law_986 : decode (mB m_La_law) 986 = .ok (.iload 6, 2) := by decide +kernel
theorem d_La_law_988 : decode (mB m_La_law) 988 = .ok (.ifCond .ne 15, 3) := by decide +kernel
theorem d_La_law_991 : decode (mB m_La_law) 991 = .ok (.aload_n 3, 1) := by decide +kernel
theorem d_La_law_992 : decode (mB m_La_law) 992 = .ok (.iconst 0, 1) := by decide +kernel
theorem d_La_law_993 : decode (mB m_La_law) 993 = .ok (.laload, 1) := by decide +kernel
theorem d_La_law_994 : decode (mB m_La_law) 994 = .ok (.iload 7, 2) := by decide +kernel
theorem d_La_law_996 : decode (mB m_La_law) 996 = .ok (.i2l, 1) := by decide +kernel
theorem d_La_law_997 : decode (mB m_La_law) 997 = .ok (.lcmp, 1) := by decide +kernel
theorem d_La_law_998 : decode (mB m_La_law) 998 = .ok (.ifCond .eq 5, 3) := by decide +kernel
theorem d_La_law_1001 : decode (mB m_La_law) 1001 = .ok (.iconst 0, 1) := by decide +kernel
theorem d_La_law_1002 : decode (mB m_La_law) 1002 = .ok (.ireturn, 1) := by decide +kernel
theorem d_La_law_1003 : decode (mB m_La_law) 1003 = .ok (.goto 3, 3) := by decide +kernel
theorem d_La_law_1006 : decode (mB m_La_law) 1006 = .ok (.iinc 5 4, 3) := by decide +kernel
theorem d_La_law_1009 : decode (mB m_La_law) 1009 = .ok (.goto (-981), 3) := by decide +kernel
theorem d_La_law_1012 : decode (mB m_La_law) 1012 = .ok (.iconst 1, 1) := by decide +kernel
theorem d_La_law_1013 : decode (mB m_La_law) 1013 = .ok (.ireturn, 1) := by decide +kernel
