theorem dX12_nextNumber_165 : decode cX12_nextNumber 165 = .ok (.iconst 2, 1) := by decide +kernel
theorem dX12_nextNumber_166 : decode cX12_nextNumber 166 = .ok (.if_icmp .le 18, 3) := by decide +kernel
theorem dX12_nextNumber_169 : decode cX12_nextNumber 169 = .ok (.aload_n 0, 1) := by decide +kernel
theorem dX12_nextNumber_170 : decode cX12_nextNumber 170 = .ok (.getfield 285, 3) := by decide +kernel
theorem dX12_nextNumber_173 : decode cX12_nextNumber 173 = .ok (.iload_n 2, 1) := by decide +kernel
theorem dX12_nextNumber_174 : decode cX12_nextNumber 174 = .ok (.isub, 1) := by decide +kernel
theorem dX12_nextNumber_175 : decode cX12_nextNumber 175 = .ok (.bipush 10, 2) := by decide +kernel
theorem dX12_nextNumber_177 : decode cX12_nextNumber 177 = .ok (.if_icmp .gt 7, 3) := by decide +kernel
theorem dX12_nextNumber_180 : decode cX12_nextNumber 180 = .ok (.iconst 1, 1) := by decide +kernel
theorem dX12_nextNumber_181 : decode cX12_nextNumber 181 = .ok (.goto 4, 3) := by decide +kernel
theorem dX12_nextNumber_184 : decode cX12_nextNumber 184 = .ok (.iconst 0, 1) := by decide +kernel
theorem dX12_nextNumber_185 : decode cX12_nextNumber 185 = .ok (.istore 5, 2) := by decide +kernel
theorem dX12_nextNumber_187 : decode cX12_nextNumber 187 = .ok (.goto 110, 3) := by decide +kernel
theorem dX12_nextNumber_190 : decode cX12_nextNumber 190 = .ok (.aload_n 0, 1) := by decide +kernel
theorem dX12_nextNumber_191 : decode cX12_nextNumber 191 = .ok (.aload_n 0, 1) := by decide +kernel
theorem dX12_nextNumber_192 : decode cX12_nextNumber 192 = .ok (.getfield 285, 3) := by decide +kernel
theorem dX12_nextNumber_195 : decode cX12_nextNumber 195 = .ok (.invokevirtual 291, 3) := by decide +kernel
theorem dX12_nextNumber_198 : decode cX12_nextNumber 198 = .ok (.invokestatic 282, 3) := by decide +kernel
theorem dX12_nextNumber_201 : decode cX12_nextNumber 201 = .ok (.ifCond .eq 47, 3) := by decide +kernel
theorem dX12_nextNumber_204 : decode cX12_nextNumber 204 = .ok (.aload_n 0, 1) := by decide +kernel
theorem dX12_nextNumber_205 : decode cX12_nextNumber 205 = .ok (.getfield 285, 3) := by decide +kernel
theorem dX12_nextNumber_208 : decode cX12_nextNumber 208 = .ok (.iload_n 2, 1) := by decide +kernel
theorem dX12_nextNumber_209 : decode cX12_nextNumber 209 = .ok (.isub, 1) := by decide +kernel
theorem dX12_nextNumber_210 : decode cX12_nextNumber 210 = .ok (.bipush 10, 2) := by decide +kernel
theorem dX12_nextNumber_212 : decode cX12_nextNumber 212 = .ok (.if_icmp .ge 23, 3) := by decide +kernel
theorem dX12_nextNumber_215 : decode cX12_nextNumber 215 = .ok (.ldc2_w 305, 3) := by decide +kernel
theorem dX12_nextNumber_218 : decode cX12_nextNumber 218 = .ok (.lload_n 3, 1) := by decide +kernel
theorem dX12_nextNumber_219 : decode cX12_nextNumber 219 = .ok (.lmul, 1) := by decide +kernel
theorem dX12_nextNumber_220 : decode cX12_nextNumber 220 = .ok (.aload_n 0, 1) := by decide +kernel
theorem dX12_nextNumber_221 : decode cX12_nextNumber 221 = .ok (.aload_n 0, 1) := by decide +kernel
theorem dX12_nextNumber_222 : decode cX12_nextNumber 222 = .ok (.getfield 285, 3) := by decide +kernel
theorem dX12_nextNumber_225 : decode cX12_nextNumber 225 = .ok (.invokevirtual 291, 3) := by decide +kernel
theorem dX12_nextNumber_228 : decode cX12_nextNumber 228 = .ok (.i2l, 1) := by decide +kernel
theorem dX12_nextNumber_229 : decode cX12_nextNumber 229 = .ok (.ladd, 1) := by decide +kernel
theorem dX12_nextNumber_230 : decode cX12_nextNumber 230 = .ok (.ldc2_w 307, 3) := by decide +kernel
theorem dX12_nextNumber_233 : decode cX12_nextNumber 233 = .ok (.lsub, 1) := by decide +kernel
theorem dX12_nextNumber_234 : decode cX12_nextNumber 234 = .ok (.lstore_n 3, 1) := by decide +kernel
theorem dX12_nextNumber_235 : decode cX12_nextNumber 235 = .ok (.aload_n 0, 1) := by decide +kernel
theorem dX12_nextNumber_236 : decode cX12_nextNumber 236 = .ok (.dup, 1) := by decide +kernel
theorem dX12_nextNumber_237 : decode cX12_nextNumber 237 = .ok (.getfield 285, 3) := by decide +kernel
theorem dX12_nextNumber_240 : decode cX12_nextNumber 240 = .ok (.iconst 1, 1) := by decide +kernel
theorem dX12_nextNumber_241 : decode cX12_nextNumber 241 = .ok (.iadd, 1) := by decide +kernel
theorem dX12_nextNumber_242 : decode cX12_nextNumber 242 = .ok (.putfield 285, 3) := by decide +kernel
theorem dX12_nextNumber_245 : decode cX12_nextNumber 245 = .ok (.goto (-55), 3) := by decide +kernel
theorem dX12_nextNumber_248 : decode cX12_nextNumber 248 = .ok (.aload_n 0, 1) := by decide +kernel
theorem dX12_nextNumber_249 : decode cX12_nextNumber 249 = .ok (.getfield 285, 3) := by decide +kernel
theorem dX12_nextNumber_252 : decode cX12_nextNumber 252 = .ok (.iload_n 2, 1) := by decide +kernel
theorem dX12_nextNumber_253 : decode cX12_nextNumber 253 = .ok (.if_icmp .le 41, 3) := by decide +kernel
theorem dX12_nextNumber_256 : decode cX12_nextNumber 256 = .ok (.aload_n 0, 1) := by decide +kernel
theorem dX12_nextNumber_257 : decode cX12_nextNumber 257 = .ok (.getfield 285, 3) := by decide +kernel
theorem dX12_nextNumber_260 : decode cX12_nextNumber 260 = .ok (.iload_n 2, 1) := by decide +kernel
theorem dX12_nextNumber_261 : decode cX12_nextNumber 261 = .ok (.isub, 1) := by decide +kernel
theorem dX12_nextNumber_262 : decode cX12_nextNumber 262 = .ok (.bipush 10, 2) := by decide +kernel
theorem dX12_nextNumber_264 : decode cX12_nextNumber 264 = .ok (.if_icmp .gt 30, 3) := by decide +kernel
theorem dX12_nextNumber_267 : decode cX12_nextNumber 267 = .ok (.iload_n 1, 1) := by decide +kernel
theorem dX12_nextNumber_268 : decode cX12_nextNumber 268 = .ok (.ifCond .eq 14, 3) := by decide +kernel
theorem dX12_nextNumber_271 : decode cX12_nextNumber 271 = .ok (.lload_n 3, 1) := by decide +kernel
theorem dX12_nextNumber_272 : decode cX12_nextNumber 272 = .ok (.ldc2_w 309, 3) := by decide +kernel
theorem dX12_nextNumber_275 : decode cX12_nextNumber 275 = .ok (.lcmp, 1) := by decide +kernel
theorem dX12_nextNumber_276 : decode cX12_nextNumber 276 = .ok (.ifCond .gt 18, 3) := by decide +kernel
theorem dX12_nextNumber_279 : decode cX12_nextNumber 279 = .ok (.goto 11, 3) := by decide +kernel
theorem dX12_nextNumber_282 : decode cX12_nextNumber 282 = .ok (.lload_n 3, 1) := by decide +kernel
theorem dX12_nextNumber_283 : decode cX12_nextNumber 283 = .ok (.ldc2_w 311, 3) := by decide +kernel
theorem dX12_nextNumber_286 : decode cX12_nextNumber 286 = .ok (.lcmp, 1) := by decide +kernel
theorem dX12_nextNumber_287 : decode cX12_nextNumber 287 = .ok (.ifCond .gt 7, 3) := by decide +kernel
theorem dX12_nextNumber_290 : decode cX12_nextNumber 290 = .ok (.iconst 1, 1) := by decide +kernel
theorem dX12_nextNumber_291 : decode cX12_nextNumber 291 = .ok (.goto 4, 3) := by decide +kernel
theorem dX12_nextNumber_294 : decode cX12_nextNumber 294 = .ok (.iconst 0, 1) := by decide +kernel
theorem dX12_nextNumber_295 : decode cX12_nextNumber 295 = .ok (.istore 5, 2) := by decide +kernel
theorem dX12_nextNumber_297 : decode cX12_nextNumber 297 = .ok (.aload_n 0, 1) := by decide +kernel
theorem dX12_nextNumber_298 : decode cX12_nextNumber 298 = .ok (.aload_n 0, 1) := by decide +kernel
theorem dX12_nextNumber_299 : decode cX12_nextNumber 299 = .ok (.getfield 285, 3) := by decide +kernel
theorem dX12_nextNumber_302 : decode cX12_nextNumber 302 = .ok (.invokevirtual 291, 3) := by decide +kernel
theorem dX12_nextNumber_305 : decode cX12_nextNumber 305 = .ok (.invokestatic 298, 3) := by decide +kernel
theorem dX12_nextNumber_308 : decode cX12_nextNumber 308 = .ok (.ifCond .ne 33, 3) := by decide +kernel
theorem dX12_nextNumber_311 : decode cX12_nextNumber 311 = .ok (.aload_n 0, 1) := by decide +kernel
theorem dX12_nextNumber_312 : decode cX12_nextNumber 312 = .ok (.aload_n 0, 1) := by decide +kernel
theorem dX12_nextNumber_313 : decode cX12_nextNumber 313 = .ok (.getfield 285, 3) := by decide +kernel
theorem dX12_nextNumber_316 : decode cX12_nextNumber 316 = .ok (.invokevirtual 291, 3) := by decide +kernel
theorem dX12_nextNumber_319 : decode cX12_nextNumber 319 = .ok (.bipush 65, 2) := by decide +kernel
theorem dX12_nextNumber_321 : decode cX12_nextNumber 321 = .ok (.if_icmp .lt 16, 3) := by decide +kernel
theorem dX12_nextNumber_324 : decode cX12_nextNumber 324 = .ok (.aload_n 0, 1) := by decide +kernel
theorem dX12_nextNumber_325 : decode cX12_nextNumber 325 = .ok (.aload_n 0, 1) := by decide +kernel
theorem dX12_nextNumber_326 : decode cX12_nextNumber 326 = .ok (.getfield 285, 3) := by decide +kernel
theorem dX12_nextNumber_329 : decode cX12_nextNumber 329 = .ok (.invokevirtual 291, 3) := by decide +kernel
theorem dX12_nextNumber_332 : decode cX12_nextNumber 332 = .ok (.bipush 90, 2) := by decide +kernel
theorem dX12_nextNumber_334 : decode cX12_nextNumber 334 = .ok (.if_icmp .le 7, 3) := by decide +kernel
theorem dX12_nextNumber_337 : decode cX12_nextNumber 337 = .ok (.iconst 1, 1) := by decide +kernel
theorem dX12_nextNumber_338 : decode cX12_nextNumber 338 = .ok (.goto 4, 3) := by decide +kernel
theorem dX12_nextNumber_341 : decode cX12_nextNumber 341 = .ok (.iconst 0, 1) := by decide +kernel
theorem dX12_nextNumber_342 : decode cX12_nextNumber 342 = .ok (.istore 6, 2) := by decide +kernel
theorem dX12_nextNumber_344 : decode cX12_nextNumber 344 = .ok (.aload_n 0, 1) := by decide +kernel
theorem dX12_nextNumber_345 : decode cX12_nextNumber 345 = .ok (.iload 5, 2) := by decide +kernel
theorem dX12_nextNumber_347 : decode cX12_nextNumber 347 = .ok (.ifCond .eq 12, 3) := by decide +kernel
theorem dX12_nextNumber_350 : decode cX12_nextNumber 350 = .ok (.iload 6, 2) := by decide +kernel
theorem dX12_nextNumber_352 : decode cX12_nextNumber 352 = .ok (.ifCond .eq 7, 3) := by decide +kernel
theorem dX12_nextNumber_355 : decode cX12_nextNumber 355 = .ok (.iconst 3, 1) := by decide +kernel
theorem dX12_nextNumber_356 : decode cX12_nextNumber 356 = .ok (.goto 4, 3) := by decide +kernel
theorem dX12_nextNumber_359 : decode cX12_nextNumber 359 = .ok (.iconst 1, 1) := by decide +kernel
theorem dX12_nextNumber_360 : decode cX12_nextNumber 360 = .ok (.putfield 295, 3) := by decide +kernel
theorem dX12_nextNumber_363 : decode cX12_nextNumber 363 = .ok (.aload_n 0, 1) := by decide +kernel
theorem dX12_nextNumber_364 : decode cX12_nextNumber 364 = .ok (.iload_n 1, 1) := by decide +kernel
theorem dX12_nextNumber_365 : decode cX12_nextNumber 365 = .ok (.ifCond .eq 8, 3) := by decide +kernel
theorem dX12_nextNumber_368 : decode cX12_nextNumber 368 = .ok (.lload_n 3, 1) := by decide +kernel
theorem dX12_nextNumber_369 : decode cX12_nextNumber 369 = .ok (.lneg, 1) := by decide +kernel
theorem dX12_nextNumber_370 : decode cX12_nextNumber 370 = .ok (.goto 4, 3) := by decide +kernel
theorem dX12_nextNumber_373 : decode cX12_nextNumber 373 = .ok (.lload_n 3, 1) := by decide +kernel
theorem dX12_nextNumber_374 : decode cX12_nextNumber 374 = .ok (.l2i, 1) := by decide +kernel
theorem dX12_nextNumber_375 : decode cX12_nextNumber 375 = .ok (.putfield 313, 3) := by decide +kernel
theorem dX12_nextNumber_378 : decode cX12_nextNumber 378 = .ok (.return_, 1) := by decide +kernel
theorem dX12_wrong_0 : decode cX12_wrong 0 = .ok (.aload_n 0, 1) := by decide +kernel
theorem dX12_wrong_1 : decode cX12_wrong 1 = .ok (.aload_n 0, 1) := by decide +kernel
theorem dX12_wrong_2 : decode cX12_wrong 2 = .ok (.getfield 295, 3) := by decide +kernel
theorem dX12_wrong_5 : decode cX12_wrong 5 = .ok (.iconst 1, 1) := by decide +kernel
theorem dX12_wrong_6 : decode cX12_wrong 6 = .ok (.if_icmp .ne 7, 3) := by decide +kernel
theorem dX12_wrong_9 : decode cX12_wrong 9 = .ok (.iconst 1, 1) := by decide +kernel
theorem dX12_wrong_10 : decode cX12_wrong 10 = .ok (.goto 4, 3) := by decide +kernel
theorem dX12_wrong_13 : decode cX12_wrong 13 = .ok (.iconst 2, 1) := by decide +kernel
theorem dX12_wrong_14 : decode cX12_wrong 14 = .ok (.aload_n 0, 1) := by decide +kernel
theorem dX12_wrong_15 : decode cX12_wrong 15 = .ok (.getfield 288, 3) := by decide +kernel
theorem dX12_wrong_18 : decode cX12_wrong 18 = .ok (.invokevirtual 316, 3) := by decide +kernel
theorem dX12_wrong_21 : decode cX12_wrong 21 = .ok (.ireturn, 1) := by decide +kernel
theorem dX12_instruction_0 : decode cX12_instruction 0 = .ok (.lconst 0, 1) := by decide +kernel
theorem dX12_instruction_1 : decode cX12_instruction 1 = .ok (.lstore_n 1, 1) := by decide +kernel
theorem dX12_instruction_2 : decode cX12_instruction 2 = .ok (.aload_n 0, 1) := by decide +kernel
theorem dX12_instruction_3 : decode cX12_instruction 3 = .ok (.getfield 288, 3) := by decide +kernel
theorem dX12_instruction_6 : decode cX12_instruction 6 = .ok (.istore_n 3, 1) := by decide +kernel
theorem dX12_instruction_7 : decode cX12_instruction 7 = .ok (.iload_n 3, 1) := by decide +kernel
theorem dX12_instruction_8 : decode cX12_instruction 8 = .ok (.aload_n 0, 1) := by decide +kernel
theorem dX12_instruction_9 : decode cX12_instruction 9 = .ok (.getfield 285, 3) := by decide +kernel
theorem dX12_instruction_12 : decode cX12_instruction 12 = .ok (.if_icmp .ge 21, 3) := by decide +kernel
theorem dX12_instruction_15 : decode cX12_instruction 15 = .ok (.lload_n 1, 1) := by decide +kernel
theorem dX12_instruction_16 : decode cX12_instruction 16 = .ok (.bipush 8, 2) := by decide +kernel
theorem dX12_instruction_18 : decode cX12_instruction 18 = .ok (.lshl, 1) := by decide +kernel
theorem dX12_instruction_19 : decode cX12_instruction 19 = .ok (.aload_n 0, 1) := by decide +kernel
theorem dX12_instruction_20 : decode cX12_instruction 20 = .ok (.iload_n 3, 1) := by decide +kernel
theorem dX12_instruction_21 : decode cX12_instruction 21 = .ok (.invokevirtual 291, 3) := by decide +kernel
theorem dX12_instruction_24 : decode cX12_instruction 24 = .ok (.i2l, 1) := by decide +kernel
theorem dX12_instruction_25 : decode cX12_instruction 25 = .ok (.lor, 1) := by decide +kernel
theorem dX12_instruction_26 : decode cX12_instruction 26 = .ok (.lstore_n 1, 1) := by decide +kernel
theorem dX12_instruction_27 : decode cX12_instruction 27 = .ok (.iinc 3 1, 3) := by decide +kernel
theorem dX12_instruction_30 : decode cX12_instruction 30 = .ok (.goto (-23), 3) := by decide +kernel
theorem dX12_instruction_33 : decode cX12_instruction 33 = .ok (.iconst 0, 1) := by decide +kernel
theorem dX12_instruction_34 : decode cX12_instruction 34 = .ok (.istore_n 3, 1) := by decide +kernel
theorem dX12_instruction_35 : decode cX12_instruction 35 = .ok (.iload_n 3, 1) := by decide +kernel
theorem dX12_instruction_36 : decode cX12_instruction 36 = .ok (.bipush 51, 2) := by decide +kernel
theorem dX12_instruction_38 : decode cX12_instruction 38 = .ok (.if_icmp .ge 20, 3) := by decide +kernel
theorem dX12_instruction_41 : decode cX12_instruction 41 = .ok (.iload_n 3, 1) := by decide +kernel
theorem dX12_instruction_42 : decode cX12_instruction 42 = .ok (.invokestatic 320, 3) := by decide +kernel
theorem dX12_instruction_45 : decode cX12_instruction 45 = .ok (.lload_n 1, 1) := by decide +kernel
theorem dX12_instruction_46 : decode cX12_instruction 46 = .ok (.lcmp, 1) := by decide +kernel
theorem dX12_instruction_47 : decode cX12_instruction 47 = .ok (.ifCond .ne 5, 3) := by decide +kernel
theorem dX12_instruction_50 : decode cX12_instruction 50 = .ok (.iload_n 3, 1) := by decide +kernel
theorem dX12_instruction_51 : decode cX12_instruction 51 = .ok (.ireturn, 1) := by decide +kernel
theorem dX12_instruction_52 : decode cX12_instruction 52 = .ok (.iinc 3 1, 3) := by decide +kernel
theorem dX12_instruction_55 : decode cX12_instruction 55 = .ok (.goto (-20), 3) := by decide +kernel
theorem dX12_instruction_58 : decode cX12_instruction 58 = .ok (.iconst (-1), 1) := by decide +kernel
theorem dX12_instruction_59 : decode cX12_instruction 59 = .ok (.ireturn, 1) := by decide +kernel
theorem dX12_named_0 : decode cX12_named 0 = .ok (.aload_n 0, 1) := by decide +kernel
theorem dX12_named_1 : decode cX12_named 1 = .ok (.getfield 295, 3) := by decide +kernel
theorem dX12_named_4 : decode cX12_named 4 = .ok (.iconst 2, 1) := by decide +kernel
theorem dX12_named_5 : decode cX12_named 5 = .ok (.if_icmp .ne 75, 3) := by decide +kernel
theorem dX12_named_8 : decode cX12_named 8 = .ok (.aload_n 0, 1) := by decide +kernel
theorem dX12_named_9 : decode cX12_named 9 = .ok (.getfield 285, 3) := by decide +kernel
theorem dX12_named_12 : decode cX12_named 12 = .ok (.aload_n 0, 1) := by decide +kernel
theorem dX12_named_13 : decode cX12_named 13 = .ok (.getfield 288, 3) := by decide +kernel
theorem dX12_named_16 : decode cX12_named 16 = .ok (.isub, 1) := by decide +kernel
theorem dX12_named_17 : decode cX12_named 17 = .ok (.iconst 2, 1) := by decide +kernel
theorem dX12_named_18 : decode cX12_named 18 = .ok (.if_icmp .ne 62, 3) := by decide +kernel
theorem dX12_named_21 : decode cX12_named 21 = .ok (.aload_n 0, 1) := by decide +kernel
theorem dX12_named_22 : decode cX12_named 22 = .ok (.aload_n 0, 1) := by decide +kernel
theorem dX12_named_23 : decode cX12_named 23 = .ok (.getfield 288, 3) := by decide +kernel
theorem dX12_named_26 : decode cX12_named 26 = .ok (.invokevirtual 291, 3) := by decide +kernel
theorem dX12_named_29 : decode cX12_named 29 = .ok (.bipush 114, 2) := by decide +kernel
theorem dX12_named_31 : decode cX12_named 31 = .ok (.if_icmp .ne 49, 3) := by decide +kernel
theorem dX12_named_34 : decode cX12_named 34 = .ok (.aload_n 0, 1) := by decide +kernel
theorem dX12_named_35 : decode cX12_named 35 = .ok (.aload_n 0, 1) := by decide +kernel
theorem dX12_named_36 : decode cX12_named 36 = .ok (.getfield 288, 3) := by decide +kernel
theorem dX12_named_39 : decode cX12_named 39 = .ok (.iconst 1, 1) := by decide +kernel
theorem dX12_named_40 : decode cX12_named 40 = .ok (.iadd, 1) := by decide +kernel
theorem dX12_named_41 : decode cX12_named 41 = .ok (.invokevirtual 291, 3) := by decide +kernel
theorem dX12_named_44 : decode cX12_named 44 = .ok (.bipush 48, 2) := by decide +kernel
theorem dX12_named_46 : decode cX12_named 46 = .ok (.if_icmp .lt 34, 3) := by decide +kernel
theorem dX12_named_49 : decode cX12_named 49 = .ok (.aload_n 0, 1) := by decide +kernel
theorem dX12_named_50 : decode cX12_named 50 = .ok (.aload_n 0, 1) := by decide +kernel
theorem dX12_named_51 : decode cX12_named 51 = .ok (.getfield 288, 3) := by decide +kernel
theorem dX12_named_54 : decode cX12_named 54 = .ok (.iconst 1, 1) := by decide +kernel
theorem dX12_named_55 : decode cX12_named 55 = .ok (.iadd, 1) := by decide +kernel
theorem dX12_named_56 : decode cX12_named 56 = .ok (.invokevirtual 291, 3) := by decide +kernel
theorem dX12_named_59 : decode cX12_named 59 = .ok (.bipush 55, 2) := by decide +kernel
theorem dX12_named_61 : decode cX12_named 61 = .ok (.if_icmp .gt 19, 3) := by decide +kernel
theorem dX12_named_64 : decode cX12_named 64 = .ok (.aload_n 0, 1) := by decide +kernel
theorem dX12_named_65 : decode cX12_named 65 = .ok (.aload_n 0, 1) := by decide +kernel
theorem dX12_named_66 : decode cX12_named 66 = .ok (.getfield 288, 3) := by decide +kernel
theorem dX12_named_69 : decode cX12_named 69 = .ok (.iconst 1, 1) := by decide +kernel
theorem dX12_named_70 : decode cX12_named 70 = .ok (.iadd, 1) := by decide +kernel
theorem dX12_named_71 : decode cX12_named 71 = .ok (.invokevirtual 291, 3) := by decide +kernel
theorem dX12_named_74 : decode cX12_named 74 = .ok (.bipush 48, 2) := by decide +kernel
theorem dX12_named_76 : decode cX12_named 76 = .ok (.isub, 1) := by decide +kernel
theorem dX12_named_77 : decode cX12_named 77 = .ok (.goto 4, 3) := by decide +kernel
theorem dX12_named_80 : decode cX12_named 80 = .ok (.iconst (-1), 1) := by decide +kernel
theorem dX12_named_81 : decode cX12_named 81 = .ok (.ireturn, 1) := by decide +kernel
theorem dX12_isSame_0 : decode cX12_isSame 0 = .ok (.iload_n 2, 1) := by decide +kernel
theorem dX12_isSame_1 : decode cX12_isSame 1 = .ok (.iload 4, 2) := by decide +kernel
theorem dX12_isSame_3 : decode cX12_isSame 3 = .ok (.if_icmp .ne 7, 3) := by decide +kernel
theorem dX12_isSame_6 : decode cX12_isSame 6 = .ok (.iconst 1, 1) := by decide +kernel
theorem dX12_isSame_7 : decode cX12_isSame 7 = .ok (.goto 4, 3) := by decide +kernel
theorem dX12_isSame_10 : decode cX12_isSame 10 = .ok (.iconst 0, 1) := by decide +kernel
theorem dX12_isSame_11 : decode cX12_isSame 11 = .ok (.istore 5, 2) := by decide +kernel
theorem dX12_isSame_13 : decode cX12_isSame 13 = .ok (.iconst 0, 1) := by decide +kernel
theorem dX12_isSame_14 : decode cX12_isSame 14 = .ok (.istore 6, 2) := by decide +kernel
theorem dX12_isSame_16 : decode cX12_isSame 16 = .ok (.iload 5, 2) := by decide +kernel
theorem dX12_isSame_18 : decode cX12_isSame 18 = .ok (.ifCond .eq 41, 3) := by decide +kernel
theorem dX12_isSame_21 : decode cX12_isSame 21 = .ok (.iload 6, 2) := by decide +kernel
theorem dX12_isSame_23 : decode cX12_isSame 23 = .ok (.iload_n 2, 1) := by decide +kernel
theorem dX12_isSame_24 : decode cX12_isSame 24 = .ok (.if_icmp .ge 35, 3) := by decide +kernel
theorem dX12_isSame_27 : decode cX12_isSame 27 = .ok (.aload_n 0, 1) := by decide +kernel
theorem dX12_isSame_28 : decode cX12_isSame 28 = .ok (.iload_n 1, 1) := by decide +kernel
theorem dX12_isSame_29 : decode cX12_isSame 29 = .ok (.iload 6, 2) := by decide +kernel
theorem dX12_isSame_31 : decode cX12_isSame 31 = .ok (.iadd, 1) := by decide +kernel
theorem dX12_isSame_32 : decode cX12_isSame 32 = .ok (.invokevirtual 291, 3) := by decide +kernel
theorem dX12_isSame_35 : decode cX12_isSame 35 = .ok (.aload_n 0, 1) := by decide +kernel
theorem dX12_isSame_36 : decode cX12_isSame 36 = .ok (.iload_n 3, 1) := by decide +kernel
theorem dX12_isSame_37 : decode cX12_isSame 37 = .ok (.iload 6, 2) := by decide +kernel
theorem dX12_isSame_39 : decode cX12_isSame 39 = .ok (.iadd, 1) := by decide +kernel
theorem dX12_isSame_40 : decode cX12_isSame 40 = .ok (.invokevirtual 291, 3) := by decide +kernel
theorem dX12_isSame_43 : decode cX12_isSame 43 = .ok (.if_icmp .ne 7, 3) := by decide +kernel
theorem dX12_isSame_46 : decode cX12_isSame 46 = .ok (.iconst 1, 1) := by decide +kernel
theorem dX12_isSame_47 : decode cX12_isSame 47 = .ok (.goto 4, 3) := by decide +kernel
theorem dX12_isSame_50 : decode cX12_isSame 50 = .ok (.iconst 0, 1) := by decide +kernel
theorem dX12_isSame_51 : decode cX12_isSame 51 = .ok (.istore 5, 2) := by decide +kernel
theorem dX12_isSame_53 : decode cX12_isSame 53 = .ok (.iinc 6 1, 3) := by decide +kernel
theorem dX12_isSame_56 : decode cX12_isSame 56 = .ok (.goto (-40), 3) := by decide +kernel
theorem dX12_isSame_59 : decode cX12_isSame 59 = .ok (.iload 5, 2) := by decide +kernel
theorem dX12_isSame_61 : decode cX12_isSame 61 = .ok (.ireturn, 1) := by decide +kernel
theorem dX12_labelOf_0 : decode cX12_labelOf 0 = .ok (.iconst 0, 1) := by decide +kernel
theorem dX12_labelOf_1 : decode cX12_labelOf 1 = .ok (.istore_n 3, 1) := by decide +kernel
theorem dX12_labelOf_2 : decode cX12_labelOf 2 = .ok (.iload_n 3, 1) := by decide +kernel
theorem dX12_labelOf_3 : decode cX12_labelOf 3 = .ok (.aload_n 0, 1) := by decide +kernel
theorem dX12_labelOf_4 : decode cX12_labelOf 4 = .ok (.getfield 323, 3) := by decide +kernel
theorem dX12_labelOf_7 : decode cX12_labelOf 7 = .ok (.if_icmp .ge 32, 3) := by decide +kernel
theorem dX12_labelOf_10 : decode cX12_labelOf 10 = .ok (.aload_n 0, 1) := by decide +kernel
theorem dX12_labelOf_11 : decode cX12_labelOf 11 = .ok (.iload_n 1, 1) := by decide +kernel
theorem dX12_labelOf_12 : decode cX12_labelOf 12 = .ok (.iload_n 2, 1) := by decide +kernel
theorem dX12_labelOf_13 : decode cX12_labelOf 13 = .ok (.aload_n 0, 1) := by decide +kernel
theorem dX12_labelOf_14 : decode cX12_labelOf 14 = .ok (.getfield 27, 3) := by decide +kernel
theorem dX12_labelOf_17 : decode cX12_labelOf 17 = .ok (.iload_n 3, 1) := by decide +kernel
theorem dX12_labelOf_18 : decode cX12_labelOf 18 = .ok (.iaload, 1) := by decide +kernel
theorem dX12_labelOf_19 : decode cX12_labelOf 19 = .ok (.aload_n 0, 1) := by decide +kernel
theorem dX12_labelOf_20 : decode cX12_labelOf 20 = .ok (.getfield 30, 3) := by decide +kernel
theorem dX12_labelOf_23 : decode cX12_labelOf 23 = .ok (.iload_n 3, 1) := by decide +kernel
theorem dX12_labelOf_24 : decode cX12_labelOf 24 = .ok (.iaload, 1) := by decide +kernel
theorem dX12_labelOf_25 : decode cX12_labelOf 25 = .ok (.invokevirtual 326, 3) := by decide +kernel
theorem dX12_labelOf_28 : decode cX12_labelOf 28 = .ok (.ifCond .eq 5, 3) := by decide +kernel
theorem dX12_labelOf_31 : decode cX12_labelOf 31 = .ok (.iload_n 3, 1) := by decide +kernel
theorem dX12_labelOf_32 : decode cX12_labelOf 32 = .ok (.ireturn, 1) := by decide +kernel
theorem dX12_labelOf_33 : decode cX12_labelOf 33 = .ok (.iinc 3 1, 3) := by decide +kernel
theorem dX12_labelOf_36 : decode cX12_labelOf 36 = .ok (.goto (-34), 3) := by decide +kernel
theorem dX12_labelOf_39 : decode cX12_labelOf 39 = .ok (.iconst (-1), 1) := by decide +kernel
theorem dX12_labelOf_40 : decode cX12_labelOf 40 = .ok (.ireturn, 1) := by decide +kernel
theorem dX12_readLine_0 : decode cX12_readLine 0 = .ok (.aload_n 0, 1) := by decide +kernel
theorem dX12_readLine_1 : decode cX12_readLine 1 = .ok (.invokevirtual 330, 3) := by decide +kernel
theorem dX12_readLine_4 : decode cX12_readLine 4 = .ok (.aload_n 0, 1) := by decide +kernel
theorem dX12_readLine_5 : decode cX12_readLine 5 = .ok (.getfield 295, 3) := by decide +kernel
theorem dX12_readLine_8 : decode cX12_readLine 8 = .ok (.ifCond .ne 4, 3) := by decide +kernel
theorem dX12_readLine_11 : decode cX12_readLine 11 = .ok (.return_, 1) := by decide +kernel
theorem dX12_readLine_12 : decode cX12_readLine 12 = .ok (.aload_n 0, 1) := by decide +kernel
theorem dX12_readLine_13 : decode cX12_readLine 13 = .ok (.getfield 295, 3) := by decide +kernel
theorem dX12_readLine_16 : decode cX12_readLine 16 = .ok (.iconst 2, 1) := by decide +kernel
theorem dX12_readLine_17 : decode cX12_readLine 17 = .ok (.if_icmp .ne 10, 3) := by decide +kernel
theorem dX12_readLine_20 : decode cX12_readLine 20 = .ok (.aload_n 0, 1) := by decide +kernel
theorem dX12_readLine_21 : decode cX12_readLine 21 = .ok (.invokevirtual 333, 3) := by decide +kernel
theorem dX12_readLine_24 : decode cX12_readLine 24 = .ok (.ifCond .lt 9, 3) := by decide +kernel
theorem dX12_readLine_27 : decode cX12_readLine 27 = .ok (.aload_n 0, 1) := by decide +kernel
theorem dX12_readLine_28 : decode cX12_readLine 28 = .ok (.invokevirtual 337, 3) := by decide +kernel
theorem dX12_readLine_31 : decode cX12_readLine 31 = .ok (.pop, 1) := by decide +kernel
theorem dX12_readLine_32 : decode cX12_readLine 32 = .ok (.return_, 1) := by decide +kernel
theorem dX12_readLine_33 : decode cX12_readLine 33 = .ok (.aload_n 0, 1) := by decide +kernel
theorem dX12_readLine_34 : decode cX12_readLine 34 = .ok (.invokevirtual 341, 3) := by decide +kernel
theorem dX12_readLine_37 : decode cX12_readLine 37 = .ok (.istore_n 1, 1) := by decide +kernel
theorem dX12_readLine_38 : decode cX12_readLine 38 = .ok (.iload_n 1, 1) := by decide +kernel
theorem dX12_readLine_39 : decode cX12_readLine 39 = .ok (.ifCond .ge 142, 3) := by decide +kernel
theorem dX12_readLine_42 : decode cX12_readLine 42 = .ok (.aload_n 0, 1) := by decide +kernel
theorem dX12_readLine_43 : decode cX12_readLine 43 = .ok (.getfield 288, 3) := by decide +kernel
theorem dX12_readLine_46 : decode cX12_readLine 46 = .ok (.istore_n 2, 1) := by decide +kernel
theorem dX12_readLine_47 : decode cX12_readLine 47 = .ok (.aload_n 0, 1) := by decide +kernel
theorem dX12_readLine_48 : decode cX12_readLine 48 = .ok (.getfield 285, 3) := by decide +kernel
theorem dX12_readLine_51 : decode cX12_readLine 51 = .ok (.aload_n 0, 1) := by decide +kernel
theorem dX12_readLine_52 : decode cX12_readLine 52 = .ok (.getfield 288, 3) := by decide +kernel
theorem dX12_readLine_55 : decode cX12_readLine 55 = .ok (.isub, 1) := by decide +kernel
theorem dX12_readLine_56 : decode cX12_readLine 56 = .ok (.istore_n 3, 1) := by decide +kernel
theorem dX12_readLine_57 : decode cX12_readLine 57 = .ok (.aload_n 0, 1) := by decide +kernel
theorem dX12_readLine_58 : decode cX12_readLine 58 = .ok (.invokevirtual 330, 3) := by decide +kernel
theorem dX12_readLine_61 : decode cX12_readLine 61 = .ok (.aload_n 0, 1) := by decide +kernel
theorem dX12_readLine_62 : decode cX12_readLine 62 = .ok (.getfield 295, 3) := by decide +kernel
theorem dX12_readLine_65 : decode cX12_readLine 65 = .ok (.iconst 5, 1) := by decide +kernel
theorem dX12_readLine_66 : decode cX12_readLine 66 = .ok (.if_icmp .eq 9, 3) := by decide +kernel
theorem dX12_readLine_69 : decode cX12_readLine 69 = .ok (.aload_n 0, 1) := by decide +kernel
theorem dX12_readLine_70 : decode cX12_readLine 70 = .ok (.invokevirtual 337, 3) := by decide +kernel
theorem dX12_readLine_73 : decode cX12_readLine 73 = .ok (.pop, 1) := by decide +kernel
theorem dX12_readLine_74 : decode cX12_readLine 74 = .ok (.return_, 1) := by decide +kernel
theorem dX12_readLine_75 : decode cX12_readLine 75 = .ok (.aload_n 0, 1) := by decide +kernel
theorem dX12_readLine_76 : decode cX12_readLine 76 = .ok (.iload_n 2, 1) := by decide +kernel
theorem dX12_readLine_77 : decode cX12_readLine 77 = .ok (.iload_n 3, 1) := by decide +kernel
theorem dX12_readLine_78 : decode cX12_readLine 78 = .ok (.invokevirtual 344, 3) := by decide +kernel
theorem dX12_readLine_81 : decode cX12_readLine 81 = .ok (.ifCond .lt 10, 3) := by decide +kernel
theorem dX12_readLine_84 : decode cX12_readLine 84 = .ok (.aload_n 0, 1) := by decide +kernel
theorem dX12_readLine_85 : decode cX12_readLine 85 = .ok (.iconst 3, 1) := by decide +kernel
theorem dX12_readLine_86 : decode cX12_readLine 86 = .ok (.iload_n 2, 1) := by decide +kernel
theorem dX12_readLine_87 : decode cX12_readLine 87 = .ok (.invokevirtual 316, 3) := by decide +kernel
theorem dX12_readLine_90 : decode cX12_readLine 90 = .ok (.pop, 1) := by decide +kernel
theorem dX12_readLine_91 : decode cX12_readLine 91 = .ok (.aload_n 0, 1) := by decide +kernel
theorem dX12_readLine_92 : decode cX12_readLine 92 = .ok (.getfield 272, 3) := by decide +kernel
theorem dX12_readLine_95 : decode cX12_readLine 95 = .ok (.ifCond .le 4, 3) := by decide +kernel
theorem dX12_readLine_98 : decode cX12_readLine 98 = .ok (.return_, 1) := by decide +kernel
theorem dX12_readLine_99 : decode cX12_readLine 99 = .ok (.aload_n 0, 1) := by decide +kernel
theorem dX12_readLine_100 : decode cX12_readLine 100 = .ok (.getfield 27, 3) := by decide +kernel
theorem dX12_readLine_103 : decode cX12_readLine 103 = .ok (.aload_n 0, 1) := by decide +kernel
theorem dX12_readLine_104 : decode cX12_readLine 104 = .ok (.getfield 323, 3) := by decide +kernel
theorem dX12_readLine_107 : decode cX12_readLine 107 = .ok (.iload_n 2, 1) := by decide +kernel
theorem dX12_readLine_108 : decode cX12_readLine 108 = .ok (.iastore, 1) := by decide +kernel
theorem dX12_readLine_109 : decode cX12_readLine 109 = .ok (.aload_n 0, 1) := by decide +kernel
theorem dX12_readLine_110 : decode cX12_readLine 110 = .ok (.getfield 30, 3) := by decide +kernel
theorem dX12_readLine_113 : decode cX12_readLine 113 = .ok (.aload_n 0, 1) := by decide +kernel
theorem dX12_readLine_114 : decode cX12_readLine 114 = .ok (.getfield 323, 3) := by decide +kernel
theorem dX12_readLine_117 : decode cX12_readLine 117 = .ok (.iload_n 3, 1) := by decide +kernel
theorem dX12_readLine_118 : decode cX12_readLine 118 = .ok (.iastore, 1) := by decide +kernel
theorem dX12_readLine_119 : decode cX12_readLine 119 = .ok (.aload_n 0, 1) := by decide +kernel
theorem dX12_readLine_120 : decode cX12_readLine 120 = .ok (.getfield 33, 3) := by decide +kernel
theorem dX12_readLine_123 : decode cX12_readLine 123 = .ok (.aload_n 0, 1) := by decide +kernel
theorem dX12_readLine_124 : decode cX12_readLine 124 = .ok (.getfield 323, 3) := by decide +kernel
theorem dX12_readLine_127 : decode cX12_readLine 127 = .ok (.aload_n 0, 1) := by decide +kernel
theorem dX12_readLine_128 : decode cX12_readLine 128 = .ok (.getfield 348, 3) := by decide +kernel
theorem dX12_readLine_131 : decode cX12_readLine 131 = .ok (.iastore, 1) := by decide +kernel
theorem dX12_readLine_132 : decode cX12_readLine 132 = .ok (.aload_n 0, 1) := by decide +kernel
theorem dX12_readLine_133 : decode cX12_readLine 133 = .ok (.dup, 1) := by decide +kernel
theorem dX12_readLine_134 : decode cX12_readLine 134 = .ok (.getfield 323, 3) := by decide +kernel
theorem dX12_readLine_137 : decode cX12_readLine 137 = .ok (.iconst 1, 1) := by decide +kernel
theorem dX12_readLine_138 : decode cX12_readLine 138 = .ok (.iadd, 1) := by decide +kernel
theorem dX12_readLine_139 : decode cX12_readLine 139 = .ok (.putfield 323, 3) := by decide +kernel
theorem dX12_readLine_142 : decode cX12_readLine 142 = .ok (.aload_n 0, 1) := by decide +kernel
theorem dX12_readLine_143 : decode cX12_readLine 143 = .ok (.invokevirtual 330, 3) := by decide +kernel
theorem dX12_readLine_146 : decode cX12_readLine 146 = .ok (.aload_n 0, 1) := by decide +kernel
theorem dX12_readLine_147 : decode cX12_readLine 147 = .ok (.getfield 295, 3) := by decide +kernel
theorem dX12_readLine_150 : decode cX12_readLine 150 = .ok (.ifCond .ne 4, 3) := by decide +kernel
theorem dX12_readLine_153 : decode cX12_readLine 153 = .ok (.return_, 1) := by decide +kernel
theorem dX12_readLine_154 : decode cX12_readLine 154 = .ok (.aload_n 0, 1) := by decide +kernel
theorem dX12_readLine_155 : decode cX12_readLine 155 = .ok (.getfield 295, 3) := by decide +kernel
theorem dX12_readLine_158 : decode cX12_readLine 158 = .ok (.iconst 2, 1) := by decide +kernel
theorem dX12_readLine_159 : decode cX12_readLine 159 = .ok (.if_icmp .ne 10, 3) := by decide +kernel
theorem dX12_readLine_162 : decode cX12_readLine 162 = .ok (.aload_n 0, 1) := by decide +kernel
theorem dX12_readLine_163 : decode cX12_readLine 163 = .ok (.invokevirtual 341, 3) := by decide +kernel
theorem dX12_readLine_166 : decode cX12_readLine 166 = .ok (.goto 4, 3) := by decide +kernel
theorem dX12_readLine_169 : decode cX12_readLine 169 = .ok (.iconst (-1), 1) := by decide +kernel
theorem dX12_readLine_170 : decode cX12_readLine 170 = .ok (.istore_n 1, 1) := by decide +kernel
theorem dX12_readLine_171 : decode cX12_readLine 171 = .ok (.iload_n 1, 1) := by decide +kernel
theorem dX12_readLine_172 : decode cX12_readLine 172 = .ok (.ifCond .ge 9, 3) := by decide +kernel
theorem dX12_readLine_175 : decode cX12_readLine 175 = .ok (.aload_n 0, 1) := by decide +kernel
theorem dX12_readLine_176 : decode cX12_readLine 176 = .ok (.invokevirtual 337, 3) := by decide +kernel
theorem dX12_readLine_179 : decode cX12_readLine 179 = .ok (.pop, 1) := by decide +kernel
theorem dX12_readLine_180 : decode cX12_readLine 180 = .ok (.return_, 1) := by decide +kernel
theorem dX12_readLine_181 : decode cX12_readLine 181 = .ok (.aload_n 0, 1) := by decide +kernel
theorem dX12_readLine_182 : decode cX12_readLine 182 = .ok (.iload_n 1, 1) := by decide +kernel
theorem dX12_readLine_183 : decode cX12_readLine 183 = .ok (.invokevirtual 351, 3) := by decide +kernel
theorem dX12_readLine_186 : decode cX12_readLine 186 = .ok (.return_, 1) := by decide +kernel
theorem dX12_readOrder_0 : decode cX12_readOrder 0 = .ok (.sipush 200, 3) := by decide +kernel
theorem dX12_readOrder_3 : decode cX12_readOrder 3 = .ok (.aload_n 0, 1) := by decide +kernel
theorem dX12_readOrder_4 : decode cX12_readOrder 4 = .ok (.getfield 355, 3) := by decide +kernel
theorem dX12_readOrder_7 : decode cX12_readOrder 7 = .ok (.imul, 1) := by decide +kernel
theorem dX12_readOrder_8 : decode cX12_readOrder 8 = .ok (.aload_n 0, 1) := by decide +kernel
theorem dX12_readOrder_9 : decode cX12_readOrder 9 = .ok (.getfield 348, 3) := by decide +kernel
theorem dX12_readOrder_12 : decode cX12_readOrder 12 = .ok (.iadd, 1) := by decide +kernel
theorem dX12_readOrder_13 : decode cX12_readOrder 13 = .ok (.istore_n 2, 1) := by decide +kernel
theorem dX12_readOrder_14 : decode cX12_readOrder 14 = .ok (.aload_n 0, 1) := by decide +kernel
theorem dX12_readOrder_15 : decode cX12_readOrder 15 = .ok (.getfield 16, 3) := by decide +kernel
theorem dX12_readOrder_18 : decode cX12_readOrder 18 = .ok (.iload_n 2, 1) := by decide +kernel
theorem dX12_readOrder_19 : decode cX12_readOrder 19 = .ok (.iload_n 1, 1) := by decide +kernel
theorem dX12_readOrder_20 : decode cX12_readOrder 20 = .ok (.iastore, 1) := by decide +kernel
theorem dX12_readOrder_21 : decode cX12_readOrder 21 = .ok (.iload_n 1, 1) := by decide +kernel
theorem dX12_readOrder_22 : decode cX12_readOrder 22 = .ok (.invokestatic 358, 3) := by decide +kernel
theorem dX12_readOrder_25 : decode cX12_readOrder 25 = .ok (.istore_n 3, 1) := by decide +kernel
theorem dX12_readOrder_26 : decode cX12_readOrder 26 = .ok (.aload_n 0, 1) := by decide +kernel
theorem dX12_readOrder_27 : decode cX12_readOrder 27 = .ok (.invokevirtual 330, 3) := by decide +kernel
theorem dX12_readOrder_30 : decode cX12_readOrder 30 = .ok (.iconst 3, 1) := by decide +kernel
theorem dX12_readOrder_31 : decode cX12_readOrder 31 = .ok (.iload_n 2, 1) := by decide +kernel
theorem dX12_readOrder_32 : decode cX12_readOrder 32 = .ok (.imul, 1) := by decide +kernel
theorem dX12_readOrder_33 : decode cX12_readOrder 33 = .ok (.istore 4, 2) := by decide +kernel
theorem dX12_readOrder_35 : decode cX12_readOrder 35 = .ok (.sipush 256, 3) := by decide +kernel
theorem dX12_readOrder_38 : decode cX12_readOrder 38 = .ok (.istore 5, 2) := by decide +kernel
theorem dX12_readOrder_40 : decode cX12_readOrder 40 = .ok (.iload 5, 2) := by decide +kernel
theorem dX12_readOrder_42 : decode cX12_readOrder 42 = .ok (.ifCond .le 86, 3) := by decide +kernel
theorem dX12_readOrder_45 : decode cX12_readOrder 45 = .ok (.iload_n 3, 1) := by decide +kernel
theorem dX12_readOrder_46 : decode cX12_readOrder 46 = .ok (.iload 5, 2) := by decide +kernel
theorem dX12_readOrder_48 : decode cX12_readOrder 48 = .ok (.idiv, 1) := by decide +kernel
theorem dX12_readOrder_49 : decode cX12_readOrder 49 = .ok (.bipush 16, 2) := by decide +kernel
theorem dX12_readOrder_51 : decode cX12_readOrder 51 = .ok (.irem, 1) := by decide +kernel
theorem dX12_readOrder_52 : decode cX12_readOrder 52 = .ok (.istore 6, 2) := by decide +kernel
theorem dX12_readOrder_54 : decode cX12_readOrder 54 = .ok (.iload 6, 2) := by decide +kernel
theorem dX12_readOrder_56 : decode cX12_readOrder 56 = .ok (.ifCond .ne 6, 3) := by decide +kernel
theorem dX12_readOrder_59 : decode cX12_readOrder 59 = .ok (.goto 59, 3) := by decide +kernel
theorem dX12_readOrder_62 : decode cX12_readOrder 62 = .ok (.iload 4, 2) := by decide +kernel
theorem dX12_readOrder_64 : decode cX12_readOrder 64 = .ok (.iconst 3, 1) := by decide +kernel
theorem dX12_readOrder_65 : decode cX12_readOrder 65 = .ok (.iload_n 2, 1) := by decide +kernel
theorem dX12_readOrder_66 : decode cX12_readOrder 66 = .ok (.imul, 1) := by decide +kernel
theorem dX12_readOrder_67 : decode cX12_readOrder 67 = .ok (.if_icmp .le 28, 3) := by decide +kernel
theorem dX12_readOrder_70 : decode cX12_readOrder 70 = .ok (.aload_n 0, 1) := by decide +kernel
theorem dX12_readOrder_71 : decode cX12_readOrder 71 = .ok (.getfield 295, 3) := by decide +kernel
theorem dX12_readOrder_74 : decode cX12_readOrder 74 = .ok (.iconst 4, 1) := by decide +kernel
theorem dX12_readOrder_75 : decode cX12_readOrder 75 = .ok (.if_icmp .eq 8, 3) := by decide +kernel
theorem dX12_readOrder_78 : decode cX12_readOrder 78 = .ok (.aload_n 0, 1) := by decide +kernel
theorem dX12_readOrder_79 : decode cX12_readOrder 79 = .ok (.invokevirtual 337, 3) := by decide +kernel
theorem dX12_readOrder_82 : decode cX12_readOrder 82 = .ok (.pop, 1) := by decide +kernel
theorem dX12_readOrder_83 : decode cX12_readOrder 83 = .ok (.aload_n 0, 1) := by decide +kernel
theorem dX12_readOrder_84 : decode cX12_readOrder 84 = .ok (.getfield 272, 3) := by decide +kernel
theorem dX12_readOrder_87 : decode cX12_readOrder 87 = .ok (.ifCond .le 4, 3) := by decide +kernel
theorem dX12_readOrder_90 : decode cX12_readOrder 90 = .ok (.return_, 1) := by decide +kernel
theorem dX12_readOrder_91 : decode cX12_readOrder 91 = .ok (.aload_n 0, 1) := by decide +kernel
theorem dX12_readOrder_92 : decode cX12_readOrder 92 = .ok (.invokevirtual 330, 3) := by decide +kernel
theorem dX12_readOrder_95 : decode cX12_readOrder 95 = .ok (.aload_n 0, 1) := by decide +kernel
theorem dX12_readOrder_96 : decode cX12_readOrder 96 = .ok (.iload 6, 2) := by decide +kernel
theorem dX12_readOrder_98 : decode cX12_readOrder 98 = .ok (.iload 4, 2) := by decide +kernel
theorem dX12_readOrder_100 : decode cX12_readOrder 100 = .ok (.invokevirtual 361, 3) := by decide +kernel
theorem dX12_readOrder_103 : decode cX12_readOrder 103 = .ok (.aload_n 0, 1) := by decide +kernel
theorem dX12_readOrder_104 : decode cX12_readOrder 104 = .ok (.getfield 272, 3) := by decide +kernel
theorem dX12_readOrder_107 : decode cX12_readOrder 107 = .ok (.ifCond .le 4, 3) := by decide +kernel
theorem dX12_readOrder_110 : decode cX12_readOrder 110 = .ok (.return_, 1) := by decide +kernel
theorem dX12_readOrder_111 : decode cX12_readOrder 111 = .ok (.iinc 4 1, 3) := by decide +kernel
theorem dX12_readOrder_114 : decode cX12_readOrder 114 = .ok (.aload_n 0, 1) := by decide +kernel
theorem dX12_readOrder_115 : decode cX12_readOrder 115 = .ok (.invokevirtual 330, 3) := by decide +kernel
theorem dX12_readOrder_118 : decode cX12_readOrder 118 = .ok (.iload 5, 2) := by decide +kernel
theorem dX12_readOrder_120 : decode cX12_readOrder 120 = .ok (.bipush 16, 2) := by decide +kernel
theorem dX12_readOrder_122 : decode cX12_readOrder 122 = .ok (.idiv, 1) := by decide +kernel
theorem dX12_readOrder_123 : decode cX12_readOrder 123 = .ok (.istore 5, 2) := by decide +kernel
theorem dX12_readOrder_125 : decode cX12_readOrder 125 = .ok (.goto (-85), 3) := by decide +kernel
theorem dX12_readOrder_128 : decode cX12_readOrder 128 = .ok (.aload_n 0, 1) := by decide +kernel
theorem dX12_readOrder_129 : decode cX12_readOrder 129 = .ok (.getfield 295, 3) := by decide +kernel
theorem dX12_readOrder_132 : decode cX12_readOrder 132 = .ok (.ifCond .eq 8, 3) := by decide +kernel
theorem dX12_readOrder_135 : decode cX12_readOrder 135 = .ok (.aload_n 0, 1) := by decide +kernel
theorem dX12_readOrder_136 : decode cX12_readOrder 136 = .ok (.invokevirtual 337, 3) := by decide +kernel
theorem dX12_readOrder_139 : decode cX12_readOrder 139 = .ok (.pop, 1) := by decide +kernel
theorem dX12_readOrder_140 : decode cX12_readOrder 140 = .ok (.aload_n 0, 1) := by decide +kernel
theorem dX12_readOrder_141 : decode cX12_readOrder 141 = .ok (.dup, 1) := by decide +kernel
theorem dX12_readOrder_142 : decode cX12_readOrder 142 = .ok (.getfield 348, 3) := by decide +kernel
theorem dX12_readOrder_145 : decode cX12_readOrder 145 = .ok (.iconst 1, 1) := by decide +kernel
theorem dX12_readOrder_146 : decode cX12_readOrder 146 = .ok (.iadd, 1) := by decide +kernel
theorem dX12_readOrder_147 : decode cX12_readOrder 147 = .ok (.putfield 348, 3) := by decide +kernel
theorem dX12_readOrder_150 : decode cX12_readOrder 150 = .ok (.return_, 1) := by decide +kernel
theorem dX12_readOperand_0 : decode cX12_readOperand 0 = .ok (.aload_n 0, 1) := by decide +kernel
theorem dX12_readOperand_1 : decode cX12_readOperand 1 = .ok (.invokevirtual 333, 3) := by decide +kernel
theorem dX12_readOperand_4 : decode cX12_readOperand 4 = .ok (.istore_n 3, 1) := by decide +kernel
theorem dX12_readOperand_5 : decode cX12_readOperand 5 = .ok (.aload_n 0, 1) := by decide +kernel
theorem dX12_readOperand_6 : decode cX12_readOperand 6 = .ok (.getfield 20, 3) := by decide +kernel
theorem dX12_readOperand_9 : decode cX12_readOperand 9 = .ok (.iload_n 2, 1) := by decide +kernel
theorem dX12_readOperand_10 : decode cX12_readOperand 10 = .ok (.iload_n 3, 1) := by decide +kernel
theorem dX12_readOperand_11 : decode cX12_readOperand 11 = .ok (.ifCond .lt 7, 3) := by decide +kernel
theorem dX12_readOperand_14 : decode cX12_readOperand 14 = .ok (.iconst 1, 1) := by decide +kernel
theorem dX12_readOperand_15 : decode cX12_readOperand 15 = .ok (.goto 4, 3) := by decide +kernel
theorem dX12_readOperand_18 : decode cX12_readOperand 18 = .ok (.iconst 0, 1) := by decide +kernel
theorem dX12_readOperand_19 : decode cX12_readOperand 19 = .ok (.bastore, 1) := by decide +kernel
theorem dX12_readOperand_20 : decode cX12_readOperand 20 = .ok (.iload_n 3, 1) := by decide +kernel
theorem dX12_readOperand_21 : decode cX12_readOperand 21 = .ok (.ifCond .lt 23, 3) := by decide +kernel
theorem dX12_readOperand_24 : decode cX12_readOperand 24 = .ok (.iload_n 1, 1) := by decide +kernel
theorem dX12_readOperand_25 : decode cX12_readOperand 25 = .ok (.iconst 1, 1) := by decide +kernel
theorem dX12_readOperand_26 : decode cX12_readOperand 26 = .ok (.if_icmp .eq 8, 3) := by decide +kernel
theorem dX12_readOperand_29 : decode cX12_readOperand 29 = .ok (.iload_n 1, 1) := by decide +kernel
theorem dX12_readOperand_30 : decode cX12_readOperand 30 = .ok (.iconst 3, 1) := by decide +kernel
theorem dX12_readOperand_31 : decode cX12_readOperand 31 = .ok (.if_icmp .ne 13, 3) := by decide +kernel
theorem dX12_readOperand_34 : decode cX12_readOperand 34 = .ok (.aload_n 0, 1) := by decide +kernel
theorem dX12_readOperand_35 : decode cX12_readOperand 35 = .ok (.getfield 24, 3) := by decide +kernel
theorem dX12_readOperand_38 : decode cX12_readOperand 38 = .ok (.iload_n 2, 1) := by decide +kernel
theorem dX12_readOperand_39 : decode cX12_readOperand 39 = .ok (.iload_n 3, 1) := by decide +kernel
theorem dX12_readOperand_40 : decode cX12_readOperand 40 = .ok (.iastore, 1) := by decide +kernel
theorem dX12_readOperand_41 : decode cX12_readOperand 41 = .ok (.goto 130, 3) := by decide +kernel
theorem dX12_readOperand_44 : decode cX12_readOperand 44 = .ok (.aload_n 0, 1) := by decide +kernel
theorem dX12_readOperand_45 : decode cX12_readOperand 45 = .ok (.getfield 295, 3) := by decide +kernel
theorem dX12_readOperand_48 : decode cX12_readOperand 48 = .ok (.iconst 3, 1) := by decide +kernel
theorem dX12_readOperand_49 : decode cX12_readOperand 49 = .ok (.if_icmp .ne 26, 3) := by decide +kernel
theorem dX12_readOperand_52 : decode cX12_readOperand 52 = .ok (.iload_n 1, 1) := by decide +kernel
theorem dX12_readOperand_53 : decode cX12_readOperand 53 = .ok (.iconst 2, 1) := by decide +kernel
theorem dX12_readOperand_54 : decode cX12_readOperand 54 = .ok (.if_icmp .eq 8, 3) := by decide +kernel
theorem dX12_readOperand_57 : decode cX12_readOperand 57 = .ok (.iload_n 1, 1) := by decide +kernel
theorem dX12_readOperand_58 : decode cX12_readOperand 58 = .ok (.iconst 3, 1) := by decide +kernel
theorem dX12_readOperand_59 : decode cX12_readOperand 59 = .ok (.if_icmp .ne 16, 3) := by decide +kernel
theorem dX12_readOperand_62 : decode cX12_readOperand 62 = .ok (.aload_n 0, 1) := by decide +kernel
theorem dX12_readOperand_63 : decode cX12_readOperand 63 = .ok (.getfield 24, 3) := by decide +kernel
theorem dX12_readOperand_66 : decode cX12_readOperand 66 = .ok (.iload_n 2, 1) := by decide +kernel
theorem dX12_readOperand_67 : decode cX12_readOperand 67 = .ok (.aload_n 0, 1) := by decide +kernel
theorem dX12_readOperand_68 : decode cX12_readOperand 68 = .ok (.getfield 313, 3) := by decide +kernel
theorem dX12_readOperand_71 : decode cX12_readOperand 71 = .ok (.iastore, 1) := by decide +kernel
theorem dX12_readOperand_72 : decode cX12_readOperand 72 = .ok (.goto 99, 3) := by decide +kernel
theorem dX12_readOperand_75 : decode cX12_readOperand 75 = .ok (.aload_n 0, 1) := by decide +kernel
theorem dX12_readOperand_76 : decode cX12_readOperand 76 = .ok (.getfield 295, 3) := by decide +kernel
theorem dX12_readOperand_79 : decode cX12_readOperand 79 = .ok (.iconst 2, 1) := by decide +kernel
theorem dX12_readOperand_80 : decode cX12_readOperand 80 = .ok (.if_icmp .ne 86, 3) := by decide +kernel
theorem dX12_readOperand_83 : decode cX12_readOperand 83 = .ok (.iload_n 1, 1) := by decide +kernel
theorem dX12_readOperand_84 : decode cX12_readOperand 84 = .ok (.iconst 4, 1) := by decide +kernel
theorem dX12_readOperand_85 : decode cX12_readOperand 85 = .ok (.if_icmp .ne 81, 3) := by decide +kernel
theorem dX12_readOperand_88 : decode cX12_readOperand 88 = .ok (.iload_n 3, 1) := by decide +kernel
theorem dX12_readOperand_89 : decode cX12_readOperand 89 = .ok (.ifCond .ge 77, 3) := by decide +kernel
theorem dX12_readOperand_92 : decode cX12_readOperand 92 = .ok (.aload_n 0, 1) := by decide +kernel
theorem dX12_readOperand_93 : decode cX12_readOperand 93 = .ok (.invokevirtual 341, 3) := by decide +kernel
theorem dX12_readOperand_96 : decode cX12_readOperand 96 = .ok (.ifCond .ge 70, 3) := by decide +kernel
theorem dX12_readOperand_99 : decode cX12_readOperand 99 = .ok (.aload_n 0, 1) := by decide +kernel
theorem dX12_readOperand_100 : decode cX12_readOperand 100 = .ok (.getfield 36, 3) := by decide +kernel
theorem dX12_readOperand_103 : decode cX12_readOperand 103 = .ok (.aload_n 0, 1) := by decide +kernel
theorem dX12_readOperand_104 : decode cX12_readOperand 104 = .ok (.getfield 365, 3) := by decide +kernel
theorem dX12_readOperand_107 : decode cX12_readOperand 107 = .ok (.aload_n 0, 1) := by decide +kernel
theorem dX12_readOperand_108 : decode cX12_readOperand 108 = .ok (.getfield 288, 3) := by decide +kernel
theorem dX12_readOperand_111 : decode cX12_readOperand 111 = .ok (.iastore, 1) := by decide +kernel
theorem dX12_readOperand_112 : decode cX12_readOperand 112 = .ok (.aload_n 0, 1) := by decide +kernel
theorem dX12_readOperand_113 : decode cX12_readOperand 113 = .ok (.getfield 39, 3) := by decide +kernel
theorem dX12_readOperand_116 : decode cX12_readOperand 116 = .ok (.aload_n 0, 1) := by decide +kernel
theorem dX12_readOperand_117 : decode cX12_readOperand 117 = .ok (.getfield 365, 3) := by decide +kernel
theorem dX12_readOperand_120 : decode cX12_readOperand 120 = .ok (.aload_n 0, 1) := by decide +kernel
theorem dX12_readOperand_121 : decode cX12_readOperand 121 = .ok (.getfield 285, 3) := by decide +kernel
theorem dX12_readOperand_124 : decode cX12_readOperand 124 = .ok (.aload_n 0, 1) := by decide +kernel
theorem dX12_readOperand_125 : decode cX12_readOperand 125 = .ok (.getfield 288, 3) := by decide +kernel
theorem dX12_readOperand_128 : decode cX12_readOperand 128 = .ok (.isub, 1) := by decide +kernel
theorem dX12_readOperand_129 : decode cX12_readOperand 129 = .ok (.iastore, 1) := by decide +kernel
theorem dX12_readOperand_130 : decode cX12_readOperand 130 = .ok (.aload_n 0, 1) := by decide +kernel
theorem dX12_readOperand_131 : decode cX12_readOperand 131 = .ok (.getfield 42, 3) := by decide +kernel
theorem dX12_readOperand_134 : decode cX12_readOperand 134 = .ok (.aload_n 0, 1) := by decide +kernel
theorem dX12_readOperand_135 : decode cX12_readOperand 135 = .ok (.getfield 365, 3) := by decide +kernel
theorem dX12_readOperand_138 : decode cX12_readOperand 138 = .ok (.aload_n 0, 1) := by decide +kernel
theorem dX12_readOperand_139 : decode cX12_readOperand 139 = .ok (.getfield 275, 3) := by decide +kernel
theorem dX12_readOperand_142 : decode cX12_readOperand 142 = .ok (.iastore, 1) := by decide +kernel
theorem dX12_readOperand_143 : decode cX12_readOperand 143 = .ok (.aload_n 0, 1) := by decide +kernel
theorem dX12_readOperand_144 : decode cX12_readOperand 144 = .ok (.getfield 45, 3) := by decide +kernel
theorem dX12_readOperand_147 : decode cX12_readOperand 147 = .ok (.aload_n 0, 1) := by decide +kernel
theorem dX12_readOperand_148 : decode cX12_readOperand 148 = .ok (.getfield 365, 3) := by decide +kernel
theorem dX12_readOperand_151 : decode cX12_readOperand 151 = .ok (.iload_n 2, 1) := by decide +kernel
theorem dX12_readOperand_152 : decode cX12_readOperand 152 = .ok (.iastore, 1) := by decide +kernel
theorem dX12_readOperand_153 : decode cX12_readOperand 153 = .ok (.aload_n 0, 1) := by decide +kernel
theorem dX12_readOperand_154 : decode cX12_readOperand 154 = .ok (.dup, 1) := by decide +kernel
theorem dX12_readOperand_155 : decode cX12_readOperand 155 = .ok (.getfield 365, 3) := by decide +kernel
theorem dX12_readOperand_158 : decode cX12_readOperand 158 = .ok (.iconst 1, 1) := by decide +kernel
theorem dX12_readOperand_159 : decode cX12_readOperand 159 = .ok (.iadd, 1) := by decide +kernel
theorem dX12_readOperand_160 : decode cX12_readOperand 160 = .ok (.putfield 365, 3) := by decide +kernel
theorem dX12_readOperand_163 : decode cX12_readOperand 163 = .ok (.goto 8, 3) := by decide +kernel
theorem dX12_readOperand_166 : decode cX12_readOperand 166 = .ok (.aload_n 0, 1) := by decide +kernel
theorem dX12_readOperand_167 : decode cX12_readOperand 167 = .ok (.invokevirtual 337, 3) := by decide +kernel
theorem dX12_readOperand_170 : decode cX12_readOperand 170 = .ok (.pop, 1) := by decide +kernel
theorem dX12_readOperand_171 : decode cX12_readOperand 171 = .ok (.return_, 1) := by decide +kernel
theorem dX12_tooMuch_0 : decode cX12_tooMuch 0 = .ok (.iconst 0, 1) := by decide +kernel
theorem dX12_tooMuch_1 : decode cX12_tooMuch 1 = .ok (.istore_n 1, 1) := by decide +kernel
theorem dX12_tooMuch_2 : decode cX12_tooMuch 2 = .ok (.iconst 0, 1) := by decide +kernel
theorem dX12_tooMuch_3 : decode cX12_tooMuch 3 = .ok (.istore_n 2, 1) := by decide +kernel
theorem dX12_tooMuch_4 : decode cX12_tooMuch 4 = .ok (.iload_n 2, 1) := by decide +kernel
theorem dX12_tooMuch_5 : decode cX12_tooMuch 5 = .ok (.aload_n 0, 1) := by decide +kernel
theorem dX12_tooMuch_6 : decode cX12_tooMuch 6 = .ok (.getfield 368, 3) := by decide +kernel
theorem dX12_tooMuch_9 : decode cX12_tooMuch 9 = .ok (.if_icmp .ge 64, 3) := by decide +kernel
theorem dX12_tooMuch_12 : decode cX12_tooMuch 12 = .ok (.iload_n 2, 1) := by decide +kernel
theorem dX12_tooMuch_13 : decode cX12_tooMuch 13 = .ok (.sipush 3000, 3) := by decide +kernel
theorem dX12_tooMuch_16 : decode cX12_tooMuch 16 = .ok (.if_icmp .ge 57, 3) := by decide +kernel
theorem dX12_tooMuch_19 : decode cX12_tooMuch 19 = .ok (.iload_n 2, 1) := by decide +kernel
theorem dX12_tooMuch_20 : decode cX12_tooMuch 20 = .ok (.ifCond .eq 16, 3) := by decide +kernel
theorem dX12_tooMuch_23 : decode cX12_tooMuch 23 = .ok (.aload_n 0, 1) := by decide +kernel
theorem dX12_tooMuch_24 : decode cX12_tooMuch 24 = .ok (.getfield 7, 3) := by decide +kernel
theorem dX12_tooMuch_27 : decode cX12_tooMuch 27 = .ok (.iload_n 2, 1) := by decide +kernel
theorem dX12_tooMuch_28 : decode cX12_tooMuch 28 = .ok (.iconst 1, 1) := by decide +kernel
theorem dX12_tooMuch_29 : decode cX12_tooMuch 29 = .ok (.isub, 1) := by decide +kernel
theorem dX12_tooMuch_30 : decode cX12_tooMuch 30 = .ok (.baload, 1) := by decide +kernel
theorem dX12_tooMuch_31 : decode cX12_tooMuch 31 = .ok (.bipush 10, 2) := by decide +kernel
theorem dX12_tooMuch_33 : decode cX12_tooMuch 33 = .ok (.if_icmp .ne 7, 3) := by decide +kernel
theorem dX12_tooMuch_36 : decode cX12_tooMuch 36 = .ok (.iconst 1, 1) := by decide +kernel
theorem dX12_tooMuch_37 : decode cX12_tooMuch 37 = .ok (.goto 4, 3) := by decide +kernel
theorem dX12_tooMuch_40 : decode cX12_tooMuch 40 = .ok (.iconst 0, 1) := by decide +kernel
theorem dX12_tooMuch_41 : decode cX12_tooMuch 41 = .ok (.istore_n 3, 1) := by decide +kernel
theorem dX12_tooMuch_42 : decode cX12_tooMuch 42 = .ok (.iload_n 1, 1) := by decide +kernel
theorem dX12_tooMuch_43 : decode cX12_tooMuch 43 = .ok (.iload_n 3, 1) := by decide +kernel
theorem dX12_tooMuch_44 : decode cX12_tooMuch 44 = .ok (.ifCond .eq 7, 3) := by decide +kernel
theorem dX12_tooMuch_47 : decode cX12_tooMuch 47 = .ok (.iconst 1, 1) := by decide +kernel
theorem dX12_tooMuch_48 : decode cX12_tooMuch 48 = .ok (.goto 4, 3) := by decide +kernel
theorem dX12_tooMuch_51 : decode cX12_tooMuch 51 = .ok (.iconst 0, 1) := by decide +kernel
theorem dX12_tooMuch_52 : decode cX12_tooMuch 52 = .ok (.iadd, 1) := by decide +kernel
theorem dX12_tooMuch_53 : decode cX12_tooMuch 53 = .ok (.istore_n 1, 1) := by decide +kernel
theorem dX12_tooMuch_54 : decode cX12_tooMuch 54 = .ok (.iload_n 3, 1) := by decide +kernel
theorem dX12_tooMuch_55 : decode cX12_tooMuch 55 = .ok (.ifCond .eq 12, 3) := by decide +kernel
theorem dX12_tooMuch_58 : decode cX12_tooMuch 58 = .ok (.iload_n 1, 1) := by decide +kernel
theorem dX12_tooMuch_59 : decode cX12_tooMuch 59 = .ok (.sipush 201, 3) := by decide +kernel
theorem dX12_tooMuch_62 : decode cX12_tooMuch 62 = .ok (.if_icmp .ne 5, 3) := by decide +kernel
theorem dX12_tooMuch_65 : decode cX12_tooMuch 65 = .ok (.iload_n 2, 1) := by decide +kernel
theorem dX12_tooMuch_66 : decode cX12_tooMuch 66 = .ok (.ireturn, 1) := by decide +kernel
theorem dX12_tooMuch_67 : decode cX12_tooMuch 67 = .ok (.iinc 2 1, 3) := by decide +kernel
theorem dX12_tooMuch_70 : decode cX12_tooMuch 70 = .ok (.goto (-66), 3) := by decide +kernel
theorem dX12_tooMuch_73 : decode cX12_tooMuch 73 = .ok (.aload_n 0, 1) := by decide +kernel
theorem dX12_tooMuch_74 : decode cX12_tooMuch 74 = .ok (.getfield 368, 3) := by decide +kernel
theorem dX12_tooMuch_77 : decode cX12_tooMuch 77 = .ok (.sipush 3000, 3) := by decide +kernel
theorem dX12_tooMuch_80 : decode cX12_tooMuch 80 = .ok (.if_icmp .le 9, 3) := by decide +kernel
theorem dX12_tooMuch_83 : decode cX12_tooMuch 83 = .ok (.sipush 3000, 3) := by decide +kernel
theorem dX12_tooMuch_86 : decode cX12_tooMuch 86 = .ok (.goto 4, 3) := by decide +kernel
theorem dX12_tooMuch_89 : decode cX12_tooMuch 89 = .ok (.iconst (-1), 1) := by decide +kernel
theorem dX12_tooMuch_90 : decode cX12_tooMuch 90 = .ok (.ireturn, 1) := by decide +kernel
theorem dX12_assemble_0 : decode cX12_assemble 0 = .ok (.aload_n 0, 1) := by decide +kernel
theorem dX12_assemble_1 : decode cX12_assemble 1 = .ok (.iconst 0, 1) := by decide +kernel
theorem dX12_assemble_2 : decode cX12_assemble 2 = .ok (.putfield 272, 3) := by decide +kernel
theorem dX12_assemble_5 : decode cX12_assemble 5 = .ok (.aload_n 0, 1) := by decide +kernel
theorem dX12_assemble_6 : decode cX12_assemble 6 = .ok (.iconst (-1), 1) := by decide +kernel
theorem dX12_assemble_7 : decode cX12_assemble 7 = .ok (.putfield 48, 3) := by decide +kernel
theorem dX12_assemble_10 : decode cX12_assemble 10 = .ok (.aload_n 0, 1) := by decide +kernel
theorem dX12_assemble_11 : decode cX12_assemble 11 = .ok (.iconst (-1), 1) := by decide +kernel
theorem dX12_assemble_12 : decode cX12_assemble 12 = .ok (.putfield 52, 3) := by decide +kernel
theorem dX12_assemble_15 : decode cX12_assemble 15 = .ok (.aload_n 0, 1) := by decide +kernel
theorem dX12_assemble_16 : decode cX12_assemble 16 = .ok (.invokevirtual 371, 3) := by decide +kernel
theorem dX12_assemble_19 : decode cX12_assemble 19 = .ok (.istore_n 1, 1) := by decide +kernel
theorem dX12_assemble_20 : decode cX12_assemble 20 = .ok (.iload_n 1, 1) := by decide +kernel
theorem dX12_assemble_21 : decode cX12_assemble 21 = .ok (.ifCond .lt 60, 3) := by decide +kernel
theorem dX12_assemble_24 : decode cX12_assemble 24 = .ok (.aload_n 0, 1) := by decide +kernel
theorem dX12_assemble_25 : decode cX12_assemble 25 = .ok (.iconst 1, 1) := by decide +kernel
theorem dX12_assemble_26 : decode cX12_assemble 26 = .ok (.putfield 275, 3) := by decide +kernel
theorem dX12_assemble_29 : decode cX12_assemble 29 = .ok (.iconst 0, 1) := by decide +kernel
theorem dX12_assemble_30 : decode cX12_assemble 30 = .ok (.istore_n 2, 1) := by decide +kernel
theorem dX12_assemble_31 : decode cX12_assemble 31 = .ok (.iload_n 2, 1) := by decide +kernel
theorem dX12_assemble_32 : decode cX12_assemble 32 = .ok (.iload_n 1, 1) := by decide +kernel
theorem dX12_assemble_33 : decode cX12_assemble 33 = .ok (.if_icmp .ge 34, 3) := by decide +kernel
theorem dX12_assemble_36 : decode cX12_assemble 36 = .ok (.aload_n 0, 1) := by decide +kernel
theorem dX12_assemble_37 : decode cX12_assemble 37 = .ok (.dup, 1) := by decide +kernel
theorem dX12_assemble_38 : decode cX12_assemble 38 = .ok (.getfield 275, 3) := by decide +kernel
theorem dX12_assemble_41 : decode cX12_assemble 41 = .ok (.aload_n 0, 1) := by decide +kernel
theorem dX12_assemble_42 : decode cX12_assemble 42 = .ok (.getfield 7, 3) := by decide +kernel
theorem dX12_assemble_45 : decode cX12_assemble 45 = .ok (.iload_n 2, 1) := by decide +kernel
theorem dX12_assemble_46 : decode cX12_assemble 46 = .ok (.baload, 1) := by decide +kernel
theorem dX12_assemble_47 : decode cX12_assemble 47 = .ok (.bipush 10, 2) := by decide +kernel
theorem dX12_assemble_49 : decode cX12_assemble 49 = .ok (.if_icmp .ne 7, 3) := by decide +kernel
theorem dX12_assemble_52 : decode cX12_assemble 52 = .ok (.iconst 1, 1) := by decide +kernel
theorem dX12_assemble_53 : decode cX12_assemble 53 = .ok (.goto 4, 3) := by decide +kernel
theorem dX12_assemble_56 : decode cX12_assemble 56 = .ok (.iconst 0, 1) := by decide +kernel
theorem dX12_assemble_57 : decode cX12_assemble 57 = .ok (.iadd, 1) := by decide +kernel
theorem dX12_assemble_58 : decode cX12_assemble 58 = .ok (.putfield 275, 3) := by decide +kernel
theorem dX12_assemble_61 : decode cX12_assemble 61 = .ok (.iinc 2 1, 3) := by decide +kernel
theorem dX12_assemble_64 : decode cX12_assemble 64 = .ok (.goto (-33), 3) := by decide +kernel
theorem dX12_assemble_67 : decode cX12_assemble 67 = .ok (.aload_n 0, 1) := by decide +kernel
theorem dX12_assemble_68 : decode cX12_assemble 68 = .ok (.iconst 5, 1) := by decide +kernel
theorem dX12_assemble_69 : decode cX12_assemble 69 = .ok (.iload_n 1, 1) := by decide +kernel
theorem dX12_assemble_70 : decode cX12_assemble 70 = .ok (.invokevirtual 316, 3) := by decide +kernel
theorem dX12_assemble_73 : decode cX12_assemble 73 = .ok (.pop, 1) := by decide +kernel
theorem dX12_assemble_74 : decode cX12_assemble 74 = .ok (.aload_n 0, 1) := by decide +kernel
theorem dX12_assemble_75 : decode cX12_assemble 75 = .ok (.iconst 0, 1) := by decide +kernel
theorem dX12_assemble_76 : decode cX12_assemble 76 = .ok (.putfield 368, 3) := by decide +kernel
theorem dX12_assemble_79 : decode cX12_assemble 79 = .ok (.iconst (-1), 1) := by decide +kernel
theorem dX12_assemble_80 : decode cX12_assemble 80 = .ok (.ireturn, 1) := by decide +kernel
theorem dX12_assemble_81 : decode cX12_assemble 81 = .ok (.aload_n 0, 1) := by decide +kernel
theorem dX12_assemble_82 : decode cX12_assemble 82 = .ok (.aload_n 0, 1) := by decide +kernel
theorem dX12_assemble_83 : decode cX12_assemble 83 = .ok (.getfield 368, 3) := by decide +kernel
theorem dX12_assemble_86 : decode cX12_assemble 86 = .ok (.putfield 269, 3) := by decide +kernel
theorem dX12_assemble_89 : decode cX12_assemble 89 = .ok (.aload_n 0, 1) := by decide +kernel
theorem dX12_assemble_90 : decode cX12_assemble 90 = .ok (.iconst 0, 1) := by decide +kernel
theorem dX12_assemble_91 : decode cX12_assemble 91 = .ok (.putfield 368, 3) := by decide +kernel
theorem dX12_assemble_94 : decode cX12_assemble 94 = .ok (.iconst 0, 1) := by decide +kernel
theorem dX12_assemble_95 : decode cX12_assemble 95 = .ok (.istore_n 2, 1) := by decide +kernel
theorem dX12_assemble_96 : decode cX12_assemble 96 = .ok (.iload_n 2, 1) := by decide +kernel
theorem dX12_assemble_97 : decode cX12_assemble 97 = .ok (.aload_n 0, 1) := by decide +kernel
theorem dX12_assemble_98 : decode cX12_assemble 98 = .ok (.getfield 269, 3) := by decide +kernel
theorem dX12_assemble_101 : decode cX12_assemble 101 = .ok (.if_icmp .ge 21, 3) := by decide +kernel
theorem dX12_assemble_104 : decode cX12_assemble 104 = .ok (.aload_n 0, 1) := by decide +kernel
theorem dX12_assemble_105 : decode cX12_assemble 105 = .ok (.getfield 13, 3) := by decide +kernel
theorem dX12_assemble_108 : decode cX12_assemble 108 = .ok (.iload_n 2, 1) := by decide +kernel
theorem dX12_assemble_109 : decode cX12_assemble 109 = .ok (.aload_n 0, 1) := by decide +kernel
theorem dX12_assemble_110 : decode cX12_assemble 110 = .ok (.getfield 7, 3) := by decide +kernel
theorem dX12_assemble_113 : decode cX12_assemble 113 = .ok (.iload_n 2, 1) := by decide +kernel
theorem dX12_assemble_114 : decode cX12_assemble 114 = .ok (.baload, 1) := by decide +kernel
theorem dX12_assemble_115 : decode cX12_assemble 115 = .ok (.bastore, 1) := by decide +kernel
theorem dX12_assemble_116 : decode cX12_assemble 116 = .ok (.iinc 2 1, 3) := by decide +kernel
theorem dX12_assemble_119 : decode cX12_assemble 119 = .ok (.goto (-23), 3) := by decide +kernel
theorem dX12_assemble_122 : decode cX12_assemble 122 = .ok (.aload_n 0, 1) := by decide +kernel
theorem dX12_assemble_123 : decode cX12_assemble 123 = .ok (.iconst 1, 1) := by decide +kernel
theorem dX12_assemble_124 : decode cX12_assemble 124 = .ok (.aload_n 0, 1) := by decide +kernel
theorem dX12_assemble_125 : decode cX12_assemble 125 = .ok (.getfield 355, 3) := by decide +kernel
theorem dX12_assemble_128 : decode cX12_assemble 128 = .ok (.isub, 1) := by decide +kernel
theorem dX12_assemble_129 : decode cX12_assemble 129 = .ok (.putfield 355, 3) := by decide +kernel
theorem dX12_assemble_132 : decode cX12_assemble 132 = .ok (.aload_n 0, 1) := by decide +kernel
theorem dX12_assemble_133 : decode cX12_assemble 133 = .ok (.iconst 0, 1) := by decide +kernel
theorem dX12_assemble_134 : decode cX12_assemble 134 = .ok (.putfield 348, 3) := by decide +kernel
theorem dX12_assemble_137 : decode cX12_assemble 137 = .ok (.aload_n 0, 1) := by decide +kernel
theorem dX12_assemble_138 : decode cX12_assemble 138 = .ok (.iconst 0, 1) := by decide +kernel
theorem dX12_assemble_139 : decode cX12_assemble 139 = .ok (.putfield 323, 3) := by decide +kernel
theorem dX12_assemble_142 : decode cX12_assemble 142 = .ok (.aload_n 0, 1) := by decide +kernel
theorem dX12_assemble_143 : decode cX12_assemble 143 = .ok (.iconst 0, 1) := by decide +kernel
theorem dX12_assemble_144 : decode cX12_assemble 144 = .ok (.putfield 365, 3) := by decide +kernel
theorem dX12_assemble_147 : decode cX12_assemble 147 = .ok (.aload_n 0, 1) := by decide +kernel
theorem dX12_assemble_148 : decode cX12_assemble 148 = .ok (.iconst 0, 1) := by decide +kernel
theorem dX12_assemble_149 : decode cX12_assemble 149 = .ok (.putfield 285, 3) := by decide +kernel
theorem dX12_assemble_152 : decode cX12_assemble 152 = .ok (.aload_n 0, 1) := by decide +kernel
theorem dX12_assemble_153 : decode cX12_assemble 153 = .ok (.iconst 1, 1) := by decide +kernel
theorem dX12_assemble_154 : decode cX12_assemble 154 = .ok (.putfield 275, 3) := by decide +kernel
theorem dX12_assemble_157 : decode cX12_assemble 157 = .ok (.aload_n 0, 1) := by decide +kernel
theorem dX12_assemble_158 : decode cX12_assemble 158 = .ok (.getfield 285, 3) := by decide +kernel
theorem dX12_assemble_161 : decode cX12_assemble 161 = .ok (.aload_n 0, 1) := by decide +kernel
theorem dX12_assemble_162 : decode cX12_assemble 162 = .ok (.getfield 269, 3) := by decide +kernel
theorem dX12_assemble_165 : decode cX12_assemble 165 = .ok (.if_icmp .ge 48, 3) := by decide +kernel
theorem dX12_assemble_168 : decode cX12_assemble 168 = .ok (.aload_n 0, 1) := by decide +kernel
theorem dX12_assemble_169 : decode cX12_assemble 169 = .ok (.getfield 272, 3) := by decide +kernel
theorem dX12_assemble_172 : decode cX12_assemble 172 = .ok (.ifCond .ne 41, 3) := by decide +kernel
theorem dX12_assemble_175 : decode cX12_assemble 175 = .ok (.aload_n 0, 1) := by decide +kernel
theorem dX12_assemble_176 : decode cX12_assemble 176 = .ok (.invokevirtual 374, 3) := by decide +kernel
theorem dX12_assemble_179 : decode cX12_assemble 179 = .ok (.aload_n 0, 1) := by decide +kernel
theorem dX12_assemble_180 : decode cX12_assemble 180 = .ok (.dup, 1) := by decide +kernel
theorem dX12_assemble_181 : decode cX12_assemble 181 = .ok (.getfield 285, 3) := by decide +kernel
theorem dX12_assemble_184 : decode cX12_assemble 184 = .ok (.iconst 1, 1) := by decide +kernel
theorem dX12_assemble_185 : decode cX12_assemble 185 = .ok (.iadd, 1) := by decide +kernel
theorem dX12_assemble_186 : decode cX12_assemble 186 = .ok (.putfield 285, 3) := by decide +kernel
theorem dX12_assemble_189 : decode cX12_assemble 189 = .ok (.aload_n 0, 1) := by decide +kernel
theorem dX12_assemble_190 : decode cX12_assemble 190 = .ok (.dup, 1) := by decide +kernel
theorem dX12_assemble_191 : decode cX12_assemble 191 = .ok (.getfield 275, 3) := by decide +kernel
theorem dX12_assemble_194 : decode cX12_assemble 194 = .ok (.aload_n 0, 1) := by decide +kernel
theorem dX12_assemble_195 : decode cX12_assemble 195 = .ok (.getfield 272, 3) := by decide +kernel
theorem dX12_assemble_198 : decode cX12_assemble 198 = .ok (.ifCond .ne 7, 3) := by decide +kernel
theorem dX12_assemble_201 : decode cX12_assemble 201 = .ok (.iconst 1, 1) := by decide +kernel
theorem dX12_assemble_202 : decode cX12_assemble 202 = .ok (.goto 4, 3) := by decide +kernel
theorem dX12_assemble_205 : decode cX12_assemble 205 = .ok (.iconst 0, 1) := by decide +kernel
theorem dX12_assemble_206 : decode cX12_assemble 206 = .ok (.iadd, 1) := by decide +kernel
theorem dX12_assemble_207 : decode cX12_assemble 207 = .ok (.putfield 275, 3) := by decide +kernel
theorem dX12_assemble_210 : decode cX12_assemble 210 = .ok (.goto (-53), 3) := by decide +kernel
theorem dX12_assemble_213 : decode cX12_assemble 213 = .ok (.iconst 0, 1) := by decide +kernel
theorem dX12_assemble_214 : decode cX12_assemble 214 = .ok (.istore_n 2, 1) := by decide +kernel
theorem dX12_assemble_215 : decode cX12_assemble 215 = .ok (.iload_n 2, 1) := by decide +kernel
theorem dX12_assemble_216 : decode cX12_assemble 216 = .ok (.aload_n 0, 1) := by decide +kernel
theorem dX12_assemble_217 : decode cX12_assemble 217 = .ok (.getfield 365, 3) := by decide +kernel
theorem dX12_assemble_220 : decode cX12_assemble 220 = .ok (.if_icmp .ge 79, 3) := by decide +kernel
theorem dX12_assemble_223 : decode cX12_assemble 223 = .ok (.aload_n 0, 1) := by decide +kernel
theorem dX12_assemble_224 : decode cX12_assemble 224 = .ok (.getfield 272, 3) := by decide +kernel
theorem dX12_assemble_227 : decode cX12_assemble 227 = .ok (.ifCond .ne 72, 3) := by decide +kernel
theorem dX12_assemble_230 : decode cX12_assemble 230 = .ok (.aload_n 0, 1) := by decide +kernel
theorem dX12_assemble_231 : decode cX12_assemble 231 = .ok (.aload_n 0, 1) := by decide +kernel
theorem dX12_assemble_232 : decode cX12_assemble 232 = .ok (.getfield 36, 3) := by decide +kernel
theorem dX12_assemble_235 : decode cX12_assemble 235 = .ok (.iload_n 2, 1) := by decide +kernel
theorem dX12_assemble_236 : decode cX12_assemble 236 = .ok (.iaload, 1) := by decide +kernel
theorem dX12_assemble_237 : decode cX12_assemble 237 = .ok (.aload_n 0, 1) := by decide +kernel
theorem dX12_assemble_238 : decode cX12_assemble 238 = .ok (.getfield 39, 3) := by decide +kernel
theorem dX12_assemble_241 : decode cX12_assemble 241 = .ok (.iload_n 2, 1) := by decide +kernel
theorem dX12_assemble_242 : decode cX12_assemble 242 = .ok (.iaload, 1) := by decide +kernel
theorem dX12_assemble_243 : decode cX12_assemble 243 = .ok (.invokevirtual 344, 3) := by decide +kernel
theorem dX12_assemble_246 : decode cX12_assemble 246 = .ok (.istore_n 3, 1) := by decide +kernel
theorem dX12_assemble_247 : decode cX12_assemble 247 = .ok (.aload_n 0, 1) := by decide +kernel
theorem dX12_assemble_248 : decode cX12_assemble 248 = .ok (.aload_n 0, 1) := by decide +kernel
theorem dX12_assemble_249 : decode cX12_assemble 249 = .ok (.getfield 42, 3) := by decide +kernel
theorem dX12_assemble_252 : decode cX12_assemble 252 = .ok (.iload_n 2, 1) := by decide +kernel
theorem dX12_assemble_253 : decode cX12_assemble 253 = .ok (.iaload, 1) := by decide +kernel
theorem dX12_assemble_254 : decode cX12_assemble 254 = .ok (.putfield 275, 3) := by decide +kernel
theorem dX12_assemble_257 : decode cX12_assemble 257 = .ok (.iload_n 3, 1) := by decide +kernel
theorem dX12_assemble_258 : decode cX12_assemble 258 = .ok (.ifCond .ge 18, 3) := by decide +kernel
theorem dX12_assemble_261 : decode cX12_assemble 261 = .ok (.aload_n 0, 1) := by decide +kernel
theorem dX12_assemble_262 : decode cX12_assemble 262 = .ok (.iconst 4, 1) := by decide +kernel
theorem dX12_assemble_263 : decode cX12_assemble 263 = .ok (.aload_n 0, 1) := by decide +kernel
theorem dX12_assemble_264 : decode cX12_assemble 264 = .ok (.getfield 36, 3) := by decide +kernel
theorem dX12_assemble_267 : decode cX12_assemble 267 = .ok (.iload_n 2, 1) := by decide +kernel
theorem dX12_assemble_268 : decode cX12_assemble 268 = .ok (.iaload, 1) := by decide +kernel
theorem dX12_assemble_269 : decode cX12_assemble 269 = .ok (.invokevirtual 316, 3) := by decide +kernel
theorem dX12_assemble_272 : decode cX12_assemble 272 = .ok (.pop, 1) := by decide +kernel
theorem dX12_assemble_273 : decode cX12_assemble 273 = .ok (.goto 20, 3) := by decide +kernel
theorem dX12_assemble_276 : decode cX12_assemble 276 = .ok (.aload_n 0, 1) := by decide +kernel
theorem dX12_assemble_277 : decode cX12_assemble 277 = .ok (.getfield 24, 3) := by decide +kernel
theorem dX12_assemble_280 : decode cX12_assemble 280 = .ok (.aload_n 0, 1) := by decide +kernel
theorem dX12_assemble_281 : decode cX12_assemble 281 = .ok (.getfield 45, 3) := by decide +kernel
theorem dX12_assemble_284 : decode cX12_assemble 284 = .ok (.iload_n 2, 1) := by decide +kernel
theorem dX12_assemble_285 : decode cX12_assemble 285 = .ok (.iaload, 1) := by decide +kernel
theorem dX12_assemble_286 : decode cX12_assemble 286 = .ok (.aload_n 0, 1) := by decide +kernel
theorem dX12_assemble_287 : decode cX12_assemble 287 = .ok (.getfield 33, 3) := by decide +kernel
theorem dX12_assemble_290 : decode cX12_assemble 290 = .ok (.iload_n 3, 1) := by decide +kernel
theorem dX12_assemble_291 : decode cX12_assemble 291 = .ok (.iaload, 1) := by decide +kernel
theorem dX12_assemble_292 : decode cX12_assemble 292 = .ok (.iastore, 1) := by decide +kernel
theorem dX12_assemble_293 : decode cX12_assemble 293 = .ok (.iinc 2 1, 3) := by decide +kernel
theorem dX12_assemble_296 : decode cX12_assemble 296 = .ok (.goto (-81), 3) := by decide +kernel
theorem dX12_assemble_299 : decode cX12_assemble 299 = .ok (.aload_n 0, 1) := by decide +kernel
theorem dX12_assemble_300 : decode cX12_assemble 300 = .ok (.getfield 272, 3) := by decide +kernel
theorem dX12_assemble_303 : decode cX12_assemble 303 = .ok (.ifCond .le 15, 3) := by decide +kernel
theorem dX12_assemble_306 : decode cX12_assemble 306 = .ok (.aload_n 0, 1) := by decide +kernel
theorem dX12_assemble_307 : decode cX12_assemble 307 = .ok (.iconst 1, 1) := by decide +kernel
theorem dX12_assemble_308 : decode cX12_assemble 308 = .ok (.aload_n 0, 1) := by decide +kernel
theorem dX12_assemble_309 : decode cX12_assemble 309 = .ok (.getfield 355, 3) := by decide +kernel
theorem dX12_assemble_312 : decode cX12_assemble 312 = .ok (.isub, 1) := by decide +kernel
theorem dX12_assemble_313 : decode cX12_assemble 313 = .ok (.putfield 355, 3) := by decide +kernel
theorem dX12_assemble_316 : decode cX12_assemble 316 = .ok (.iconst (-1), 1) := by decide +kernel
theorem dX12_assemble_317 : decode cX12_assemble 317 = .ok (.ireturn, 1) := by decide +kernel
theorem dX12_assemble_318 : decode cX12_assemble 318 = .ok (.aload_n 0, 1) := by decide +kernel
theorem dX12_assemble_319 : decode cX12_assemble 319 = .ok (.aload_n 0, 1) := by decide +kernel
theorem dX12_assemble_320 : decode cX12_assemble 320 = .ok (.getfield 348, 3) := by decide +kernel
theorem dX12_assemble_323 : decode cX12_assemble 323 = .ok (.putfield 377, 3) := by decide +kernel
theorem dX12_assemble_326 : decode cX12_assemble 326 = .ok (.aload_n 0, 1) := by decide +kernel
theorem dX12_assemble_327 : decode cX12_assemble 327 = .ok (.iconst 1, 1) := by decide +kernel
theorem dX12_assemble_328 : decode cX12_assemble 328 = .ok (.putfield 380, 3) := by decide +kernel
theorem dX12_assemble_331 : decode cX12_assemble 331 = .ok (.aload_n 0, 1) := by decide +kernel
theorem dX12_assemble_332 : decode cX12_assemble 332 = .ok (.iconst 0, 1) := by decide +kernel
theorem dX12_assemble_333 : decode cX12_assemble 333 = .ok (.putfield 384, 3) := by decide +kernel
theorem dX12_assemble_336 : decode cX12_assemble 336 = .ok (.aload_n 0, 1) := by decide +kernel
theorem dX12_assemble_337 : decode cX12_assemble 337 = .ok (.iconst 0, 1) := by decide +kernel
theorem dX12_assemble_338 : decode cX12_assemble 338 = .ok (.putfield 387, 3) := by decide +kernel
theorem dX12_assemble_341 : decode cX12_assemble 341 = .ok (.aload_n 0, 1) := by decide +kernel
theorem dX12_assemble_342 : decode cX12_assemble 342 = .ok (.iconst 0, 1) := by decide +kernel
theorem dX12_assemble_343 : decode cX12_assemble 343 = .ok (.iconst 0, 1) := by decide +kernel
theorem dX12_assemble_344 : decode cX12_assemble 344 = .ok (.iconst 0, 1) := by decide +kernel
theorem dX12_assemble_345 : decode cX12_assemble 345 = .ok (.invokevirtual 390, 3) := by decide +kernel
theorem dX12_assemble_348 : decode cX12_assemble 348 = .ok (.aload_n 0, 1) := by decide +kernel
theorem dX12_assemble_349 : decode cX12_assemble 349 = .ok (.getfield 377, 3) := by decide +kernel
theorem dX12_assemble_352 : decode cX12_assemble 352 = .ok (.ireturn, 1) := by decide +kernel
theorem dX12_fault_0 : decode cX12_fault 0 = .ok (.iload_n 1, 1) := by decide +kernel
theorem dX12_fault_1 : decode cX12_fault 1 = .ok (.ifCond .ne 10, 3) := by decide +kernel
theorem dX12_fault_4 : decode cX12_fault 4 = .ok (.aload_n 0, 1) := by decide +kernel
theorem dX12_fault_5 : decode cX12_fault 5 = .ok (.getfield 272, 3) := by decide +kernel
theorem dX12_fault_8 : decode cX12_fault 8 = .ok (.goto 28, 3) := by decide +kernel
theorem dX12_fault_11 : decode cX12_fault 11 = .ok (.iload_n 1, 1) := by decide +kernel
theorem dX12_fault_12 : decode cX12_fault 12 = .ok (.iconst 1, 1) := by decide +kernel
theorem dX12_fault_13 : decode cX12_fault 13 = .ok (.if_icmp .ne 10, 3) := by decide +kernel
theorem dX12_fault_16 : decode cX12_fault 16 = .ok (.aload_n 0, 1) := by decide +kernel
theorem dX12_fault_17 : decode cX12_fault 17 = .ok (.getfield 48, 3) := by decide +kernel
theorem dX12_fault_20 : decode cX12_fault 20 = .ok (.goto 16, 3) := by decide +kernel
theorem dX12_fault_23 : decode cX12_fault 23 = .ok (.iload_n 1, 1) := by decide +kernel
theorem dX12_fault_24 : decode cX12_fault 24 = .ok (.iconst 2, 1) := by decide +kernel
theorem dX12_fault_25 : decode cX12_fault 25 = .ok (.if_icmp .ne 10, 3) := by decide +kernel
theorem dX12_fault_28 : decode cX12_fault 28 = .ok (.aload_n 0, 1) := by decide +kernel
theorem dX12_fault_29 : decode cX12_fault 29 = .ok (.getfield 52, 3) := by decide +kernel
theorem dX12_fault_32 : decode cX12_fault 32 = .ok (.goto 4, 3) := by decide +kernel
theorem dX12_fault_35 : decode cX12_fault 35 = .ok (.iconst (-1), 1) := by decide +kernel
theorem dX12_fault_36 : decode cX12_fault 36 = .ok (.ireturn, 1) := by decide +kernel
theorem dX12_start_0 : decode cX12_start 0 = .ok (.aload_n 0, 1) := by decide +kernel
theorem dX12_start_1 : decode cX12_start 1 = .ok (.iload_n 1, 1) := by decide +kernel
theorem dX12_start_2 : decode cX12_start 2 = .ok (.putfield 394, 3) := by decide +kernel
theorem dX12_start_5 : decode cX12_start 5 = .ok (.aload_n 0, 1) := by decide +kernel
theorem dX12_start_6 : decode cX12_start 6 = .ok (.getfield 394, 3) := by decide +kernel
theorem dX12_start_9 : decode cX12_start 9 = .ok (.ifCond .ne 33, 3) := by decide +kernel
theorem dX12_start_12 : decode cX12_start 12 = .ok (.aload_n 0, 1) := by decide +kernel
theorem dX12_start_13 : decode cX12_start 13 = .ok (.iload_n 3, 1) := by decide +kernel
theorem dX12_start_14 : decode cX12_start 14 = .ok (.putfield 397, 3) := by decide +kernel
theorem dX12_start_17 : decode cX12_start 17 = .ok (.aload_n 0, 1) := by decide +kernel
theorem dX12_start_18 : decode cX12_start 18 = .ok (.iconst 0, 1) := by decide +kernel
theorem dX12_start_19 : decode cX12_start 19 = .ok (.putfield 400, 3) := by decide +kernel
theorem dX12_start_22 : decode cX12_start 22 = .ok (.aload_n 0, 1) := by decide +kernel
theorem dX12_start_23 : decode cX12_start 23 = .ok (.iconst 0, 1) := by decide +kernel
theorem dX12_start_24 : decode cX12_start 24 = .ok (.putfield 403, 3) := by decide +kernel
theorem dX12_start_27 : decode cX12_start 27 = .ok (.aload_n 0, 1) := by decide +kernel
theorem dX12_start_28 : decode cX12_start 28 = .ok (.iconst 0, 1) := by decide +kernel
theorem dX12_start_29 : decode cX12_start 29 = .ok (.putfield 406, 3) := by decide +kernel
theorem dX12_start_32 : decode cX12_start 32 = .ok (.aload_n 0, 1) := by decide +kernel
theorem dX12_start_33 : decode cX12_start 33 = .ok (.iconst 0, 1) := by decide +kernel
theorem dX12_start_34 : decode cX12_start 34 = .ok (.putfield 409, 3) := by decide +kernel
theorem dX12_start_37 : decode cX12_start 37 = .ok (.aload_n 0, 1) := by decide +kernel
theorem dX12_start_38 : decode cX12_start 38 = .ok (.iconst 1, 1) := by decide +kernel
theorem dX12_start_39 : decode cX12_start 39 = .ok (.putfield 412, 3) := by decide +kernel
theorem dX12_start_42 : decode cX12_start 42 = .ok (.aload_n 0, 1) := by decide +kernel
theorem dX12_start_43 : decode cX12_start 43 = .ok (.getfield 88, 3) := by decide +kernel
theorem dX12_start_46 : decode cX12_start 46 = .ok (.aload_n 0, 1) := by decide +kernel
theorem dX12_start_47 : decode cX12_start 47 = .ok (.getfield 394, 3) := by decide +kernel
theorem dX12_start_50 : decode cX12_start 50 = .ok (.iload_n 2, 1) := by decide +kernel
theorem dX12_start_51 : decode cX12_start 51 = .ok (.iastore, 1) := by decide +kernel
theorem dX12_start_52 : decode cX12_start 52 = .ok (.aload_n 0, 1) := by decide +kernel
theorem dX12_start_53 : decode cX12_start 53 = .ok (.getfield 76, 3) := by decide +kernel
theorem dX12_start_56 : decode cX12_start 56 = .ok (.aload_n 0, 1) := by decide +kernel
theorem dX12_start_57 : decode cX12_start 57 = .ok (.getfield 394, 3) := by decide +kernel
theorem dX12_start_60 : decode cX12_start 60 = .ok (.iconst 0, 1) := by decide +kernel
theorem dX12_start_61 : decode cX12_start 61 = .ok (.iastore, 1) := by decide +kernel
theorem dX12_start_62 : decode cX12_start 62 = .ok (.aload_n 0, 1) := by decide +kernel
theorem dX12_start_63 : decode cX12_start 63 = .ok (.getfield 79, 3) := by decide +kernel
theorem dX12_start_66 : decode cX12_start 66 = .ok (.aload_n 0, 1) := by decide +kernel
theorem dX12_start_67 : decode cX12_start 67 = .ok (.getfield 394, 3) := by decide +kernel
theorem dX12_start_70 : decode cX12_start 70 = .ok (.aload_n 0, 1) := by decide +kernel
theorem dX12_start_71 : decode cX12_start 71 = .ok (.getfield 377, 3) := by decide +kernel
theorem dX12_start_74 : decode cX12_start 74 = .ok (.ifCond .ne 7, 3) := by decide +kernel
theorem dX12_start_77 : decode cX12_start 77 = .ok (.iconst 1, 1) := by decide +kernel
theorem dX12_start_78 : decode cX12_start 78 = .ok (.goto 4, 3) := by decide +kernel
theorem dX12_start_81 : decode cX12_start 81 = .ok (.iconst 0, 1) := by decide +kernel
theorem dX12_start_82 : decode cX12_start 82 = .ok (.iastore, 1) := by decide +kernel
theorem dX12_start_83 : decode cX12_start 83 = .ok (.aload_n 0, 1) := by decide +kernel
theorem dX12_start_84 : decode cX12_start 84 = .ok (.getfield 82, 3) := by decide +kernel
theorem dX12_start_87 : decode cX12_start 87 = .ok (.aload_n 0, 1) := by decide +kernel
theorem dX12_start_88 : decode cX12_start 88 = .ok (.getfield 394, 3) := by decide +kernel
theorem dX12_start_91 : decode cX12_start 91 = .ok (.iconst 0, 1) := by decide +kernel
theorem dX12_start_92 : decode cX12_start 92 = .ok (.iastore, 1) := by decide +kernel
theorem dX12_start_93 : decode cX12_start 93 = .ok (.aload_n 0, 1) := by decide +kernel
theorem dX12_start_94 : decode cX12_start 94 = .ok (.getfield 85, 3) := by decide +kernel
theorem dX12_start_97 : decode cX12_start 97 = .ok (.aload_n 0, 1) := by decide +kernel
theorem dX12_start_98 : decode cX12_start 98 = .ok (.getfield 394, 3) := by decide +kernel
theorem dX12_start_101 : decode cX12_start 101 = .ok (.bipush 7, 2) := by decide +kernel
theorem dX12_start_103 : decode cX12_start 103 = .ok (.iastore, 1) := by decide +kernel
theorem dX12_start_104 : decode cX12_start 104 = .ok (.aload_n 0, 1) := by decide +kernel
theorem dX12_start_105 : decode cX12_start 105 = .ok (.getfield 94, 3) := by decide +kernel
theorem dX12_start_108 : decode cX12_start 108 = .ok (.aload_n 0, 1) := by decide +kernel
theorem dX12_start_109 : decode cX12_start 109 = .ok (.getfield 394, 3) := by decide +kernel
theorem dX12_start_112 : decode cX12_start 112 = .ok (.iconst 0, 1) := by decide +kernel
theorem dX12_start_113 : decode cX12_start 113 = .ok (.iastore, 1) := by decide +kernel
theorem dX12_start_114 : decode cX12_start 114 = .ok (.aload_n 0, 1) := by decide +kernel
theorem dX12_start_115 : decode cX12_start 115 = .ok (.getfield 97, 3) := by decide +kernel
theorem dX12_start_118 : decode cX12_start 118 = .ok (.aload_n 0, 1) := by decide +kernel
theorem dX12_start_119 : decode cX12_start 119 = .ok (.getfield 394, 3) := by decide +kernel
theorem dX12_start_122 : decode cX12_start 122 = .ok (.iconst 0, 1) := by decide +kernel
theorem dX12_start_123 : decode cX12_start 123 = .ok (.iastore, 1) := by decide +kernel
theorem dX12_start_124 : decode cX12_start 124 = .ok (.aload_n 0, 1) := by decide +kernel
theorem dX12_start_125 : decode cX12_start 125 = .ok (.getfield 118, 3) := by decide +kernel
theorem dX12_start_128 : decode cX12_start 128 = .ok (.aload_n 0, 1) := by decide +kernel
theorem dX12_start_129 : decode cX12_start 129 = .ok (.getfield 394, 3) := by decide +kernel
theorem dX12_start_132 : decode cX12_start 132 = .ok (.iconst 0, 1) := by decide +kernel
theorem dX12_start_133 : decode cX12_start 133 = .ok (.iastore, 1) := by decide +kernel
theorem dX12_start_134 : decode cX12_start 134 = .ok (.aload_n 0, 1) := by decide +kernel
theorem dX12_start_135 : decode cX12_start 135 = .ok (.getfield 121, 3) := by decide +kernel
theorem dX12_start_138 : decode cX12_start 138 = .ok (.aload_n 0, 1) := by decide +kernel
theorem dX12_start_139 : decode cX12_start 139 = .ok (.getfield 394, 3) := by decide +kernel
theorem dX12_start_142 : decode cX12_start 142 = .ok (.iconst 0, 1) := by decide +kernel
theorem dX12_start_143 : decode cX12_start 143 = .ok (.iastore, 1) := by decide +kernel
theorem dX12_start_144 : decode cX12_start 144 = .ok (.iconst 0, 1) := by decide +kernel
theorem dX12_start_145 : decode cX12_start 145 = .ok (.istore 4, 2) := by decide +kernel
theorem dX12_start_147 : decode cX12_start 147 = .ok (.iload 4, 2) := by decide +kernel
theorem dX12_start_149 : decode cX12_start 149 = .ok (.bipush 7, 2) := by decide +kernel
theorem dX12_start_151 : decode cX12_start 151 = .ok (.if_icmp .ge 63, 3) := by decide +kernel
theorem dX12_start_154 : decode cX12_start 154 = .ok (.aload_n 0, 1) := by decide +kernel
theorem dX12_start_155 : decode cX12_start 155 = .ok (.getfield 55, 3) := by decide +kernel
theorem dX12_start_158 : decode cX12_start 158 = .ok (.bipush 8, 2) := by decide +kernel
theorem dX12_start_160 : decode cX12_start 160 = .ok (.aload_n 0, 1) := by decide +kernel
theorem dX12_start_161 : decode cX12_start 161 = .ok (.getfield 394, 3) := by decide +kernel
theorem dX12_start_164 : decode cX12_start 164 = .ok (.imul, 1) := by decide +kernel
theorem dX12_start_165 : decode cX12_start 165 = .ok (.iload 4, 2) := by decide +kernel
theorem dX12_start_167 : decode cX12_start 167 = .ok (.iadd, 1) := by decide +kernel
theorem dX12_start_168 : decode cX12_start 168 = .ok (.aload_n 0, 1) := by decide +kernel
theorem dX12_start_169 : decode cX12_start 169 = .ok (.invokevirtual 415, 3) := by decide +kernel
theorem dX12_start_172 : decode cX12_start 172 = .ok (.iastore, 1) := by decide +kernel
theorem dX12_start_173 : decode cX12_start 173 = .ok (.aload_n 0, 1) := by decide +kernel
theorem dX12_start_174 : decode cX12_start 174 = .ok (.getfield 58, 3) := by decide +kernel
theorem dX12_start_177 : decode cX12_start 177 = .ok (.bipush 8, 2) := by decide +kernel
theorem dX12_start_179 : decode cX12_start 179 = .ok (.aload_n 0, 1) := by decide +kernel
theorem dX12_start_180 : decode cX12_start 180 = .ok (.getfield 394, 3) := by decide +kernel
theorem dX12_start_183 : decode cX12_start 183 = .ok (.imul, 1) := by decide +kernel
theorem dX12_start_184 : decode cX12_start 184 = .ok (.iload 4, 2) := by decide +kernel
theorem dX12_start_186 : decode cX12_start 186 = .ok (.iadd, 1) := by decide +kernel
theorem dX12_start_187 : decode cX12_start 187 = .ok (.iconst (-1), 1) := by decide +kernel
theorem dX12_start_188 : decode cX12_start 188 = .ok (.iastore, 1) := by decide +kernel
theorem dX12_start_189 : decode cX12_start 189 = .ok (.aload_n 0, 1) := by decide +kernel
theorem dX12_start_190 : decode cX12_start 190 = .ok (.getfield 61, 3) := by decide +kernel
theorem dX12_start_193 : decode cX12_start 193 = .ok (.bipush 8, 2) := by decide +kernel
theorem dX12_start_195 : decode cX12_start 195 = .ok (.aload_n 0, 1) := by decide +kernel
theorem dX12_start_196 : decode cX12_start 196 = .ok (.getfield 394, 3) := by decide +kernel
theorem dX12_start_199 : decode cX12_start 199 = .ok (.imul, 1) := by decide +kernel
theorem dX12_start_200 : decode cX12_start 200 = .ok (.iload 4, 2) := by decide +kernel
theorem dX12_start_202 : decode cX12_start 202 = .ok (.iadd, 1) := by decide +kernel
theorem dX12_start_203 : decode cX12_start 203 = .ok (.iload 4, 2) := by decide +kernel
theorem dX12_start_205 : decode cX12_start 205 = .ok (.iconst 1, 1) := by decide +kernel
theorem dX12_start_206 : decode cX12_start 206 = .ok (.iadd, 1) := by decide +kernel
theorem dX12_start_207 : decode cX12_start 207 = .ok (.iastore, 1) := by decide +kernel
theorem dX12_start_208 : decode cX12_start 208 = .ok (.iinc 4 1, 3) := by decide +kernel
theorem dX12_start_211 : decode cX12_start 211 = .ok (.goto (-64), 3) := by decide +kernel
theorem dX12_start_214 : decode cX12_start 214 = .ok (.aload_n 0, 1) := by decide +kernel
theorem dX12_start_215 : decode cX12_start 215 = .ok (.getfield 55, 3) := by decide +kernel
theorem dX12_start_218 : decode cX12_start 218 = .ok (.bipush 8, 2) := by decide +kernel
theorem dX12_start_220 : decode cX12_start 220 = .ok (.aload_n 0, 1) := by decide +kernel
theorem dX12_start_221 : decode cX12_start 221 = .ok (.getfield 394, 3) := by decide +kernel
theorem dX12_start_224 : decode cX12_start 224 = .ok (.imul, 1) := by decide +kernel
theorem dX12_start_225 : decode cX12_start 225 = .ok (.bipush 7, 2) := by decide +kernel
theorem dX12_start_227 : decode cX12_start 227 = .ok (.iadd, 1) := by decide +kernel
theorem dX12_start_228 : decode cX12_start 228 = .ok (.sipush 4096, 3) := by decide +kernel
theorem dX12_start_231 : decode cX12_start 231 = .ok (.iastore, 1) := by decide +kernel
theorem dX12_start_232 : decode cX12_start 232 = .ok (.aload_n 0, 1) := by decide +kernel
theorem dX12_start_233 : decode cX12_start 233 = .ok (.getfield 58, 3) := by decide +kernel
theorem dX12_start_236 : decode cX12_start 236 = .ok (.bipush 8, 2) := by decide +kernel
theorem dX12_start_238 : decode cX12_start 238 = .ok (.aload_n 0, 1) := by decide +kernel
theorem dX12_start_239 : decode cX12_start 239 = .ok (.getfield 394, 3) := by decide +kernel
theorem dX12_start_242 : decode cX12_start 242 = .ok (.imul, 1) := by decide +kernel
theorem dX12_start_243 : decode cX12_start 243 = .ok (.bipush 7, 2) := by decide +kernel
theorem dX12_start_245 : decode cX12_start 245 = .ok (.iadd, 1) := by decide +kernel
theorem dX12_start_246 : decode cX12_start 246 = .ok (.iconst 0, 1) := by decide +kernel
theorem dX12_start_247 : decode cX12_start 247 = .ok (.iastore, 1) := by decide +kernel
theorem dX12_start_248 : decode cX12_start 248 = .ok (.aload_n 0, 1) := by decide +kernel
theorem dX12_start_249 : decode cX12_start 249 = .ok (.getfield 61, 3) := by decide +kernel
theorem dX12_start_252 : decode cX12_start 252 = .ok (.bipush 8, 2) := by decide +kernel
theorem dX12_start_254 : decode cX12_start 254 = .ok (.aload_n 0, 1) := by decide +kernel
theorem dX12_start_255 : decode cX12_start 255 = .ok (.getfield 394, 3) := by decide +kernel
theorem dX12_start_258 : decode cX12_start 258 = .ok (.imul, 1) := by decide +kernel
theorem dX12_start_259 : decode cX12_start 259 = .ok (.bipush 7, 2) := by decide +kernel
theorem dX12_start_261 : decode cX12_start 261 = .ok (.iadd, 1) := by decide +kernel
theorem dX12_start_262 : decode cX12_start 262 = .ok (.iconst 0, 1) := by decide +kernel
theorem dX12_start_263 : decode cX12_start 263 = .ok (.iastore, 1) := by decide +kernel
theorem dX12_start_264 : decode cX12_start 264 = .ok (.iconst 0, 1) := by decide +kernel
theorem dX12_start_265 : decode cX12_start 265 = .ok (.istore 4, 2) := by decide +kernel
theorem dX12_start_267 : decode cX12_start 267 = .ok (.iload 4, 2) := by decide +kernel
theorem dX12_start_269 : decode cX12_start 269 = .ok (.sipush 4096, 3) := by decide +kernel
theorem dX12_start_272 : decode cX12_start 272 = .ok (.if_icmp .ge 112, 3) := by decide +kernel
theorem dX12_start_275 : decode cX12_start 275 = .ok (.iload 4, 2) := by decide +kernel
theorem dX12_start_277 : decode cX12_start 277 = .ok (.sipush 256, 3) := by decide +kernel
theorem dX12_start_280 : decode cX12_start 280 = .ok (.if_icmp .lt 15, 3) := by decide +kernel
theorem dX12_start_283 : decode cX12_start 283 = .ok (.iload 4, 2) := by decide +kernel
theorem dX12_start_285 : decode cX12_start 285 = .ok (.sipush 512, 3) := by decide +kernel
theorem dX12_start_288 : decode cX12_start 288 = .ok (.if_icmp .ge 7, 3) := by decide +kernel
theorem dX12_start_291 : decode cX12_start 291 = .ok (.iconst 1, 1) := by decide +kernel
theorem dX12_start_292 : decode cX12_start 292 = .ok (.goto 4, 3) := by decide +kernel
theorem dX12_start_295 : decode cX12_start 295 = .ok (.iconst 0, 1) := by decide +kernel
theorem dX12_start_296 : decode cX12_start 296 = .ok (.istore 5, 2) := by decide +kernel
theorem dX12_start_298 : decode cX12_start 298 = .ok (.aload_n 0, 1) := by decide +kernel
theorem dX12_start_299 : decode cX12_start 299 = .ok (.getfield 64, 3) := by decide +kernel
theorem dX12_start_302 : decode cX12_start 302 = .ok (.sipush 4096, 3) := by decide +kernel
theorem dX12_start_305 : decode cX12_start 305 = .ok (.aload_n 0, 1) := by decide +kernel
theorem dX12_start_306 : decode cX12_start 306 = .ok (.getfield 394, 3) := by decide +kernel
theorem dX12_start_309 : decode cX12_start 309 = .ok (.imul, 1) := by decide +kernel
theorem dX12_start_310 : decode cX12_start 310 = .ok (.iload 4, 2) := by decide +kernel
theorem dX12_start_312 : decode cX12_start 312 = .ok (.iadd, 1) := by decide +kernel
theorem dX12_start_313 : decode cX12_start 313 = .ok (.iconst 0, 1) := by decide +kernel
theorem dX12_start_314 : decode cX12_start 314 = .ok (.iastore, 1) := by decide +kernel
theorem dX12_start_315 : decode cX12_start 315 = .ok (.aload_n 0, 1) := by decide +kernel
theorem dX12_start_316 : decode cX12_start 316 = .ok (.getfield 67, 3) := by decide +kernel
theorem dX12_start_319 : decode cX12_start 319 = .ok (.sipush 4096, 3) := by decide +kernel
theorem dX12_start_322 : decode cX12_start 322 = .ok (.aload_n 0, 1) := by decide +kernel
theorem dX12_start_323 : decode cX12_start 323 = .ok (.getfield 394, 3) := by decide +kernel
theorem dX12_start_326 : decode cX12_start 326 = .ok (.imul, 1) := by decide +kernel
theorem dX12_start_327 : decode cX12_start 327 = .ok (.iload 4, 2) := by decide +kernel
theorem dX12_start_329 : decode cX12_start 329 = .ok (.iadd, 1) := by decide +kernel
theorem dX12_start_330 : decode cX12_start 330 = .ok (.iload 5, 2) := by decide +kernel
theorem dX12_start_332 : decode cX12_start 332 = .ok (.ifCond .eq 7, 3) := by decide +kernel
theorem dX12_start_335 : decode cX12_start 335 = .ok (.iconst 0, 1) := by decide +kernel
theorem dX12_start_336 : decode cX12_start 336 = .ok (.goto 6, 3) := by decide +kernel
theorem dX12_start_339 : decode cX12_start 339 = .ok (.sipush 255, 3) := by decide +kernel
theorem dX12_start_342 : decode cX12_start 342 = .ok (.iastore, 1) := by decide +kernel
theorem dX12_start_343 : decode cX12_start 343 = .ok (.aload_n 0, 1) := by decide +kernel
theorem dX12_start_344 : decode cX12_start 344 = .ok (.getfield 70, 3) := by decide +kernel
theorem dX12_start_347 : decode cX12_start 347 = .ok (.sipush 4096, 3) := by decide +kernel
theorem dX12_start_350 : decode cX12_start 350 = .ok (.aload_n 0, 1) := by decide +kernel
theorem dX12_start_351 : decode cX12_start 351 = .ok (.getfield 394, 3) := by decide +kernel
theorem dX12_start_354 : decode cX12_start 354 = .ok (.imul, 1) := by decide +kernel
theorem dX12_start_355 : decode cX12_start 355 = .ok (.iload 4, 2) := by decide +kernel
theorem dX12_start_357 : decode cX12_start 357 = .ok (.iadd, 1) := by decide +kernel
theorem dX12_start_358 : decode cX12_start 358 = .ok (.iconst 0, 1) := by decide +kernel
theorem dX12_start_359 : decode cX12_start 359 = .ok (.iastore, 1) := by decide +kernel
theorem dX12_start_360 : decode cX12_start 360 = .ok (.aload_n 0, 1) := by decide +kernel
theorem dX12_start_361 : decode cX12_start 361 = .ok (.getfield 73, 3) := by decide +kernel
theorem dX12_start_364 : decode cX12_start 364 = .ok (.sipush 4096, 3) := by decide +kernel
theorem dX12_start_367 : decode cX12_start 367 = .ok (.aload_n 0, 1) := by decide +kernel
theorem dX12_start_368 : decode cX12_start 368 = .ok (.getfield 394, 3) := by decide +kernel
theorem dX12_start_371 : decode cX12_start 371 = .ok (.imul, 1) := by decide +kernel
theorem dX12_start_372 : decode cX12_start 372 = .ok (.iload 4, 2) := by decide +kernel
theorem dX12_start_374 : decode cX12_start 374 = .ok (.iadd, 1) := by decide +kernel
theorem dX12_start_375 : decode cX12_start 375 = .ok (.iload 5, 2) := by decide +kernel
theorem dX12_start_377 : decode cX12_start 377 = .ok (.bastore, 1) := by decide +kernel
theorem dX12_start_378 : decode cX12_start 378 = .ok (.iinc 4 1, 3) := by decide +kernel
theorem dX12_start_381 : decode cX12_start 381 = .ok (.goto (-114), 3) := by decide +kernel
theorem dX12_start_384 : decode cX12_start 384 = .ok (.return_, 1) := by decide +kernel
theorem dX12_drawn_0 : decode cX12_drawn 0 = .ok (.aload_n 0, 1) := by decide +kernel
theorem dX12_drawn_1 : decode cX12_drawn 1 = .ok (.getfield 88, 3) := by decide +kernel
theorem dX12_drawn_4 : decode cX12_drawn 4 = .ok (.aload_n 0, 1) := by decide +kernel
theorem dX12_drawn_5 : decode cX12_drawn 5 = .ok (.getfield 394, 3) := by decide +kernel
theorem dX12_drawn_8 : decode cX12_drawn 8 = .ok (.aload_n 0, 1) := by decide +kernel
theorem dX12_drawn_9 : decode cX12_drawn 9 = .ok (.getfield 88, 3) := by decide +kernel
theorem dX12_drawn_12 : decode cX12_drawn 12 = .ok (.aload_n 0, 1) := by decide +kernel
theorem dX12_drawn_13 : decode cX12_drawn 13 = .ok (.getfield 394, 3) := by decide +kernel
theorem dX12_drawn_16 : decode cX12_drawn 16 = .ok (.iaload, 1) := by decide +kernel
theorem dX12_drawn_17 : decode cX12_drawn 17 = .ok (.ldc_w 418, 3) := by decide +kernel
theorem dX12_drawn_20 : decode cX12_drawn 20 = .ok (.imul, 1) := by decide +kernel
theorem dX12_drawn_21 : decode cX12_drawn 21 = .ok (.ldc_w 419, 3) := by decide +kernel
theorem dX12_drawn_24 : decode cX12_drawn 24 = .ok (.iadd, 1) := by decide +kernel
theorem dX12_drawn_25 : decode cX12_drawn 25 = .ok (.iastore, 1) := by decide +kernel
theorem dX12_drawn_26 : decode cX12_drawn 26 = .ok (.aload_n 0, 1) := by decide +kernel
theorem dX12_drawn_27 : decode cX12_drawn 27 = .ok (.getfield 88, 3) := by decide +kernel
theorem dX12_drawn_30 : decode cX12_drawn 30 = .ok (.aload_n 0, 1) := by decide +kernel
theorem dX12_drawn_31 : decode cX12_drawn 31 = .ok (.getfield 394, 3) := by decide +kernel
theorem dX12_drawn_34 : decode cX12_drawn 34 = .ok (.iaload, 1) := by decide +kernel
theorem dX12_drawn_35 : decode cX12_drawn 35 = .ok (.aload_n 0, 1) := by decide +kernel
theorem dX12_drawn_36 : decode cX12_drawn 36 = .ok (.getfield 88, 3) := by decide +kernel
theorem dX12_drawn_39 : decode cX12_drawn 39 = .ok (.aload_n 0, 1) := by decide +kernel
theorem dX12_drawn_40 : decode cX12_drawn 40 = .ok (.getfield 394, 3) := by decide +kernel
theorem dX12_drawn_43 : decode cX12_drawn 43 = .ok (.iaload, 1) := by decide +kernel
theorem dX12_drawn_44 : decode cX12_drawn 44 = .ok (.bipush 16, 2) := by decide +kernel
theorem dX12_drawn_46 : decode cX12_drawn 46 = .ok (.iushr, 1) := by decide +kernel
theorem dX12_drawn_47 : decode cX12_drawn 47 = .ok (.ixor, 1) := by decide +kernel
theorem dX12_drawn_48 : decode cX12_drawn 48 = .ok (.ireturn, 1) := by decide +kernel
theorem dX12_unset_0 : decode cX12_unset 0 = .ok (.sipush 4096, 3) := by decide +kernel
theorem dX12_unset_3 : decode cX12_unset 3 = .ok (.aload_n 0, 1) := by decide +kernel
theorem dX12_unset_4 : decode cX12_unset 4 = .ok (.getfield 394, 3) := by decide +kernel
theorem dX12_unset_7 : decode cX12_unset 7 = .ok (.imul, 1) := by decide +kernel
theorem dX12_unset_8 : decode cX12_unset 8 = .ok (.iload_n 1, 1) := by decide +kernel
theorem dX12_unset_9 : decode cX12_unset 9 = .ok (.iadd, 1) := by decide +kernel
theorem dX12_unset_10 : decode cX12_unset 10 = .ok (.istore_n 3, 1) := by decide +kernel
theorem dX12_unset_11 : decode cX12_unset 11 = .ok (.aload_n 0, 1) := by decide +kernel
theorem dX12_unset_12 : decode cX12_unset 12 = .ok (.getfield 73, 3) := by decide +kernel
theorem dX12_unset_15 : decode cX12_unset 15 = .ok (.iload_n 3, 1) := by decide +kernel
theorem dX12_unset_16 : decode cX12_unset 16 = .ok (.iconst 1, 1) := by decide +kernel
theorem dX12_unset_17 : decode cX12_unset 17 = .ok (.bastore, 1) := by decide +kernel
theorem dX12_unset_18 : decode cX12_unset 18 = .ok (.aload_n 0, 1) := by decide +kernel
theorem dX12_unset_19 : decode cX12_unset 19 = .ok (.getfield 64, 3) := by decide +kernel
theorem dX12_unset_22 : decode cX12_unset 22 = .ok (.iload_n 3, 1) := by decide +kernel
theorem dX12_unset_23 : decode cX12_unset 23 = .ok (.aload_n 0, 1) := by decide +kernel
theorem dX12_unset_24 : decode cX12_unset 24 = .ok (.invokevirtual 415, 3) := by decide +kernel
theorem dX12_unset_27 : decode cX12_unset 27 = .ok (.sipush 255, 3) := by decide +kernel
theorem dX12_unset_30 : decode cX12_unset 30 = .ok (.iand, 1) := by decide +kernel
theorem dX12_unset_31 : decode cX12_unset 31 = .ok (.iastore, 1) := by decide +kernel
theorem dX12_unset_32 : decode cX12_unset 32 = .ok (.aload_n 0, 1) := by decide +kernel
theorem dX12_unset_33 : decode cX12_unset 33 = .ok (.getfield 67, 3) := by decide +kernel
theorem dX12_unset_36 : decode cX12_unset 36 = .ok (.iload_n 3, 1) := by decide +kernel
theorem dX12_unset_37 : decode cX12_unset 37 = .ok (.sipush 255, 3) := by decide +kernel
theorem dX12_unset_40 : decode cX12_unset 40 = .ok (.iastore, 1) := by decide +kernel
theorem dX12_unset_41 : decode cX12_unset 41 = .ok (.aload_n 0, 1) := by decide +kernel
theorem dX12_unset_42 : decode cX12_unset 42 = .ok (.getfield 70, 3) := by decide +kernel
theorem dX12_unset_45 : decode cX12_unset 45 = .ok (.iload_n 3, 1) := by decide +kernel
theorem dX12_unset_46 : decode cX12_unset 46 = .ok (.iload_n 2, 1) := by decide +kernel
theorem dX12_unset_47 : decode cX12_unset 47 = .ok (.iastore, 1) := by decide +kernel
theorem dX12_unset_48 : decode cX12_unset 48 = .ok (.return_, 1) := by decide +kernel
theorem dX12_told_0 : decode cX12_told 0 = .ok (.aload_n 0, 1) := by decide +kernel
theorem dX12_told_1 : decode cX12_told 1 = .ok (.getfield 394, 3) := by decide +kernel
theorem dX12_told_4 : decode cX12_told 4 = .ok (.iconst 1, 1) := by decide +kernel
theorem dX12_told_5 : decode cX12_told 5 = .ok (.if_icmp .ne 4, 3) := by decide +kernel
theorem dX12_told_8 : decode cX12_told 8 = .ok (.return_, 1) := by decide +kernel
theorem dX12_told_9 : decode cX12_told 9 = .ok (.aload_n 0, 1) := by decide +kernel
theorem dX12_told_10 : decode cX12_told 10 = .ok (.iconst 0, 1) := by decide +kernel
theorem dX12_told_11 : decode cX12_told 11 = .ok (.putfield 412, 3) := by decide +kernel
theorem dX12_told_14 : decode cX12_told 14 = .ok (.iconst 0, 1) := by decide +kernel
theorem dX12_told_15 : decode cX12_told 15 = .ok (.istore_n 3, 1) := by decide +kernel
theorem dX12_told_16 : decode cX12_told 16 = .ok (.iload_n 3, 1) := by decide +kernel
theorem dX12_told_17 : decode cX12_told 17 = .ok (.aload_n 0, 1) := by decide +kernel
theorem dX12_told_18 : decode cX12_told 18 = .ok (.getfield 387, 3) := by decide +kernel
theorem dX12_told_21 : decode cX12_told 21 = .ok (.if_icmp .ge 68, 3) := by decide +kernel
theorem dX12_told_24 : decode cX12_told 24 = .ok (.aload_n 0, 1) := by decide +kernel
theorem dX12_told_25 : decode cX12_told 25 = .ok (.getfield 142, 3) := by decide +kernel
theorem dX12_told_28 : decode cX12_told 28 = .ok (.iload_n 3, 1) := by decide +kernel
theorem dX12_told_29 : decode cX12_told 29 = .ok (.iaload, 1) := by decide +kernel
theorem dX12_told_30 : decode cX12_told 30 = .ok (.ifCond .eq 13, 3) := by decide +kernel
theorem dX12_told_33 : decode cX12_told 33 = .ok (.aload_n 0, 1) := by decide +kernel
theorem dX12_told_34 : decode cX12_told 34 = .ok (.getfield 142, 3) := by decide +kernel
theorem dX12_told_37 : decode cX12_told 37 = .ok (.iload_n 3, 1) := by decide +kernel
theorem dX12_told_38 : decode cX12_told 38 = .ok (.iaload, 1) := by decide +kernel
theorem dX12_told_39 : decode cX12_told 39 = .ok (.iload_n 1, 1) := by decide +kernel
theorem dX12_told_40 : decode cX12_told 40 = .ok (.if_icmp .ne 43, 3) := by decide +kernel
theorem dX12_told_43 : decode cX12_told 43 = .ok (.aload_n 0, 1) := by decide +kernel
theorem dX12_told_44 : decode cX12_told 44 = .ok (.getfield 420, 3) := by decide +kernel
theorem dX12_told_47 : decode cX12_told 47 = .ok (.aload_n 0, 1) := by decide +kernel
theorem dX12_told_48 : decode cX12_told 48 = .ok (.getfield 145, 3) := by decide +kernel
theorem dX12_told_51 : decode cX12_told 51 = .ok (.iload_n 3, 1) := by decide +kernel
theorem dX12_told_52 : decode cX12_told 52 = .ok (.iaload, 1) := by decide +kernel
theorem dX12_told_53 : decode cX12_told 53 = .ok (.if_icmp .lt 30, 3) := by decide +kernel
theorem dX12_told_56 : decode cX12_told 56 = .ok (.aload_n 0, 1) := by decide +kernel
theorem dX12_told_57 : decode cX12_told 57 = .ok (.getfield 420, 3) := by decide +kernel
theorem dX12_told_60 : decode cX12_told 60 = .ok (.aload_n 0, 1) := by decide +kernel
theorem dX12_told_61 : decode cX12_told 61 = .ok (.getfield 148, 3) := by decide +kernel
theorem dX12_told_64 : decode cX12_told 64 = .ok (.iload_n 3, 1) := by decide +kernel
theorem dX12_told_65 : decode cX12_told 65 = .ok (.iaload, 1) := by decide +kernel
theorem dX12_told_66 : decode cX12_told 66 = .ok (.if_icmp .le 6, 3) := by decide +kernel
theorem dX12_told_69 : decode cX12_told 69 = .ok (.goto 14, 3) := by decide +kernel
theorem dX12_told_72 : decode cX12_told 72 = .ok (.aload_n 0, 1) := by decide +kernel
theorem dX12_told_73 : decode cX12_told 73 = .ok (.dup, 1) := by decide +kernel
theorem dX12_told_74 : decode cX12_told 74 = .ok (.getfield 406, 3) := by decide +kernel
theorem dX12_told_77 : decode cX12_told 77 = .ok (.iconst 1, 1) := by decide +kernel
theorem dX12_told_78 : decode cX12_told 78 = .ok (.iadd, 1) := by decide +kernel
theorem dX12_told_79 : decode cX12_told 79 = .ok (.putfield 406, 3) := by decide +kernel
theorem dX12_told_82 : decode cX12_told 82 = .ok (.return_, 1) := by decide +kernel
theorem dX12_told_83 : decode cX12_told 83 = .ok (.iinc 3 1, 3) := by decide +kernel
theorem dX12_told_86 : decode cX12_told 86 = .ok (.goto (-70), 3) := by decide +kernel
theorem dX12_told_89 : decode cX12_told 89 = .ok (.aload_n 0, 1) := by decide +kernel
theorem dX12_told_90 : decode cX12_told 90 = .ok (.dup, 1) := by decide +kernel
theorem dX12_told_91 : decode cX12_told 91 = .ok (.getfield 403, 3) := by decide +kernel
theorem dX12_told_94 : decode cX12_told 94 = .ok (.iconst 1, 1) := by decide +kernel
theorem dX12_told_95 : decode cX12_told 95 = .ok (.iadd, 1) := by decide +kernel
theorem dX12_told_96 : decode cX12_told 96 = .ok (.putfield 403, 3) := by decide +kernel
theorem dX12_told_99 : decode cX12_told 99 = .ok (.iconst 0, 1) := by decide +kernel
theorem dX12_told_100 : decode cX12_told 100 = .ok (.istore_n 3, 1) := by decide +kernel
theorem dX12_told_101 : decode cX12_told 101 = .ok (.iload_n 3, 1) := by decide +kernel
theorem dX12_told_102 : decode cX12_told 102 = .ok (.aload_n 0, 1) := by decide +kernel
theorem dX12_told_103 : decode cX12_told 103 = .ok (.getfield 400, 3) := by decide +kernel
theorem dX12_told_106 : decode cX12_told 106 = .ok (.if_icmp .ge 56, 3) := by decide +kernel
theorem dX12_told_109 : decode cX12_told 109 = .ok (.aload_n 0, 1) := by decide +kernel
theorem dX12_told_110 : decode cX12_told 110 = .ok (.getfield 130, 3) := by decide +kernel
theorem dX12_told_113 : decode cX12_told 113 = .ok (.iload_n 3, 1) := by decide +kernel
theorem dX12_told_114 : decode cX12_told 114 = .ok (.iaload, 1) := by decide +kernel
theorem dX12_told_115 : decode cX12_told 115 = .ok (.iload_n 1, 1) := by decide +kernel
theorem dX12_told_116 : decode cX12_told 116 = .ok (.if_icmp .ne 40, 3) := by decide +kernel
theorem dX12_told_119 : decode cX12_told 119 = .ok (.aload_n 0, 1) := by decide +kernel
theorem dX12_told_120 : decode cX12_told 120 = .ok (.getfield 133, 3) := by decide +kernel
theorem dX12_told_123 : decode cX12_told 123 = .ok (.iload_n 3, 1) := by decide +kernel
theorem dX12_told_124 : decode cX12_told 124 = .ok (.iaload, 1) := by decide +kernel
theorem dX12_told_125 : decode cX12_told 125 = .ok (.aload_n 0, 1) := by decide +kernel
theorem dX12_told_126 : decode cX12_told 126 = .ok (.getfield 420, 3) := by decide +kernel
theorem dX12_told_129 : decode cX12_told 129 = .ok (.if_icmp .ne 27, 3) := by decide +kernel
theorem dX12_told_132 : decode cX12_told 132 = .ok (.aload_n 0, 1) := by decide +kernel
theorem dX12_told_133 : decode cX12_told 133 = .ok (.getfield 136, 3) := by decide +kernel
theorem dX12_told_136 : decode cX12_told 136 = .ok (.iload_n 3, 1) := by decide +kernel
theorem dX12_told_137 : decode cX12_told 137 = .ok (.iaload, 1) := by decide +kernel
theorem dX12_told_138 : decode cX12_told 138 = .ok (.iload_n 2, 1) := by decide +kernel
theorem dX12_told_139 : decode cX12_told 139 = .ok (.if_icmp .eq 6, 3) := by decide +kernel
theorem dX12_told_142 : decode cX12_told 142 = .ok (.goto 14, 3) := by decide +kernel
theorem dX12_told_145 : decode cX12_told 145 = .ok (.aload_n 0, 1) := by decide +kernel
theorem dX12_told_146 : decode cX12_told 146 = .ok (.getfield 139, 3) := by decide +kernel
theorem dX12_told_149 : decode cX12_told 149 = .ok (.iload_n 3, 1) := by decide +kernel
theorem dX12_told_150 : decode cX12_told 150 = .ok (.dup2, 1) := by decide +kernel
theorem dX12_told_151 : decode cX12_told 151 = .ok (.iaload, 1) := by decide +kernel
theorem dX12_told_152 : decode cX12_told 152 = .ok (.iconst 1, 1) := by decide +kernel
theorem dX12_told_153 : decode cX12_told 153 = .ok (.iadd, 1) := by decide +kernel
theorem dX12_told_154 : decode cX12_told 154 = .ok (.iastore, 1) := by decide +kernel
theorem dX12_told_155 : decode cX12_told 155 = .ok (.return_, 1) := by decide +kernel
theorem dX12_told_156 : decode cX12_told 156 = .ok (.iinc 3 1, 3) := by decide +kernel
theorem dX12_told_159 : decode cX12_told 159 = .ok (.goto (-58), 3) := by decide +kernel
theorem dX12_told_162 : decode cX12_told 162 = .ok (.aload_n 0, 1) := by decide +kernel
theorem dX12_told_163 : decode cX12_told 163 = .ok (.getfield 400, 3) := by decide +kernel
theorem dX12_told_166 : decode cX12_told 166 = .ok (.bipush 60, 2) := by decide +kernel
theorem dX12_told_168 : decode cX12_told 168 = .ok (.if_icmp .ne 4, 3) := by decide +kernel
theorem dX12_told_171 : decode cX12_told 171 = .ok (.return_, 1) := by decide +kernel
theorem dX12_told_172 : decode cX12_told 172 = .ok (.aload_n 0, 1) := by decide +kernel
theorem dX12_told_173 : decode cX12_told 173 = .ok (.getfield 130, 3) := by decide +kernel
theorem dX12_told_176 : decode cX12_told 176 = .ok (.aload_n 0, 1) := by decide +kernel
theorem dX12_told_177 : decode cX12_told 177 = .ok (.getfield 400, 3) := by decide +kernel
theorem dX12_told_180 : decode cX12_told 180 = .ok (.iload_n 1, 1) := by decide +kernel
theorem dX12_told_181 : decode cX12_told 181 = .ok (.iastore, 1) := by decide +kernel
theorem dX12_told_182 : decode cX12_told 182 = .ok (.aload_n 0, 1) := by decide +kernel
theorem dX12_told_183 : decode cX12_told 183 = .ok (.getfield 133, 3) := by decide +kernel
theorem dX12_told_186 : decode cX12_told 186 = .ok (.aload_n 0, 1) := by decide +kernel
theorem dX12_told_187 : decode cX12_told 187 = .ok (.getfield 400, 3) := by decide +kernel
theorem dX12_told_190 : decode cX12_told 190 = .ok (.aload_n 0, 1) := by decide +kernel
theorem dX12_told_191 : decode cX12_told 191 = .ok (.getfield 420, 3) := by decide +kernel
theorem dX12_told_194 : decode cX12_told 194 = .ok (.iastore, 1) := by decide +kernel
theorem dX12_told_195 : decode cX12_told 195 = .ok (.aload_n 0, 1) := by decide +kernel
theorem dX12_told_196 : decode cX12_told 196 = .ok (.getfield 136, 3) := by decide +kernel
theorem dX12_told_199 : decode cX12_told 199 = .ok (.aload_n 0, 1) := by decide +kernel
theorem dX12_told_200 : decode cX12_told 200 = .ok (.getfield 400, 3) := by decide +kernel
theorem dX12_told_203 : decode cX12_told 203 = .ok (.iload_n 2, 1) := by decide +kernel
theorem dX12_told_204 : decode cX12_told 204 = .ok (.iastore, 1) := by decide +kernel
theorem dX12_told_205 : decode cX12_told 205 = .ok (.aload_n 0, 1) := by decide +kernel
theorem dX12_told_206 : decode cX12_told 206 = .ok (.getfield 139, 3) := by decide +kernel
theorem dX12_told_209 : decode cX12_told 209 = .ok (.aload_n 0, 1) := by decide +kernel
theorem dX12_told_210 : decode cX12_told 210 = .ok (.getfield 400, 3) := by decide +kernel
theorem dX12_told_213 : decode cX12_told 213 = .ok (.iconst 1, 1) := by decide +kernel
theorem dX12_told_214 : decode cX12_told 214 = .ok (.iastore, 1) := by decide +kernel
theorem dX12_told_215 : decode cX12_told 215 = .ok (.aload_n 0, 1) := by decide +kernel
theorem dX12_told_216 : decode cX12_told 216 = .ok (.dup, 1) := by decide +kernel
theorem dX12_told_217 : decode cX12_told 217 = .ok (.getfield 400, 3) := by decide +kernel
theorem dX12_told_220 : decode cX12_told 220 = .ok (.iconst 1, 1) := by decide +kernel
theorem dX12_told_221 : decode cX12_told 221 = .ok (.iadd, 1) := by decide +kernel
theorem dX12_told_222 : decode cX12_told 222 = .ok (.putfield 400, 3) := by decide +kernel
theorem dX12_told_225 : decode cX12_told 225 = .ok (.return_, 1) := by decide +kernel
theorem dX12_trap_0 : decode cX12_trap 0 = .ok (.aload_n 0, 1) := by decide +kernel
theorem dX12_trap_1 : decode cX12_trap 1 = .ok (.getfield 79, 3) := by decide +kernel
theorem dX12_trap_4 : decode cX12_trap 4 = .ok (.aload_n 0, 1) := by decide +kernel
theorem dX12_trap_5 : decode cX12_trap 5 = .ok (.getfield 394, 3) := by decide +kernel
theorem dX12_trap_8 : decode cX12_trap 8 = .ok (.iaload, 1) := by decide +kernel
theorem dX12_trap_9 : decode cX12_trap 9 = .ok (.ifCond .le 4, 3) := by decide +kernel
theorem dX12_trap_12 : decode cX12_trap 12 = .ok (.return_, 1) := by decide +kernel
theorem dX12_trap_13 : decode cX12_trap 13 = .ok (.aload_n 0, 1) := by decide +kernel
theorem dX12_trap_14 : decode cX12_trap 14 = .ok (.getfield 79, 3) := by decide +kernel
theorem dX12_trap_17 : decode cX12_trap 17 = .ok (.aload_n 0, 1) := by decide +kernel
theorem dX12_trap_18 : decode cX12_trap 18 = .ok (.getfield 394, 3) := by decide +kernel
theorem dX12_trap_21 : decode cX12_trap 21 = .ok (.iconst 1, 1) := by decide +kernel
theorem dX12_trap_22 : decode cX12_trap 22 = .ok (.iload_n 1, 1) := by decide +kernel
theorem dX12_trap_23 : decode cX12_trap 23 = .ok (.iadd, 1) := by decide +kernel
theorem dX12_trap_24 : decode cX12_trap 24 = .ok (.iastore, 1) := by decide +kernel
theorem dX12_trap_25 : decode cX12_trap 25 = .ok (.aload_n 0, 1) := by decide +kernel
theorem dX12_trap_26 : decode cX12_trap 26 = .ok (.getfield 85, 3) := by decide +kernel
theorem dX12_trap_29 : decode cX12_trap 29 = .ok (.aload_n 0, 1) := by decide +kernel
theorem dX12_trap_30 : decode cX12_trap 30 = .ok (.getfield 394, 3) := by decide +kernel
theorem dX12_trap_33 : decode cX12_trap 33 = .ok (.aload_n 0, 1) := by decide +kernel
theorem dX12_trap_34 : decode cX12_trap 34 = .ok (.getfield 85, 3) := by decide +kernel
theorem dX12_trap_37 : decode cX12_trap 37 = .ok (.aload_n 0, 1) := by decide +kernel
theorem dX12_trap_38 : decode cX12_trap 38 = .ok (.getfield 394, 3) := by decide +kernel
theorem dX12_trap_41 : decode cX12_trap 41 = .ok (.iaload, 1) := by decide +kernel
theorem dX12_trap_42 : decode cX12_trap 42 = .ok (.bipush 31, 2) := by decide +kernel
theorem dX12_trap_44 : decode cX12_trap 44 = .ok (.imul, 1) := by decide +kernel
theorem dX12_trap_45 : decode cX12_trap 45 = .ok (.iconst 4, 1) := by decide +kernel
theorem dX12_trap_46 : decode cX12_trap 46 = .ok (.iadd, 1) := by decide +kernel
theorem dX12_trap_47 : decode cX12_trap 47 = .ok (.bipush 31, 2) := by decide +kernel
theorem dX12_trap_49 : decode cX12_trap 49 = .ok (.imul, 1) := by decide +kernel
theorem dX12_trap_50 : decode cX12_trap 50 = .ok (.iload_n 1, 1) := by decide +kernel
theorem dX12_trap_51 : decode cX12_trap 51 = .ok (.iadd, 1) := by decide +kernel
theorem dX12_trap_52 : decode cX12_trap 52 = .ok (.iastore, 1) := by decide +kernel
theorem dX12_trap_53 : decode cX12_trap 53 = .ok (.return_, 1) := by decide +kernel
theorem dX12_value_0 : decode cX12_value 0 = .ok (.aload_n 0, 1) := by decide +kernel
theorem dX12_value_1 : decode cX12_value 1 = .ok (.getfield 20, 3) := by decide +kernel
theorem dX12_value_4 : decode cX12_value 4 = .ok (.iload_n 1, 1) := by decide +kernel
theorem dX12_value_5 : decode cX12_value 5 = .ok (.baload, 1) := by decide +kernel
theorem dX12_value_6 : decode cX12_value 6 = .ok (.ifCond .eq 25, 3) := by decide +kernel
theorem dX12_value_9 : decode cX12_value 9 = .ok (.aload_n 0, 1) := by decide +kernel
theorem dX12_value_10 : decode cX12_value 10 = .ok (.getfield 55, 3) := by decide +kernel
theorem dX12_value_13 : decode cX12_value 13 = .ok (.bipush 8, 2) := by decide +kernel
theorem dX12_value_15 : decode cX12_value 15 = .ok (.aload_n 0, 1) := by decide +kernel
theorem dX12_value_16 : decode cX12_value 16 = .ok (.getfield 394, 3) := by decide +kernel
theorem dX12_value_19 : decode cX12_value 19 = .ok (.imul, 1) := by decide +kernel
theorem dX12_value_20 : decode cX12_value 20 = .ok (.aload_n 0, 1) := by decide +kernel
theorem dX12_value_21 : decode cX12_value 21 = .ok (.getfield 24, 3) := by decide +kernel
theorem dX12_value_24 : decode cX12_value 24 = .ok (.iload_n 1, 1) := by decide +kernel
theorem dX12_value_25 : decode cX12_value 25 = .ok (.iaload, 1) := by decide +kernel
theorem dX12_value_26 : decode cX12_value 26 = .ok (.iadd, 1) := by decide +kernel
theorem dX12_value_27 : decode cX12_value 27 = .ok (.iaload, 1) := by decide +kernel
theorem dX12_value_28 : decode cX12_value 28 = .ok (.goto 9, 3) := by decide +kernel
theorem dX12_value_31 : decode cX12_value 31 = .ok (.aload_n 0, 1) := by decide +kernel
theorem dX12_value_32 : decode cX12_value 32 = .ok (.getfield 24, 3) := by decide +kernel
theorem dX12_value_35 : decode cX12_value 35 = .ok (.iload_n 1, 1) := by decide +kernel
theorem dX12_value_36 : decode cX12_value 36 = .ok (.iaload, 1) := by decide +kernel
theorem dX12_value_37 : decode cX12_value 37 = .ok (.ireturn, 1) := by decide +kernel
theorem dX12_shade_0 : decode cX12_shade 0 = .ok (.aload_n 0, 1) := by decide +kernel
theorem dX12_shade_1 : decode cX12_shade 1 = .ok (.getfield 20, 3) := by decide +kernel
theorem dX12_shade_4 : decode cX12_shade 4 = .ok (.iload_n 1, 1) := by decide +kernel
theorem dX12_shade_5 : decode cX12_shade 5 = .ok (.baload, 1) := by decide +kernel
theorem dX12_shade_6 : decode cX12_shade 6 = .ok (.ifCond .eq 25, 3) := by decide +kernel
theorem dX12_shade_9 : decode cX12_shade 9 = .ok (.aload_n 0, 1) := by decide +kernel
theorem dX12_shade_10 : decode cX12_shade 10 = .ok (.getfield 58, 3) := by decide +kernel
theorem dX12_shade_13 : decode cX12_shade 13 = .ok (.bipush 8, 2) := by decide +kernel
theorem dX12_shade_15 : decode cX12_shade 15 = .ok (.aload_n 0, 1) := by decide +kernel
theorem dX12_shade_16 : decode cX12_shade 16 = .ok (.getfield 394, 3) := by decide +kernel
theorem dX12_shade_19 : decode cX12_shade 19 = .ok (.imul, 1) := by decide +kernel
theorem dX12_shade_20 : decode cX12_shade 20 = .ok (.aload_n 0, 1) := by decide +kernel
theorem dX12_shade_21 : decode cX12_shade 21 = .ok (.getfield 24, 3) := by decide +kernel
theorem dX12_shade_24 : decode cX12_shade 24 = .ok (.iload_n 1, 1) := by decide +kernel
theorem dX12_shade_25 : decode cX12_shade 25 = .ok (.iaload, 1) := by decide +kernel
theorem dX12_shade_26 : decode cX12_shade 26 = .ok (.iadd, 1) := by decide +kernel
theorem dX12_shade_27 : decode cX12_shade 27 = .ok (.iaload, 1) := by decide +kernel
theorem dX12_shade_28 : decode cX12_shade 28 = .ok (.goto 4, 3) := by decide +kernel
theorem dX12_shade_31 : decode cX12_shade 31 = .ok (.iconst 0, 1) := by decide +kernel
theorem dX12_shade_32 : decode cX12_shade 32 = .ok (.ireturn, 1) := by decide +kernel
theorem dX12_origin_0 : decode cX12_origin 0 = .ok (.aload_n 0, 1) := by decide +kernel
theorem dX12_origin_1 : decode cX12_origin 1 = .ok (.getfield 20, 3) := by decide +kernel
theorem dX12_origin_4 : decode cX12_origin 4 = .ok (.iload_n 1, 1) := by decide +kernel
theorem dX12_origin_5 : decode cX12_origin 5 = .ok (.baload, 1) := by decide +kernel
theorem dX12_origin_6 : decode cX12_origin 6 = .ok (.ifCond .eq 25, 3) := by decide +kernel
theorem dX12_origin_9 : decode cX12_origin 9 = .ok (.aload_n 0, 1) := by decide +kernel
theorem dX12_origin_10 : decode cX12_origin 10 = .ok (.getfield 61, 3) := by decide +kernel
theorem dX12_origin_13 : decode cX12_origin 13 = .ok (.bipush 8, 2) := by decide +kernel
theorem dX12_origin_15 : decode cX12_origin 15 = .ok (.aload_n 0, 1) := by decide +kernel
theorem dX12_origin_16 : decode cX12_origin 16 = .ok (.getfield 394, 3) := by decide +kernel
theorem dX12_origin_19 : decode cX12_origin 19 = .ok (.imul, 1) := by decide +kernel
theorem dX12_origin_20 : decode cX12_origin 20 = .ok (.aload_n 0, 1) := by decide +kernel
theorem dX12_origin_21 : decode cX12_origin 21 = .ok (.getfield 24, 3) := by decide +kernel
theorem dX12_origin_24 : decode cX12_origin 24 = .ok (.iload_n 1, 1) := by decide +kernel
theorem dX12_origin_25 : decode cX12_origin 25 = .ok (.iaload, 1) := by decide +kernel
theorem dX12_origin_26 : decode cX12_origin 26 = .ok (.iadd, 1) := by decide +kernel
theorem dX12_origin_27 : decode cX12_origin 27 = .ok (.iaload, 1) := by decide +kernel
theorem dX12_origin_28 : decode cX12_origin 28 = .ok (.goto 4, 3) := by decide +kernel
theorem dX12_origin_31 : decode cX12_origin 31 = .ok (.iconst 0, 1) := by decide +kernel
theorem dX12_origin_32 : decode cX12_origin 32 = .ok (.ireturn, 1) := by decide +kernel
theorem dX12_originOf_0 : decode cX12_originOf 0 = .ok (.iload_n 2, 1) := by decide +kernel
theorem dX12_originOf_1 : decode cX12_originOf 1 = .ok (.ifCond .eq 16, 3) := by decide +kernel
theorem dX12_originOf_4 : decode cX12_originOf 4 = .ok (.iload_n 0, 1) := by decide +kernel
theorem dX12_originOf_5 : decode cX12_originOf 5 = .ok (.ifCond .eq 8, 3) := by decide +kernel
theorem dX12_originOf_8 : decode cX12_originOf 8 = .ok (.iload_n 3, 1) := by decide +kernel
theorem dX12_originOf_9 : decode cX12_originOf 9 = .ok (.iload_n 1, 1) := by decide +kernel
theorem dX12_originOf_10 : decode cX12_originOf 10 = .ok (.if_icmp .le 7, 3) := by decide +kernel
theorem dX12_originOf_13 : decode cX12_originOf 13 = .ok (.iload_n 3, 1) := by decide +kernel
theorem dX12_originOf_14 : decode cX12_originOf 14 = .ok (.goto 12, 3) := by decide +kernel
theorem dX12_originOf_17 : decode cX12_originOf 17 = .ok (.iload_n 0, 1) := by decide +kernel
theorem dX12_originOf_18 : decode cX12_originOf 18 = .ok (.ifCond .eq 7, 3) := by decide +kernel
theorem dX12_originOf_21 : decode cX12_originOf 21 = .ok (.iload_n 1, 1) := by decide +kernel
theorem dX12_originOf_22 : decode cX12_originOf 22 = .ok (.goto 4, 3) := by decide +kernel
theorem dX12_originOf_25 : decode cX12_originOf 25 = .ok (.iconst 0, 1) := by decide +kernel
theorem dX12_originOf_26 : decode cX12_originOf 26 = .ok (.ireturn, 1) := by decide +kernel
theorem dX12_give_0 : decode cX12_give 0 = .ok (.iload_n 1, 1) := by decide +kernel
theorem dX12_give_1 : decode cX12_give 1 = .ok (.bipush 7, 2) := by decide +kernel
theorem dX12_give_3 : decode cX12_give 3 = .ok (.if_icmp .ne 105, 3) := by decide +kernel
theorem dX12_give_6 : decode cX12_give 6 = .ok (.iload_n 3, 1) := by decide +kernel
theorem dX12_give_7 : decode cX12_give 7 = .ok (.ifCond .ne 17, 3) := by decide +kernel
theorem dX12_give_10 : decode cX12_give 10 = .ok (.iload_n 2, 1) := by decide +kernel
theorem dX12_give_11 : decode cX12_give 11 = .ok (.sipush 3072, 3) := by decide +kernel
theorem dX12_give_14 : decode cX12_give 14 = .ok (.if_icmp .lt 10, 3) := by decide +kernel
theorem dX12_give_17 : decode cX12_give 17 = .ok (.iload_n 2, 1) := by decide +kernel
theorem dX12_give_18 : decode cX12_give 18 = .ok (.sipush 4096, 3) := by decide +kernel
theorem dX12_give_21 : decode cX12_give 21 = .ok (.if_icmp .le 9, 3) := by decide +kernel
theorem dX12_give_24 : decode cX12_give 24 = .ok (.aload_n 0, 1) := by decide +kernel
theorem dX12_give_25 : decode cX12_give 25 = .ok (.iconst 2, 1) := by decide +kernel
theorem dX12_give_26 : decode cX12_give 26 = .ok (.invokevirtual 423, 3) := by decide +kernel
theorem dX12_give_29 : decode cX12_give 29 = .ok (.return_, 1) := by decide +kernel
theorem dX12_give_30 : decode cX12_give 30 = .ok (.sipush 3072, 3) := by decide +kernel
theorem dX12_give_33 : decode cX12_give 33 = .ok (.istore 5, 2) := by decide +kernel
theorem dX12_give_35 : decode cX12_give 35 = .ok (.iload 5, 2) := by decide +kernel
theorem dX12_give_37 : decode cX12_give 37 = .ok (.sipush 4096, 3) := by decide +kernel
theorem dX12_give_40 : decode cX12_give 40 = .ok (.if_icmp .ge 68, 3) := by decide +kernel
theorem dX12_give_43 : decode cX12_give 43 = .ok (.iload 5, 2) := by decide +kernel
theorem dX12_give_45 : decode cX12_give 45 = .ok (.iload_n 2, 1) := by decide +kernel
theorem dX12_give_46 : decode cX12_give 46 = .ok (.if_icmp .ge 23, 3) := by decide +kernel
theorem dX12_give_49 : decode cX12_give 49 = .ok (.aload_n 0, 1) := by decide +kernel
theorem dX12_give_50 : decode cX12_give 50 = .ok (.getfield 73, 3) := by decide +kernel
theorem dX12_give_53 : decode cX12_give 53 = .ok (.sipush 4096, 3) := by decide +kernel
theorem dX12_give_56 : decode cX12_give 56 = .ok (.aload_n 0, 1) := by decide +kernel
theorem dX12_give_57 : decode cX12_give 57 = .ok (.getfield 394, 3) := by decide +kernel
theorem dX12_give_60 : decode cX12_give 60 = .ok (.imul, 1) := by decide +kernel
theorem dX12_give_61 : decode cX12_give 61 = .ok (.iload 5, 2) := by decide +kernel
theorem dX12_give_63 : decode cX12_give 63 = .ok (.iadd, 1) := by decide +kernel
theorem dX12_give_64 : decode cX12_give 64 = .ok (.iconst 0, 1) := by decide +kernel
theorem dX12_give_65 : decode cX12_give 65 = .ok (.bastore, 1) := by decide +kernel
theorem dX12_give_66 : decode cX12_give 66 = .ok (.goto 36, 3) := by decide +kernel
theorem dX12_give_69 : decode cX12_give 69 = .ok (.aload_n 0, 1) := by decide +kernel
theorem dX12_give_70 : decode cX12_give 70 = .ok (.getfield 73, 3) := by decide +kernel
theorem dX12_give_73 : decode cX12_give 73 = .ok (.sipush 4096, 3) := by decide +kernel
theorem dX12_give_76 : decode cX12_give 76 = .ok (.aload_n 0, 1) := by decide +kernel
theorem dX12_give_77 : decode cX12_give 77 = .ok (.getfield 394, 3) := by decide +kernel
theorem dX12_give_80 : decode cX12_give 80 = .ok (.imul, 1) := by decide +kernel
theorem dX12_give_81 : decode cX12_give 81 = .ok (.iload 5, 2) := by decide +kernel
theorem dX12_give_83 : decode cX12_give 83 = .ok (.iadd, 1) := by decide +kernel
theorem dX12_give_84 : decode cX12_give 84 = .ok (.baload, 1) := by decide +kernel
theorem dX12_give_85 : decode cX12_give 85 = .ok (.ifCond .ne 17, 3) := by decide +kernel
theorem dX12_give_88 : decode cX12_give 88 = .ok (.aload_n 0, 1) := by decide +kernel
theorem dX12_give_89 : decode cX12_give 89 = .ok (.iload 5, 2) := by decide +kernel
theorem dX12_give_91 : decode cX12_give 91 = .ok (.sipush 512, 3) := by decide +kernel
theorem dX12_give_94 : decode cX12_give 94 = .ok (.aload_n 0, 1) := by decide +kernel
theorem dX12_give_95 : decode cX12_give 95 = .ok (.getfield 420, 3) := by decide +kernel
theorem dX12_give_98 : decode cX12_give 98 = .ok (.iadd, 1) := by decide +kernel
theorem dX12_give_99 : decode cX12_give 99 = .ok (.invokevirtual 426, 3) := by decide +kernel
theorem dX12_give_102 : decode cX12_give 102 = .ok (.iinc 5 1, 3) := by decide +kernel
theorem dX12_give_105 : decode cX12_give 105 = .ok (.goto (-70), 3) := by decide +kernel
theorem dX12_give_108 : decode cX12_give 108 = .ok (.aload_n 0, 1) := by decide +kernel
theorem dX12_give_109 : decode cX12_give 109 = .ok (.getfield 55, 3) := by decide +kernel
theorem dX12_give_112 : decode cX12_give 112 = .ok (.bipush 8, 2) := by decide +kernel
theorem dX12_give_114 : decode cX12_give 114 = .ok (.aload_n 0, 1) := by decide +kernel
theorem dX12_give_115 : decode cX12_give 115 = .ok (.getfield 394, 3) := by decide +kernel
theorem dX12_give_118 : decode cX12_give 118 = .ok (.imul, 1) := by decide +kernel
theorem dX12_give_119 : decode cX12_give 119 = .ok (.iload_n 1, 1) := by decide +kernel
theorem dX12_give_120 : decode cX12_give 120 = .ok (.iadd, 1) := by decide +kernel
theorem dX12_give_121 : decode cX12_give 121 = .ok (.iload_n 2, 1) := by decide +kernel
theorem dX12_give_122 : decode cX12_give 122 = .ok (.iastore, 1) := by decide +kernel
theorem dX12_give_123 : decode cX12_give 123 = .ok (.aload_n 0, 1) := by decide +kernel
theorem dX12_give_124 : decode cX12_give 124 = .ok (.getfield 58, 3) := by decide +kernel
theorem dX12_give_127 : decode cX12_give 127 = .ok (.bipush 8, 2) := by decide +kernel
theorem dX12_give_129 : decode cX12_give 129 = .ok (.aload_n 0, 1) := by decide +kernel
theorem dX12_give_130 : decode cX12_give 130 = .ok (.getfield 394, 3) := by decide +kernel
theorem dX12_give_133 : decode cX12_give 133 = .ok (.imul, 1) := by decide +kernel
theorem dX12_give_134 : decode cX12_give 134 = .ok (.iload_n 1, 1) := by decide +kernel
theorem dX12_give_135 : decode cX12_give 135 = .ok (.iadd, 1) := by decide +kernel
theorem dX12_give_136 : decode cX12_give 136 = .ok (.iload_n 3, 1) := by decide +kernel
theorem dX12_give_137 : decode cX12_give 137 = .ok (.iastore, 1) := by decide +kernel
theorem dX12_give_138 : decode cX12_give 138 = .ok (.aload_n 0, 1) := by decide +kernel
theorem dX12_give_139 : decode cX12_give 139 = .ok (.getfield 61, 3) := by decide +kernel
theorem dX12_give_142 : decode cX12_give 142 = .ok (.bipush 8, 2) := by decide +kernel
theorem dX12_give_144 : decode cX12_give 144 = .ok (.aload_n 0, 1) := by decide +kernel
theorem dX12_give_145 : decode cX12_give 145 = .ok (.getfield 394, 3) := by decide +kernel
theorem dX12_give_148 : decode cX12_give 148 = .ok (.imul, 1) := by decide +kernel
theorem dX12_give_149 : decode cX12_give 149 = .ok (.iload_n 1, 1) := by decide +kernel
theorem dX12_give_150 : decode cX12_give 150 = .ok (.iadd, 1) := by decide +kernel
theorem dX12_give_151 : decode cX12_give 151 = .ok (.iload_n 3, 1) := by decide +kernel
theorem dX12_give_152 : decode cX12_give 152 = .ok (.ifCond .ne 7, 3) := by decide +kernel
theorem dX12_give_155 : decode cX12_give 155 = .ok (.iconst 0, 1) := by decide +kernel
theorem dX12_give_156 : decode cX12_give 156 = .ok (.goto 5, 3) := by decide +kernel
theorem dX12_give_159 : decode cX12_give 159 = .ok (.iload 4, 2) := by decide +kernel
theorem dX12_give_161 : decode cX12_give 161 = .ok (.iastore, 1) := by decide +kernel
theorem dX12_give_162 : decode cX12_give 162 = .ok (.return_, 1) := by decide +kernel
theorem dX12_left_0 : decode cX12_left 0 = .ok (.iload_n 0, 1) := by decide +kernel
theorem dX12_left_1 : decode cX12_left 1 = .ok (.iload_n 0, 1) := by decide +kernel
theorem dX12_left_2 : decode cX12_left 2 = .ok (.ineg, 1) := by decide +kernel
theorem dX12_left_3 : decode cX12_left 3 = .ok (.ior, 1) := by decide +kernel
theorem dX12_left_4 : decode cX12_left 4 = .ok (.ireturn, 1) := by decide +kernel
theorem dX12_any_0 : decode cX12_any 0 = .ok (.iload_n 0, 1) := by decide +kernel
theorem dX12_any_1 : decode cX12_any 1 = .ok (.ifCond .eq 7, 3) := by decide +kernel
theorem dX12_any_4 : decode cX12_any 4 = .ok (.iconst (-1), 1) := by decide +kernel
theorem dX12_any_5 : decode cX12_any 5 = .ok (.goto 4, 3) := by decide +kernel
theorem dX12_any_8 : decode cX12_any 8 = .ok (.iconst 0, 1) := by decide +kernel
theorem dX12_any_9 : decode cX12_any 9 = .ok (.ireturn, 1) := by decide +kernel
theorem dX12_below_0 : decode cX12_below 0 = .ok (.iload_n 0, 1) := by decide +kernel
theorem dX12_below_1 : decode cX12_below 1 = .ok (.ldc_w 429, 3) := by decide +kernel
theorem dX12_below_4 : decode cX12_below 4 = .ok (.iadd, 1) := by decide +kernel
theorem dX12_below_5 : decode cX12_below 5 = .ok (.iload_n 1, 1) := by decide +kernel
theorem dX12_below_6 : decode cX12_below 6 = .ok (.ldc_w 429, 3) := by decide +kernel
theorem dX12_below_9 : decode cX12_below 9 = .ok (.iadd, 1) := by decide +kernel
theorem dX12_below_10 : decode cX12_below 10 = .ok (.if_icmp .ge 7, 3) := by decide +kernel
theorem dX12_below_13 : decode cX12_below 13 = .ok (.iconst 1, 1) := by decide +kernel
theorem dX12_below_14 : decode cX12_below 14 = .ok (.goto 4, 3) := by decide +kernel
theorem dX12_below_17 : decode cX12_below 17 = .ok (.iconst 0, 1) := by decide +kernel
theorem dX12_below_18 : decode cX12_below 18 = .ok (.ireturn, 1) := by decide +kernel
theorem dX12_equalShade_0 : decode cX12_equalShade 0 = .ok (.iload_n 2, 1) := by decide +kernel
theorem dX12_equalShade_1 : decode cX12_equalShade 1 = .ok (.iload 4, 2) := by decide +kernel
theorem dX12_equalShade_3 : decode cX12_equalShade 3 = .ok (.ior, 1) := by decide +kernel
theorem dX12_equalShade_4 : decode cX12_equalShade 4 = .ok (.ifCond .eq 24, 3) := by decide +kernel
theorem dX12_equalShade_7 : decode cX12_equalShade 7 = .ok (.aload_n 0, 1) := by decide +kernel
theorem dX12_equalShade_8 : decode cX12_equalShade 8 = .ok (.getfield 397, 3) := by decide +kernel
theorem dX12_equalShade_11 : decode cX12_equalShade 11 = .ok (.iconst 1, 1) := by decide +kernel
theorem dX12_equalShade_12 : decode cX12_equalShade 12 = .ok (.if_icmp .ne 20, 3) := by decide +kernel
theorem dX12_equalShade_15 : decode cX12_equalShade 15 = .ok (.iload_n 1, 1) := by decide +kernel
theorem dX12_equalShade_16 : decode cX12_equalShade 16 = .ok (.iload_n 3, 1) := by decide +kernel
theorem dX12_equalShade_17 : decode cX12_equalShade 17 = .ok (.ixor, 1) := by decide +kernel
theorem dX12_equalShade_18 : decode cX12_equalShade 18 = .ok (.iload_n 2, 1) := by decide +kernel
theorem dX12_equalShade_19 : decode cX12_equalShade 19 = .ok (.iload 4, 2) := by decide +kernel
theorem dX12_equalShade_21 : decode cX12_equalShade 21 = .ok (.ior, 1) := by decide +kernel
theorem dX12_equalShade_22 : decode cX12_equalShade 22 = .ok (.iconst (-1), 1) := by decide +kernel
theorem dX12_equalShade_23 : decode cX12_equalShade 23 = .ok (.ixor, 1) := by decide +kernel
theorem dX12_equalShade_24 : decode cX12_equalShade 24 = .ok (.iand, 1) := by decide +kernel
theorem dX12_equalShade_25 : decode cX12_equalShade 25 = .ok (.ifCond .eq 7, 3) := by decide +kernel
theorem dX12_equalShade_28 : decode cX12_equalShade 28 = .ok (.iconst 0, 1) := by decide +kernel
theorem dX12_equalShade_29 : decode cX12_equalShade 29 = .ok (.goto 4, 3) := by decide +kernel
theorem dX12_equalShade_32 : decode cX12_equalShade 32 = .ok (.iconst 1, 1) := by decide +kernel
theorem dX12_equalShade_33 : decode cX12_equalShade 33 = .ok (.ireturn, 1) := by decide +kernel
theorem dX12_lessShade_0 : decode cX12_lessShade 0 = .ok (.iload_n 2, 1) := by decide +kernel
theorem dX12_lessShade_1 : decode cX12_lessShade 1 = .ok (.iload 4, 2) := by decide +kernel
theorem dX12_lessShade_3 : decode cX12_lessShade 3 = .ok (.ior, 1) := by decide +kernel
theorem dX12_lessShade_4 : decode cX12_lessShade 4 = .ok (.ifCond .ne 5, 3) := by decide +kernel
theorem dX12_lessShade_7 : decode cX12_lessShade 7 = .ok (.iconst 0, 1) := by decide +kernel
theorem dX12_lessShade_8 : decode cX12_lessShade 8 = .ok (.ireturn, 1) := by decide +kernel
theorem dX12_lessShade_9 : decode cX12_lessShade 9 = .ok (.aload_n 0, 1) := by decide +kernel
theorem dX12_lessShade_10 : decode cX12_lessShade 10 = .ok (.getfield 397, 3) := by decide +kernel
theorem dX12_lessShade_13 : decode cX12_lessShade 13 = .ok (.ifCond .ne 5, 3) := by decide +kernel
theorem dX12_lessShade_16 : decode cX12_lessShade 16 = .ok (.iconst 1, 1) := by decide +kernel
theorem dX12_lessShade_17 : decode cX12_lessShade 17 = .ok (.ireturn, 1) := by decide +kernel
theorem dX12_lessShade_18 : decode cX12_lessShade 18 = .ok (.iload 5, 2) := by decide +kernel
theorem dX12_lessShade_20 : decode cX12_lessShade 20 = .ok (.ifCond .eq 11, 3) := by decide +kernel
theorem dX12_lessShade_23 : decode cX12_lessShade 23 = .ok (.iload_n 1, 1) := by decide +kernel
theorem dX12_lessShade_24 : decode cX12_lessShade 24 = .ok (.ldc_w 429, 3) := by decide +kernel
theorem dX12_lessShade_27 : decode cX12_lessShade 27 = .ok (.ixor, 1) := by decide +kernel
theorem dX12_lessShade_28 : decode cX12_lessShade 28 = .ok (.goto 4, 3) := by decide +kernel
theorem dX12_lessShade_31 : decode cX12_lessShade 31 = .ok (.iload_n 1, 1) := by decide +kernel
theorem dX12_lessShade_32 : decode cX12_lessShade 32 = .ok (.istore 6, 2) := by decide +kernel
theorem dX12_lessShade_34 : decode cX12_lessShade 34 = .ok (.iload 5, 2) := by decide +kernel
theorem dX12_lessShade_36 : decode cX12_lessShade 36 = .ok (.ifCond .eq 11, 3) := by decide +kernel
theorem dX12_lessShade_39 : decode cX12_lessShade 39 = .ok (.iload_n 3, 1) := by decide +kernel
theorem dX12_lessShade_40 : decode cX12_lessShade 40 = .ok (.ldc_w 429, 3) := by decide +kernel
theorem dX12_lessShade_43 : decode cX12_lessShade 43 = .ok (.ixor, 1) := by decide +kernel
theorem dX12_lessShade_44 : decode cX12_lessShade 44 = .ok (.goto 4, 3) := by decide +kernel
theorem dX12_lessShade_47 : decode cX12_lessShade 47 = .ok (.iload_n 3, 1) := by decide +kernel
theorem dX12_lessShade_48 : decode cX12_lessShade 48 = .ok (.istore 7, 2) := by decide +kernel
theorem dX12_lessShade_50 : decode cX12_lessShade 50 = .ok (.iload 6, 2) := by decide +kernel
theorem dX12_lessShade_52 : decode cX12_lessShade 52 = .ok (.iload_n 2, 1) := by decide +kernel
theorem dX12_lessShade_53 : decode cX12_lessShade 53 = .ok (.iconst (-1), 1) := by decide +kernel
theorem dX12_lessShade_54 : decode cX12_lessShade 54 = .ok (.ixor, 1) := by decide +kernel
theorem dX12_lessShade_55 : decode cX12_lessShade 55 = .ok (.iand, 1) := by decide +kernel
theorem dX12_lessShade_56 : decode cX12_lessShade 56 = .ok (.iload 7, 2) := by decide +kernel
theorem dX12_lessShade_58 : decode cX12_lessShade 58 = .ok (.iload 4, 2) := by decide +kernel
theorem dX12_lessShade_60 : decode cX12_lessShade 60 = .ok (.ior, 1) := by decide +kernel
theorem dX12_lessShade_61 : decode cX12_lessShade 61 = .ok (.invokestatic 430, 3) := by decide +kernel
theorem dX12_lessShade_64 : decode cX12_lessShade 64 = .ok (.ifCond .eq 20, 3) := by decide +kernel
theorem dX12_lessShade_67 : decode cX12_lessShade 67 = .ok (.iload 6, 2) := by decide +kernel
theorem dX12_lessShade_69 : decode cX12_lessShade 69 = .ok (.iload_n 2, 1) := by decide +kernel
theorem dX12_lessShade_70 : decode cX12_lessShade 70 = .ok (.ior, 1) := by decide +kernel
theorem dX12_lessShade_71 : decode cX12_lessShade 71 = .ok (.iload 7, 2) := by decide +kernel
theorem dX12_lessShade_73 : decode cX12_lessShade 73 = .ok (.iload 4, 2) := by decide +kernel
theorem dX12_lessShade_75 : decode cX12_lessShade 75 = .ok (.iconst (-1), 1) := by decide +kernel
theorem dX12_lessShade_76 : decode cX12_lessShade 76 = .ok (.ixor, 1) := by decide +kernel
theorem dX12_lessShade_77 : decode cX12_lessShade 77 = .ok (.iand, 1) := by decide +kernel
theorem dX12_lessShade_78 : decode cX12_lessShade 78 = .ok (.invokestatic 430, 3) := by decide +kernel
theorem dX12_lessShade_81 : decode cX12_lessShade 81 = .ok (.ifCond .eq 7, 3) := by decide +kernel
theorem dX12_lessShade_84 : decode cX12_lessShade 84 = .ok (.iconst 0, 1) := by decide +kernel
theorem dX12_lessShade_85 : decode cX12_lessShade 85 = .ok (.goto 4, 3) := by decide +kernel
theorem dX12_lessShade_88 : decode cX12_lessShade 88 = .ok (.iconst 1, 1) := by decide +kernel
theorem dX12_lessShade_89 : decode cX12_lessShade 89 = .ok (.ireturn, 1) := by decide +kernel
theorem dX12_shifted_0 : decode cX12_shifted 0 = .ok (.iload_n 0, 1) := by decide +kernel
theorem dX12_shifted_1 : decode cX12_shifted 1 = .ok (.bipush 12, 2) := by decide +kernel
theorem dX12_shifted_3 : decode cX12_shifted 3 = .ok (.if_icmp .ne 9, 3) := by decide +kernel
theorem dX12_shifted_6 : decode cX12_shifted 6 = .ok (.iload_n 1, 1) := by decide +kernel
theorem dX12_shifted_7 : decode cX12_shifted 7 = .ok (.iload_n 2, 1) := by decide +kernel
theorem dX12_shifted_8 : decode cX12_shifted 8 = .ok (.ishl, 1) := by decide +kernel
theorem dX12_shifted_9 : decode cX12_shifted 9 = .ok (.goto 18, 3) := by decide +kernel
theorem dX12_shifted_12 : decode cX12_shifted 12 = .ok (.iload_n 0, 1) := by decide +kernel
theorem dX12_shifted_13 : decode cX12_shifted 13 = .ok (.bipush 13, 2) := by decide +kernel
theorem dX12_shifted_15 : decode cX12_shifted 15 = .ok (.if_icmp .ne 9, 3) := by decide +kernel
theorem dX12_shifted_18 : decode cX12_shifted 18 = .ok (.iload_n 1, 1) := by decide +kernel
theorem dX12_shifted_19 : decode cX12_shifted 19 = .ok (.iload_n 2, 1) := by decide +kernel
theorem dX12_shifted_20 : decode cX12_shifted 20 = .ok (.iushr, 1) := by decide +kernel
theorem dX12_shifted_21 : decode cX12_shifted 21 = .ok (.goto 6, 3) := by decide +kernel
theorem dX12_shifted_24 : decode cX12_shifted 24 = .ok (.iload_n 1, 1) := by decide +kernel
theorem dX12_shifted_25 : decode cX12_shifted 25 = .ok (.iload_n 2, 1) := by decide +kernel
theorem dX12_shifted_26 : decode cX12_shifted 26 = .ok (.ishr, 1) := by decide +kernel
theorem dX12_shifted_27 : decode cX12_shifted 27 = .ok (.ireturn, 1) := by decide +kernel
theorem dX12_made_0 : decode cX12_made 0 = .ok (.iload_n 1, 1) := by decide +kernel
theorem dX12_made_1 : decode cX12_made 1 = .ok (.tableswitch 165 4 17 #[71, 75, 79, 83, 97, 110, 114, 118, 122, 122, 122, 132, 143, 154], 71) := by decide +kernel
theorem dX12_made_72 : decode cX12_made 72 = .ok (.iload_n 2, 1) := by decide +kernel
theorem dX12_made_73 : decode cX12_made 73 = .ok (.iload_n 3, 1) := by decide +kernel
theorem dX12_made_74 : decode cX12_made 74 = .ok (.iadd, 1) := by decide +kernel
theorem dX12_made_75 : decode cX12_made 75 = .ok (.ireturn, 1) := by decide +kernel
theorem dX12_made_76 : decode cX12_made 76 = .ok (.iload_n 2, 1) := by decide +kernel
theorem dX12_made_77 : decode cX12_made 77 = .ok (.iload_n 3, 1) := by decide +kernel
theorem dX12_made_78 : decode cX12_made 78 = .ok (.isub, 1) := by decide +kernel
theorem dX12_made_79 : decode cX12_made 79 = .ok (.ireturn, 1) := by decide +kernel
theorem dX12_made_80 : decode cX12_made 80 = .ok (.iload_n 2, 1) := by decide +kernel
theorem dX12_made_81 : decode cX12_made 81 = .ok (.iload_n 3, 1) := by decide +kernel
theorem dX12_made_82 : decode cX12_made 82 = .ok (.imul, 1) := by decide +kernel
theorem dX12_made_83 : decode cX12_made 83 = .ok (.ireturn, 1) := by decide +kernel
theorem dX12_made_84 : decode cX12_made 84 = .ok (.iload_n 3, 1) := by decide +kernel
theorem dX12_made_85 : decode cX12_made 85 = .ok (.iconst (-1), 1) := by decide +kernel
theorem dX12_made_86 : decode cX12_made 86 = .ok (.if_icmp .ne 8, 3) := by decide +kernel
theorem dX12_made_89 : decode cX12_made 89 = .ok (.iload_n 2, 1) := by decide +kernel
theorem dX12_made_90 : decode cX12_made 90 = .ok (.ineg, 1) := by decide +kernel
theorem dX12_made_91 : decode cX12_made 91 = .ok (.goto 6, 3) := by decide +kernel
theorem dX12_made_94 : decode cX12_made 94 = .ok (.iload_n 2, 1) := by decide +kernel
theorem dX12_made_95 : decode cX12_made 95 = .ok (.iload_n 3, 1) := by decide +kernel
theorem dX12_made_96 : decode cX12_made 96 = .ok (.idiv, 1) := by decide +kernel
theorem dX12_made_97 : decode cX12_made 97 = .ok (.ireturn, 1) := by decide +kernel
theorem dX12_made_98 : decode cX12_made 98 = .ok (.iload_n 3, 1) := by decide +kernel
theorem dX12_made_99 : decode cX12_made 99 = .ok (.iconst (-1), 1) := by decide +kernel
theorem dX12_made_100 : decode cX12_made 100 = .ok (.if_icmp .ne 7, 3) := by decide +kernel
theorem dX12_made_103 : decode cX12_made 103 = .ok (.iconst 0, 1) := by decide +kernel
theorem dX12_made_104 : decode cX12_made 104 = .ok (.goto 6, 3) := by decide +kernel
theorem dX12_made_107 : decode cX12_made 107 = .ok (.iload_n 2, 1) := by decide +kernel
theorem dX12_made_108 : decode cX12_made 108 = .ok (.iload_n 3, 1) := by decide +kernel
theorem dX12_made_109 : decode cX12_made 109 = .ok (.irem, 1) := by decide +kernel
theorem dX12_made_110 : decode cX12_made 110 = .ok (.ireturn, 1) := by decide +kernel
theorem dX12_made_111 : decode cX12_made 111 = .ok (.iload_n 2, 1) := by decide +kernel
theorem dX12_made_112 : decode cX12_made 112 = .ok (.iload_n 3, 1) := by decide +kernel
theorem dX12_made_113 : decode cX12_made 113 = .ok (.iand, 1) := by decide +kernel
theorem dX12_made_114 : decode cX12_made 114 = .ok (.ireturn, 1) := by decide +kernel
theorem dX12_made_115 : decode cX12_made 115 = .ok (.iload_n 2, 1) := by decide +kernel
theorem dX12_made_116 : decode cX12_made 116 = .ok (.iload_n 3, 1) := by decide +kernel
theorem dX12_made_117 : decode cX12_made 117 = .ok (.ior, 1) := by decide +kernel
theorem dX12_made_118 : decode cX12_made 118 = .ok (.ireturn, 1) := by decide +kernel
theorem dX12_made_119 : decode cX12_made 119 = .ok (.iload_n 2, 1) := by decide +kernel
theorem dX12_made_120 : decode cX12_made 120 = .ok (.iload_n 3, 1) := by decide +kernel
theorem dX12_made_121 : decode cX12_made 121 = .ok (.ixor, 1) := by decide +kernel
theorem dX12_made_122 : decode cX12_made 122 = .ok (.ireturn, 1) := by decide +kernel
theorem dX12_made_123 : decode cX12_made 123 = .ok (.iload_n 1, 1) := by decide +kernel
theorem dX12_made_124 : decode cX12_made 124 = .ok (.iload_n 2, 1) := by decide +kernel
theorem dX12_made_125 : decode cX12_made 125 = .ok (.iload_n 3, 1) := by decide +kernel
theorem dX12_made_126 : decode cX12_made 126 = .ok (.bipush 31, 2) := by decide +kernel
theorem dX12_made_128 : decode cX12_made 128 = .ok (.iand, 1) := by decide +kernel
theorem dX12_made_129 : decode cX12_made 129 = .ok (.invokestatic 433, 3) := by decide +kernel
theorem dX12_made_132 : decode cX12_made 132 = .ok (.ireturn, 1) := by decide +kernel
theorem dX12_made_133 : decode cX12_made 133 = .ok (.iload_n 2, 1) := by decide +kernel
theorem dX12_made_134 : decode cX12_made 134 = .ok (.iload_n 3, 1) := by decide +kernel
theorem dX12_made_135 : decode cX12_made 135 = .ok (.if_icmp .ne 7, 3) := by decide +kernel
theorem dX12_made_138 : decode cX12_made 138 = .ok (.iconst 1, 1) := by decide +kernel
theorem dX12_made_139 : decode cX12_made 139 = .ok (.goto 4, 3) := by decide +kernel
theorem dX12_made_142 : decode cX12_made 142 = .ok (.iconst 0, 1) := by decide +kernel
theorem dX12_made_143 : decode cX12_made 143 = .ok (.ireturn, 1) := by decide +kernel
theorem dX12_made_144 : decode cX12_made 144 = .ok (.iload_n 2, 1) := by decide +kernel
theorem dX12_made_145 : decode cX12_made 145 = .ok (.iload_n 3, 1) := by decide +kernel
theorem dX12_made_146 : decode cX12_made 146 = .ok (.if_icmp .eq 7, 3) := by decide +kernel
theorem dX12_made_149 : decode cX12_made 149 = .ok (.iconst 1, 1) := by decide +kernel
theorem dX12_made_150 : decode cX12_made 150 = .ok (.goto 4, 3) := by decide +kernel
theorem dX12_made_153 : decode cX12_made 153 = .ok (.iconst 0, 1) := by decide +kernel
theorem dX12_made_154 : decode cX12_made 154 = .ok (.ireturn, 1) := by decide +kernel
theorem dX12_made_155 : decode cX12_made 155 = .ok (.iload_n 2, 1) := by decide +kernel
theorem dX12_made_156 : decode cX12_made 156 = .ok (.iload_n 3, 1) := by decide +kernel
theorem dX12_made_157 : decode cX12_made 157 = .ok (.if_icmp .ge 7, 3) := by decide +kernel
theorem dX12_made_160 : decode cX12_made 160 = .ok (.iconst 1, 1) := by decide +kernel
theorem dX12_made_161 : decode cX12_made 161 = .ok (.goto 4, 3) := by decide +kernel
theorem dX12_made_164 : decode cX12_made 164 = .ok (.iconst 0, 1) := by decide +kernel
theorem dX12_made_165 : decode cX12_made 165 = .ok (.ireturn, 1) := by decide +kernel
theorem dX12_made_166 : decode cX12_made 166 = .ok (.iload_n 2, 1) := by decide +kernel
theorem dX12_made_167 : decode cX12_made 167 = .ok (.iload_n 3, 1) := by decide +kernel
theorem dX12_made_168 : decode cX12_made 168 = .ok (.invokestatic 430, 3) := by decide +kernel
theorem dX12_made_171 : decode cX12_made 171 = .ok (.ifCond .eq 7, 3) := by decide +kernel
theorem dX12_made_174 : decode cX12_made 174 = .ok (.iconst 1, 1) := by decide +kernel
theorem dX12_made_175 : decode cX12_made 175 = .ok (.goto 4, 3) := by decide +kernel
theorem dX12_made_178 : decode cX12_made 178 = .ok (.iconst 0, 1) := by decide +kernel
theorem dX12_made_179 : decode cX12_made 179 = .ok (.ireturn, 1) := by decide +kernel
theorem dX12_shadeOf_0 : decode cX12_shadeOf 0 = .ok (.iload_n 2, 1) := by decide +kernel
theorem dX12_shadeOf_1 : decode cX12_shadeOf 1 = .ok (.iload_n 3, 1) := by decide +kernel
theorem dX12_shadeOf_2 : decode cX12_shadeOf 2 = .ok (.iconst (-1), 1) := by decide +kernel
theorem dX12_shadeOf_3 : decode cX12_shadeOf 3 = .ok (.ixor, 1) := by decide +kernel
theorem dX12_shadeOf_4 : decode cX12_shadeOf 4 = .ok (.iand, 1) := by decide +kernel
theorem dX12_shadeOf_5 : decode cX12_shadeOf 5 = .ok (.istore 6, 2) := by decide +kernel
theorem dX12_shadeOf_7 : decode cX12_shadeOf 7 = .ok (.iload_n 2, 1) := by decide +kernel
theorem dX12_shadeOf_8 : decode cX12_shadeOf 8 = .ok (.iload_n 3, 1) := by decide +kernel
theorem dX12_shadeOf_9 : decode cX12_shadeOf 9 = .ok (.ior, 1) := by decide +kernel
theorem dX12_shadeOf_10 : decode cX12_shadeOf 10 = .ok (.istore 7, 2) := by decide +kernel
theorem dX12_shadeOf_12 : decode cX12_shadeOf 12 = .ok (.iload_n 1, 1) := by decide +kernel
theorem dX12_shadeOf_13 : decode cX12_shadeOf 13 = .ok (.tableswitch 270 4 16 #[67, 109, 151, 189, 189, 197, 212, 231, 236, 236, 236, 259, 259], 67) := by decide +kernel
theorem dX12_shadeOf_80 : decode cX12_shadeOf 80 = .ok (.aload_n 0, 1) := by decide +kernel
theorem dX12_shadeOf_81 : decode cX12_shadeOf 81 = .ok (.getfield 397, 3) := by decide +kernel
theorem dX12_shadeOf_84 : decode cX12_shadeOf 84 = .ok (.ifCond .ne 13, 3) := by decide +kernel
theorem dX12_shadeOf_87 : decode cX12_shadeOf 87 = .ok (.iload_n 3, 1) := by decide +kernel
theorem dX12_shadeOf_88 : decode cX12_shadeOf 88 = .ok (.iload 5, 2) := by decide +kernel
theorem dX12_shadeOf_90 : decode cX12_shadeOf 90 = .ok (.ior, 1) := by decide +kernel
theorem dX12_shadeOf_91 : decode cX12_shadeOf 91 = .ok (.invokestatic 437, 3) := by decide +kernel
theorem dX12_shadeOf_94 : decode cX12_shadeOf 94 = .ok (.goto 27, 3) := by decide +kernel
theorem dX12_shadeOf_97 : decode cX12_shadeOf 97 = .ok (.iload 6, 2) := by decide +kernel
theorem dX12_shadeOf_99 : decode cX12_shadeOf 99 = .ok (.iload 4, 2) := by decide +kernel
theorem dX12_shadeOf_101 : decode cX12_shadeOf 101 = .ok (.iload 5, 2) := by decide +kernel
theorem dX12_shadeOf_103 : decode cX12_shadeOf 103 = .ok (.iconst (-1), 1) := by decide +kernel
theorem dX12_shadeOf_104 : decode cX12_shadeOf 104 = .ok (.ixor, 1) := by decide +kernel
theorem dX12_shadeOf_105 : decode cX12_shadeOf 105 = .ok (.iand, 1) := by decide +kernel
theorem dX12_shadeOf_106 : decode cX12_shadeOf 106 = .ok (.iadd, 1) := by decide +kernel
theorem dX12_shadeOf_107 : decode cX12_shadeOf 107 = .ok (.iload 7, 2) := by decide +kernel
theorem dX12_shadeOf_109 : decode cX12_shadeOf 109 = .ok (.iload 4, 2) := by decide +kernel
theorem dX12_shadeOf_111 : decode cX12_shadeOf 111 = .ok (.iload 5, 2) := by decide +kernel
theorem dX12_shadeOf_113 : decode cX12_shadeOf 113 = .ok (.ior, 1) := by decide +kernel
theorem dX12_shadeOf_114 : decode cX12_shadeOf 114 = .ok (.iadd, 1) := by decide +kernel
theorem dX12_shadeOf_115 : decode cX12_shadeOf 115 = .ok (.ixor, 1) := by decide +kernel
theorem dX12_shadeOf_116 : decode cX12_shadeOf 116 = .ok (.iload_n 3, 1) := by decide +kernel
theorem dX12_shadeOf_117 : decode cX12_shadeOf 117 = .ok (.ior, 1) := by decide +kernel
theorem dX12_shadeOf_118 : decode cX12_shadeOf 118 = .ok (.iload 5, 2) := by decide +kernel
theorem dX12_shadeOf_120 : decode cX12_shadeOf 120 = .ok (.ior, 1) := by decide +kernel
theorem dX12_shadeOf_121 : decode cX12_shadeOf 121 = .ok (.ireturn, 1) := by decide +kernel
theorem dX12_shadeOf_122 : decode cX12_shadeOf 122 = .ok (.aload_n 0, 1) := by decide +kernel
theorem dX12_shadeOf_123 : decode cX12_shadeOf 123 = .ok (.getfield 397, 3) := by decide +kernel
theorem dX12_shadeOf_126 : decode cX12_shadeOf 126 = .ok (.ifCond .ne 13, 3) := by decide +kernel
theorem dX12_shadeOf_129 : decode cX12_shadeOf 129 = .ok (.iload_n 3, 1) := by decide +kernel
theorem dX12_shadeOf_130 : decode cX12_shadeOf 130 = .ok (.iload 5, 2) := by decide +kernel
theorem dX12_shadeOf_132 : decode cX12_shadeOf 132 = .ok (.ior, 1) := by decide +kernel
theorem dX12_shadeOf_133 : decode cX12_shadeOf 133 = .ok (.invokestatic 437, 3) := by decide +kernel
theorem dX12_shadeOf_136 : decode cX12_shadeOf 136 = .ok (.goto 27, 3) := by decide +kernel
theorem dX12_shadeOf_139 : decode cX12_shadeOf 139 = .ok (.iload 6, 2) := by decide +kernel
theorem dX12_shadeOf_141 : decode cX12_shadeOf 141 = .ok (.iload 4, 2) := by decide +kernel
theorem dX12_shadeOf_143 : decode cX12_shadeOf 143 = .ok (.iload 5, 2) := by decide +kernel
theorem dX12_shadeOf_145 : decode cX12_shadeOf 145 = .ok (.ior, 1) := by decide +kernel
theorem dX12_shadeOf_146 : decode cX12_shadeOf 146 = .ok (.isub, 1) := by decide +kernel
theorem dX12_shadeOf_147 : decode cX12_shadeOf 147 = .ok (.iload 7, 2) := by decide +kernel
theorem dX12_shadeOf_149 : decode cX12_shadeOf 149 = .ok (.iload 4, 2) := by decide +kernel
theorem dX12_shadeOf_151 : decode cX12_shadeOf 151 = .ok (.iload 5, 2) := by decide +kernel
theorem dX12_shadeOf_153 : decode cX12_shadeOf 153 = .ok (.iconst (-1), 1) := by decide +kernel
theorem dX12_shadeOf_154 : decode cX12_shadeOf 154 = .ok (.ixor, 1) := by decide +kernel
theorem dX12_shadeOf_155 : decode cX12_shadeOf 155 = .ok (.iand, 1) := by decide +kernel
theorem dX12_shadeOf_156 : decode cX12_shadeOf 156 = .ok (.isub, 1) := by decide +kernel
theorem dX12_shadeOf_157 : decode cX12_shadeOf 157 = .ok (.ixor, 1) := by decide +kernel
theorem dX12_shadeOf_158 : decode cX12_shadeOf 158 = .ok (.iload_n 3, 1) := by decide +kernel
theorem dX12_shadeOf_159 : decode cX12_shadeOf 159 = .ok (.ior, 1) := by decide +kernel
theorem dX12_shadeOf_160 : decode cX12_shadeOf 160 = .ok (.iload 5, 2) := by decide +kernel
theorem dX12_shadeOf_162 : decode cX12_shadeOf 162 = .ok (.ior, 1) := by decide +kernel
theorem dX12_shadeOf_163 : decode cX12_shadeOf 163 = .ok (.ireturn, 1) := by decide +kernel
theorem dX12_shadeOf_164 : decode cX12_shadeOf 164 = .ok (.aload_n 0, 1) := by decide +kernel
theorem dX12_shadeOf_165 : decode cX12_shadeOf 165 = .ok (.getfield 397, 3) := by decide +kernel
theorem dX12_shadeOf_168 : decode cX12_shadeOf 168 = .ok (.iconst 1, 1) := by decide +kernel
theorem dX12_shadeOf_169 : decode cX12_shadeOf 169 = .ok (.if_icmp .ne 25, 3) := by decide +kernel
theorem dX12_shadeOf_172 : decode cX12_shadeOf 172 = .ok (.iload_n 3, 1) := by decide +kernel
theorem dX12_shadeOf_173 : decode cX12_shadeOf 173 = .ok (.ifCond .ne 7, 3) := by decide +kernel
theorem dX12_shadeOf_176 : decode cX12_shadeOf 176 = .ok (.iload_n 2, 1) := by decide +kernel
theorem dX12_shadeOf_177 : decode cX12_shadeOf 177 = .ok (.ifCond .eq 13, 3) := by decide +kernel
theorem dX12_shadeOf_180 : decode cX12_shadeOf 180 = .ok (.iload 5, 2) := by decide +kernel
theorem dX12_shadeOf_182 : decode cX12_shadeOf 182 = .ok (.ifCond .ne 12, 3) := by decide +kernel
theorem dX12_shadeOf_185 : decode cX12_shadeOf 185 = .ok (.iload 4, 2) := by decide +kernel
theorem dX12_shadeOf_187 : decode cX12_shadeOf 187 = .ok (.ifCond .ne 7, 3) := by decide +kernel
theorem dX12_shadeOf_190 : decode cX12_shadeOf 190 = .ok (.iconst 0, 1) := by decide +kernel
theorem dX12_shadeOf_191 : decode cX12_shadeOf 191 = .ok (.goto 10, 3) := by decide +kernel
theorem dX12_shadeOf_194 : decode cX12_shadeOf 194 = .ok (.iload_n 3, 1) := by decide +kernel
theorem dX12_shadeOf_195 : decode cX12_shadeOf 195 = .ok (.iload 5, 2) := by decide +kernel
theorem dX12_shadeOf_197 : decode cX12_shadeOf 197 = .ok (.ior, 1) := by decide +kernel
theorem dX12_shadeOf_198 : decode cX12_shadeOf 198 = .ok (.invokestatic 437, 3) := by decide +kernel
theorem dX12_shadeOf_201 : decode cX12_shadeOf 201 = .ok (.ireturn, 1) := by decide +kernel
theorem dX12_shadeOf_202 : decode cX12_shadeOf 202 = .ok (.iload_n 3, 1) := by decide +kernel
theorem dX12_shadeOf_203 : decode cX12_shadeOf 203 = .ok (.iload 5, 2) := by decide +kernel
theorem dX12_shadeOf_205 : decode cX12_shadeOf 205 = .ok (.ior, 1) := by decide +kernel
theorem dX12_shadeOf_206 : decode cX12_shadeOf 206 = .ok (.invokestatic 440, 3) := by decide +kernel
theorem dX12_shadeOf_209 : decode cX12_shadeOf 209 = .ok (.ireturn, 1) := by decide +kernel
theorem dX12_shadeOf_210 : decode cX12_shadeOf 210 = .ok (.iload_n 3, 1) := by decide +kernel
theorem dX12_shadeOf_211 : decode cX12_shadeOf 211 = .ok (.iload 5, 2) := by decide +kernel
theorem dX12_shadeOf_213 : decode cX12_shadeOf 213 = .ok (.ior, 1) := by decide +kernel
theorem dX12_shadeOf_214 : decode cX12_shadeOf 214 = .ok (.iload_n 2, 1) := by decide +kernel
theorem dX12_shadeOf_215 : decode cX12_shadeOf 215 = .ok (.iload_n 3, 1) := by decide +kernel
theorem dX12_shadeOf_216 : decode cX12_shadeOf 216 = .ok (.ior, 1) := by decide +kernel
theorem dX12_shadeOf_217 : decode cX12_shadeOf 217 = .ok (.iand, 1) := by decide +kernel
theorem dX12_shadeOf_218 : decode cX12_shadeOf 218 = .ok (.iload 4, 2) := by decide +kernel
theorem dX12_shadeOf_220 : decode cX12_shadeOf 220 = .ok (.iload 5, 2) := by decide +kernel
theorem dX12_shadeOf_222 : decode cX12_shadeOf 222 = .ok (.ior, 1) := by decide +kernel
theorem dX12_shadeOf_223 : decode cX12_shadeOf 223 = .ok (.iand, 1) := by decide +kernel
theorem dX12_shadeOf_224 : decode cX12_shadeOf 224 = .ok (.ireturn, 1) := by decide +kernel
theorem dX12_shadeOf_225 : decode cX12_shadeOf 225 = .ok (.iload_n 3, 1) := by decide +kernel
theorem dX12_shadeOf_226 : decode cX12_shadeOf 226 = .ok (.iload 5, 2) := by decide +kernel
theorem dX12_shadeOf_228 : decode cX12_shadeOf 228 = .ok (.ior, 1) := by decide +kernel
theorem dX12_shadeOf_229 : decode cX12_shadeOf 229 = .ok (.iload_n 2, 1) := by decide +kernel
theorem dX12_shadeOf_230 : decode cX12_shadeOf 230 = .ok (.iconst (-1), 1) := by decide +kernel
theorem dX12_shadeOf_231 : decode cX12_shadeOf 231 = .ok (.ixor, 1) := by decide +kernel
theorem dX12_shadeOf_232 : decode cX12_shadeOf 232 = .ok (.iload_n 3, 1) := by decide +kernel
theorem dX12_shadeOf_233 : decode cX12_shadeOf 233 = .ok (.ior, 1) := by decide +kernel
theorem dX12_shadeOf_234 : decode cX12_shadeOf 234 = .ok (.iand, 1) := by decide +kernel
theorem dX12_shadeOf_235 : decode cX12_shadeOf 235 = .ok (.iload 4, 2) := by decide +kernel
theorem dX12_shadeOf_237 : decode cX12_shadeOf 237 = .ok (.iconst (-1), 1) := by decide +kernel
theorem dX12_shadeOf_238 : decode cX12_shadeOf 238 = .ok (.ixor, 1) := by decide +kernel
theorem dX12_shadeOf_239 : decode cX12_shadeOf 239 = .ok (.iload 5, 2) := by decide +kernel
theorem dX12_shadeOf_241 : decode cX12_shadeOf 241 = .ok (.ior, 1) := by decide +kernel
theorem dX12_shadeOf_242 : decode cX12_shadeOf 242 = .ok (.iand, 1) := by decide +kernel
theorem dX12_shadeOf_243 : decode cX12_shadeOf 243 = .ok (.ireturn, 1) := by decide +kernel
theorem dX12_shadeOf_244 : decode cX12_shadeOf 244 = .ok (.iload_n 3, 1) := by decide +kernel
theorem dX12_shadeOf_245 : decode cX12_shadeOf 245 = .ok (.iload 5, 2) := by decide +kernel
theorem dX12_shadeOf_247 : decode cX12_shadeOf 247 = .ok (.ior, 1) := by decide +kernel
theorem dX12_shadeOf_248 : decode cX12_shadeOf 248 = .ok (.ireturn, 1) := by decide +kernel
theorem dX12_shadeOf_249 : decode cX12_shadeOf 249 = .ok (.iload 5, 2) := by decide +kernel
theorem dX12_shadeOf_251 : decode cX12_shadeOf 251 = .ok (.bipush 31, 2) := by decide +kernel
theorem dX12_shadeOf_253 : decode cX12_shadeOf 253 = .ok (.iand, 1) := by decide +kernel
theorem dX12_shadeOf_254 : decode cX12_shadeOf 254 = .ok (.ifCond .eq 7, 3) := by decide +kernel
theorem dX12_shadeOf_257 : decode cX12_shadeOf 257 = .ok (.iconst (-1), 1) := by decide +kernel
theorem dX12_shadeOf_258 : decode cX12_shadeOf 258 = .ok (.goto 13, 3) := by decide +kernel
theorem dX12_shadeOf_261 : decode cX12_shadeOf 261 = .ok (.iload_n 1, 1) := by decide +kernel
theorem dX12_shadeOf_262 : decode cX12_shadeOf 262 = .ok (.iload_n 3, 1) := by decide +kernel
theorem dX12_shadeOf_263 : decode cX12_shadeOf 263 = .ok (.iload 4, 2) := by decide +kernel
theorem dX12_shadeOf_265 : decode cX12_shadeOf 265 = .ok (.bipush 31, 2) := by decide +kernel
theorem dX12_shadeOf_267 : decode cX12_shadeOf 267 = .ok (.iand, 1) := by decide +kernel
theorem dX12_shadeOf_268 : decode cX12_shadeOf 268 = .ok (.invokestatic 433, 3) := by decide +kernel
theorem dX12_shadeOf_271 : decode cX12_shadeOf 271 = .ok (.ireturn, 1) := by decide +kernel
theorem dX12_shadeOf_272 : decode cX12_shadeOf 272 = .ok (.aload_n 0, 1) := by decide +kernel
theorem dX12_shadeOf_273 : decode cX12_shadeOf 273 = .ok (.iload_n 2, 1) := by decide +kernel
theorem dX12_shadeOf_274 : decode cX12_shadeOf 274 = .ok (.iload_n 3, 1) := by decide +kernel
theorem dX12_shadeOf_275 : decode cX12_shadeOf 275 = .ok (.iload 4, 2) := by decide +kernel
theorem dX12_shadeOf_277 : decode cX12_shadeOf 277 = .ok (.iload 5, 2) := by decide +kernel
theorem dX12_shadeOf_279 : decode cX12_shadeOf 279 = .ok (.invokevirtual 443, 3) := by decide +kernel
theorem dX12_shadeOf_282 : decode cX12_shadeOf 282 = .ok (.ireturn, 1) := by decide +kernel
theorem dX12_shadeOf_283 : decode cX12_shadeOf 283 = .ok (.aload_n 0, 1) := by decide +kernel
theorem dX12_shadeOf_284 : decode cX12_shadeOf 284 = .ok (.iload_n 2, 1) := by decide +kernel
theorem dX12_shadeOf_285 : decode cX12_shadeOf 285 = .ok (.iload_n 3, 1) := by decide +kernel
theorem dX12_shadeOf_286 : decode cX12_shadeOf 286 = .ok (.iload 4, 2) := by decide +kernel
theorem dX12_shadeOf_288 : decode cX12_shadeOf 288 = .ok (.iload 5, 2) := by decide +kernel
theorem dX12_shadeOf_290 : decode cX12_shadeOf 290 = .ok (.iload_n 1, 1) := by decide +kernel
theorem dX12_shadeOf_291 : decode cX12_shadeOf 291 = .ok (.bipush 17, 2) := by decide +kernel
theorem dX12_shadeOf_293 : decode cX12_shadeOf 293 = .ok (.if_icmp .ne 7, 3) := by decide +kernel
theorem dX12_shadeOf_296 : decode cX12_shadeOf 296 = .ok (.iconst 1, 1) := by decide +kernel
theorem dX12_shadeOf_297 : decode cX12_shadeOf 297 = .ok (.goto 4, 3) := by decide +kernel
theorem dX12_shadeOf_300 : decode cX12_shadeOf 300 = .ok (.iconst 0, 1) := by decide +kernel
theorem dX12_shadeOf_301 : decode cX12_shadeOf 301 = .ok (.invokevirtual 447, 3) := by decide +kernel
theorem dX12_shadeOf_304 : decode cX12_shadeOf 304 = .ok (.ireturn, 1) := by decide +kernel
theorem dX12_reckon_0 : decode cX12_reckon 0 = .ok (.aload_n 0, 1) := by decide +kernel
theorem dX12_reckon_1 : decode cX12_reckon 1 = .ok (.getfield 24, 3) := by decide +kernel
theorem dX12_reckon_4 : decode cX12_reckon 4 = .ok (.iload_n 2, 1) := by decide +kernel
theorem dX12_reckon_5 : decode cX12_reckon 5 = .ok (.iaload, 1) := by decide +kernel
theorem dX12_reckon_6 : decode cX12_reckon 6 = .ok (.istore_n 3, 1) := by decide +kernel
theorem dX12_reckon_7 : decode cX12_reckon 7 = .ok (.aload_n 0, 1) := by decide +kernel
theorem dX12_reckon_8 : decode cX12_reckon 8 = .ok (.iload_n 2, 1) := by decide +kernel
theorem dX12_reckon_9 : decode cX12_reckon 9 = .ok (.iconst 1, 1) := by decide +kernel
theorem dX12_reckon_10 : decode cX12_reckon 10 = .ok (.iadd, 1) := by decide +kernel
theorem dX12_reckon_11 : decode cX12_reckon 11 = .ok (.invokevirtual 451, 3) := by decide +kernel
theorem dX12_reckon_14 : decode cX12_reckon 14 = .ok (.istore 4, 2) := by decide +kernel
theorem dX12_reckon_16 : decode cX12_reckon 16 = .ok (.aload_n 0, 1) := by decide +kernel
theorem dX12_reckon_17 : decode cX12_reckon 17 = .ok (.iload_n 2, 1) := by decide +kernel
theorem dX12_reckon_18 : decode cX12_reckon 18 = .ok (.iconst 1, 1) := by decide +kernel
theorem dX12_reckon_19 : decode cX12_reckon 19 = .ok (.iadd, 1) := by decide +kernel
theorem dX12_reckon_20 : decode cX12_reckon 20 = .ok (.invokevirtual 454, 3) := by decide +kernel
theorem dX12_reckon_23 : decode cX12_reckon 23 = .ok (.istore 5, 2) := by decide +kernel
theorem dX12_reckon_25 : decode cX12_reckon 25 = .ok (.aload_n 0, 1) := by decide +kernel
theorem dX12_reckon_26 : decode cX12_reckon 26 = .ok (.iload_n 2, 1) := by decide +kernel
theorem dX12_reckon_27 : decode cX12_reckon 27 = .ok (.iconst 1, 1) := by decide +kernel
theorem dX12_reckon_28 : decode cX12_reckon 28 = .ok (.iadd, 1) := by decide +kernel
theorem dX12_reckon_29 : decode cX12_reckon 29 = .ok (.invokevirtual 457, 3) := by decide +kernel
theorem dX12_reckon_32 : decode cX12_reckon 32 = .ok (.istore 6, 2) := by decide +kernel
theorem dX12_reckon_34 : decode cX12_reckon 34 = .ok (.aload_n 0, 1) := by decide +kernel
theorem dX12_reckon_35 : decode cX12_reckon 35 = .ok (.iload_n 2, 1) := by decide +kernel
theorem dX12_reckon_36 : decode cX12_reckon 36 = .ok (.iconst 2, 1) := by decide +kernel
theorem dX12_reckon_37 : decode cX12_reckon 37 = .ok (.iadd, 1) := by decide +kernel
theorem dX12_reckon_38 : decode cX12_reckon 38 = .ok (.invokevirtual 451, 3) := by decide +kernel
theorem dX12_reckon_41 : decode cX12_reckon 41 = .ok (.istore 7, 2) := by decide +kernel
theorem dX12_reckon_43 : decode cX12_reckon 43 = .ok (.aload_n 0, 1) := by decide +kernel
theorem dX12_reckon_44 : decode cX12_reckon 44 = .ok (.iload_n 2, 1) := by decide +kernel
theorem dX12_reckon_45 : decode cX12_reckon 45 = .ok (.iconst 2, 1) := by decide +kernel
theorem dX12_reckon_46 : decode cX12_reckon 46 = .ok (.iadd, 1) := by decide +kernel
theorem dX12_reckon_47 : decode cX12_reckon 47 = .ok (.invokevirtual 454, 3) := by decide +kernel
theorem dX12_reckon_50 : decode cX12_reckon 50 = .ok (.istore 8, 2) := by decide +kernel
theorem dX12_reckon_52 : decode cX12_reckon 52 = .ok (.aload_n 0, 1) := by decide +kernel
theorem dX12_reckon_53 : decode cX12_reckon 53 = .ok (.iload_n 2, 1) := by decide +kernel
theorem dX12_reckon_54 : decode cX12_reckon 54 = .ok (.iconst 2, 1) := by decide +kernel
theorem dX12_reckon_55 : decode cX12_reckon 55 = .ok (.iadd, 1) := by decide +kernel
theorem dX12_reckon_56 : decode cX12_reckon 56 = .ok (.invokevirtual 457, 3) := by decide +kernel
theorem dX12_reckon_59 : decode cX12_reckon 59 = .ok (.istore 9, 2) := by decide +kernel
theorem dX12_reckon_61 : decode cX12_reckon 61 = .ok (.iload_n 1, 1) := by decide +kernel
theorem dX12_reckon_62 : decode cX12_reckon 62 = .ok (.bipush 7, 2) := by decide +kernel
theorem dX12_reckon_64 : decode cX12_reckon 64 = .ok (.if_icmp .eq 9, 3) := by decide +kernel
theorem dX12_reckon_67 : decode cX12_reckon 67 = .ok (.iload_n 1, 1) := by decide +kernel
theorem dX12_reckon_68 : decode cX12_reckon 68 = .ok (.bipush 8, 2) := by decide +kernel
theorem dX12_reckon_70 : decode cX12_reckon 70 = .ok (.if_icmp .ne 26, 3) := by decide +kernel
theorem dX12_reckon_73 : decode cX12_reckon 73 = .ok (.iload 8, 2) := by decide +kernel
theorem dX12_reckon_75 : decode cX12_reckon 75 = .ok (.ifCond .eq 10, 3) := by decide +kernel
theorem dX12_reckon_78 : decode cX12_reckon 78 = .ok (.aload_n 0, 1) := by decide +kernel
theorem dX12_reckon_79 : decode cX12_reckon 79 = .ok (.iconst 4, 1) := by decide +kernel
theorem dX12_reckon_80 : decode cX12_reckon 80 = .ok (.iload 9, 2) := by decide +kernel
theorem dX12_reckon_82 : decode cX12_reckon 82 = .ok (.invokevirtual 460, 3) := by decide +kernel
theorem dX12_reckon_85 : decode cX12_reckon 85 = .ok (.iload 7, 2) := by decide +kernel
theorem dX12_reckon_87 : decode cX12_reckon 87 = .ok (.ifCond .ne 9, 3) := by decide +kernel
theorem dX12_reckon_90 : decode cX12_reckon 90 = .ok (.aload_n 0, 1) := by decide +kernel
theorem dX12_reckon_91 : decode cX12_reckon 91 = .ok (.iconst 1, 1) := by decide +kernel
theorem dX12_reckon_92 : decode cX12_reckon 92 = .ok (.invokevirtual 423, 3) := by decide +kernel
theorem dX12_reckon_95 : decode cX12_reckon 95 = .ok (.return_, 1) := by decide +kernel
theorem dX12_reckon_96 : decode cX12_reckon 96 = .ok (.aload_n 0, 1) := by decide +kernel
theorem dX12_reckon_97 : decode cX12_reckon 97 = .ok (.iload_n 3, 1) := by decide +kernel
theorem dX12_reckon_98 : decode cX12_reckon 98 = .ok (.aload_n 0, 1) := by decide +kernel
theorem dX12_reckon_99 : decode cX12_reckon 99 = .ok (.iload_n 1, 1) := by decide +kernel
theorem dX12_reckon_100 : decode cX12_reckon 100 = .ok (.iload 4, 2) := by decide +kernel
theorem dX12_reckon_102 : decode cX12_reckon 102 = .ok (.iload 7, 2) := by decide +kernel
theorem dX12_reckon_104 : decode cX12_reckon 104 = .ok (.invokevirtual 463, 3) := by decide +kernel
theorem dX12_reckon_107 : decode cX12_reckon 107 = .ok (.aload_n 0, 1) := by decide +kernel
theorem dX12_reckon_108 : decode cX12_reckon 108 = .ok (.iload_n 1, 1) := by decide +kernel
theorem dX12_reckon_109 : decode cX12_reckon 109 = .ok (.iload 4, 2) := by decide +kernel
theorem dX12_reckon_111 : decode cX12_reckon 111 = .ok (.iload 5, 2) := by decide +kernel
theorem dX12_reckon_113 : decode cX12_reckon 113 = .ok (.iload 7, 2) := by decide +kernel
theorem dX12_reckon_115 : decode cX12_reckon 115 = .ok (.iload 8, 2) := by decide +kernel
theorem dX12_reckon_117 : decode cX12_reckon 117 = .ok (.invokevirtual 466, 3) := by decide +kernel
theorem dX12_reckon_120 : decode cX12_reckon 120 = .ok (.iload 5, 2) := by decide +kernel
theorem dX12_reckon_122 : decode cX12_reckon 122 = .ok (.iload 6, 2) := by decide +kernel
theorem dX12_reckon_124 : decode cX12_reckon 124 = .ok (.iload 8, 2) := by decide +kernel
theorem dX12_reckon_126 : decode cX12_reckon 126 = .ok (.iload 9, 2) := by decide +kernel
theorem dX12_reckon_128 : decode cX12_reckon 128 = .ok (.invokestatic 470, 3) := by decide +kernel
theorem dX12_reckon_131 : decode cX12_reckon 131 = .ok (.invokevirtual 473, 3) := by decide +kernel
theorem dX12_reckon_134 : decode cX12_reckon 134 = .ok (.return_, 1) := by decide +kernel
theorem dX12_single_0 : decode cX12_single 0 = .ok (.aload_n 0, 1) := by decide +kernel
theorem dX12_single_1 : decode cX12_single 1 = .ok (.getfield 24, 3) := by decide +kernel
theorem dX12_single_4 : decode cX12_single 4 = .ok (.iload_n 2, 1) := by decide +kernel
theorem dX12_single_5 : decode cX12_single 5 = .ok (.iaload, 1) := by decide +kernel
theorem dX12_single_6 : decode cX12_single 6 = .ok (.istore_n 3, 1) := by decide +kernel
theorem dX12_single_7 : decode cX12_single 7 = .ok (.aload_n 0, 1) := by decide +kernel
theorem dX12_single_8 : decode cX12_single 8 = .ok (.iload_n 2, 1) := by decide +kernel
theorem dX12_single_9 : decode cX12_single 9 = .ok (.iconst 1, 1) := by decide +kernel
theorem dX12_single_10 : decode cX12_single 10 = .ok (.iadd, 1) := by decide +kernel
theorem dX12_single_11 : decode cX12_single 11 = .ok (.invokevirtual 451, 3) := by decide +kernel
theorem dX12_single_14 : decode cX12_single 14 = .ok (.istore 4, 2) := by decide +kernel
theorem dX12_single_16 : decode cX12_single 16 = .ok (.aload_n 0, 1) := by decide +kernel
theorem dX12_single_17 : decode cX12_single 17 = .ok (.iload_n 2, 1) := by decide +kernel
theorem dX12_single_18 : decode cX12_single 18 = .ok (.iconst 1, 1) := by decide +kernel
theorem dX12_single_19 : decode cX12_single 19 = .ok (.iadd, 1) := by decide +kernel
theorem dX12_single_20 : decode cX12_single 20 = .ok (.invokevirtual 454, 3) := by decide +kernel
theorem dX12_single_23 : decode cX12_single 23 = .ok (.istore 5, 2) := by decide +kernel
theorem dX12_single_25 : decode cX12_single 25 = .ok (.aload_n 0, 1) := by decide +kernel
theorem dX12_single_26 : decode cX12_single 26 = .ok (.iload_n 2, 1) := by decide +kernel
theorem dX12_single_27 : decode cX12_single 27 = .ok (.iconst 1, 1) := by decide +kernel
theorem dX12_single_28 : decode cX12_single 28 = .ok (.iadd, 1) := by decide +kernel
theorem dX12_single_29 : decode cX12_single 29 = .ok (.invokevirtual 457, 3) := by decide +kernel
theorem dX12_single_32 : decode cX12_single 32 = .ok (.istore 6, 2) := by decide +kernel
theorem dX12_single_34 : decode cX12_single 34 = .ok (.iload_n 1, 1) := by decide +kernel
theorem dX12_single_35 : decode cX12_single 35 = .ok (.ifCond .ne 21, 3) := by decide +kernel
theorem dX12_single_38 : decode cX12_single 38 = .ok (.aload_n 0, 1) := by decide +kernel
theorem dX12_single_39 : decode cX12_single 39 = .ok (.iload_n 3, 1) := by decide +kernel
theorem dX12_single_40 : decode cX12_single 40 = .ok (.aload_n 0, 1) := by decide +kernel
theorem dX12_single_41 : decode cX12_single 41 = .ok (.getfield 24, 3) := by decide +kernel
theorem dX12_single_44 : decode cX12_single 44 = .ok (.iload_n 2, 1) := by decide +kernel
theorem dX12_single_45 : decode cX12_single 45 = .ok (.iconst 1, 1) := by decide +kernel
theorem dX12_single_46 : decode cX12_single 46 = .ok (.iadd, 1) := by decide +kernel
theorem dX12_single_47 : decode cX12_single 47 = .ok (.iaload, 1) := by decide +kernel
theorem dX12_single_48 : decode cX12_single 48 = .ok (.iconst 0, 1) := by decide +kernel
theorem dX12_single_49 : decode cX12_single 49 = .ok (.iconst 0, 1) := by decide +kernel
theorem dX12_single_50 : decode cX12_single 50 = .ok (.invokevirtual 473, 3) := by decide +kernel
theorem dX12_single_53 : decode cX12_single 53 = .ok (.goto 107, 3) := by decide +kernel
theorem dX12_single_56 : decode cX12_single 56 = .ok (.iload_n 1, 1) := by decide +kernel
theorem dX12_single_57 : decode cX12_single 57 = .ok (.iconst 1, 1) := by decide +kernel
theorem dX12_single_58 : decode cX12_single 58 = .ok (.if_icmp .ne 17, 3) := by decide +kernel
theorem dX12_single_61 : decode cX12_single 61 = .ok (.aload_n 0, 1) := by decide +kernel
theorem dX12_single_62 : decode cX12_single 62 = .ok (.iload_n 3, 1) := by decide +kernel
theorem dX12_single_63 : decode cX12_single 63 = .ok (.iload 4, 2) := by decide +kernel
theorem dX12_single_65 : decode cX12_single 65 = .ok (.iload 5, 2) := by decide +kernel
theorem dX12_single_67 : decode cX12_single 67 = .ok (.iload 6, 2) := by decide +kernel
theorem dX12_single_69 : decode cX12_single 69 = .ok (.invokevirtual 473, 3) := by decide +kernel
theorem dX12_single_72 : decode cX12_single 72 = .ok (.goto 88, 3) := by decide +kernel
theorem dX12_single_75 : decode cX12_single 75 = .ok (.iload_n 1, 1) := by decide +kernel
theorem dX12_single_76 : decode cX12_single 76 = .ok (.iconst 2, 1) := by decide +kernel
theorem dX12_single_77 : decode cX12_single 77 = .ok (.if_icmp .ne 19, 3) := by decide +kernel
theorem dX12_single_80 : decode cX12_single 80 = .ok (.aload_n 0, 1) := by decide +kernel
theorem dX12_single_81 : decode cX12_single 81 = .ok (.iload_n 3, 1) := by decide +kernel
theorem dX12_single_82 : decode cX12_single 82 = .ok (.iload 4, 2) := by decide +kernel
theorem dX12_single_84 : decode cX12_single 84 = .ok (.iconst (-1), 1) := by decide +kernel
theorem dX12_single_85 : decode cX12_single 85 = .ok (.ixor, 1) := by decide +kernel
theorem dX12_single_86 : decode cX12_single 86 = .ok (.iload 5, 2) := by decide +kernel
theorem dX12_single_88 : decode cX12_single 88 = .ok (.iload 6, 2) := by decide +kernel
theorem dX12_single_90 : decode cX12_single 90 = .ok (.invokevirtual 473, 3) := by decide +kernel
theorem dX12_single_93 : decode cX12_single 93 = .ok (.goto 67, 3) := by decide +kernel
theorem dX12_single_96 : decode cX12_single 96 = .ok (.iload_n 1, 1) := by decide +kernel
theorem dX12_single_97 : decode cX12_single 97 = .ok (.iconst 3, 1) := by decide +kernel
theorem dX12_single_98 : decode cX12_single 98 = .ok (.if_icmp .ne 27, 3) := by decide +kernel
theorem dX12_single_101 : decode cX12_single 101 = .ok (.aload_n 0, 1) := by decide +kernel
theorem dX12_single_102 : decode cX12_single 102 = .ok (.iload_n 3, 1) := by decide +kernel
theorem dX12_single_103 : decode cX12_single 103 = .ok (.iload 4, 2) := by decide +kernel
theorem dX12_single_105 : decode cX12_single 105 = .ok (.ineg, 1) := by decide +kernel
theorem dX12_single_106 : decode cX12_single 106 = .ok (.aload_n 0, 1) := by decide +kernel
theorem dX12_single_107 : decode cX12_single 107 = .ok (.iconst 5, 1) := by decide +kernel
theorem dX12_single_108 : decode cX12_single 108 = .ok (.iconst 0, 1) := by decide +kernel
theorem dX12_single_109 : decode cX12_single 109 = .ok (.iconst 0, 1) := by decide +kernel
theorem dX12_single_110 : decode cX12_single 110 = .ok (.iload 4, 2) := by decide +kernel
theorem dX12_single_112 : decode cX12_single 112 = .ok (.iload 5, 2) := by decide +kernel
theorem dX12_single_114 : decode cX12_single 114 = .ok (.invokevirtual 466, 3) := by decide +kernel
theorem dX12_single_117 : decode cX12_single 117 = .ok (.iload 6, 2) := by decide +kernel
theorem dX12_single_119 : decode cX12_single 119 = .ok (.invokevirtual 473, 3) := by decide +kernel
theorem dX12_single_122 : decode cX12_single 122 = .ok (.goto 38, 3) := by decide +kernel
theorem dX12_single_125 : decode cX12_single 125 = .ok (.iload_n 1, 1) := by decide +kernel
theorem dX12_single_126 : decode cX12_single 126 = .ok (.bipush 19, 2) := by decide +kernel
theorem dX12_single_128 : decode cX12_single 128 = .ok (.if_icmp .ne 19, 3) := by decide +kernel
theorem dX12_single_131 : decode cX12_single 131 = .ok (.aload_n 0, 1) := by decide +kernel
theorem dX12_single_132 : decode cX12_single 132 = .ok (.iload_n 3, 1) := by decide +kernel
theorem dX12_single_133 : decode cX12_single 133 = .ok (.iload 4, 2) := by decide +kernel
theorem dX12_single_135 : decode cX12_single 135 = .ok (.i2b, 1) := by decide +kernel
theorem dX12_single_136 : decode cX12_single 136 = .ok (.iload 5, 2) := by decide +kernel
theorem dX12_single_138 : decode cX12_single 138 = .ok (.i2b, 1) := by decide +kernel
theorem dX12_single_139 : decode cX12_single 139 = .ok (.iload 6, 2) := by decide +kernel
theorem dX12_single_141 : decode cX12_single 141 = .ok (.invokevirtual 473, 3) := by decide +kernel
theorem dX12_single_144 : decode cX12_single 144 = .ok (.goto 16, 3) := by decide +kernel
theorem dX12_single_147 : decode cX12_single 147 = .ok (.aload_n 0, 1) := by decide +kernel
theorem dX12_single_148 : decode cX12_single 148 = .ok (.iload_n 3, 1) := by decide +kernel
theorem dX12_single_149 : decode cX12_single 149 = .ok (.iload 4, 2) := by decide +kernel
theorem dX12_single_151 : decode cX12_single 151 = .ok (.i2s, 1) := by decide +kernel
theorem dX12_single_152 : decode cX12_single 152 = .ok (.iload 5, 2) := by decide +kernel
theorem dX12_single_154 : decode cX12_single 154 = .ok (.i2s, 1) := by decide +kernel
theorem dX12_single_155 : decode cX12_single 155 = .ok (.iload 6, 2) := by decide +kernel
theorem dX12_single_157 : decode cX12_single 157 = .ok (.invokevirtual 473, 3) := by decide +kernel
theorem dX12_single_160 : decode cX12_single 160 = .ok (.return_, 1) := by decide +kernel
theorem dX12_isThere_0 : decode cX12_isThere 0 = .ok (.iload_n 1, 1) := by decide +kernel
theorem dX12_isThere_1 : decode cX12_isThere 1 = .ok (.ifCond .lt 32, 3) := by decide +kernel
theorem dX12_isThere_4 : decode cX12_isThere 4 = .ok (.iload_n 1, 1) := by decide +kernel
theorem dX12_isThere_5 : decode cX12_isThere 5 = .ok (.sipush 4096, 3) := by decide +kernel
theorem dX12_isThere_8 : decode cX12_isThere 8 = .ok (.if_icmp .ge 25, 3) := by decide +kernel
theorem dX12_isThere_11 : decode cX12_isThere 11 = .ok (.aload_n 0, 1) := by decide +kernel
theorem dX12_isThere_12 : decode cX12_isThere 12 = .ok (.getfield 73, 3) := by decide +kernel
theorem dX12_isThere_15 : decode cX12_isThere 15 = .ok (.sipush 4096, 3) := by decide +kernel
theorem dX12_isThere_18 : decode cX12_isThere 18 = .ok (.aload_n 0, 1) := by decide +kernel
theorem dX12_isThere_19 : decode cX12_isThere 19 = .ok (.getfield 394, 3) := by decide +kernel
theorem dX12_isThere_22 : decode cX12_isThere 22 = .ok (.imul, 1) := by decide +kernel
theorem dX12_isThere_23 : decode cX12_isThere 23 = .ok (.iload_n 1, 1) := by decide +kernel
theorem dX12_isThere_24 : decode cX12_isThere 24 = .ok (.iadd, 1) := by decide +kernel
theorem dX12_isThere_25 : decode cX12_isThere 25 = .ok (.baload, 1) := by decide +kernel
theorem dX12_isThere_26 : decode cX12_isThere 26 = .ok (.ifCond .eq 7, 3) := by decide +kernel
theorem dX12_isThere_29 : decode cX12_isThere 29 = .ok (.iconst 1, 1) := by decide +kernel
theorem dX12_isThere_30 : decode cX12_isThere 30 = .ok (.goto 4, 3) := by decide +kernel
theorem dX12_isThere_33 : decode cX12_isThere 33 = .ok (.iconst 0, 1) := by decide +kernel
theorem dX12_isThere_34 : decode cX12_isThere 34 = .ok (.ireturn, 1) := by decide +kernel
theorem dX12_up8_0 : decode cX12_up8 0 = .ok (.iload_n 0, 1) := by decide +kernel
theorem dX12_up8_1 : decode cX12_up8 1 = .ok (.bipush 7, 2) := by decide +kernel
theorem dX12_up8_3 : decode cX12_up8 3 = .ok (.iadd, 1) := by decide +kernel
theorem dX12_up8_4 : decode cX12_up8 4 = .ok (.bipush (-8), 2) := by decide +kernel
theorem dX12_up8_6 : decode cX12_up8 6 = .ok (.iand, 1) := by decide +kernel
theorem dX12_up8_7 : decode cX12_up8 7 = .ok (.ireturn, 1) := by decide +kernel
theorem dX12_blockAt_0 : decode cX12_blockAt 0 = .ok (.aload_n 0, 1) := by decide +kernel
theorem dX12_blockAt_1 : decode cX12_blockAt 1 = .ok (.getfield 118, 3) := by decide +kernel
theorem dX12_blockAt_4 : decode cX12_blockAt 4 = .ok (.aload_n 0, 1) := by decide +kernel
theorem dX12_blockAt_5 : decode cX12_blockAt 5 = .ok (.getfield 394, 3) := by decide +kernel
theorem dX12_blockAt_8 : decode cX12_blockAt 8 = .ok (.iaload, 1) := by decide +kernel
theorem dX12_blockAt_9 : decode cX12_blockAt 9 = .ok (.istore_n 2, 1) := by decide +kernel
theorem dX12_blockAt_10 : decode cX12_blockAt 10 = .ok (.iload_n 2, 1) := by decide +kernel
theorem dX12_blockAt_11 : decode cX12_blockAt 11 = .ok (.ifCond .le 66, 3) := by decide +kernel
theorem dX12_blockAt_14 : decode cX12_blockAt 14 = .ok (.bipush 101, 2) := by decide +kernel
theorem dX12_blockAt_16 : decode cX12_blockAt 16 = .ok (.aload_n 0, 1) := by decide +kernel
theorem dX12_blockAt_17 : decode cX12_blockAt 17 = .ok (.getfield 394, 3) := by decide +kernel
theorem dX12_blockAt_20 : decode cX12_blockAt 20 = .ok (.imul, 1) := by decide +kernel
theorem dX12_blockAt_21 : decode cX12_blockAt 21 = .ok (.iload_n 2, 1) := by decide +kernel
theorem dX12_blockAt_22 : decode cX12_blockAt 22 = .ok (.iadd, 1) := by decide +kernel
theorem dX12_blockAt_23 : decode cX12_blockAt 23 = .ok (.istore_n 3, 1) := by decide +kernel
theorem dX12_blockAt_24 : decode cX12_blockAt 24 = .ok (.aload_n 0, 1) := by decide +kernel
theorem dX12_blockAt_25 : decode cX12_blockAt 25 = .ok (.getfield 106, 3) := by decide +kernel
theorem dX12_blockAt_28 : decode cX12_blockAt 28 = .ok (.iload_n 3, 1) := by decide +kernel
theorem dX12_blockAt_29 : decode cX12_blockAt 29 = .ok (.iaload, 1) := by decide +kernel
theorem dX12_blockAt_30 : decode cX12_blockAt 30 = .ok (.ifCond .le 41, 3) := by decide +kernel
theorem dX12_blockAt_33 : decode cX12_blockAt 33 = .ok (.iload_n 1, 1) := by decide +kernel
theorem dX12_blockAt_34 : decode cX12_blockAt 34 = .ok (.aload_n 0, 1) := by decide +kernel
theorem dX12_blockAt_35 : decode cX12_blockAt 35 = .ok (.getfield 100, 3) := by decide +kernel
theorem dX12_blockAt_38 : decode cX12_blockAt 38 = .ok (.iload_n 3, 1) := by decide +kernel
theorem dX12_blockAt_39 : decode cX12_blockAt 39 = .ok (.iaload, 1) := by decide +kernel
theorem dX12_blockAt_40 : decode cX12_blockAt 40 = .ok (.bipush 8, 2) := by decide +kernel
theorem dX12_blockAt_42 : decode cX12_blockAt 42 = .ok (.isub, 1) := by decide +kernel
theorem dX12_blockAt_43 : decode cX12_blockAt 43 = .ok (.if_icmp .lt 28, 3) := by decide +kernel
theorem dX12_blockAt_46 : decode cX12_blockAt 46 = .ok (.iload_n 1, 1) := by decide +kernel
theorem dX12_blockAt_47 : decode cX12_blockAt 47 = .ok (.aload_n 0, 1) := by decide +kernel
theorem dX12_blockAt_48 : decode cX12_blockAt 48 = .ok (.getfield 100, 3) := by decide +kernel
theorem dX12_blockAt_51 : decode cX12_blockAt 51 = .ok (.iload_n 3, 1) := by decide +kernel
theorem dX12_blockAt_52 : decode cX12_blockAt 52 = .ok (.iaload, 1) := by decide +kernel
theorem dX12_blockAt_53 : decode cX12_blockAt 53 = .ok (.aload_n 0, 1) := by decide +kernel
theorem dX12_blockAt_54 : decode cX12_blockAt 54 = .ok (.getfield 103, 3) := by decide +kernel
theorem dX12_blockAt_57 : decode cX12_blockAt 57 = .ok (.iload_n 3, 1) := by decide +kernel
theorem dX12_blockAt_58 : decode cX12_blockAt 58 = .ok (.iaload, 1) := by decide +kernel
theorem dX12_blockAt_59 : decode cX12_blockAt 59 = .ok (.iadd, 1) := by decide +kernel
theorem dX12_blockAt_60 : decode cX12_blockAt 60 = .ok (.invokestatic 477, 3) := by decide +kernel
theorem dX12_blockAt_63 : decode cX12_blockAt 63 = .ok (.bipush 8, 2) := by decide +kernel
theorem dX12_blockAt_65 : decode cX12_blockAt 65 = .ok (.iadd, 1) := by decide +kernel
theorem dX12_blockAt_66 : decode cX12_blockAt 66 = .ok (.if_icmp .ge 5, 3) := by decide +kernel
theorem dX12_blockAt_69 : decode cX12_blockAt 69 = .ok (.iload_n 2, 1) := by decide +kernel
theorem dX12_blockAt_70 : decode cX12_blockAt 70 = .ok (.ireturn, 1) := by decide +kernel
theorem dX12_blockAt_71 : decode cX12_blockAt 71 = .ok (.iinc 2 (-1), 3) := by decide +kernel
theorem dX12_blockAt_74 : decode cX12_blockAt 74 = .ok (.goto (-64), 3) := by decide +kernel
theorem dX12_blockAt_77 : decode cX12_blockAt 77 = .ok (.iconst 0, 1) := by decide +kernel
theorem dX12_blockAt_78 : decode cX12_blockAt 78 = .ok (.ireturn, 1) := by decide +kernel
theorem dX12_areThere_0 : decode cX12_areThere 0 = .ok (.iconst 0, 1) := by decide +kernel
theorem dX12_areThere_1 : decode cX12_areThere 1 = .ok (.istore_n 3, 1) := by decide +kernel
theorem dX12_areThere_2 : decode cX12_areThere 2 = .ok (.iload_n 3, 1) := by decide +kernel
theorem dX12_areThere_3 : decode cX12_areThere 3 = .ok (.iload_n 2, 1) := by decide +kernel
theorem dX12_areThere_4 : decode cX12_areThere 4 = .ok (.if_icmp .ge 37, 3) := by decide +kernel
theorem dX12_areThere_7 : decode cX12_areThere 7 = .ok (.aload_n 0, 1) := by decide +kernel
theorem dX12_areThere_8 : decode cX12_areThere 8 = .ok (.iload_n 1, 1) := by decide +kernel
theorem dX12_areThere_9 : decode cX12_areThere 9 = .ok (.iload_n 3, 1) := by decide +kernel
theorem dX12_areThere_10 : decode cX12_areThere 10 = .ok (.iadd, 1) := by decide +kernel
theorem dX12_areThere_11 : decode cX12_areThere 11 = .ok (.invokevirtual 480, 3) := by decide +kernel
theorem dX12_areThere_14 : decode cX12_areThere 14 = .ok (.ifCond .eq 6, 3) := by decide +kernel
theorem dX12_areThere_17 : decode cX12_areThere 17 = .ok (.goto 18, 3) := by decide +kernel
theorem dX12_areThere_20 : decode cX12_areThere 20 = .ok (.aload_n 0, 1) := by decide +kernel
theorem dX12_areThere_21 : decode cX12_areThere 21 = .ok (.bipush 6, 2) := by decide +kernel
theorem dX12_areThere_23 : decode cX12_areThere 23 = .ok (.aload_n 0, 1) := by decide +kernel
theorem dX12_areThere_24 : decode cX12_areThere 24 = .ok (.iload_n 1, 1) := by decide +kernel
theorem dX12_areThere_25 : decode cX12_areThere 25 = .ok (.iload_n 3, 1) := by decide +kernel
theorem dX12_areThere_26 : decode cX12_areThere 26 = .ok (.iadd, 1) := by decide +kernel
theorem dX12_areThere_27 : decode cX12_areThere 27 = .ok (.invokevirtual 483, 3) := by decide +kernel
theorem dX12_areThere_30 : decode cX12_areThere 30 = .ok (.invokevirtual 460, 3) := by decide +kernel
theorem dX12_areThere_33 : decode cX12_areThere 33 = .ok (.iconst 0, 1) := by decide +kernel
theorem dX12_areThere_34 : decode cX12_areThere 34 = .ok (.ireturn, 1) := by decide +kernel
theorem dX12_areThere_35 : decode cX12_areThere 35 = .ok (.iinc 3 1, 3) := by decide +kernel
theorem dX12_areThere_38 : decode cX12_areThere 38 = .ok (.goto (-36), 3) := by decide +kernel
theorem dX12_areThere_41 : decode cX12_areThere 41 = .ok (.iconst 1, 1) := by decide +kernel
theorem dX12_areThere_42 : decode cX12_areThere 42 = .ok (.ireturn, 1) := by decide +kernel
theorem dX12_load_0 : decode cX12_load 0 = .ok (.aload_n 0, 1) := by decide +kernel
theorem dX12_load_1 : decode cX12_load 1 = .ok (.iload_n 2, 1) := by decide +kernel
theorem dX12_load_2 : decode cX12_load 2 = .ok (.iload_n 3, 1) := by decide +kernel
theorem dX12_load_3 : decode cX12_load 3 = .ok (.invokevirtual 486, 3) := by decide +kernel
theorem dX12_load_6 : decode cX12_load 6 = .ok (.ifCond .ne 12, 3) := by decide +kernel
theorem dX12_load_9 : decode cX12_load 9 = .ok (.aload_n 0, 1) := by decide +kernel
theorem dX12_load_10 : decode cX12_load 10 = .ok (.iload_n 1, 1) := by decide +kernel
theorem dX12_load_11 : decode cX12_load 11 = .ok (.iconst 0, 1) := by decide +kernel
theorem dX12_load_12 : decode cX12_load 12 = .ok (.iconst 0, 1) := by decide +kernel
theorem dX12_load_13 : decode cX12_load 13 = .ok (.iconst 0, 1) := by decide +kernel
theorem dX12_load_14 : decode cX12_load 14 = .ok (.invokevirtual 473, 3) := by decide +kernel
theorem dX12_load_17 : decode cX12_load 17 = .ok (.return_, 1) := by decide +kernel
theorem dX12_load_18 : decode cX12_load 18 = .ok (.iconst 0, 1) := by decide +kernel
theorem dX12_load_19 : decode cX12_load 19 = .ok (.istore 5, 2) := by decide +kernel
theorem dX12_load_21 : decode cX12_load 21 = .ok (.iconst 0, 1) := by decide +kernel
theorem dX12_load_22 : decode cX12_load 22 = .ok (.istore 6, 2) := by decide +kernel
theorem dX12_load_24 : decode cX12_load 24 = .ok (.iconst 0, 1) := by decide +kernel
theorem dX12_load_25 : decode cX12_load 25 = .ok (.istore 7, 2) := by decide +kernel
theorem dX12_load_27 : decode cX12_load 27 = .ok (.iload_n 3, 1) := by decide +kernel
theorem dX12_load_28 : decode cX12_load 28 = .ok (.iconst 1, 1) := by decide +kernel
theorem dX12_load_29 : decode cX12_load 29 = .ok (.isub, 1) := by decide +kernel
theorem dX12_load_30 : decode cX12_load 30 = .ok (.istore 8, 2) := by decide +kernel
theorem dX12_load_32 : decode cX12_load 32 = .ok (.iload 8, 2) := by decide +kernel
theorem dX12_load_34 : decode cX12_load 34 = .ok (.ifCond .lt 73, 3) := by decide +kernel
theorem dX12_load_37 : decode cX12_load 37 = .ok (.sipush 4096, 3) := by decide +kernel
theorem dX12_load_40 : decode cX12_load 40 = .ok (.aload_n 0, 1) := by decide +kernel
theorem dX12_load_41 : decode cX12_load 41 = .ok (.getfield 394, 3) := by decide +kernel
theorem dX12_load_44 : decode cX12_load 44 = .ok (.imul, 1) := by decide +kernel
theorem dX12_load_45 : decode cX12_load 45 = .ok (.iload_n 2, 1) := by decide +kernel
theorem dX12_load_46 : decode cX12_load 46 = .ok (.iadd, 1) := by decide +kernel
theorem dX12_load_47 : decode cX12_load 47 = .ok (.iload 8, 2) := by decide +kernel
theorem dX12_load_49 : decode cX12_load 49 = .ok (.iadd, 1) := by decide +kernel
theorem dX12_load_50 : decode cX12_load 50 = .ok (.istore 9, 2) := by decide +kernel
theorem dX12_load_52 : decode cX12_load 52 = .ok (.iload 5, 2) := by decide +kernel
theorem dX12_load_54 : decode cX12_load 54 = .ok (.bipush 8, 2) := by decide +kernel
theorem dX12_load_56 : decode cX12_load 56 = .ok (.ishl, 1) := by decide +kernel
theorem dX12_load_57 : decode cX12_load 57 = .ok (.aload_n 0, 1) := by decide +kernel
theorem dX12_load_58 : decode cX12_load 58 = .ok (.getfield 64, 3) := by decide +kernel
theorem dX12_load_61 : decode cX12_load 61 = .ok (.iload 9, 2) := by decide +kernel
theorem dX12_load_63 : decode cX12_load 63 = .ok (.iaload, 1) := by decide +kernel
theorem dX12_load_64 : decode cX12_load 64 = .ok (.ior, 1) := by decide +kernel
theorem dX12_load_65 : decode cX12_load 65 = .ok (.istore 5, 2) := by decide +kernel
theorem dX12_load_67 : decode cX12_load 67 = .ok (.iload 6, 2) := by decide +kernel
theorem dX12_load_69 : decode cX12_load 69 = .ok (.bipush 8, 2) := by decide +kernel
theorem dX12_load_71 : decode cX12_load 71 = .ok (.ishl, 1) := by decide +kernel
theorem dX12_load_72 : decode cX12_load 72 = .ok (.aload_n 0, 1) := by decide +kernel
theorem dX12_load_73 : decode cX12_load 73 = .ok (.getfield 67, 3) := by decide +kernel
theorem dX12_load_76 : decode cX12_load 76 = .ok (.iload 9, 2) := by decide +kernel
theorem dX12_load_78 : decode cX12_load 78 = .ok (.iaload, 1) := by decide +kernel
theorem dX12_load_79 : decode cX12_load 79 = .ok (.ior, 1) := by decide +kernel
theorem dX12_load_80 : decode cX12_load 80 = .ok (.istore 6, 2) := by decide +kernel
theorem dX12_load_82 : decode cX12_load 82 = .ok (.aload_n 0, 1) := by decide +kernel
theorem dX12_load_83 : decode cX12_load 83 = .ok (.getfield 67, 3) := by decide +kernel
theorem dX12_load_86 : decode cX12_load 86 = .ok (.iload 9, 2) := by decide +kernel
theorem dX12_load_88 : decode cX12_load 88 = .ok (.iaload, 1) := by decide +kernel
theorem dX12_load_89 : decode cX12_load 89 = .ok (.ifCond .eq 12, 3) := by decide +kernel
theorem dX12_load_92 : decode cX12_load 92 = .ok (.aload_n 0, 1) := by decide +kernel
theorem dX12_load_93 : decode cX12_load 93 = .ok (.getfield 70, 3) := by decide +kernel
theorem dX12_load_96 : decode cX12_load 96 = .ok (.iload 9, 2) := by decide +kernel
theorem dX12_load_98 : decode cX12_load 98 = .ok (.iaload, 1) := by decide +kernel
theorem dX12_load_99 : decode cX12_load 99 = .ok (.istore 7, 2) := by decide +kernel
theorem dX12_load_101 : decode cX12_load 101 = .ok (.iinc 8 (-1), 3) := by decide +kernel
theorem dX12_load_104 : decode cX12_load 104 = .ok (.goto (-72), 3) := by decide +kernel
theorem dX12_load_107 : decode cX12_load 107 = .ok (.iload 4, 2) := by decide +kernel
theorem dX12_load_109 : decode cX12_load 109 = .ok (.ifCond .eq 35, 3) := by decide +kernel
theorem dX12_load_112 : decode cX12_load 112 = .ok (.iload_n 3, 1) := by decide +kernel
theorem dX12_load_113 : decode cX12_load 113 = .ok (.iconst 1, 1) := by decide +kernel
theorem dX12_load_114 : decode cX12_load 114 = .ok (.if_icmp .ne 9, 3) := by decide +kernel
theorem dX12_load_117 : decode cX12_load 117 = .ok (.iload 5, 2) := by decide +kernel
theorem dX12_load_119 : decode cX12_load 119 = .ok (.i2b, 1) := by decide +kernel
theorem dX12_load_120 : decode cX12_load 120 = .ok (.goto 6, 3) := by decide +kernel
theorem dX12_load_123 : decode cX12_load 123 = .ok (.iload 5, 2) := by decide +kernel
theorem dX12_load_125 : decode cX12_load 125 = .ok (.i2s, 1) := by decide +kernel
theorem dX12_load_126 : decode cX12_load 126 = .ok (.istore 5, 2) := by decide +kernel
theorem dX12_load_128 : decode cX12_load 128 = .ok (.iload_n 3, 1) := by decide +kernel
theorem dX12_load_129 : decode cX12_load 129 = .ok (.iconst 1, 1) := by decide +kernel
theorem dX12_load_130 : decode cX12_load 130 = .ok (.if_icmp .ne 9, 3) := by decide +kernel
theorem dX12_load_133 : decode cX12_load 133 = .ok (.iload 6, 2) := by decide +kernel
theorem dX12_load_135 : decode cX12_load 135 = .ok (.i2b, 1) := by decide +kernel
theorem dX12_load_136 : decode cX12_load 136 = .ok (.goto 6, 3) := by decide +kernel
theorem dX12_load_139 : decode cX12_load 139 = .ok (.iload 6, 2) := by decide +kernel
theorem dX12_load_141 : decode cX12_load 141 = .ok (.i2s, 1) := by decide +kernel
theorem dX12_load_142 : decode cX12_load 142 = .ok (.istore 6, 2) := by decide +kernel
theorem dX12_load_144 : decode cX12_load 144 = .ok (.aload_n 0, 1) := by decide +kernel
theorem dX12_load_145 : decode cX12_load 145 = .ok (.iload_n 1, 1) := by decide +kernel
theorem dX12_load_146 : decode cX12_load 146 = .ok (.iload 5, 2) := by decide +kernel
theorem dX12_load_148 : decode cX12_load 148 = .ok (.iload 6, 2) := by decide +kernel
theorem dX12_load_150 : decode cX12_load 150 = .ok (.iload 7, 2) := by decide +kernel
theorem dX12_load_152 : decode cX12_load 152 = .ok (.invokevirtual 473, 3) := by decide +kernel
theorem dX12_load_155 : decode cX12_load 155 = .ok (.return_, 1) := by decide +kernel
theorem dX12_store_0 : decode cX12_store 0 = .ok (.aload_n 0, 1) := by decide +kernel
theorem dX12_store_1 : decode cX12_store 1 = .ok (.iload_n 1, 1) := by decide +kernel
theorem dX12_store_2 : decode cX12_store 2 = .ok (.iload_n 2, 1) := by decide +kernel
theorem dX12_store_3 : decode cX12_store 3 = .ok (.invokevirtual 486, 3) := by decide +kernel
theorem dX12_store_6 : decode cX12_store 6 = .ok (.ifCond .ne 4, 3) := by decide +kernel
theorem dX12_store_9 : decode cX12_store 9 = .ok (.return_, 1) := by decide +kernel
theorem dX12_store_10 : decode cX12_store 10 = .ok (.iconst 0, 1) := by decide +kernel
theorem dX12_store_11 : decode cX12_store 11 = .ok (.istore 6, 2) := by decide +kernel
theorem dX12_store_13 : decode cX12_store 13 = .ok (.iload 6, 2) := by decide +kernel
theorem dX12_store_15 : decode cX12_store 15 = .ok (.iload_n 2, 1) := by decide +kernel
theorem dX12_store_16 : decode cX12_store 16 = .ok (.if_icmp .ge 84, 3) := by decide +kernel
theorem dX12_store_19 : decode cX12_store 19 = .ok (.sipush 4096, 3) := by decide +kernel
theorem dX12_store_22 : decode cX12_store 22 = .ok (.aload_n 0, 1) := by decide +kernel
theorem dX12_store_23 : decode cX12_store 23 = .ok (.getfield 394, 3) := by decide +kernel
theorem dX12_store_26 : decode cX12_store 26 = .ok (.imul, 1) := by decide +kernel
theorem dX12_store_27 : decode cX12_store 27 = .ok (.iload_n 1, 1) := by decide +kernel
theorem dX12_store_28 : decode cX12_store 28 = .ok (.iadd, 1) := by decide +kernel
theorem dX12_store_29 : decode cX12_store 29 = .ok (.iload 6, 2) := by decide +kernel
theorem dX12_store_31 : decode cX12_store 31 = .ok (.iadd, 1) := by decide +kernel
theorem dX12_store_32 : decode cX12_store 32 = .ok (.istore 7, 2) := by decide +kernel
theorem dX12_store_34 : decode cX12_store 34 = .ok (.aload_n 0, 1) := by decide +kernel
theorem dX12_store_35 : decode cX12_store 35 = .ok (.getfield 64, 3) := by decide +kernel
theorem dX12_store_38 : decode cX12_store 38 = .ok (.iload 7, 2) := by decide +kernel
theorem dX12_store_40 : decode cX12_store 40 = .ok (.iload_n 3, 1) := by decide +kernel
theorem dX12_store_41 : decode cX12_store 41 = .ok (.bipush 8, 2) := by decide +kernel
theorem dX12_store_43 : decode cX12_store 43 = .ok (.iload 6, 2) := by decide +kernel
theorem dX12_store_45 : decode cX12_store 45 = .ok (.imul, 1) := by decide +kernel
theorem dX12_store_46 : decode cX12_store 46 = .ok (.ishr, 1) := by decide +kernel
theorem dX12_store_47 : decode cX12_store 47 = .ok (.sipush 255, 3) := by decide +kernel
theorem dX12_store_50 : decode cX12_store 50 = .ok (.iand, 1) := by decide +kernel
theorem dX12_store_51 : decode cX12_store 51 = .ok (.iastore, 1) := by decide +kernel
theorem dX12_store_52 : decode cX12_store 52 = .ok (.aload_n 0, 1) := by decide +kernel
theorem dX12_store_53 : decode cX12_store 53 = .ok (.getfield 67, 3) := by decide +kernel
theorem dX12_store_56 : decode cX12_store 56 = .ok (.iload 7, 2) := by decide +kernel
theorem dX12_store_58 : decode cX12_store 58 = .ok (.iload 4, 2) := by decide +kernel
theorem dX12_store_60 : decode cX12_store 60 = .ok (.bipush 8, 2) := by decide +kernel
theorem dX12_store_62 : decode cX12_store 62 = .ok (.iload 6, 2) := by decide +kernel
theorem dX12_store_64 : decode cX12_store 64 = .ok (.imul, 1) := by decide +kernel
theorem dX12_store_65 : decode cX12_store 65 = .ok (.ishr, 1) := by decide +kernel
theorem dX12_store_66 : decode cX12_store 66 = .ok (.sipush 255, 3) := by decide +kernel
theorem dX12_store_69 : decode cX12_store 69 = .ok (.iand, 1) := by decide +kernel
theorem dX12_store_70 : decode cX12_store 70 = .ok (.iastore, 1) := by decide +kernel
theorem dX12_store_71 : decode cX12_store 71 = .ok (.aload_n 0, 1) := by decide +kernel
theorem dX12_store_72 : decode cX12_store 72 = .ok (.getfield 70, 3) := by decide +kernel
theorem dX12_store_75 : decode cX12_store 75 = .ok (.iload 7, 2) := by decide +kernel
theorem dX12_store_77 : decode cX12_store 77 = .ok (.aload_n 0, 1) := by decide +kernel
theorem dX12_store_78 : decode cX12_store 78 = .ok (.getfield 67, 3) := by decide +kernel
theorem dX12_store_81 : decode cX12_store 81 = .ok (.iload 7, 2) := by decide +kernel
theorem dX12_store_83 : decode cX12_store 83 = .ok (.iaload, 1) := by decide +kernel
theorem dX12_store_84 : decode cX12_store 84 = .ok (.ifCond .eq 8, 3) := by decide +kernel
theorem dX12_store_87 : decode cX12_store 87 = .ok (.iload 5, 2) := by decide +kernel
theorem dX12_store_89 : decode cX12_store 89 = .ok (.goto 4, 3) := by decide +kernel
theorem dX12_store_92 : decode cX12_store 92 = .ok (.iconst 0, 1) := by decide +kernel
theorem dX12_store_93 : decode cX12_store 93 = .ok (.iastore, 1) := by decide +kernel
theorem dX12_store_94 : decode cX12_store 94 = .ok (.iinc 6 1, 3) := by decide +kernel
theorem dX12_store_97 : decode cX12_store 97 = .ok (.goto (-84), 3) := by decide +kernel
theorem dX12_store_100 : decode cX12_store 100 = .ok (.return_, 1) := by decide +kernel
theorem dX12_reach_0 : decode cX12_reach 0 = .ok (.aload_n 0, 1) := by decide +kernel
theorem dX12_reach_1 : decode cX12_reach 1 = .ok (.iload_n 2, 1) := by decide +kernel
theorem dX12_reach_2 : decode cX12_reach 2 = .ok (.iconst 1, 1) := by decide +kernel
theorem dX12_reach_3 : decode cX12_reach 3 = .ok (.iadd, 1) := by decide +kernel
theorem dX12_reach_4 : decode cX12_reach 4 = .ok (.invokevirtual 454, 3) := by decide +kernel
theorem dX12_reach_7 : decode cX12_reach 7 = .ok (.ifCond .eq 15, 3) := by decide +kernel
theorem dX12_reach_10 : decode cX12_reach 10 = .ok (.aload_n 0, 1) := by decide +kernel
theorem dX12_reach_11 : decode cX12_reach 11 = .ok (.iconst 2, 1) := by decide +kernel
theorem dX12_reach_12 : decode cX12_reach 12 = .ok (.aload_n 0, 1) := by decide +kernel
theorem dX12_reach_13 : decode cX12_reach 13 = .ok (.iload_n 2, 1) := by decide +kernel
theorem dX12_reach_14 : decode cX12_reach 14 = .ok (.iconst 1, 1) := by decide +kernel
theorem dX12_reach_15 : decode cX12_reach 15 = .ok (.iadd, 1) := by decide +kernel
theorem dX12_reach_16 : decode cX12_reach 16 = .ok (.invokevirtual 457, 3) := by decide +kernel
theorem dX12_reach_19 : decode cX12_reach 19 = .ok (.invokevirtual 460, 3) := by decide +kernel
theorem dX12_reach_22 : decode cX12_reach 22 = .ok (.aload_n 0, 1) := by decide +kernel
theorem dX12_reach_23 : decode cX12_reach 23 = .ok (.iload_n 2, 1) := by decide +kernel
theorem dX12_reach_24 : decode cX12_reach 24 = .ok (.iconst 1, 1) := by decide +kernel
theorem dX12_reach_25 : decode cX12_reach 25 = .ok (.iadd, 1) := by decide +kernel
theorem dX12_reach_26 : decode cX12_reach 26 = .ok (.invokevirtual 451, 3) := by decide +kernel
theorem dX12_reach_29 : decode cX12_reach 29 = .ok (.aload_n 0, 1) := by decide +kernel
theorem dX12_reach_30 : decode cX12_reach 30 = .ok (.getfield 24, 3) := by decide +kernel
theorem dX12_reach_33 : decode cX12_reach 33 = .ok (.iload_n 2, 1) := by decide +kernel
theorem dX12_reach_34 : decode cX12_reach 34 = .ok (.iconst 2, 1) := by decide +kernel
theorem dX12_reach_35 : decode cX12_reach 35 = .ok (.iadd, 1) := by decide +kernel
theorem dX12_reach_36 : decode cX12_reach 36 = .ok (.iaload, 1) := by decide +kernel
theorem dX12_reach_37 : decode cX12_reach 37 = .ok (.iadd, 1) := by decide +kernel
theorem dX12_reach_38 : decode cX12_reach 38 = .ok (.istore_n 3, 1) := by decide +kernel
theorem dX12_reach_39 : decode cX12_reach 39 = .ok (.iload_n 1, 1) := by decide +kernel
theorem dX12_reach_40 : decode cX12_reach 40 = .ok (.bipush 21, 2) := by decide +kernel
theorem dX12_reach_42 : decode cX12_reach 42 = .ok (.if_icmp .eq 15, 3) := by decide +kernel
theorem dX12_reach_45 : decode cX12_reach 45 = .ok (.iload_n 1, 1) := by decide +kernel
theorem dX12_reach_46 : decode cX12_reach 46 = .ok (.bipush 22, 2) := by decide +kernel
theorem dX12_reach_48 : decode cX12_reach 48 = .ok (.if_icmp .eq 9, 3) := by decide +kernel
theorem dX12_reach_51 : decode cX12_reach 51 = .ok (.iload_n 1, 1) := by decide +kernel
theorem dX12_reach_52 : decode cX12_reach 52 = .ok (.bipush 26, 2) := by decide +kernel
theorem dX12_reach_54 : decode cX12_reach 54 = .ok (.if_icmp .ne 7, 3) := by decide +kernel
theorem dX12_reach_57 : decode cX12_reach 57 = .ok (.iconst 1, 1) := by decide +kernel
theorem dX12_reach_58 : decode cX12_reach 58 = .ok (.goto 26, 3) := by decide +kernel
theorem dX12_reach_61 : decode cX12_reach 61 = .ok (.iload_n 1, 1) := by decide +kernel
theorem dX12_reach_62 : decode cX12_reach 62 = .ok (.bipush 23, 2) := by decide +kernel
theorem dX12_reach_64 : decode cX12_reach 64 = .ok (.if_icmp .eq 15, 3) := by decide +kernel
theorem dX12_reach_67 : decode cX12_reach 67 = .ok (.iload_n 1, 1) := by decide +kernel
theorem dX12_reach_68 : decode cX12_reach 68 = .ok (.bipush 24, 2) := by decide +kernel
theorem dX12_reach_70 : decode cX12_reach 70 = .ok (.if_icmp .eq 9, 3) := by decide +kernel
theorem dX12_reach_73 : decode cX12_reach 73 = .ok (.iload_n 1, 1) := by decide +kernel
theorem dX12_reach_74 : decode cX12_reach 74 = .ok (.bipush 27, 2) := by decide +kernel
theorem dX12_reach_76 : decode cX12_reach 76 = .ok (.if_icmp .ne 7, 3) := by decide +kernel
theorem dX12_reach_79 : decode cX12_reach 79 = .ok (.iconst 2, 1) := by decide +kernel
theorem dX12_reach_80 : decode cX12_reach 80 = .ok (.goto 4, 3) := by decide +kernel
theorem dX12_reach_83 : decode cX12_reach 83 = .ok (.iconst 4, 1) := by decide +kernel
theorem dX12_reach_84 : decode cX12_reach 84 = .ok (.istore 4, 2) := by decide +kernel
theorem dX12_reach_86 : decode cX12_reach 86 = .ok (.iload_n 1, 1) := by decide +kernel
theorem dX12_reach_87 : decode cX12_reach 87 = .ok (.bipush 26, 2) := by decide +kernel
theorem dX12_reach_89 : decode cX12_reach 89 = .ok (.if_icmp .ge 36, 3) := by decide +kernel
theorem dX12_reach_92 : decode cX12_reach 92 = .ok (.aload_n 0, 1) := by decide +kernel
theorem dX12_reach_93 : decode cX12_reach 93 = .ok (.aload_n 0, 1) := by decide +kernel
theorem dX12_reach_94 : decode cX12_reach 94 = .ok (.getfield 24, 3) := by decide +kernel
theorem dX12_reach_97 : decode cX12_reach 97 = .ok (.iload_n 2, 1) := by decide +kernel
theorem dX12_reach_98 : decode cX12_reach 98 = .ok (.iaload, 1) := by decide +kernel
theorem dX12_reach_99 : decode cX12_reach 99 = .ok (.iload_n 3, 1) := by decide +kernel
theorem dX12_reach_100 : decode cX12_reach 100 = .ok (.iload 4, 2) := by decide +kernel
theorem dX12_reach_102 : decode cX12_reach 102 = .ok (.iload_n 1, 1) := by decide +kernel
theorem dX12_reach_103 : decode cX12_reach 103 = .ok (.bipush 21, 2) := by decide +kernel
theorem dX12_reach_105 : decode cX12_reach 105 = .ok (.if_icmp .eq 9, 3) := by decide +kernel
theorem dX12_reach_108 : decode cX12_reach 108 = .ok (.iload_n 1, 1) := by decide +kernel
theorem dX12_reach_109 : decode cX12_reach 109 = .ok (.bipush 23, 2) := by decide +kernel
theorem dX12_reach_111 : decode cX12_reach 111 = .ok (.if_icmp .ne 7, 3) := by decide +kernel
theorem dX12_reach_114 : decode cX12_reach 114 = .ok (.iconst 1, 1) := by decide +kernel
theorem dX12_reach_115 : decode cX12_reach 115 = .ok (.goto 4, 3) := by decide +kernel
theorem dX12_reach_118 : decode cX12_reach 118 = .ok (.iconst 0, 1) := by decide +kernel
theorem dX12_reach_119 : decode cX12_reach 119 = .ok (.invokevirtual 489, 3) := by decide +kernel
theorem dX12_reach_122 : decode cX12_reach 122 = .ok (.goto 25, 3) := by decide +kernel
theorem dX12_reach_125 : decode cX12_reach 125 = .ok (.aload_n 0, 1) := by decide +kernel
theorem dX12_reach_126 : decode cX12_reach 126 = .ok (.iload_n 3, 1) := by decide +kernel
theorem dX12_reach_127 : decode cX12_reach 127 = .ok (.iload 4, 2) := by decide +kernel
theorem dX12_reach_129 : decode cX12_reach 129 = .ok (.aload_n 0, 1) := by decide +kernel
theorem dX12_reach_130 : decode cX12_reach 130 = .ok (.iload_n 2, 1) := by decide +kernel
theorem dX12_reach_131 : decode cX12_reach 131 = .ok (.invokevirtual 451, 3) := by decide +kernel
theorem dX12_reach_134 : decode cX12_reach 134 = .ok (.aload_n 0, 1) := by decide +kernel
theorem dX12_reach_135 : decode cX12_reach 135 = .ok (.iload_n 2, 1) := by decide +kernel
theorem dX12_reach_136 : decode cX12_reach 136 = .ok (.invokevirtual 454, 3) := by decide +kernel
theorem dX12_reach_139 : decode cX12_reach 139 = .ok (.aload_n 0, 1) := by decide +kernel
theorem dX12_reach_140 : decode cX12_reach 140 = .ok (.iload_n 2, 1) := by decide +kernel
theorem dX12_reach_141 : decode cX12_reach 141 = .ok (.invokevirtual 457, 3) := by decide +kernel
theorem dX12_reach_144 : decode cX12_reach 144 = .ok (.invokevirtual 493, 3) := by decide +kernel
theorem dX12_reach_147 : decode cX12_reach 147 = .ok (.return_, 1) := by decide +kernel
theorem dX12_branch_0 : decode cX12_branch 0 = .ok (.aload_n 0, 1) := by decide +kernel
theorem dX12_branch_1 : decode cX12_branch 1 = .ok (.iload_n 2, 1) := by decide +kernel
theorem dX12_branch_2 : decode cX12_branch 2 = .ok (.invokevirtual 451, 3) := by decide +kernel
theorem dX12_branch_5 : decode cX12_branch 5 = .ok (.istore_n 3, 1) := by decide +kernel
theorem dX12_branch_6 : decode cX12_branch 6 = .ok (.aload_n 0, 1) := by decide +kernel
theorem dX12_branch_7 : decode cX12_branch 7 = .ok (.iload_n 2, 1) := by decide +kernel
theorem dX12_branch_8 : decode cX12_branch 8 = .ok (.invokevirtual 454, 3) := by decide +kernel
theorem dX12_branch_11 : decode cX12_branch 11 = .ok (.istore 4, 2) := by decide +kernel
theorem dX12_branch_13 : decode cX12_branch 13 = .ok (.aload_n 0, 1) := by decide +kernel
theorem dX12_branch_14 : decode cX12_branch 14 = .ok (.iload_n 2, 1) := by decide +kernel
theorem dX12_branch_15 : decode cX12_branch 15 = .ok (.iconst 1, 1) := by decide +kernel
theorem dX12_branch_16 : decode cX12_branch 16 = .ok (.iadd, 1) := by decide +kernel
theorem dX12_branch_17 : decode cX12_branch 17 = .ok (.invokevirtual 451, 3) := by decide +kernel
theorem dX12_branch_20 : decode cX12_branch 20 = .ok (.istore 5, 2) := by decide +kernel
theorem dX12_branch_22 : decode cX12_branch 22 = .ok (.aload_n 0, 1) := by decide +kernel
theorem dX12_branch_23 : decode cX12_branch 23 = .ok (.iload_n 2, 1) := by decide +kernel
theorem dX12_branch_24 : decode cX12_branch 24 = .ok (.iconst 1, 1) := by decide +kernel
theorem dX12_branch_25 : decode cX12_branch 25 = .ok (.iadd, 1) := by decide +kernel
theorem dX12_branch_26 : decode cX12_branch 26 = .ok (.invokevirtual 454, 3) := by decide +kernel
theorem dX12_branch_29 : decode cX12_branch 29 = .ok (.istore 6, 2) := by decide +kernel
theorem dX12_branch_31 : decode cX12_branch 31 = .ok (.iload_n 1, 1) := by decide +kernel
theorem dX12_branch_32 : decode cX12_branch 32 = .ok (.bipush 31, 2) := by decide +kernel
theorem dX12_branch_34 : decode cX12_branch 34 = .ok (.if_icmp .ge 17, 3) := by decide +kernel
theorem dX12_branch_37 : decode cX12_branch 37 = .ok (.aload_n 0, 1) := by decide +kernel
theorem dX12_branch_38 : decode cX12_branch 38 = .ok (.iload_n 3, 1) := by decide +kernel
theorem dX12_branch_39 : decode cX12_branch 39 = .ok (.iload 4, 2) := by decide +kernel
theorem dX12_branch_41 : decode cX12_branch 41 = .ok (.iload 5, 2) := by decide +kernel
theorem dX12_branch_43 : decode cX12_branch 43 = .ok (.iload 6, 2) := by decide +kernel
theorem dX12_branch_45 : decode cX12_branch 45 = .ok (.invokevirtual 443, 3) := by decide +kernel
theorem dX12_branch_48 : decode cX12_branch 48 = .ok (.goto 25, 3) := by decide +kernel
theorem dX12_branch_51 : decode cX12_branch 51 = .ok (.aload_n 0, 1) := by decide +kernel
theorem dX12_branch_52 : decode cX12_branch 52 = .ok (.iload_n 3, 1) := by decide +kernel
theorem dX12_branch_53 : decode cX12_branch 53 = .ok (.iload 4, 2) := by decide +kernel
theorem dX12_branch_55 : decode cX12_branch 55 = .ok (.iload 5, 2) := by decide +kernel
theorem dX12_branch_57 : decode cX12_branch 57 = .ok (.iload 6, 2) := by decide +kernel
theorem dX12_branch_59 : decode cX12_branch 59 = .ok (.iload_n 1, 1) := by decide +kernel
theorem dX12_branch_60 : decode cX12_branch 60 = .ok (.bipush 33, 2) := by decide +kernel
theorem dX12_branch_62 : decode cX12_branch 62 = .ok (.if_icmp .ge 7, 3) := by decide +kernel
theorem dX12_branch_65 : decode cX12_branch 65 = .ok (.iconst 1, 1) := by decide +kernel
theorem dX12_branch_66 : decode cX12_branch 66 = .ok (.goto 4, 3) := by decide +kernel
theorem dX12_branch_69 : decode cX12_branch 69 = .ok (.iconst 0, 1) := by decide +kernel
theorem dX12_branch_70 : decode cX12_branch 70 = .ok (.invokevirtual 447, 3) := by decide +kernel
theorem dX12_branch_73 : decode cX12_branch 73 = .ok (.istore 7, 2) := by decide +kernel
theorem dX12_branch_75 : decode cX12_branch 75 = .ok (.iload 7, 2) := by decide +kernel
theorem dX12_branch_77 : decode cX12_branch 77 = .ok (.ifCond .eq 27, 3) := by decide +kernel
theorem dX12_branch_80 : decode cX12_branch 80 = .ok (.aload_n 0, 1) := by decide +kernel
theorem dX12_branch_81 : decode cX12_branch 81 = .ok (.iconst 1, 1) := by decide +kernel
theorem dX12_branch_82 : decode cX12_branch 82 = .ok (.iload 4, 2) := by decide +kernel
theorem dX12_branch_84 : decode cX12_branch 84 = .ok (.aload_n 0, 1) := by decide +kernel
theorem dX12_branch_85 : decode cX12_branch 85 = .ok (.iload_n 2, 1) := by decide +kernel
theorem dX12_branch_86 : decode cX12_branch 86 = .ok (.invokevirtual 457, 3) := by decide +kernel
theorem dX12_branch_89 : decode cX12_branch 89 = .ok (.iload 6, 2) := by decide +kernel
theorem dX12_branch_91 : decode cX12_branch 91 = .ok (.aload_n 0, 1) := by decide +kernel
theorem dX12_branch_92 : decode cX12_branch 92 = .ok (.iload_n 2, 1) := by decide +kernel
theorem dX12_branch_93 : decode cX12_branch 93 = .ok (.iconst 1, 1) := by decide +kernel
theorem dX12_branch_94 : decode cX12_branch 94 = .ok (.iadd, 1) := by decide +kernel
theorem dX12_branch_95 : decode cX12_branch 95 = .ok (.invokevirtual 457, 3) := by decide +kernel
theorem dX12_branch_98 : decode cX12_branch 98 = .ok (.invokestatic 470, 3) := by decide +kernel
theorem dX12_branch_101 : decode cX12_branch 101 = .ok (.invokevirtual 460, 3) := by decide +kernel
theorem dX12_branch_104 : decode cX12_branch 104 = .ok (.iload_n 1, 1) := by decide +kernel
theorem dX12_branch_105 : decode cX12_branch 105 = .ok (.bipush 29, 2) := by decide +kernel
theorem dX12_branch_107 : decode cX12_branch 107 = .ok (.if_icmp .ne 17, 3) := by decide +kernel
theorem dX12_branch_110 : decode cX12_branch 110 = .ok (.iload_n 3, 1) := by decide +kernel
theorem dX12_branch_111 : decode cX12_branch 111 = .ok (.iload 5, 2) := by decide +kernel
theorem dX12_branch_113 : decode cX12_branch 113 = .ok (.if_icmp .ne 7, 3) := by decide +kernel
theorem dX12_branch_116 : decode cX12_branch 116 = .ok (.iconst 1, 1) := by decide +kernel
theorem dX12_branch_117 : decode cX12_branch 117 = .ok (.goto 96, 3) := by decide +kernel
theorem dX12_branch_120 : decode cX12_branch 120 = .ok (.iconst 0, 1) := by decide +kernel
theorem dX12_branch_121 : decode cX12_branch 121 = .ok (.goto 92, 3) := by decide +kernel
theorem dX12_branch_124 : decode cX12_branch 124 = .ok (.iload_n 1, 1) := by decide +kernel
theorem dX12_branch_125 : decode cX12_branch 125 = .ok (.bipush 30, 2) := by decide +kernel
theorem dX12_branch_127 : decode cX12_branch 127 = .ok (.if_icmp .ne 17, 3) := by decide +kernel
theorem dX12_branch_130 : decode cX12_branch 130 = .ok (.iload_n 3, 1) := by decide +kernel
theorem dX12_branch_131 : decode cX12_branch 131 = .ok (.iload 5, 2) := by decide +kernel
theorem dX12_branch_133 : decode cX12_branch 133 = .ok (.if_icmp .eq 7, 3) := by decide +kernel
theorem dX12_branch_136 : decode cX12_branch 136 = .ok (.iconst 1, 1) := by decide +kernel
theorem dX12_branch_137 : decode cX12_branch 137 = .ok (.goto 76, 3) := by decide +kernel
theorem dX12_branch_140 : decode cX12_branch 140 = .ok (.iconst 0, 1) := by decide +kernel
theorem dX12_branch_141 : decode cX12_branch 141 = .ok (.goto 72, 3) := by decide +kernel
theorem dX12_branch_144 : decode cX12_branch 144 = .ok (.iload_n 1, 1) := by decide +kernel
theorem dX12_branch_145 : decode cX12_branch 145 = .ok (.bipush 31, 2) := by decide +kernel
theorem dX12_branch_147 : decode cX12_branch 147 = .ok (.if_icmp .ne 17, 3) := by decide +kernel
theorem dX12_branch_150 : decode cX12_branch 150 = .ok (.iload_n 3, 1) := by decide +kernel
theorem dX12_branch_151 : decode cX12_branch 151 = .ok (.iload 5, 2) := by decide +kernel
theorem dX12_branch_153 : decode cX12_branch 153 = .ok (.if_icmp .ge 7, 3) := by decide +kernel
theorem dX12_branch_156 : decode cX12_branch 156 = .ok (.iconst 1, 1) := by decide +kernel
theorem dX12_branch_157 : decode cX12_branch 157 = .ok (.goto 56, 3) := by decide +kernel
theorem dX12_branch_160 : decode cX12_branch 160 = .ok (.iconst 0, 1) := by decide +kernel
theorem dX12_branch_161 : decode cX12_branch 161 = .ok (.goto 52, 3) := by decide +kernel
theorem dX12_branch_164 : decode cX12_branch 164 = .ok (.iload_n 1, 1) := by decide +kernel
theorem dX12_branch_165 : decode cX12_branch 165 = .ok (.bipush 32, 2) := by decide +kernel
theorem dX12_branch_167 : decode cX12_branch 167 = .ok (.if_icmp .ne 17, 3) := by decide +kernel
theorem dX12_branch_170 : decode cX12_branch 170 = .ok (.iload_n 3, 1) := by decide +kernel
theorem dX12_branch_171 : decode cX12_branch 171 = .ok (.iload 5, 2) := by decide +kernel
theorem dX12_branch_173 : decode cX12_branch 173 = .ok (.if_icmp .lt 7, 3) := by decide +kernel
theorem dX12_branch_176 : decode cX12_branch 176 = .ok (.iconst 1, 1) := by decide +kernel
theorem dX12_branch_177 : decode cX12_branch 177 = .ok (.goto 36, 3) := by decide +kernel
theorem dX12_branch_180 : decode cX12_branch 180 = .ok (.iconst 0, 1) := by decide +kernel
theorem dX12_branch_181 : decode cX12_branch 181 = .ok (.goto 32, 3) := by decide +kernel
theorem dX12_branch_184 : decode cX12_branch 184 = .ok (.iload_n 1, 1) := by decide +kernel
theorem dX12_branch_185 : decode cX12_branch 185 = .ok (.bipush 33, 2) := by decide +kernel
theorem dX12_branch_187 : decode cX12_branch 187 = .ok (.if_icmp .ne 12, 3) := by decide +kernel
theorem dX12_branch_190 : decode cX12_branch 190 = .ok (.iload_n 3, 1) := by decide +kernel
theorem dX12_branch_191 : decode cX12_branch 191 = .ok (.iload 5, 2) := by decide +kernel
theorem dX12_branch_193 : decode cX12_branch 193 = .ok (.invokestatic 430, 3) := by decide +kernel
theorem dX12_branch_196 : decode cX12_branch 196 = .ok (.goto 17, 3) := by decide +kernel
theorem dX12_branch_199 : decode cX12_branch 199 = .ok (.iload_n 3, 1) := by decide +kernel
theorem dX12_branch_200 : decode cX12_branch 200 = .ok (.iload 5, 2) := by decide +kernel
theorem dX12_branch_202 : decode cX12_branch 202 = .ok (.invokestatic 430, 3) := by decide +kernel
theorem dX12_branch_205 : decode cX12_branch 205 = .ok (.ifCond .ne 7, 3) := by decide +kernel
theorem dX12_branch_208 : decode cX12_branch 208 = .ok (.iconst 1, 1) := by decide +kernel
theorem dX12_branch_209 : decode cX12_branch 209 = .ok (.goto 4, 3) := by decide +kernel
theorem dX12_branch_212 : decode cX12_branch 212 = .ok (.iconst 0, 1) := by decide +kernel
theorem dX12_branch_213 : decode cX12_branch 213 = .ok (.istore 8, 2) := by decide +kernel
theorem dX12_branch_215 : decode cX12_branch 215 = .ok (.aload_n 0, 1) := by decide +kernel
theorem dX12_branch_216 : decode cX12_branch 216 = .ok (.getfield 85, 3) := by decide +kernel
theorem dX12_branch_219 : decode cX12_branch 219 = .ok (.aload_n 0, 1) := by decide +kernel
theorem dX12_branch_220 : decode cX12_branch 220 = .ok (.getfield 394, 3) := by decide +kernel
theorem dX12_branch_223 : decode cX12_branch 223 = .ok (.aload_n 0, 1) := by decide +kernel
theorem dX12_branch_224 : decode cX12_branch 224 = .ok (.getfield 85, 3) := by decide +kernel
theorem dX12_branch_227 : decode cX12_branch 227 = .ok (.aload_n 0, 1) := by decide +kernel
theorem dX12_branch_228 : decode cX12_branch 228 = .ok (.getfield 394, 3) := by decide +kernel
theorem dX12_branch_231 : decode cX12_branch 231 = .ok (.iaload, 1) := by decide +kernel
theorem dX12_branch_232 : decode cX12_branch 232 = .ok (.bipush 31, 2) := by decide +kernel
theorem dX12_branch_234 : decode cX12_branch 234 = .ok (.imul, 1) := by decide +kernel
theorem dX12_branch_235 : decode cX12_branch 235 = .ok (.iload 8, 2) := by decide +kernel
theorem dX12_branch_237 : decode cX12_branch 237 = .ok (.ifCond .eq 7, 3) := by decide +kernel
theorem dX12_branch_240 : decode cX12_branch 240 = .ok (.iconst 1, 1) := by decide +kernel
theorem dX12_branch_241 : decode cX12_branch 241 = .ok (.goto 4, 3) := by decide +kernel
theorem dX12_branch_244 : decode cX12_branch 244 = .ok (.iconst 2, 1) := by decide +kernel
theorem dX12_branch_245 : decode cX12_branch 245 = .ok (.iadd, 1) := by decide +kernel
theorem dX12_branch_246 : decode cX12_branch 246 = .ok (.iastore, 1) := by decide +kernel
theorem dX12_branch_247 : decode cX12_branch 247 = .ok (.iload 8, 2) := by decide +kernel
theorem dX12_branch_249 : decode cX12_branch 249 = .ok (.ifCond .eq 20, 3) := by decide +kernel
theorem dX12_branch_252 : decode cX12_branch 252 = .ok (.aload_n 0, 1) := by decide +kernel
theorem dX12_branch_253 : decode cX12_branch 253 = .ok (.getfield 76, 3) := by decide +kernel
theorem dX12_branch_256 : decode cX12_branch 256 = .ok (.aload_n 0, 1) := by decide +kernel
theorem dX12_branch_257 : decode cX12_branch 257 = .ok (.getfield 394, 3) := by decide +kernel
theorem dX12_branch_260 : decode cX12_branch 260 = .ok (.aload_n 0, 1) := by decide +kernel
theorem dX12_branch_261 : decode cX12_branch 261 = .ok (.getfield 24, 3) := by decide +kernel
theorem dX12_branch_264 : decode cX12_branch 264 = .ok (.iload_n 2, 1) := by decide +kernel
theorem dX12_branch_265 : decode cX12_branch 265 = .ok (.iconst 2, 1) := by decide +kernel
theorem dX12_branch_266 : decode cX12_branch 266 = .ok (.iadd, 1) := by decide +kernel
theorem dX12_branch_267 : decode cX12_branch 267 = .ok (.iaload, 1) := by decide +kernel
theorem dX12_branch_268 : decode cX12_branch 268 = .ok (.iastore, 1) := by decide +kernel
theorem dX12_branch_269 : decode cX12_branch 269 = .ok (.return_, 1) := by decide +kernel
theorem dX12_push_0 : decode cX12_push 0 = .ok (.aload_n 0, 1) := by decide +kernel
theorem dX12_push_1 : decode cX12_push 1 = .ok (.getfield 58, 3) := by decide +kernel
theorem dX12_push_4 : decode cX12_push 4 = .ok (.bipush 8, 2) := by decide +kernel
theorem dX12_push_6 : decode cX12_push 6 = .ok (.aload_n 0, 1) := by decide +kernel
theorem dX12_push_7 : decode cX12_push 7 = .ok (.getfield 394, 3) := by decide +kernel
theorem dX12_push_10 : decode cX12_push 10 = .ok (.imul, 1) := by decide +kernel
theorem dX12_push_11 : decode cX12_push 11 = .ok (.bipush 7, 2) := by decide +kernel
theorem dX12_push_13 : decode cX12_push 13 = .ok (.iadd, 1) := by decide +kernel
theorem dX12_push_14 : decode cX12_push 14 = .ok (.iaload, 1) := by decide +kernel
theorem dX12_push_15 : decode cX12_push 15 = .ok (.ifCond .eq 23, 3) := by decide +kernel
theorem dX12_push_18 : decode cX12_push 18 = .ok (.aload_n 0, 1) := by decide +kernel
theorem dX12_push_19 : decode cX12_push 19 = .ok (.iconst 2, 1) := by decide +kernel
theorem dX12_push_20 : decode cX12_push 20 = .ok (.aload_n 0, 1) := by decide +kernel
theorem dX12_push_21 : decode cX12_push 21 = .ok (.getfield 61, 3) := by decide +kernel
theorem dX12_push_24 : decode cX12_push 24 = .ok (.bipush 8, 2) := by decide +kernel
theorem dX12_push_26 : decode cX12_push 26 = .ok (.aload_n 0, 1) := by decide +kernel
theorem dX12_push_27 : decode cX12_push 27 = .ok (.getfield 394, 3) := by decide +kernel
theorem dX12_push_30 : decode cX12_push 30 = .ok (.imul, 1) := by decide +kernel
theorem dX12_push_31 : decode cX12_push 31 = .ok (.bipush 7, 2) := by decide +kernel
theorem dX12_push_33 : decode cX12_push 33 = .ok (.iadd, 1) := by decide +kernel
theorem dX12_push_34 : decode cX12_push 34 = .ok (.iaload, 1) := by decide +kernel
theorem dX12_push_35 : decode cX12_push 35 = .ok (.invokevirtual 460, 3) := by decide +kernel
theorem dX12_push_38 : decode cX12_push 38 = .ok (.aload_n 0, 1) := by decide +kernel
theorem dX12_push_39 : decode cX12_push 39 = .ok (.iload_n 1, 1) := by decide +kernel
theorem dX12_push_40 : decode cX12_push 40 = .ok (.invokevirtual 451, 3) := by decide +kernel
theorem dX12_push_43 : decode cX12_push 43 = .ok (.istore_n 2, 1) := by decide +kernel
theorem dX12_push_44 : decode cX12_push 44 = .ok (.aload_n 0, 1) := by decide +kernel
theorem dX12_push_45 : decode cX12_push 45 = .ok (.iload_n 1, 1) := by decide +kernel
theorem dX12_push_46 : decode cX12_push 46 = .ok (.invokevirtual 454, 3) := by decide +kernel
theorem dX12_push_49 : decode cX12_push 49 = .ok (.istore_n 3, 1) := by decide +kernel
theorem dX12_push_50 : decode cX12_push 50 = .ok (.aload_n 0, 1) := by decide +kernel
theorem dX12_push_51 : decode cX12_push 51 = .ok (.iload_n 1, 1) := by decide +kernel
theorem dX12_push_52 : decode cX12_push 52 = .ok (.invokevirtual 457, 3) := by decide +kernel
theorem dX12_push_55 : decode cX12_push 55 = .ok (.istore 4, 2) := by decide +kernel
theorem dX12_push_57 : decode cX12_push 57 = .ok (.aload_n 0, 1) := by decide +kernel
theorem dX12_push_58 : decode cX12_push 58 = .ok (.bipush 7, 2) := by decide +kernel
theorem dX12_push_60 : decode cX12_push 60 = .ok (.aload_n 0, 1) := by decide +kernel
theorem dX12_push_61 : decode cX12_push 61 = .ok (.getfield 55, 3) := by decide +kernel
theorem dX12_push_64 : decode cX12_push 64 = .ok (.bipush 8, 2) := by decide +kernel
theorem dX12_push_66 : decode cX12_push 66 = .ok (.aload_n 0, 1) := by decide +kernel
theorem dX12_push_67 : decode cX12_push 67 = .ok (.getfield 394, 3) := by decide +kernel
theorem dX12_push_70 : decode cX12_push 70 = .ok (.imul, 1) := by decide +kernel
theorem dX12_push_71 : decode cX12_push 71 = .ok (.bipush 7, 2) := by decide +kernel
theorem dX12_push_73 : decode cX12_push 73 = .ok (.iadd, 1) := by decide +kernel
theorem dX12_push_74 : decode cX12_push 74 = .ok (.iaload, 1) := by decide +kernel
theorem dX12_push_75 : decode cX12_push 75 = .ok (.iconst 4, 1) := by decide +kernel
theorem dX12_push_76 : decode cX12_push 76 = .ok (.isub, 1) := by decide +kernel
theorem dX12_push_77 : decode cX12_push 77 = .ok (.iconst 0, 1) := by decide +kernel
theorem dX12_push_78 : decode cX12_push 78 = .ok (.iconst 0, 1) := by decide +kernel
theorem dX12_push_79 : decode cX12_push 79 = .ok (.invokevirtual 473, 3) := by decide +kernel
theorem dX12_push_82 : decode cX12_push 82 = .ok (.aload_n 0, 1) := by decide +kernel
theorem dX12_push_83 : decode cX12_push 83 = .ok (.getfield 79, 3) := by decide +kernel
theorem dX12_push_86 : decode cX12_push 86 = .ok (.aload_n 0, 1) := by decide +kernel
theorem dX12_push_87 : decode cX12_push 87 = .ok (.getfield 394, 3) := by decide +kernel
theorem dX12_push_90 : decode cX12_push 90 = .ok (.iaload, 1) := by decide +kernel
theorem dX12_push_91 : decode cX12_push 91 = .ok (.ifCond .ne 27, 3) := by decide +kernel
theorem dX12_push_94 : decode cX12_push 94 = .ok (.aload_n 0, 1) := by decide +kernel
theorem dX12_push_95 : decode cX12_push 95 = .ok (.aload_n 0, 1) := by decide +kernel
theorem dX12_push_96 : decode cX12_push 96 = .ok (.getfield 55, 3) := by decide +kernel
theorem dX12_push_99 : decode cX12_push 99 = .ok (.bipush 8, 2) := by decide +kernel
theorem dX12_push_101 : decode cX12_push 101 = .ok (.aload_n 0, 1) := by decide +kernel
theorem dX12_push_102 : decode cX12_push 102 = .ok (.getfield 394, 3) := by decide +kernel
theorem dX12_push_105 : decode cX12_push 105 = .ok (.imul, 1) := by decide +kernel
theorem dX12_push_106 : decode cX12_push 106 = .ok (.bipush 7, 2) := by decide +kernel
theorem dX12_push_108 : decode cX12_push 108 = .ok (.iadd, 1) := by decide +kernel
theorem dX12_push_109 : decode cX12_push 109 = .ok (.iaload, 1) := by decide +kernel
theorem dX12_push_110 : decode cX12_push 110 = .ok (.iconst 4, 1) := by decide +kernel
theorem dX12_push_111 : decode cX12_push 111 = .ok (.iload_n 2, 1) := by decide +kernel
theorem dX12_push_112 : decode cX12_push 112 = .ok (.iload_n 3, 1) := by decide +kernel
theorem dX12_push_113 : decode cX12_push 113 = .ok (.iload 4, 2) := by decide +kernel
theorem dX12_push_115 : decode cX12_push 115 = .ok (.invokevirtual 493, 3) := by decide +kernel
theorem dX12_push_118 : decode cX12_push 118 = .ok (.return_, 1) := by decide +kernel
theorem dX12_pop_0 : decode cX12_pop 0 = .ok (.aload_n 0, 1) := by decide +kernel
theorem dX12_pop_1 : decode cX12_pop 1 = .ok (.getfield 58, 3) := by decide +kernel
theorem dX12_pop_4 : decode cX12_pop 4 = .ok (.bipush 8, 2) := by decide +kernel
theorem dX12_pop_6 : decode cX12_pop 6 = .ok (.aload_n 0, 1) := by decide +kernel
theorem dX12_pop_7 : decode cX12_pop 7 = .ok (.getfield 394, 3) := by decide +kernel
theorem dX12_pop_10 : decode cX12_pop 10 = .ok (.imul, 1) := by decide +kernel
theorem dX12_pop_11 : decode cX12_pop 11 = .ok (.bipush 7, 2) := by decide +kernel
theorem dX12_pop_13 : decode cX12_pop 13 = .ok (.iadd, 1) := by decide +kernel
theorem dX12_pop_14 : decode cX12_pop 14 = .ok (.iaload, 1) := by decide +kernel
theorem dX12_pop_15 : decode cX12_pop 15 = .ok (.ifCond .eq 23, 3) := by decide +kernel
theorem dX12_pop_18 : decode cX12_pop 18 = .ok (.aload_n 0, 1) := by decide +kernel
theorem dX12_pop_19 : decode cX12_pop 19 = .ok (.iconst 2, 1) := by decide +kernel
theorem dX12_pop_20 : decode cX12_pop 20 = .ok (.aload_n 0, 1) := by decide +kernel
theorem dX12_pop_21 : decode cX12_pop 21 = .ok (.getfield 61, 3) := by decide +kernel
theorem dX12_pop_24 : decode cX12_pop 24 = .ok (.bipush 8, 2) := by decide +kernel
theorem dX12_pop_26 : decode cX12_pop 26 = .ok (.aload_n 0, 1) := by decide +kernel
theorem dX12_pop_27 : decode cX12_pop 27 = .ok (.getfield 394, 3) := by decide +kernel
theorem dX12_pop_30 : decode cX12_pop 30 = .ok (.imul, 1) := by decide +kernel
theorem dX12_pop_31 : decode cX12_pop 31 = .ok (.bipush 7, 2) := by decide +kernel
theorem dX12_pop_33 : decode cX12_pop 33 = .ok (.iadd, 1) := by decide +kernel
theorem dX12_pop_34 : decode cX12_pop 34 = .ok (.iaload, 1) := by decide +kernel
theorem dX12_pop_35 : decode cX12_pop 35 = .ok (.invokevirtual 460, 3) := by decide +kernel
theorem dX12_pop_38 : decode cX12_pop 38 = .ok (.aload_n 0, 1) := by decide +kernel
theorem dX12_pop_39 : decode cX12_pop 39 = .ok (.aload_n 0, 1) := by decide +kernel
theorem dX12_pop_40 : decode cX12_pop 40 = .ok (.getfield 24, 3) := by decide +kernel
theorem dX12_pop_43 : decode cX12_pop 43 = .ok (.iload_n 1, 1) := by decide +kernel
theorem dX12_pop_44 : decode cX12_pop 44 = .ok (.iaload, 1) := by decide +kernel
theorem dX12_pop_45 : decode cX12_pop 45 = .ok (.aload_n 0, 1) := by decide +kernel
theorem dX12_pop_46 : decode cX12_pop 46 = .ok (.getfield 55, 3) := by decide +kernel
theorem dX12_pop_49 : decode cX12_pop 49 = .ok (.bipush 8, 2) := by decide +kernel
theorem dX12_pop_51 : decode cX12_pop 51 = .ok (.aload_n 0, 1) := by decide +kernel
theorem dX12_pop_52 : decode cX12_pop 52 = .ok (.getfield 394, 3) := by decide +kernel
theorem dX12_pop_55 : decode cX12_pop 55 = .ok (.imul, 1) := by decide +kernel
theorem dX12_pop_56 : decode cX12_pop 56 = .ok (.bipush 7, 2) := by decide +kernel
theorem dX12_pop_58 : decode cX12_pop 58 = .ok (.iadd, 1) := by decide +kernel
theorem dX12_pop_59 : decode cX12_pop 59 = .ok (.iaload, 1) := by decide +kernel
theorem dX12_pop_60 : decode cX12_pop 60 = .ok (.iconst 4, 1) := by decide +kernel
theorem dX12_pop_61 : decode cX12_pop 61 = .ok (.iconst 0, 1) := by decide +kernel
theorem dX12_pop_62 : decode cX12_pop 62 = .ok (.invokevirtual 489, 3) := by decide +kernel
theorem dX12_pop_65 : decode cX12_pop 65 = .ok (.aload_n 0, 1) := by decide +kernel
theorem dX12_pop_66 : decode cX12_pop 66 = .ok (.getfield 79, 3) := by decide +kernel
theorem dX12_pop_69 : decode cX12_pop 69 = .ok (.aload_n 0, 1) := by decide +kernel
theorem dX12_pop_70 : decode cX12_pop 70 = .ok (.getfield 394, 3) := by decide +kernel
theorem dX12_pop_73 : decode cX12_pop 73 = .ok (.iaload, 1) := by decide +kernel
theorem dX12_pop_74 : decode cX12_pop 74 = .ok (.ifCond .ne 39, 3) := by decide +kernel
theorem dX12_pop_77 : decode cX12_pop 77 = .ok (.aload_n 0, 1) := by decide +kernel
theorem dX12_pop_78 : decode cX12_pop 78 = .ok (.getfield 24, 3) := by decide +kernel
theorem dX12_pop_81 : decode cX12_pop 81 = .ok (.iload_n 1, 1) := by decide +kernel
theorem dX12_pop_82 : decode cX12_pop 82 = .ok (.iaload, 1) := by decide +kernel
theorem dX12_pop_83 : decode cX12_pop 83 = .ok (.bipush 7, 2) := by decide +kernel
theorem dX12_pop_85 : decode cX12_pop 85 = .ok (.if_icmp .eq 28, 3) := by decide +kernel
theorem dX12_pop_88 : decode cX12_pop 88 = .ok (.aload_n 0, 1) := by decide +kernel
theorem dX12_pop_89 : decode cX12_pop 89 = .ok (.bipush 7, 2) := by decide +kernel
theorem dX12_pop_91 : decode cX12_pop 91 = .ok (.aload_n 0, 1) := by decide +kernel
theorem dX12_pop_92 : decode cX12_pop 92 = .ok (.getfield 55, 3) := by decide +kernel
theorem dX12_pop_95 : decode cX12_pop 95 = .ok (.bipush 8, 2) := by decide +kernel
theorem dX12_pop_97 : decode cX12_pop 97 = .ok (.aload_n 0, 1) := by decide +kernel
theorem dX12_pop_98 : decode cX12_pop 98 = .ok (.getfield 394, 3) := by decide +kernel
theorem dX12_pop_101 : decode cX12_pop 101 = .ok (.imul, 1) := by decide +kernel
theorem dX12_pop_102 : decode cX12_pop 102 = .ok (.bipush 7, 2) := by decide +kernel
theorem dX12_pop_104 : decode cX12_pop 104 = .ok (.iadd, 1) := by decide +kernel
theorem dX12_pop_105 : decode cX12_pop 105 = .ok (.iaload, 1) := by decide +kernel
theorem dX12_pop_106 : decode cX12_pop 106 = .ok (.iconst 4, 1) := by decide +kernel
theorem dX12_pop_107 : decode cX12_pop 107 = .ok (.iadd, 1) := by decide +kernel
theorem dX12_pop_108 : decode cX12_pop 108 = .ok (.iconst 0, 1) := by decide +kernel
theorem dX12_pop_109 : decode cX12_pop 109 = .ok (.iconst 0, 1) := by decide +kernel
theorem dX12_pop_110 : decode cX12_pop 110 = .ok (.invokevirtual 473, 3) := by decide +kernel
theorem dX12_pop_113 : decode cX12_pop 113 = .ok (.return_, 1) := by decide +kernel
theorem dX12_call_0 : decode cX12_call 0 = .ok (.aload_n 0, 1) := by decide +kernel
theorem dX12_call_1 : decode cX12_call 1 = .ok (.getfield 94, 3) := by decide +kernel
theorem dX12_call_4 : decode cX12_call 4 = .ok (.aload_n 0, 1) := by decide +kernel
theorem dX12_call_5 : decode cX12_call 5 = .ok (.getfield 394, 3) := by decide +kernel
theorem dX12_call_8 : decode cX12_call 8 = .ok (.iaload, 1) := by decide +kernel
theorem dX12_call_9 : decode cX12_call 9 = .ok (.bipush 32, 2) := by decide +kernel
theorem dX12_call_11 : decode cX12_call 11 = .ok (.if_icmp .ne 9, 3) := by decide +kernel
theorem dX12_call_14 : decode cX12_call 14 = .ok (.aload_n 0, 1) := by decide +kernel
theorem dX12_call_15 : decode cX12_call 15 = .ok (.iconst 3, 1) := by decide +kernel
theorem dX12_call_16 : decode cX12_call 16 = .ok (.invokevirtual 423, 3) := by decide +kernel
theorem dX12_call_19 : decode cX12_call 19 = .ok (.return_, 1) := by decide +kernel
theorem dX12_call_20 : decode cX12_call 20 = .ok (.aload_n 0, 1) := by decide +kernel
theorem dX12_call_21 : decode cX12_call 21 = .ok (.getfield 91, 3) := by decide +kernel
theorem dX12_call_24 : decode cX12_call 24 = .ok (.bipush 32, 2) := by decide +kernel
theorem dX12_call_26 : decode cX12_call 26 = .ok (.aload_n 0, 1) := by decide +kernel
theorem dX12_call_27 : decode cX12_call 27 = .ok (.getfield 394, 3) := by decide +kernel
theorem dX12_call_30 : decode cX12_call 30 = .ok (.imul, 1) := by decide +kernel
theorem dX12_call_31 : decode cX12_call 31 = .ok (.aload_n 0, 1) := by decide +kernel
theorem dX12_call_32 : decode cX12_call 32 = .ok (.getfield 94, 3) := by decide +kernel
theorem dX12_call_35 : decode cX12_call 35 = .ok (.aload_n 0, 1) := by decide +kernel
theorem dX12_call_36 : decode cX12_call 36 = .ok (.getfield 394, 3) := by decide +kernel
theorem dX12_call_39 : decode cX12_call 39 = .ok (.iaload, 1) := by decide +kernel
theorem dX12_call_40 : decode cX12_call 40 = .ok (.iadd, 1) := by decide +kernel
theorem dX12_call_41 : decode cX12_call 41 = .ok (.aload_n 0, 1) := by decide +kernel
theorem dX12_call_42 : decode cX12_call 42 = .ok (.getfield 76, 3) := by decide +kernel
theorem dX12_call_45 : decode cX12_call 45 = .ok (.aload_n 0, 1) := by decide +kernel
theorem dX12_call_46 : decode cX12_call 46 = .ok (.getfield 394, 3) := by decide +kernel
theorem dX12_call_49 : decode cX12_call 49 = .ok (.iaload, 1) := by decide +kernel
theorem dX12_call_50 : decode cX12_call 50 = .ok (.iastore, 1) := by decide +kernel
theorem dX12_call_51 : decode cX12_call 51 = .ok (.aload_n 0, 1) := by decide +kernel
theorem dX12_call_52 : decode cX12_call 52 = .ok (.getfield 94, 3) := by decide +kernel
theorem dX12_call_55 : decode cX12_call 55 = .ok (.aload_n 0, 1) := by decide +kernel
theorem dX12_call_56 : decode cX12_call 56 = .ok (.getfield 394, 3) := by decide +kernel
theorem dX12_call_59 : decode cX12_call 59 = .ok (.dup2, 1) := by decide +kernel
theorem dX12_call_60 : decode cX12_call 60 = .ok (.iaload, 1) := by decide +kernel
theorem dX12_call_61 : decode cX12_call 61 = .ok (.iconst 1, 1) := by decide +kernel
theorem dX12_call_62 : decode cX12_call 62 = .ok (.iadd, 1) := by decide +kernel
theorem dX12_call_63 : decode cX12_call 63 = .ok (.iastore, 1) := by decide +kernel
theorem dX12_call_64 : decode cX12_call 64 = .ok (.aload_n 0, 1) := by decide +kernel
theorem dX12_call_65 : decode cX12_call 65 = .ok (.getfield 76, 3) := by decide +kernel
theorem dX12_call_68 : decode cX12_call 68 = .ok (.aload_n 0, 1) := by decide +kernel
theorem dX12_call_69 : decode cX12_call 69 = .ok (.getfield 394, 3) := by decide +kernel
theorem dX12_call_72 : decode cX12_call 72 = .ok (.iload_n 1, 1) := by decide +kernel
theorem dX12_call_73 : decode cX12_call 73 = .ok (.iastore, 1) := by decide +kernel
theorem dX12_call_74 : decode cX12_call 74 = .ok (.return_, 1) := by decide +kernel
theorem dX12_copy_0 : decode cX12_copy 0 = .ok (.aload_n 0, 1) := by decide +kernel
theorem dX12_copy_1 : decode cX12_copy 1 = .ok (.iload_n 1, 1) := by decide +kernel
theorem dX12_copy_2 : decode cX12_copy 2 = .ok (.iconst 2, 1) := by decide +kernel
theorem dX12_copy_3 : decode cX12_copy 3 = .ok (.iadd, 1) := by decide +kernel
theorem dX12_copy_4 : decode cX12_copy 4 = .ok (.invokevirtual 451, 3) := by decide +kernel
theorem dX12_copy_7 : decode cX12_copy 7 = .ok (.istore_n 2, 1) := by decide +kernel
theorem dX12_copy_8 : decode cX12_copy 8 = .ok (.aload_n 0, 1) := by decide +kernel
theorem dX12_copy_9 : decode cX12_copy 9 = .ok (.iload_n 1, 1) := by decide +kernel
theorem dX12_copy_10 : decode cX12_copy 10 = .ok (.invokevirtual 454, 3) := by decide +kernel
theorem dX12_copy_13 : decode cX12_copy 13 = .ok (.ifCond .eq 13, 3) := by decide +kernel
theorem dX12_copy_16 : decode cX12_copy 16 = .ok (.aload_n 0, 1) := by decide +kernel
theorem dX12_copy_17 : decode cX12_copy 17 = .ok (.iconst 2, 1) := by decide +kernel
theorem dX12_copy_18 : decode cX12_copy 18 = .ok (.aload_n 0, 1) := by decide +kernel
theorem dX12_copy_19 : decode cX12_copy 19 = .ok (.iload_n 1, 1) := by decide +kernel
theorem dX12_copy_20 : decode cX12_copy 20 = .ok (.invokevirtual 457, 3) := by decide +kernel
theorem dX12_copy_23 : decode cX12_copy 23 = .ok (.invokevirtual 460, 3) := by decide +kernel
theorem dX12_copy_26 : decode cX12_copy 26 = .ok (.aload_n 0, 1) := by decide +kernel
theorem dX12_copy_27 : decode cX12_copy 27 = .ok (.iload_n 1, 1) := by decide +kernel
theorem dX12_copy_28 : decode cX12_copy 28 = .ok (.iconst 1, 1) := by decide +kernel
theorem dX12_copy_29 : decode cX12_copy 29 = .ok (.iadd, 1) := by decide +kernel
theorem dX12_copy_30 : decode cX12_copy 30 = .ok (.invokevirtual 454, 3) := by decide +kernel
theorem dX12_copy_33 : decode cX12_copy 33 = .ok (.ifCond .eq 15, 3) := by decide +kernel
theorem dX12_copy_36 : decode cX12_copy 36 = .ok (.aload_n 0, 1) := by decide +kernel
theorem dX12_copy_37 : decode cX12_copy 37 = .ok (.iconst 2, 1) := by decide +kernel
theorem dX12_copy_38 : decode cX12_copy 38 = .ok (.aload_n 0, 1) := by decide +kernel
theorem dX12_copy_39 : decode cX12_copy 39 = .ok (.iload_n 1, 1) := by decide +kernel
theorem dX12_copy_40 : decode cX12_copy 40 = .ok (.iconst 1, 1) := by decide +kernel
theorem dX12_copy_41 : decode cX12_copy 41 = .ok (.iadd, 1) := by decide +kernel
theorem dX12_copy_42 : decode cX12_copy 42 = .ok (.invokevirtual 457, 3) := by decide +kernel
theorem dX12_copy_45 : decode cX12_copy 45 = .ok (.invokevirtual 460, 3) := by decide +kernel
theorem dX12_copy_48 : decode cX12_copy 48 = .ok (.aload_n 0, 1) := by decide +kernel
theorem dX12_copy_49 : decode cX12_copy 49 = .ok (.iload_n 1, 1) := by decide +kernel
theorem dX12_copy_50 : decode cX12_copy 50 = .ok (.iconst 2, 1) := by decide +kernel
theorem dX12_copy_51 : decode cX12_copy 51 = .ok (.iadd, 1) := by decide +kernel
theorem dX12_copy_52 : decode cX12_copy 52 = .ok (.invokevirtual 454, 3) := by decide +kernel
theorem dX12_copy_55 : decode cX12_copy 55 = .ok (.ifCond .eq 15, 3) := by decide +kernel
theorem dX12_copy_58 : decode cX12_copy 58 = .ok (.aload_n 0, 1) := by decide +kernel
theorem dX12_copy_59 : decode cX12_copy 59 = .ok (.iconst 5, 1) := by decide +kernel
theorem dX12_copy_60 : decode cX12_copy 60 = .ok (.aload_n 0, 1) := by decide +kernel
theorem dX12_copy_61 : decode cX12_copy 61 = .ok (.iload_n 1, 1) := by decide +kernel
theorem dX12_copy_62 : decode cX12_copy 62 = .ok (.iconst 2, 1) := by decide +kernel
theorem dX12_copy_63 : decode cX12_copy 63 = .ok (.iadd, 1) := by decide +kernel
theorem dX12_copy_64 : decode cX12_copy 64 = .ok (.invokevirtual 457, 3) := by decide +kernel
theorem dX12_copy_67 : decode cX12_copy 67 = .ok (.invokevirtual 460, 3) := by decide +kernel
theorem dX12_copy_70 : decode cX12_copy 70 = .ok (.iload_n 2, 1) := by decide +kernel
theorem dX12_copy_71 : decode cX12_copy 71 = .ok (.ifCond .lt 10, 3) := by decide +kernel
theorem dX12_copy_74 : decode cX12_copy 74 = .ok (.iload_n 2, 1) := by decide +kernel
theorem dX12_copy_75 : decode cX12_copy 75 = .ok (.sipush 256, 3) := by decide +kernel
theorem dX12_copy_78 : decode cX12_copy 78 = .ok (.if_icmp .le 9, 3) := by decide +kernel
theorem dX12_copy_81 : decode cX12_copy 81 = .ok (.aload_n 0, 1) := by decide +kernel
theorem dX12_copy_82 : decode cX12_copy 82 = .ok (.iconst 4, 1) := by decide +kernel
theorem dX12_copy_83 : decode cX12_copy 83 = .ok (.invokevirtual 423, 3) := by decide +kernel
theorem dX12_copy_86 : decode cX12_copy 86 = .ok (.return_, 1) := by decide +kernel
theorem dX12_copy_87 : decode cX12_copy 87 = .ok (.aload_n 0, 1) := by decide +kernel
theorem dX12_copy_88 : decode cX12_copy 88 = .ok (.iload_n 1, 1) := by decide +kernel
theorem dX12_copy_89 : decode cX12_copy 89 = .ok (.invokevirtual 451, 3) := by decide +kernel
theorem dX12_copy_92 : decode cX12_copy 92 = .ok (.istore_n 3, 1) := by decide +kernel
theorem dX12_copy_93 : decode cX12_copy 93 = .ok (.aload_n 0, 1) := by decide +kernel
theorem dX12_copy_94 : decode cX12_copy 94 = .ok (.iload_n 1, 1) := by decide +kernel
theorem dX12_copy_95 : decode cX12_copy 95 = .ok (.iconst 1, 1) := by decide +kernel
theorem dX12_copy_96 : decode cX12_copy 96 = .ok (.iadd, 1) := by decide +kernel
theorem dX12_copy_97 : decode cX12_copy 97 = .ok (.invokevirtual 451, 3) := by decide +kernel
theorem dX12_copy_100 : decode cX12_copy 100 = .ok (.istore 4, 2) := by decide +kernel
theorem dX12_copy_102 : decode cX12_copy 102 = .ok (.aload_n 0, 1) := by decide +kernel
theorem dX12_copy_103 : decode cX12_copy 103 = .ok (.iload 4, 2) := by decide +kernel
theorem dX12_copy_105 : decode cX12_copy 105 = .ok (.iload_n 2, 1) := by decide +kernel
theorem dX12_copy_106 : decode cX12_copy 106 = .ok (.invokevirtual 486, 3) := by decide +kernel
theorem dX12_copy_109 : decode cX12_copy 109 = .ok (.ifCond .eq 20, 3) := by decide +kernel
theorem dX12_copy_112 : decode cX12_copy 112 = .ok (.aload_n 0, 1) := by decide +kernel
theorem dX12_copy_113 : decode cX12_copy 113 = .ok (.iload_n 3, 1) := by decide +kernel
theorem dX12_copy_114 : decode cX12_copy 114 = .ok (.iload_n 2, 1) := by decide +kernel
theorem dX12_copy_115 : decode cX12_copy 115 = .ok (.invokevirtual 486, 3) := by decide +kernel
theorem dX12_copy_118 : decode cX12_copy 118 = .ok (.ifCond .eq 11, 3) := by decide +kernel
theorem dX12_copy_121 : decode cX12_copy 121 = .ok (.aload_n 0, 1) := by decide +kernel
theorem dX12_copy_122 : decode cX12_copy 122 = .ok (.iload 4, 2) := by decide +kernel
theorem dX12_copy_124 : decode cX12_copy 124 = .ok (.iload_n 3, 1) := by decide +kernel
theorem dX12_copy_125 : decode cX12_copy 125 = .ok (.iload_n 2, 1) := by decide +kernel
theorem dX12_copy_126 : decode cX12_copy 126 = .ok (.invokevirtual 497, 3) := by decide +kernel
theorem dX12_copy_129 : decode cX12_copy 129 = .ok (.return_, 1) := by decide +kernel
theorem dX12_move_0 : decode cX12_move 0 = .ok (.iconst 0, 1) := by decide +kernel
theorem dX12_move_1 : decode cX12_move 1 = .ok (.istore 4, 2) := by decide +kernel
theorem dX12_move_3 : decode cX12_move 3 = .ok (.iload 4, 2) := by decide +kernel
theorem dX12_move_5 : decode cX12_move 5 = .ok (.iload_n 3, 1) := by decide +kernel
theorem dX12_move_6 : decode cX12_move 6 = .ok (.if_icmp .ge 80, 3) := by decide +kernel
theorem dX12_move_9 : decode cX12_move 9 = .ok (.sipush 4096, 3) := by decide +kernel
theorem dX12_move_12 : decode cX12_move 12 = .ok (.aload_n 0, 1) := by decide +kernel
theorem dX12_move_13 : decode cX12_move 13 = .ok (.getfield 394, 3) := by decide +kernel
theorem dX12_move_16 : decode cX12_move 16 = .ok (.imul, 1) := by decide +kernel
theorem dX12_move_17 : decode cX12_move 17 = .ok (.iload_n 1, 1) := by decide +kernel
theorem dX12_move_18 : decode cX12_move 18 = .ok (.iadd, 1) := by decide +kernel
theorem dX12_move_19 : decode cX12_move 19 = .ok (.iload 4, 2) := by decide +kernel
theorem dX12_move_21 : decode cX12_move 21 = .ok (.iadd, 1) := by decide +kernel
theorem dX12_move_22 : decode cX12_move 22 = .ok (.istore 5, 2) := by decide +kernel
theorem dX12_move_24 : decode cX12_move 24 = .ok (.aload_n 0, 1) := by decide +kernel
theorem dX12_move_25 : decode cX12_move 25 = .ok (.getfield 151, 3) := by decide +kernel
theorem dX12_move_28 : decode cX12_move 28 = .ok (.iload 4, 2) := by decide +kernel
theorem dX12_move_30 : decode cX12_move 30 = .ok (.aload_n 0, 1) := by decide +kernel
theorem dX12_move_31 : decode cX12_move 31 = .ok (.getfield 64, 3) := by decide +kernel
theorem dX12_move_34 : decode cX12_move 34 = .ok (.iload 5, 2) := by decide +kernel
theorem dX12_move_36 : decode cX12_move 36 = .ok (.iaload, 1) := by decide +kernel
theorem dX12_move_37 : decode cX12_move 37 = .ok (.iastore, 1) := by decide +kernel
theorem dX12_move_38 : decode cX12_move 38 = .ok (.aload_n 0, 1) := by decide +kernel
theorem dX12_move_39 : decode cX12_move 39 = .ok (.getfield 154, 3) := by decide +kernel
theorem dX12_move_42 : decode cX12_move 42 = .ok (.iload 4, 2) := by decide +kernel
theorem dX12_move_44 : decode cX12_move 44 = .ok (.aload_n 0, 1) := by decide +kernel
theorem dX12_move_45 : decode cX12_move 45 = .ok (.getfield 67, 3) := by decide +kernel
theorem dX12_move_48 : decode cX12_move 48 = .ok (.iload 5, 2) := by decide +kernel
theorem dX12_move_50 : decode cX12_move 50 = .ok (.iaload, 1) := by decide +kernel
theorem dX12_move_51 : decode cX12_move 51 = .ok (.iastore, 1) := by decide +kernel
theorem dX12_move_52 : decode cX12_move 52 = .ok (.aload_n 0, 1) := by decide +kernel
theorem dX12_move_53 : decode cX12_move 53 = .ok (.getfield 157, 3) := by decide +kernel
theorem dX12_move_56 : decode cX12_move 56 = .ok (.iload 4, 2) := by decide +kernel
theorem dX12_move_58 : decode cX12_move 58 = .ok (.aload_n 0, 1) := by decide +kernel
theorem dX12_move_59 : decode cX12_move 59 = .ok (.getfield 67, 3) := by decide +kernel
theorem dX12_move_62 : decode cX12_move 62 = .ok (.iload 5, 2) := by decide +kernel
theorem dX12_move_64 : decode cX12_move 64 = .ok (.iaload, 1) := by decide +kernel
theorem dX12_move_65 : decode cX12_move 65 = .ok (.ifCond .eq 13, 3) := by decide +kernel
theorem dX12_move_68 : decode cX12_move 68 = .ok (.aload_n 0, 1) := by decide +kernel
theorem dX12_move_69 : decode cX12_move 69 = .ok (.getfield 70, 3) := by decide +kernel
theorem dX12_move_72 : decode cX12_move 72 = .ok (.iload 5, 2) := by decide +kernel
theorem dX12_move_74 : decode cX12_move 74 = .ok (.iaload, 1) := by decide +kernel
theorem dX12_move_75 : decode cX12_move 75 = .ok (.goto 4, 3) := by decide +kernel
theorem dX12_move_78 : decode cX12_move 78 = .ok (.iconst 0, 1) := by decide +kernel
theorem dX12_move_79 : decode cX12_move 79 = .ok (.iastore, 1) := by decide +kernel
theorem dX12_move_80 : decode cX12_move 80 = .ok (.iinc 4 1, 3) := by decide +kernel
theorem dX12_move_83 : decode cX12_move 83 = .ok (.goto (-80), 3) := by decide +kernel
theorem dX12_move_86 : decode cX12_move 86 = .ok (.iconst 0, 1) := by decide +kernel
theorem dX12_move_87 : decode cX12_move 87 = .ok (.istore 4, 2) := by decide +kernel
theorem dX12_move_89 : decode cX12_move 89 = .ok (.iload 4, 2) := by decide +kernel
theorem dX12_move_91 : decode cX12_move 91 = .ok (.iload_n 3, 1) := by decide +kernel
theorem dX12_move_92 : decode cX12_move 92 = .ok (.if_icmp .ge 66, 3) := by decide +kernel
theorem dX12_move_95 : decode cX12_move 95 = .ok (.sipush 4096, 3) := by decide +kernel
theorem dX12_move_98 : decode cX12_move 98 = .ok (.aload_n 0, 1) := by decide +kernel
theorem dX12_move_99 : decode cX12_move 99 = .ok (.getfield 394, 3) := by decide +kernel
theorem dX12_move_102 : decode cX12_move 102 = .ok (.imul, 1) := by decide +kernel
theorem dX12_move_103 : decode cX12_move 103 = .ok (.iload_n 2, 1) := by decide +kernel
theorem dX12_move_104 : decode cX12_move 104 = .ok (.iadd, 1) := by decide +kernel
theorem dX12_move_105 : decode cX12_move 105 = .ok (.iload 4, 2) := by decide +kernel
theorem dX12_move_107 : decode cX12_move 107 = .ok (.iadd, 1) := by decide +kernel
theorem dX12_move_108 : decode cX12_move 108 = .ok (.istore 5, 2) := by decide +kernel
theorem dX12_move_110 : decode cX12_move 110 = .ok (.aload_n 0, 1) := by decide +kernel
theorem dX12_move_111 : decode cX12_move 111 = .ok (.getfield 64, 3) := by decide +kernel
theorem dX12_move_114 : decode cX12_move 114 = .ok (.iload 5, 2) := by decide +kernel
theorem dX12_move_116 : decode cX12_move 116 = .ok (.aload_n 0, 1) := by decide +kernel
theorem dX12_move_117 : decode cX12_move 117 = .ok (.getfield 151, 3) := by decide +kernel
