theorem dX3_twin_178 : decode cX3_twin 178 = .ok (.aload_n 0, 1) := by decide +kernel
theorem dX3_twin_179 : decode cX3_twin 179 = .ok (.getfield 14, 3) := by decide +kernel
theorem dX3_twin_182 : decode cX3_twin 182 = .ok (.getfield 81, 3) := by decide +kernel
theorem dX3_twin_185 : decode cX3_twin 185 = .ok (.iload_n 1, 1) := by decide +kernel
theorem dX3_twin_186 : decode cX3_twin 186 = .ok (.iaload, 1) := by decide +kernel
theorem dX3_twin_187 : decode cX3_twin 187 = .ok (.invokestatic 98, 3) := by decide +kernel
theorem dX3_twin_190 : decode cX3_twin 190 = .ok (.istore_n 2, 1) := by decide +kernel
theorem dX3_twin_191 : decode cX3_twin 191 = .ok (.aload_n 0, 1) := by decide +kernel
theorem dX3_twin_192 : decode cX3_twin 192 = .ok (.getfield 31, 3) := by decide +kernel
theorem dX3_twin_195 : decode cX3_twin 195 = .ok (.aload_n 0, 1) := by decide +kernel
theorem dX3_twin_196 : decode cX3_twin 196 = .ok (.getfield 14, 3) := by decide +kernel
theorem dX3_twin_199 : decode cX3_twin 199 = .ok (.getfield 84, 3) := by decide +kernel
theorem dX3_twin_202 : decode cX3_twin 202 = .ok (.iload_n 1, 1) := by decide +kernel
theorem dX3_twin_203 : decode cX3_twin 203 = .ok (.iaload, 1) := by decide +kernel
theorem dX3_twin_204 : decode cX3_twin 204 = .ok (.invokestatic 98, 3) := by decide +kernel
theorem dX3_twin_207 : decode cX3_twin 207 = .ok (.istore_n 3, 1) := by decide +kernel
theorem dX3_twin_208 : decode cX3_twin 208 = .ok (.aload_n 0, 1) := by decide +kernel
theorem dX3_twin_209 : decode cX3_twin 209 = .ok (.getfield 34, 3) := by decide +kernel
theorem dX3_twin_212 : decode cX3_twin 212 = .ok (.aload_n 0, 1) := by decide +kernel
theorem dX3_twin_213 : decode cX3_twin 213 = .ok (.getfield 14, 3) := by decide +kernel
theorem dX3_twin_216 : decode cX3_twin 216 = .ok (.getfield 81, 3) := by decide +kernel
theorem dX3_twin_219 : decode cX3_twin 219 = .ok (.iload_n 1, 1) := by decide +kernel
theorem dX3_twin_220 : decode cX3_twin 220 = .ok (.iaload, 1) := by decide +kernel
theorem dX3_twin_221 : decode cX3_twin 221 = .ok (.iconst 2, 1) := by decide +kernel
theorem dX3_twin_222 : decode cX3_twin 222 = .ok (.idiv, 1) := by decide +kernel
theorem dX3_twin_223 : decode cX3_twin 223 = .ok (.iaload, 1) := by decide +kernel
theorem dX3_twin_224 : decode cX3_twin 224 = .ok (.istore 4, 2) := by decide +kernel
theorem dX3_twin_226 : decode cX3_twin 226 = .ok (.aload_n 0, 1) := by decide +kernel
theorem dX3_twin_227 : decode cX3_twin 227 = .ok (.getfield 34, 3) := by decide +kernel
theorem dX3_twin_230 : decode cX3_twin 230 = .ok (.aload_n 0, 1) := by decide +kernel
theorem dX3_twin_231 : decode cX3_twin 231 = .ok (.getfield 14, 3) := by decide +kernel
theorem dX3_twin_234 : decode cX3_twin 234 = .ok (.getfield 84, 3) := by decide +kernel
theorem dX3_twin_237 : decode cX3_twin 237 = .ok (.iload_n 1, 1) := by decide +kernel
theorem dX3_twin_238 : decode cX3_twin 238 = .ok (.iaload, 1) := by decide +kernel
theorem dX3_twin_239 : decode cX3_twin 239 = .ok (.iconst 2, 1) := by decide +kernel
theorem dX3_twin_240 : decode cX3_twin 240 = .ok (.idiv, 1) := by decide +kernel
theorem dX3_twin_241 : decode cX3_twin 241 = .ok (.iaload, 1) := by decide +kernel
theorem dX3_twin_242 : decode cX3_twin 242 = .ok (.istore 5, 2) := by decide +kernel
theorem dX3_twin_244 : decode cX3_twin 244 = .ok (.aload_n 0, 1) := by decide +kernel
theorem dX3_twin_245 : decode cX3_twin 245 = .ok (.getfield 31, 3) := by decide +kernel
theorem dX3_twin_248 : decode cX3_twin 248 = .ok (.iload_n 1, 1) := by decide +kernel
theorem dX3_twin_249 : decode cX3_twin 249 = .ok (.aload_n 0, 1) := by decide +kernel
theorem dX3_twin_250 : decode cX3_twin 250 = .ok (.getfield 18, 3) := by decide +kernel
theorem dX3_twin_253 : decode cX3_twin 253 = .ok (.iload_n 2, 1) := by decide +kernel
theorem dX3_twin_254 : decode cX3_twin 254 = .ok (.iload_n 3, 1) := by decide +kernel
theorem dX3_twin_255 : decode cX3_twin 255 = .ok (.invokevirtual 62, 3) := by decide +kernel
theorem dX3_twin_258 : decode cX3_twin 258 = .ok (.iastore, 1) := by decide +kernel
theorem dX3_twin_259 : decode cX3_twin 259 = .ok (.aload_n 0, 1) := by decide +kernel
theorem dX3_twin_260 : decode cX3_twin 260 = .ok (.getfield 31, 3) := by decide +kernel
theorem dX3_twin_263 : decode cX3_twin 263 = .ok (.iload_n 1, 1) := by decide +kernel
theorem dX3_twin_264 : decode cX3_twin 264 = .ok (.iaload, 1) := by decide +kernel
theorem dX3_twin_265 : decode cX3_twin 265 = .ok (.ifCond .ge 7, 3) := by decide +kernel
theorem dX3_twin_268 : decode cX3_twin 268 = .ok (.iconst (-1), 1) := by decide +kernel
theorem dX3_twin_269 : decode cX3_twin 269 = .ok (.goto 13, 3) := by decide +kernel
theorem dX3_twin_272 : decode cX3_twin 272 = .ok (.aload_n 0, 1) := by decide +kernel
theorem dX3_twin_273 : decode cX3_twin 273 = .ok (.getfield 18, 3) := by decide +kernel
theorem dX3_twin_276 : decode cX3_twin 276 = .ok (.iload 4, 2) := by decide +kernel
theorem dX3_twin_278 : decode cX3_twin 278 = .ok (.iload_n 3, 1) := by decide +kernel
theorem dX3_twin_279 : decode cX3_twin 279 = .ok (.invokevirtual 62, 3) := by decide +kernel
theorem dX3_twin_282 : decode cX3_twin 282 = .ok (.istore 6, 2) := by decide +kernel
theorem dX3_twin_284 : decode cX3_twin 284 = .ok (.iload 6, 2) := by decide +kernel
theorem dX3_twin_286 : decode cX3_twin 286 = .ok (.ifCond .ge 7, 3) := by decide +kernel
theorem dX3_twin_289 : decode cX3_twin 289 = .ok (.iconst (-1), 1) := by decide +kernel
theorem dX3_twin_290 : decode cX3_twin 290 = .ok (.goto 13, 3) := by decide +kernel
theorem dX3_twin_293 : decode cX3_twin 293 = .ok (.aload_n 0, 1) := by decide +kernel
theorem dX3_twin_294 : decode cX3_twin 294 = .ok (.getfield 18, 3) := by decide +kernel
theorem dX3_twin_297 : decode cX3_twin 297 = .ok (.iload 5, 2) := by decide +kernel
theorem dX3_twin_299 : decode cX3_twin 299 = .ok (.iload_n 2, 1) := by decide +kernel
theorem dX3_twin_300 : decode cX3_twin 300 = .ok (.invokevirtual 62, 3) := by decide +kernel
theorem dX3_twin_303 : decode cX3_twin 303 = .ok (.istore 7, 2) := by decide +kernel
theorem dX3_twin_305 : decode cX3_twin 305 = .ok (.aload_n 0, 1) := by decide +kernel
theorem dX3_twin_306 : decode cX3_twin 306 = .ok (.getfield 18, 3) := by decide +kernel
theorem dX3_twin_309 : decode cX3_twin 309 = .ok (.iload 6, 2) := by decide +kernel
theorem dX3_twin_311 : decode cX3_twin 311 = .ok (.iload 7, 2) := by decide +kernel
theorem dX3_twin_313 : decode cX3_twin 313 = .ok (.invokevirtual 68, 3) := by decide +kernel
theorem dX3_twin_316 : decode cX3_twin 316 = .ok (.istore 8, 2) := by decide +kernel
theorem dX3_twin_318 : decode cX3_twin 318 = .ok (.iload 8, 2) := by decide +kernel
theorem dX3_twin_320 : decode cX3_twin 320 = .ok (.ifCond .ge 7, 3) := by decide +kernel
theorem dX3_twin_323 : decode cX3_twin 323 = .ok (.iconst (-1), 1) := by decide +kernel
theorem dX3_twin_324 : decode cX3_twin 324 = .ok (.goto 14, 3) := by decide +kernel
theorem dX3_twin_327 : decode cX3_twin 327 = .ok (.aload_n 0, 1) := by decide +kernel
theorem dX3_twin_328 : decode cX3_twin 328 = .ok (.getfield 18, 3) := by decide +kernel
theorem dX3_twin_331 : decode cX3_twin 331 = .ok (.iload 4, 2) := by decide +kernel
theorem dX3_twin_333 : decode cX3_twin 333 = .ok (.iload 5, 2) := by decide +kernel
theorem dX3_twin_335 : decode cX3_twin 335 = .ok (.invokevirtual 62, 3) := by decide +kernel
theorem dX3_twin_338 : decode cX3_twin 338 = .ok (.istore 9, 2) := by decide +kernel
theorem dX3_twin_340 : decode cX3_twin 340 = .ok (.aload_n 0, 1) := by decide +kernel
theorem dX3_twin_341 : decode cX3_twin 341 = .ok (.getfield 34, 3) := by decide +kernel
theorem dX3_twin_344 : decode cX3_twin 344 = .ok (.iload_n 1, 1) := by decide +kernel
theorem dX3_twin_345 : decode cX3_twin 345 = .ok (.aload_n 0, 1) := by decide +kernel
theorem dX3_twin_346 : decode cX3_twin 346 = .ok (.getfield 18, 3) := by decide +kernel
theorem dX3_twin_349 : decode cX3_twin 349 = .ok (.iload 8, 2) := by decide +kernel
theorem dX3_twin_351 : decode cX3_twin 351 = .ok (.iload 9, 2) := by decide +kernel
theorem dX3_twin_353 : decode cX3_twin 353 = .ok (.invokevirtual 68, 3) := by decide +kernel
theorem dX3_twin_356 : decode cX3_twin 356 = .ok (.iastore, 1) := by decide +kernel
theorem dX3_twin_357 : decode cX3_twin 357 = .ok (.aload_n 0, 1) := by decide +kernel
theorem dX3_twin_358 : decode cX3_twin 358 = .ok (.aload_n 0, 1) := by decide +kernel
theorem dX3_twin_359 : decode cX3_twin 359 = .ok (.getfield 34, 3) := by decide +kernel
theorem dX3_twin_362 : decode cX3_twin 362 = .ok (.iload_n 1, 1) := by decide +kernel
theorem dX3_twin_363 : decode cX3_twin 363 = .ok (.iaload, 1) := by decide +kernel
theorem dX3_twin_364 : decode cX3_twin 364 = .ok (.ifCond .lt 7, 3) := by decide +kernel
theorem dX3_twin_367 : decode cX3_twin 367 = .ok (.iconst 1, 1) := by decide +kernel
theorem dX3_twin_368 : decode cX3_twin 368 = .ok (.goto 4, 3) := by decide +kernel
theorem dX3_twin_371 : decode cX3_twin 371 = .ok (.iconst 0, 1) := by decide +kernel
theorem dX3_twin_372 : decode cX3_twin 372 = .ok (.putfield 51, 3) := by decide +kernel
theorem dX3_twin_375 : decode cX3_twin 375 = .ok (.iinc 1 1, 3) := by decide +kernel
theorem dX3_twin_378 : decode cX3_twin 378 = .ok (.goto (-234), 3) := by decide +kernel
theorem dX3_twin_381 : decode cX3_twin 381 = .ok (.aload_n 0, 1) := by decide +kernel
theorem dX3_twin_382 : decode cX3_twin 382 = .ok (.getfield 51, 3) := by decide +kernel
theorem dX3_twin_385 : decode cX3_twin 385 = .ok (.ifCond .eq 13, 3) := by decide +kernel
theorem dX3_twin_388 : decode cX3_twin 388 = .ok (.aload_n 0, 1) := by decide +kernel
theorem dX3_twin_389 : decode cX3_twin 389 = .ok (.getfield 18, 3) := by decide +kernel
theorem dX3_twin_392 : decode cX3_twin 392 = .ok (.getfield 78, 3) := by decide +kernel
theorem dX3_twin_395 : decode cX3_twin 395 = .ok (.goto 4, 3) := by decide +kernel
theorem dX3_twin_398 : decode cX3_twin 398 = .ok (.iconst (-1), 1) := by decide +kernel
theorem dX3_twin_399 : decode cX3_twin 399 = .ok (.ireturn, 1) := by decide +kernel
set_option maxRecDepth 20000 in
theorem ggX3_twinOf_X2_has : GoodIn wsX3_twinOf wsX2_has := goodIn_r _ [9, 10, 29, 30, 31, 32, 33] (by decide +kernel) (by decide +kernel)
set_option maxRecDepth 20000 in
theorem gX3_twinOf_X2_has : GoodIn wsX3_twinOf (wsV RX3 58 RX2 yX2_has wsX2_has) := goodIn_app (goodIn_of _ (by decide +kernel)) ggX3_twinOf_X2_has
set_option maxRecDepth 20000 in
theorem ggX3_twinOf_X3_with : GoodIn wsX3_twinOf wsX3_with := goodIn_r _ [14, 15, 16, 8, 17] (by decide +kernel) (by decide +kernel)
set_option maxRecDepth 20000 in
theorem gX3_twinOf_X3_with : GoodIn wsX3_twinOf (va_wsS RX3 98 yX3_with wsX3_with) := goodIn_app (goodIn_of _ (by decide +kernel)) ggX3_twinOf_X3_with
theorem dX3_twinOf_0 : decode cX3_twinOf 0 = .ok (.aload_n 0, 1) := by decide +kernel
theorem dX3_twinOf_1 : decode cX3_twinOf 1 = .ok (.getfield 51, 3) := by decide +kernel
theorem dX3_twinOf_4 : decode cX3_twinOf 4 = .ok (.ifCond .eq 14, 3) := by decide +kernel
theorem dX3_twinOf_7 : decode cX3_twinOf 7 = .ok (.aload_n 0, 1) := by decide +kernel
theorem dX3_twinOf_8 : decode cX3_twinOf 8 = .ok (.getfield 14, 3) := by decide +kernel
theorem dX3_twinOf_11 : decode cX3_twinOf 11 = .ok (.iload_n 1, 1) := by decide +kernel
theorem dX3_twinOf_12 : decode cX3_twinOf 12 = .ok (.invokevirtual 58, 3) := by decide +kernel
theorem dX3_twinOf_15 : decode cX3_twinOf 15 = .ok (.ifCond .ne 7, 3) := by decide +kernel
theorem dX3_twinOf_18 : decode cX3_twinOf 18 = .ok (.iconst (-1), 1) := by decide +kernel
theorem dX3_twinOf_19 : decode cX3_twinOf 19 = .ok (.goto 26, 3) := by decide +kernel
theorem dX3_twinOf_22 : decode cX3_twinOf 22 = .ok (.iload_n 2, 1) := by decide +kernel
theorem dX3_twinOf_23 : decode cX3_twinOf 23 = .ok (.ifCond .eq 14, 3) := by decide +kernel
theorem dX3_twinOf_26 : decode cX3_twinOf 26 = .ok (.aload_n 0, 1) := by decide +kernel
theorem dX3_twinOf_27 : decode cX3_twinOf 27 = .ok (.getfield 34, 3) := by decide +kernel
theorem dX3_twinOf_30 : decode cX3_twinOf 30 = .ok (.iload_n 1, 1) := by decide +kernel
theorem dX3_twinOf_31 : decode cX3_twinOf 31 = .ok (.iconst 2, 1) := by decide +kernel
theorem dX3_twinOf_32 : decode cX3_twinOf 32 = .ok (.idiv, 1) := by decide +kernel
theorem dX3_twinOf_33 : decode cX3_twinOf 33 = .ok (.iaload, 1) := by decide +kernel
theorem dX3_twinOf_34 : decode cX3_twinOf 34 = .ok (.goto 11, 3) := by decide +kernel
theorem dX3_twinOf_37 : decode cX3_twinOf 37 = .ok (.aload_n 0, 1) := by decide +kernel
theorem dX3_twinOf_38 : decode cX3_twinOf 38 = .ok (.getfield 31, 3) := by decide +kernel
theorem dX3_twinOf_41 : decode cX3_twinOf 41 = .ok (.iload_n 1, 1) := by decide +kernel
theorem dX3_twinOf_42 : decode cX3_twinOf 42 = .ok (.invokestatic 98, 3) := by decide +kernel
theorem dX3_twinOf_45 : decode cX3_twinOf 45 = .ok (.ireturn, 1) := by decide +kernel
theorem dX3_set_0 : decode cX3_set 0 = .ok (.iload_n 1, 1) := by decide +kernel
theorem dX3_set_1 : decode cX3_set 1 = .ok (.ifCond .lt 11, 3) := by decide +kernel
theorem dX3_set_4 : decode cX3_set 4 = .ok (.iload_n 1, 1) := by decide +kernel
theorem dX3_set_5 : decode cX3_set 5 = .ok (.aload_n 0, 1) := by decide +kernel
theorem dX3_set_6 : decode cX3_set 6 = .ok (.getfield 43, 3) := by decide +kernel
theorem dX3_set_9 : decode cX3_set 9 = .ok (.if_icmp .lt 5, 3) := by decide +kernel
theorem dX3_set_12 : decode cX3_set 12 = .ok (.iconst (-1), 1) := by decide +kernel
theorem dX3_set_13 : decode cX3_set 13 = .ok (.ireturn, 1) := by decide +kernel
theorem dX3_set_14 : decode cX3_set 14 = .ok (.iload_n 2, 1) := by decide +kernel
theorem dX3_set_15 : decode cX3_set 15 = .ok (.ifCond .eq 10, 3) := by decide +kernel
theorem dX3_set_18 : decode cX3_set 18 = .ok (.aload_n 0, 1) := by decide +kernel
theorem dX3_set_19 : decode cX3_set 19 = .ok (.getfield 28, 3) := by decide +kernel
theorem dX3_set_22 : decode cX3_set 22 = .ok (.goto 7, 3) := by decide +kernel
theorem dX3_set_25 : decode cX3_set 25 = .ok (.aload_n 0, 1) := by decide +kernel
theorem dX3_set_26 : decode cX3_set 26 = .ok (.getfield 25, 3) := by decide +kernel
theorem dX3_set_29 : decode cX3_set 29 = .ok (.astore 4, 2) := by decide +kernel
theorem dX3_set_31 : decode cX3_set 31 = .ok (.aload 4, 2) := by decide +kernel
theorem dX3_set_33 : decode cX3_set 33 = .ok (.iload_n 1, 1) := by decide +kernel
theorem dX3_set_34 : decode cX3_set 34 = .ok (.iaload, 1) := by decide +kernel
theorem dX3_set_35 : decode cX3_set 35 = .ok (.istore 5, 2) := by decide +kernel
theorem dX3_set_37 : decode cX3_set 37 = .ok (.aload 4, 2) := by decide +kernel
theorem dX3_set_39 : decode cX3_set 39 = .ok (.iload_n 1, 1) := by decide +kernel
theorem dX3_set_40 : decode cX3_set 40 = .ok (.iload_n 3, 1) := by decide +kernel
theorem dX3_set_41 : decode cX3_set 41 = .ok (.ifCond .ne 7, 3) := by decide +kernel
theorem dX3_set_44 : decode cX3_set 44 = .ok (.iconst 0, 1) := by decide +kernel
theorem dX3_set_45 : decode cX3_set 45 = .ok (.goto 4, 3) := by decide +kernel
theorem dX3_set_48 : decode cX3_set 48 = .ok (.iconst 1, 1) := by decide +kernel
theorem dX3_set_49 : decode cX3_set 49 = .ok (.iastore, 1) := by decide +kernel
theorem dX3_set_50 : decode cX3_set 50 = .ok (.iload 5, 2) := by decide +kernel
theorem dX3_set_52 : decode cX3_set 52 = .ok (.ireturn, 1) := by decide +kernel
theorem dX3_of_0 : decode cX3_of 0 = .ok (.iload_n 1, 1) := by decide +kernel
theorem dX3_of_1 : decode cX3_of 1 = .ok (.iconst 2, 1) := by decide +kernel
theorem dX3_of_2 : decode cX3_of 2 = .ok (.irem, 1) := by decide +kernel
theorem dX3_of_3 : decode cX3_of 3 = .ok (.ifCond .ne 11, 3) := by decide +kernel
theorem dX3_of_6 : decode cX3_of 6 = .ok (.aload_n 0, 1) := by decide +kernel
theorem dX3_of_7 : decode cX3_of 7 = .ok (.iload_n 1, 1) := by decide +kernel
theorem dX3_of_8 : decode cX3_of 8 = .ok (.iconst 2, 1) := by decide +kernel
theorem dX3_of_9 : decode cX3_of 9 = .ok (.idiv, 1) := by decide +kernel
theorem dX3_of_10 : decode cX3_of 10 = .ok (.iaload, 1) := by decide +kernel
theorem dX3_of_11 : decode cX3_of 11 = .ok (.goto 10, 3) := by decide +kernel
theorem dX3_of_14 : decode cX3_of 14 = .ok (.iconst 1, 1) := by decide +kernel
theorem dX3_of_15 : decode cX3_of 15 = .ok (.aload_n 0, 1) := by decide +kernel
theorem dX3_of_16 : decode cX3_of 16 = .ok (.iload_n 1, 1) := by decide +kernel
theorem dX3_of_17 : decode cX3_of 17 = .ok (.iconst 2, 1) := by decide +kernel
theorem dX3_of_18 : decode cX3_of 18 = .ok (.idiv, 1) := by decide +kernel
theorem dX3_of_19 : decode cX3_of 19 = .ok (.iaload, 1) := by decide +kernel
theorem dX3_of_20 : decode cX3_of 20 = .ok (.isub, 1) := by decide +kernel
theorem dX3_of_21 : decode cX3_of 21 = .ok (.ireturn, 1) := by decide +kernel
set_option maxRecDepth 20000 in
theorem ggX3_reckon_X3_of : GoodIn wsX3_reckon wsX3_of := goodIn_r _ [8] (by decide +kernel) (by decide +kernel)
set_option maxRecDepth 20000 in
theorem gX3_reckon_X3_of : GoodIn wsX3_reckon (va_wsS RX3 102 yX3_of wsX3_of) := goodIn_app (goodIn_of _ (by decide +kernel)) ggX3_reckon_X3_of
theorem dX3_reckon_0 : decode cX3_reckon 0 = .ok (.iconst 1, 1) := by decide +kernel
theorem dX3_reckon_1 : decode cX3_reckon 1 = .ok (.istore_n 2, 1) := by decide +kernel
theorem dX3_reckon_2 : decode cX3_reckon 2 = .ok (.iload_n 2, 1) := by decide +kernel
theorem dX3_reckon_3 : decode cX3_reckon 3 = .ok (.aload_n 1, 1) := by decide +kernel
theorem dX3_reckon_4 : decode cX3_reckon 4 = .ok (.getfield 78, 3) := by decide +kernel
theorem dX3_reckon_7 : decode cX3_reckon 7 = .ok (.if_icmp .ge 60, 3) := by decide +kernel
theorem dX3_reckon_10 : decode cX3_reckon 10 = .ok (.aload_n 0, 1) := by decide +kernel
theorem dX3_reckon_11 : decode cX3_reckon 11 = .ok (.getfield 37, 3) := by decide +kernel
theorem dX3_reckon_14 : decode cX3_reckon 14 = .ok (.iload_n 2, 1) := by decide +kernel
theorem dX3_reckon_15 : decode cX3_reckon 15 = .ok (.aload_n 1, 1) := by decide +kernel
theorem dX3_reckon_16 : decode cX3_reckon 16 = .ok (.getfield 81, 3) := by decide +kernel
theorem dX3_reckon_19 : decode cX3_reckon 19 = .ok (.iload_n 2, 1) := by decide +kernel
theorem dX3_reckon_20 : decode cX3_reckon 20 = .ok (.iaload, 1) := by decide +kernel
theorem dX3_reckon_21 : decode cX3_reckon 21 = .ok (.ifCond .ge 12, 3) := by decide +kernel
theorem dX3_reckon_24 : decode cX3_reckon 24 = .ok (.aload_n 0, 1) := by decide +kernel
theorem dX3_reckon_25 : decode cX3_reckon 25 = .ok (.getfield 37, 3) := by decide +kernel
theorem dX3_reckon_28 : decode cX3_reckon 28 = .ok (.iload_n 2, 1) := by decide +kernel
theorem dX3_reckon_29 : decode cX3_reckon 29 = .ok (.iaload, 1) := by decide +kernel
theorem dX3_reckon_30 : decode cX3_reckon 30 = .ok (.goto 30, 3) := by decide +kernel
theorem dX3_reckon_33 : decode cX3_reckon 33 = .ok (.aload_n 0, 1) := by decide +kernel
theorem dX3_reckon_34 : decode cX3_reckon 34 = .ok (.getfield 37, 3) := by decide +kernel
theorem dX3_reckon_37 : decode cX3_reckon 37 = .ok (.aload_n 1, 1) := by decide +kernel
theorem dX3_reckon_38 : decode cX3_reckon 38 = .ok (.getfield 81, 3) := by decide +kernel
theorem dX3_reckon_41 : decode cX3_reckon 41 = .ok (.iload_n 2, 1) := by decide +kernel
theorem dX3_reckon_42 : decode cX3_reckon 42 = .ok (.iaload, 1) := by decide +kernel
theorem dX3_reckon_43 : decode cX3_reckon 43 = .ok (.invokestatic 102, 3) := by decide +kernel
theorem dX3_reckon_46 : decode cX3_reckon 46 = .ok (.aload_n 0, 1) := by decide +kernel
theorem dX3_reckon_47 : decode cX3_reckon 47 = .ok (.getfield 37, 3) := by decide +kernel
theorem dX3_reckon_50 : decode cX3_reckon 50 = .ok (.aload_n 1, 1) := by decide +kernel
theorem dX3_reckon_51 : decode cX3_reckon 51 = .ok (.getfield 84, 3) := by decide +kernel
theorem dX3_reckon_54 : decode cX3_reckon 54 = .ok (.iload_n 2, 1) := by decide +kernel
theorem dX3_reckon_55 : decode cX3_reckon 55 = .ok (.iaload, 1) := by decide +kernel
theorem dX3_reckon_56 : decode cX3_reckon 56 = .ok (.invokestatic 102, 3) := by decide +kernel
theorem dX3_reckon_59 : decode cX3_reckon 59 = .ok (.imul, 1) := by decide +kernel
theorem dX3_reckon_60 : decode cX3_reckon 60 = .ok (.iastore, 1) := by decide +kernel
theorem dX3_reckon_61 : decode cX3_reckon 61 = .ok (.iinc 2 1, 3) := by decide +kernel
theorem dX3_reckon_64 : decode cX3_reckon 64 = .ok (.goto (-62), 3) := by decide +kernel
theorem dX3_reckon_67 : decode cX3_reckon 67 = .ok (.return_, 1) := by decide +kernel
set_option maxRecDepth 20000 in
theorem ggX3_room_X2_more : GoodIn wsX3_room wsX2_more := goodIn_r _ [5, 6, 7, 8, 9, 10] (by decide +kernel) (by decide +kernel)
set_option maxRecDepth 20000 in
theorem gX3_room_X2_more_n94 : GoodIn wsX3_room (wsX2_more) := ggX3_room_X2_more
theorem dX3_room_0 : decode cX3_room 0 = .ok (.aload_n 0, 1) := by decide +kernel
theorem dX3_room_1 : decode cX3_room 1 = .ok (.getfield 37, 3) := by decide +kernel
theorem dX3_room_4 : decode cX3_room 4 = .ok (.arraylength, 1) := by decide +kernel
theorem dX3_room_5 : decode cX3_room 5 = .ok (.iload_n 1, 1) := by decide +kernel
theorem dX3_room_6 : decode cX3_room 6 = .ok (.if_icmp .ge 28, 3) := by decide +kernel
theorem dX3_room_9 : decode cX3_room 9 = .ok (.aload_n 0, 1) := by decide +kernel
theorem dX3_room_10 : decode cX3_room 10 = .ok (.aload_n 0, 1) := by decide +kernel
theorem dX3_room_11 : decode cX3_room 11 = .ok (.getfield 37, 3) := by decide +kernel
theorem dX3_room_14 : decode cX3_room 14 = .ok (.invokestatic 94, 3) := by decide +kernel
theorem dX3_room_17 : decode cX3_room 17 = .ok (.putfield 37, 3) := by decide +kernel
theorem dX3_room_20 : decode cX3_room 20 = .ok (.aload_n 0, 1) := by decide +kernel
theorem dX3_room_21 : decode cX3_room 21 = .ok (.aload_n 0, 1) := by decide +kernel
theorem dX3_room_22 : decode cX3_room 22 = .ok (.getfield 40, 3) := by decide +kernel
theorem dX3_room_25 : decode cX3_room 25 = .ok (.invokestatic 94, 3) := by decide +kernel
theorem dX3_room_28 : decode cX3_room 28 = .ok (.putfield 40, 3) := by decide +kernel
theorem dX3_room_31 : decode cX3_room 31 = .ok (.goto (-31), 3) := by decide +kernel
theorem dX3_room_34 : decode cX3_room 34 = .ok (.aload_n 0, 1) := by decide +kernel
theorem dX3_room_35 : decode cX3_room 35 = .ok (.getfield 37, 3) := by decide +kernel
theorem dX3_room_38 : decode cX3_room 38 = .ok (.iconst 0, 1) := by decide +kernel
theorem dX3_room_39 : decode cX3_room 39 = .ok (.iconst 0, 1) := by decide +kernel
theorem dX3_room_40 : decode cX3_room 40 = .ok (.iastore, 1) := by decide +kernel
theorem dX3_room_41 : decode cX3_room 41 = .ok (.aload_n 0, 1) := by decide +kernel
theorem dX3_room_42 : decode cX3_room 42 = .ok (.getfield 40, 3) := by decide +kernel
theorem dX3_room_45 : decode cX3_room 45 = .ok (.iconst 0, 1) := by decide +kernel
theorem dX3_room_46 : decode cX3_room 46 = .ok (.iconst 0, 1) := by decide +kernel
theorem dX3_room_47 : decode cX3_room 47 = .ok (.iastore, 1) := by decide +kernel
theorem dX3_room_48 : decode cX3_room 48 = .ok (.return_, 1) := by decide +kernel
set_option maxRecDepth 20000 in
theorem ggX3_reckonNet_X3_room : GoodIn wsX3_reckonNet wsX3_room := goodIn_r _ [11, 4, 12, 13, 14, 15, 16, 17, 18, 19, 20, 30, 31, 32, 33, 34, 35, 36, 37, 38, 39, 40] (by decide +kernel) (by decide +kernel)
set_option maxRecDepth 20000 in
theorem gX3_reckonNet_X3_room : GoodIn wsX3_reckonNet (wsV RX3 105 RX3 yX3_room wsX3_room) := goodIn_app (goodIn_of _ (by decide +kernel)) ggX3_reckonNet_X3_room
set_option maxRecDepth 20000 in
theorem ggX3_reckonNet_X3_reckon : GoodIn wsX3_reckonNet wsX3_reckon := goodIn_r _ [24, 2, 4, 25, 26, 27, 28, 10, 29, 41, 42, 43, 44, 45, 30, 31, 32, 33, 34, 35, 36, 37, 38, 39, 40] (by decide +kernel) (by decide +kernel)
set_option maxRecDepth 20000 in
theorem gX3_reckonNet_X3_reckon : GoodIn wsX3_reckonNet (wsV RX3 108 RX3 yX3_reckon wsX3_reckon) := goodIn_app (goodIn_of _ (by decide +kernel)) ggX3_reckonNet_X3_reckon
theorem dX3_reckonNet_0 : decode cX3_reckonNet 0 = .ok (.aload_n 0, 1) := by decide +kernel
theorem dX3_reckonNet_1 : decode cX3_reckonNet 1 = .ok (.aload_n 0, 1) := by decide +kernel
theorem dX3_reckonNet_2 : decode cX3_reckonNet 2 = .ok (.getfield 14, 3) := by decide +kernel
theorem dX3_reckonNet_5 : decode cX3_reckonNet 5 = .ok (.getfield 78, 3) := by decide +kernel
theorem dX3_reckonNet_8 : decode cX3_reckonNet 8 = .ok (.invokevirtual 105, 3) := by decide +kernel
theorem dX3_reckonNet_11 : decode cX3_reckonNet 11 = .ok (.iconst 0, 1) := by decide +kernel
theorem dX3_reckonNet_12 : decode cX3_reckonNet 12 = .ok (.istore_n 1, 1) := by decide +kernel
theorem dX3_reckonNet_13 : decode cX3_reckonNet 13 = .ok (.iload_n 1, 1) := by decide +kernel
theorem dX3_reckonNet_14 : decode cX3_reckonNet 14 = .ok (.aload_n 0, 1) := by decide +kernel
theorem dX3_reckonNet_15 : decode cX3_reckonNet 15 = .ok (.getfield 43, 3) := by decide +kernel
theorem dX3_reckonNet_18 : decode cX3_reckonNet 18 = .ok (.if_icmp .ge 26, 3) := by decide +kernel
theorem dX3_reckonNet_21 : decode cX3_reckonNet 21 = .ok (.aload_n 0, 1) := by decide +kernel
theorem dX3_reckonNet_22 : decode cX3_reckonNet 22 = .ok (.getfield 37, 3) := by decide +kernel
theorem dX3_reckonNet_25 : decode cX3_reckonNet 25 = .ok (.aload_n 0, 1) := by decide +kernel
theorem dX3_reckonNet_26 : decode cX3_reckonNet 26 = .ok (.getfield 21, 3) := by decide +kernel
theorem dX3_reckonNet_29 : decode cX3_reckonNet 29 = .ok (.iload_n 1, 1) := by decide +kernel
theorem dX3_reckonNet_30 : decode cX3_reckonNet 30 = .ok (.iaload, 1) := by decide +kernel
theorem dX3_reckonNet_31 : decode cX3_reckonNet 31 = .ok (.aload_n 0, 1) := by decide +kernel
theorem dX3_reckonNet_32 : decode cX3_reckonNet 32 = .ok (.getfield 25, 3) := by decide +kernel
theorem dX3_reckonNet_35 : decode cX3_reckonNet 35 = .ok (.iload_n 1, 1) := by decide +kernel
theorem dX3_reckonNet_36 : decode cX3_reckonNet 36 = .ok (.iaload, 1) := by decide +kernel
theorem dX3_reckonNet_37 : decode cX3_reckonNet 37 = .ok (.iastore, 1) := by decide +kernel
theorem dX3_reckonNet_38 : decode cX3_reckonNet 38 = .ok (.iinc 1 1, 3) := by decide +kernel
theorem dX3_reckonNet_41 : decode cX3_reckonNet 41 = .ok (.goto (-28), 3) := by decide +kernel
theorem dX3_reckonNet_44 : decode cX3_reckonNet 44 = .ok (.aload_n 0, 1) := by decide +kernel
theorem dX3_reckonNet_45 : decode cX3_reckonNet 45 = .ok (.aload_n 0, 1) := by decide +kernel
theorem dX3_reckonNet_46 : decode cX3_reckonNet 46 = .ok (.getfield 14, 3) := by decide +kernel
theorem dX3_reckonNet_49 : decode cX3_reckonNet 49 = .ok (.invokevirtual 108, 3) := by decide +kernel
theorem dX3_reckonNet_52 : decode cX3_reckonNet 52 = .ok (.return_, 1) := by decide +kernel
set_option maxRecDepth 20000 in
theorem ggX3_bit_X2_has : GoodIn wsX3_bit wsX2_has := goodIn_r _ [13, 14, 53, 54, 55, 56, 57] (by decide +kernel) (by decide +kernel)
set_option maxRecDepth 20000 in
theorem gX3_bit_X2_has : GoodIn wsX3_bit (wsV RX3 58 RX2 yX2_has wsX2_has) := goodIn_app (goodIn_of _ (by decide +kernel)) ggX3_bit_X2_has
set_option maxRecDepth 20000 in
theorem ggX3_bit_X3_reckonNet : GoodIn wsX3_bit wsX3_reckonNet := goodIn_r _ [19, 3, 5, 6, 4, 20, 7, 21, 22, 23, 18, 24, 25, 26, 12, 27, 28, 29, 30, 31, 32, 33, 34, 35, 36, 37, 38, 39, 40, 41, 42, 43, 44, 45, 46, 47, 48, 49, 50, 51, 52, 53, 54, 55, 56, 57] (by decide +kernel) (by decide +kernel)
set_option maxRecDepth 20000 in
theorem gX3_bit_X3_reckonNet : GoodIn wsX3_bit (wsV RX3 112 RX3 yX3_reckonNet wsX3_reckonNet) := goodIn_app (goodIn_of _ (by decide +kernel)) ggX3_bit_X3_reckonNet
set_option maxRecDepth 20000 in
theorem ggX3_bit_X3_of : GoodIn wsX3_bit wsX3_of := goodIn_r _ [41] (by decide +kernel) (by decide +kernel)
set_option maxRecDepth 20000 in
theorem gX3_bit_X3_of : GoodIn wsX3_bit (va_wsS RX3 102 yX3_of wsX3_of) := goodIn_app (goodIn_of _ (by decide +kernel)) ggX3_bit_X3_of
set_option maxRecDepth 20000 in
theorem ggX3_bit_X3_room : GoodIn wsX3_bit wsX3_room := goodIn_r _ [24, 4, 25, 26, 12, 27, 28, 29, 30, 31, 32, 42, 43, 44, 45, 46, 47, 48, 49, 50, 51, 52] (by decide +kernel) (by decide +kernel)
set_option maxRecDepth 20000 in
theorem gX3_bit_X3_room : GoodIn wsX3_bit (wsV RX3 105 RX3 yX3_room wsX3_room) := goodIn_app (goodIn_of _ (by decide +kernel)) ggX3_bit_X3_room
set_option maxRecDepth 20000 in
theorem ggX3_bit_X3_reckon : GoodIn wsX3_bit wsX3_reckon := goodIn_r _ [36, 5, 4, 37, 38, 39, 40, 18, 41, 53, 54, 55, 56, 57, 42, 43, 44, 45, 46, 47, 48, 49, 50, 51, 52] (by decide +kernel) (by decide +kernel)
set_option maxRecDepth 20000 in
theorem gX3_bit_X3_reckon : GoodIn wsX3_bit (wsV RX3 108 RX3 yX3_reckon wsX3_reckon) := goodIn_app (goodIn_of _ (by decide +kernel)) ggX3_bit_X3_reckon
theorem dX3_bit_0 : decode cX3_bit 0 = .ok (.iload_n 1, 1) := by decide +kernel
theorem dX3_bit_1 : decode cX3_bit 1 = .ok (.ifCond .eq 24, 3) := by decide +kernel
theorem dX3_bit_4 : decode cX3_bit 4 = .ok (.aload_n 0, 1) := by decide +kernel
theorem dX3_bit_5 : decode cX3_bit 5 = .ok (.getfield 51, 3) := by decide +kernel
theorem dX3_bit_8 : decode cX3_bit 8 = .ok (.ifCond .eq 28, 3) := by decide +kernel
theorem dX3_bit_11 : decode cX3_bit 11 = .ok (.aload_n 0, 1) := by decide +kernel
theorem dX3_bit_12 : decode cX3_bit 12 = .ok (.getfield 18, 3) := by decide +kernel
theorem dX3_bit_15 : decode cX3_bit 15 = .ok (.iload_n 2, 1) := by decide +kernel
theorem dX3_bit_16 : decode cX3_bit 16 = .ok (.invokevirtual 58, 3) := by decide +kernel
theorem dX3_bit_19 : decode cX3_bit 19 = .ok (.ifCond .ne 19, 3) := by decide +kernel
theorem dX3_bit_22 : decode cX3_bit 22 = .ok (.goto 14, 3) := by decide +kernel
theorem dX3_bit_25 : decode cX3_bit 25 = .ok (.aload_n 0, 1) := by decide +kernel
theorem dX3_bit_26 : decode cX3_bit 26 = .ok (.getfield 14, 3) := by decide +kernel
theorem dX3_bit_29 : decode cX3_bit 29 = .ok (.iload_n 2, 1) := by decide +kernel
theorem dX3_bit_30 : decode cX3_bit 30 = .ok (.invokevirtual 58, 3) := by decide +kernel
theorem dX3_bit_33 : decode cX3_bit 33 = .ok (.ifCond .ne 5, 3) := by decide +kernel
theorem dX3_bit_36 : decode cX3_bit 36 = .ok (.iconst (-1), 1) := by decide +kernel
theorem dX3_bit_37 : decode cX3_bit 37 = .ok (.ireturn, 1) := by decide +kernel
theorem dX3_bit_38 : decode cX3_bit 38 = .ok (.iload_n 1, 1) := by decide +kernel
theorem dX3_bit_39 : decode cX3_bit 39 = .ok (.ifCond .ne 16, 3) := by decide +kernel
theorem dX3_bit_42 : decode cX3_bit 42 = .ok (.aload_n 0, 1) := by decide +kernel
theorem dX3_bit_43 : decode cX3_bit 43 = .ok (.invokevirtual 112, 3) := by decide +kernel
theorem dX3_bit_46 : decode cX3_bit 46 = .ok (.aload_n 0, 1) := by decide +kernel
theorem dX3_bit_47 : decode cX3_bit 47 = .ok (.getfield 37, 3) := by decide +kernel
theorem dX3_bit_50 : decode cX3_bit 50 = .ok (.iload_n 2, 1) := by decide +kernel
theorem dX3_bit_51 : decode cX3_bit 51 = .ok (.invokestatic 102, 3) := by decide +kernel
theorem dX3_bit_54 : decode cX3_bit 54 = .ok (.ireturn, 1) := by decide +kernel
theorem dX3_bit_55 : decode cX3_bit 55 = .ok (.aload_n 0, 1) := by decide +kernel
theorem dX3_bit_56 : decode cX3_bit 56 = .ok (.aload_n 0, 1) := by decide +kernel
theorem dX3_bit_57 : decode cX3_bit 57 = .ok (.getfield 18, 3) := by decide +kernel
theorem dX3_bit_60 : decode cX3_bit 60 = .ok (.getfield 78, 3) := by decide +kernel
theorem dX3_bit_63 : decode cX3_bit 63 = .ok (.invokevirtual 105, 3) := by decide +kernel
theorem dX3_bit_66 : decode cX3_bit 66 = .ok (.iconst 0, 1) := by decide +kernel
theorem dX3_bit_67 : decode cX3_bit 67 = .ok (.istore_n 3, 1) := by decide +kernel
theorem dX3_bit_68 : decode cX3_bit 68 = .ok (.iload_n 3, 1) := by decide +kernel
theorem dX3_bit_69 : decode cX3_bit 69 = .ok (.aload_n 0, 1) := by decide +kernel
theorem dX3_bit_70 : decode cX3_bit 70 = .ok (.getfield 43, 3) := by decide +kernel
theorem dX3_bit_73 : decode cX3_bit 73 = .ok (.if_icmp .ge 42, 3) := by decide +kernel
theorem dX3_bit_76 : decode cX3_bit 76 = .ok (.aload_n 0, 1) := by decide +kernel
theorem dX3_bit_77 : decode cX3_bit 77 = .ok (.getfield 37, 3) := by decide +kernel
theorem dX3_bit_80 : decode cX3_bit 80 = .ok (.iconst 1, 1) := by decide +kernel
theorem dX3_bit_81 : decode cX3_bit 81 = .ok (.iload_n 3, 1) := by decide +kernel
theorem dX3_bit_82 : decode cX3_bit 82 = .ok (.iadd, 1) := by decide +kernel
theorem dX3_bit_83 : decode cX3_bit 83 = .ok (.aload_n 0, 1) := by decide +kernel
theorem dX3_bit_84 : decode cX3_bit 84 = .ok (.getfield 25, 3) := by decide +kernel
theorem dX3_bit_87 : decode cX3_bit 87 = .ok (.iload_n 3, 1) := by decide +kernel
theorem dX3_bit_88 : decode cX3_bit 88 = .ok (.iaload, 1) := by decide +kernel
theorem dX3_bit_89 : decode cX3_bit 89 = .ok (.iastore, 1) := by decide +kernel
theorem dX3_bit_90 : decode cX3_bit 90 = .ok (.aload_n 0, 1) := by decide +kernel
theorem dX3_bit_91 : decode cX3_bit 91 = .ok (.getfield 37, 3) := by decide +kernel
theorem dX3_bit_94 : decode cX3_bit 94 = .ok (.iconst 1, 1) := by decide +kernel
theorem dX3_bit_95 : decode cX3_bit 95 = .ok (.aload_n 0, 1) := by decide +kernel
theorem dX3_bit_96 : decode cX3_bit 96 = .ok (.getfield 43, 3) := by decide +kernel
theorem dX3_bit_99 : decode cX3_bit 99 = .ok (.iadd, 1) := by decide +kernel
theorem dX3_bit_100 : decode cX3_bit 100 = .ok (.iload_n 3, 1) := by decide +kernel
theorem dX3_bit_101 : decode cX3_bit 101 = .ok (.iadd, 1) := by decide +kernel
theorem dX3_bit_102 : decode cX3_bit 102 = .ok (.aload_n 0, 1) := by decide +kernel
theorem dX3_bit_103 : decode cX3_bit 103 = .ok (.getfield 28, 3) := by decide +kernel
theorem dX3_bit_106 : decode cX3_bit 106 = .ok (.iload_n 3, 1) := by decide +kernel
theorem dX3_bit_107 : decode cX3_bit 107 = .ok (.iaload, 1) := by decide +kernel
theorem dX3_bit_108 : decode cX3_bit 108 = .ok (.iastore, 1) := by decide +kernel
theorem dX3_bit_109 : decode cX3_bit 109 = .ok (.iinc 3 1, 3) := by decide +kernel
theorem dX3_bit_112 : decode cX3_bit 112 = .ok (.goto (-44), 3) := by decide +kernel
theorem dX3_bit_115 : decode cX3_bit 115 = .ok (.aload_n 0, 1) := by decide +kernel
theorem dX3_bit_116 : decode cX3_bit 116 = .ok (.aload_n 0, 1) := by decide +kernel
theorem dX3_bit_117 : decode cX3_bit 117 = .ok (.getfield 18, 3) := by decide +kernel
theorem dX3_bit_120 : decode cX3_bit 120 = .ok (.invokevirtual 108, 3) := by decide +kernel
theorem dX3_bit_123 : decode cX3_bit 123 = .ok (.aload_n 0, 1) := by decide +kernel
theorem dX3_bit_124 : decode cX3_bit 124 = .ok (.getfield 37, 3) := by decide +kernel
theorem dX3_bit_127 : decode cX3_bit 127 = .ok (.iload_n 2, 1) := by decide +kernel
theorem dX3_bit_128 : decode cX3_bit 128 = .ok (.invokestatic 102, 3) := by decide +kernel
theorem dX3_bit_131 : decode cX3_bit 131 = .ok (.ireturn, 1) := by decide +kernel
set_option maxRecDepth 20000 in
theorem ggX3_taint_X2_has : GoodIn wsX3_taint wsX2_has := goodIn_r _ [14, 15, 51, 52, 53, 54, 55] (by decide +kernel) (by decide +kernel)
set_option maxRecDepth 20000 in
theorem gX3_taint_X2_has : GoodIn wsX3_taint (wsV RX3 58 RX2 yX2_has wsX2_has) := goodIn_app (goodIn_of _ (by decide +kernel)) ggX3_taint_X2_has
set_option maxRecDepth 20000 in
theorem ggX3_taint_X3_reckonNet : GoodIn wsX3_taint wsX3_reckonNet := goodIn_r _ [20, 1, 6, 2, 8, 4, 21, 22, 23, 24, 19, 25, 3, 26, 13, 27, 28, 29, 30, 31, 32, 33, 34, 35, 36, 7, 9, 37, 38, 39, 40, 41, 42, 43, 44, 45, 46, 47, 48, 49, 50, 51, 52, 53, 54, 55] (by decide +kernel) (by decide +kernel)
set_option maxRecDepth 20000 in
theorem gX3_taint_X3_reckonNet : GoodIn wsX3_taint (wsV RX3 112 RX3 yX3_reckonNet wsX3_reckonNet) := goodIn_app (goodIn_of _ (by decide +kernel)) ggX3_taint_X3_reckonNet
set_option maxRecDepth 20000 in
theorem ggX3_taint_X3_of : GoodIn wsX3_taint wsX3_of := goodIn_r _ [39] (by decide +kernel) (by decide +kernel)
set_option maxRecDepth 20000 in
theorem gX3_taint_X3_of : GoodIn wsX3_taint (va_wsS RX3 102 yX3_of wsX3_of) := goodIn_app (goodIn_of _ (by decide +kernel)) ggX3_taint_X3_of
theorem dX3_taint_0 : decode cX3_taint 0 = .ok (.aload_n 0, 1) := by decide +kernel
theorem dX3_taint_1 : decode cX3_taint 1 = .ok (.getfield 14, 3) := by decide +kernel
theorem dX3_taint_4 : decode cX3_taint 4 = .ok (.iload_n 1, 1) := by decide +kernel
theorem dX3_taint_5 : decode cX3_taint 5 = .ok (.invokevirtual 58, 3) := by decide +kernel
theorem dX3_taint_8 : decode cX3_taint 8 = .ok (.ifCond .ne 5, 3) := by decide +kernel
theorem dX3_taint_11 : decode cX3_taint 11 = .ok (.iconst (-1), 1) := by decide +kernel
theorem dX3_taint_12 : decode cX3_taint 12 = .ok (.ireturn, 1) := by decide +kernel
theorem dX3_taint_13 : decode cX3_taint 13 = .ok (.aload_n 0, 1) := by decide +kernel
theorem dX3_taint_14 : decode cX3_taint 14 = .ok (.invokevirtual 112, 3) := by decide +kernel
theorem dX3_taint_17 : decode cX3_taint 17 = .ok (.iconst 0, 1) := by decide +kernel
theorem dX3_taint_18 : decode cX3_taint 18 = .ok (.istore_n 2, 1) := by decide +kernel
theorem dX3_taint_19 : decode cX3_taint 19 = .ok (.iload_n 2, 1) := by decide +kernel
theorem dX3_taint_20 : decode cX3_taint 20 = .ok (.aload_n 0, 1) := by decide +kernel
theorem dX3_taint_21 : decode cX3_taint 21 = .ok (.getfield 43, 3) := by decide +kernel
theorem dX3_taint_24 : decode cX3_taint 24 = .ok (.if_icmp .ge 26, 3) := by decide +kernel
theorem dX3_taint_27 : decode cX3_taint 27 = .ok (.aload_n 0, 1) := by decide +kernel
theorem dX3_taint_28 : decode cX3_taint 28 = .ok (.getfield 40, 3) := by decide +kernel
theorem dX3_taint_31 : decode cX3_taint 31 = .ok (.aload_n 0, 1) := by decide +kernel
theorem dX3_taint_32 : decode cX3_taint 32 = .ok (.getfield 21, 3) := by decide +kernel
theorem dX3_taint_35 : decode cX3_taint 35 = .ok (.iload_n 2, 1) := by decide +kernel
theorem dX3_taint_36 : decode cX3_taint 36 = .ok (.iaload, 1) := by decide +kernel
theorem dX3_taint_37 : decode cX3_taint 37 = .ok (.aload_n 0, 1) := by decide +kernel
theorem dX3_taint_38 : decode cX3_taint 38 = .ok (.getfield 28, 3) := by decide +kernel
theorem dX3_taint_41 : decode cX3_taint 41 = .ok (.iload_n 2, 1) := by decide +kernel
theorem dX3_taint_42 : decode cX3_taint 42 = .ok (.iaload, 1) := by decide +kernel
theorem dX3_taint_43 : decode cX3_taint 43 = .ok (.iastore, 1) := by decide +kernel
theorem dX3_taint_44 : decode cX3_taint 44 = .ok (.iinc 2 1, 3) := by decide +kernel
theorem dX3_taint_47 : decode cX3_taint 47 = .ok (.goto (-28), 3) := by decide +kernel
theorem dX3_taint_50 : decode cX3_taint 50 = .ok (.iconst 1, 1) := by decide +kernel
theorem dX3_taint_51 : decode cX3_taint 51 = .ok (.istore_n 2, 1) := by decide +kernel
theorem dX3_taint_52 : decode cX3_taint 52 = .ok (.iload_n 2, 1) := by decide +kernel
theorem dX3_taint_53 : decode cX3_taint 53 = .ok (.aload_n 0, 1) := by decide +kernel
theorem dX3_taint_54 : decode cX3_taint 54 = .ok (.getfield 14, 3) := by decide +kernel
theorem dX3_taint_57 : decode cX3_taint 57 = .ok (.getfield 78, 3) := by decide +kernel
theorem dX3_taint_60 : decode cX3_taint 60 = .ok (.if_icmp .ge 138, 3) := by decide +kernel
theorem dX3_taint_63 : decode cX3_taint 63 = .ok (.aload_n 0, 1) := by decide +kernel
theorem dX3_taint_64 : decode cX3_taint 64 = .ok (.getfield 14, 3) := by decide +kernel
theorem dX3_taint_67 : decode cX3_taint 67 = .ok (.getfield 81, 3) := by decide +kernel
theorem dX3_taint_70 : decode cX3_taint 70 = .ok (.iload_n 2, 1) := by decide +kernel
theorem dX3_taint_71 : decode cX3_taint 71 = .ok (.iaload, 1) := by decide +kernel
theorem dX3_taint_72 : decode cX3_taint 72 = .ok (.ifCond .lt 120, 3) := by decide +kernel
theorem dX3_taint_75 : decode cX3_taint 75 = .ok (.aload_n 0, 1) := by decide +kernel
theorem dX3_taint_76 : decode cX3_taint 76 = .ok (.getfield 37, 3) := by decide +kernel
theorem dX3_taint_79 : decode cX3_taint 79 = .ok (.aload_n 0, 1) := by decide +kernel
theorem dX3_taint_80 : decode cX3_taint 80 = .ok (.getfield 14, 3) := by decide +kernel
theorem dX3_taint_83 : decode cX3_taint 83 = .ok (.getfield 81, 3) := by decide +kernel
theorem dX3_taint_86 : decode cX3_taint 86 = .ok (.iload_n 2, 1) := by decide +kernel
theorem dX3_taint_87 : decode cX3_taint 87 = .ok (.iaload, 1) := by decide +kernel
theorem dX3_taint_88 : decode cX3_taint 88 = .ok (.invokestatic 102, 3) := by decide +kernel
theorem dX3_taint_91 : decode cX3_taint 91 = .ok (.istore_n 3, 1) := by decide +kernel
theorem dX3_taint_92 : decode cX3_taint 92 = .ok (.aload_n 0, 1) := by decide +kernel
theorem dX3_taint_93 : decode cX3_taint 93 = .ok (.getfield 37, 3) := by decide +kernel
theorem dX3_taint_96 : decode cX3_taint 96 = .ok (.aload_n 0, 1) := by decide +kernel
theorem dX3_taint_97 : decode cX3_taint 97 = .ok (.getfield 14, 3) := by decide +kernel
theorem dX3_taint_100 : decode cX3_taint 100 = .ok (.getfield 84, 3) := by decide +kernel
theorem dX3_taint_103 : decode cX3_taint 103 = .ok (.iload_n 2, 1) := by decide +kernel
theorem dX3_taint_104 : decode cX3_taint 104 = .ok (.iaload, 1) := by decide +kernel
theorem dX3_taint_105 : decode cX3_taint 105 = .ok (.invokestatic 102, 3) := by decide +kernel
theorem dX3_taint_108 : decode cX3_taint 108 = .ok (.istore 4, 2) := by decide +kernel
theorem dX3_taint_110 : decode cX3_taint 110 = .ok (.aload_n 0, 1) := by decide +kernel
theorem dX3_taint_111 : decode cX3_taint 111 = .ok (.getfield 40, 3) := by decide +kernel
theorem dX3_taint_114 : decode cX3_taint 114 = .ok (.aload_n 0, 1) := by decide +kernel
theorem dX3_taint_115 : decode cX3_taint 115 = .ok (.getfield 14, 3) := by decide +kernel
theorem dX3_taint_118 : decode cX3_taint 118 = .ok (.getfield 81, 3) := by decide +kernel
theorem dX3_taint_121 : decode cX3_taint 121 = .ok (.iload_n 2, 1) := by decide +kernel
theorem dX3_taint_122 : decode cX3_taint 122 = .ok (.iaload, 1) := by decide +kernel
theorem dX3_taint_123 : decode cX3_taint 123 = .ok (.iconst 2, 1) := by decide +kernel
theorem dX3_taint_124 : decode cX3_taint 124 = .ok (.idiv, 1) := by decide +kernel
theorem dX3_taint_125 : decode cX3_taint 125 = .ok (.iaload, 1) := by decide +kernel
theorem dX3_taint_126 : decode cX3_taint 126 = .ok (.istore 5, 2) := by decide +kernel
theorem dX3_taint_128 : decode cX3_taint 128 = .ok (.aload_n 0, 1) := by decide +kernel
theorem dX3_taint_129 : decode cX3_taint 129 = .ok (.getfield 40, 3) := by decide +kernel
theorem dX3_taint_132 : decode cX3_taint 132 = .ok (.aload_n 0, 1) := by decide +kernel
theorem dX3_taint_133 : decode cX3_taint 133 = .ok (.getfield 14, 3) := by decide +kernel
theorem dX3_taint_136 : decode cX3_taint 136 = .ok (.getfield 84, 3) := by decide +kernel
theorem dX3_taint_139 : decode cX3_taint 139 = .ok (.iload_n 2, 1) := by decide +kernel
theorem dX3_taint_140 : decode cX3_taint 140 = .ok (.iaload, 1) := by decide +kernel
theorem dX3_taint_141 : decode cX3_taint 141 = .ok (.iconst 2, 1) := by decide +kernel
theorem dX3_taint_142 : decode cX3_taint 142 = .ok (.idiv, 1) := by decide +kernel
theorem dX3_taint_143 : decode cX3_taint 143 = .ok (.iaload, 1) := by decide +kernel
theorem dX3_taint_144 : decode cX3_taint 144 = .ok (.istore 6, 2) := by decide +kernel
theorem dX3_taint_146 : decode cX3_taint 146 = .ok (.aload_n 0, 1) := by decide +kernel
theorem dX3_taint_147 : decode cX3_taint 147 = .ok (.getfield 40, 3) := by decide +kernel
theorem dX3_taint_150 : decode cX3_taint 150 = .ok (.iload_n 2, 1) := by decide +kernel
theorem dX3_taint_151 : decode cX3_taint 151 = .ok (.iload 5, 2) := by decide +kernel
theorem dX3_taint_153 : decode cX3_taint 153 = .ok (.iconst 1, 1) := by decide +kernel
theorem dX3_taint_154 : decode cX3_taint 154 = .ok (.if_icmp .ne 9, 3) := by decide +kernel
theorem dX3_taint_157 : decode cX3_taint 157 = .ok (.iload 6, 2) := by decide +kernel
theorem dX3_taint_159 : decode cX3_taint 159 = .ok (.iconst 1, 1) := by decide +kernel
theorem dX3_taint_160 : decode cX3_taint 160 = .ok (.if_icmp .eq 26, 3) := by decide +kernel
theorem dX3_taint_163 : decode cX3_taint 163 = .ok (.iload 5, 2) := by decide +kernel
theorem dX3_taint_165 : decode cX3_taint 165 = .ok (.iconst 1, 1) := by decide +kernel
theorem dX3_taint_166 : decode cX3_taint 166 = .ok (.if_icmp .ne 9, 3) := by decide +kernel
theorem dX3_taint_169 : decode cX3_taint 169 = .ok (.iload 4, 2) := by decide +kernel
theorem dX3_taint_171 : decode cX3_taint 171 = .ok (.iconst 1, 1) := by decide +kernel
theorem dX3_taint_172 : decode cX3_taint 172 = .ok (.if_icmp .eq 14, 3) := by decide +kernel
theorem dX3_taint_175 : decode cX3_taint 175 = .ok (.iload 6, 2) := by decide +kernel
theorem dX3_taint_177 : decode cX3_taint 177 = .ok (.iconst 1, 1) := by decide +kernel
theorem dX3_taint_178 : decode cX3_taint 178 = .ok (.if_icmp .ne 12, 3) := by decide +kernel
theorem dX3_taint_181 : decode cX3_taint 181 = .ok (.iload_n 3, 1) := by decide +kernel
theorem dX3_taint_182 : decode cX3_taint 182 = .ok (.iconst 1, 1) := by decide +kernel
theorem dX3_taint_183 : decode cX3_taint 183 = .ok (.if_icmp .ne 7, 3) := by decide +kernel
theorem dX3_taint_186 : decode cX3_taint 186 = .ok (.iconst 1, 1) := by decide +kernel
theorem dX3_taint_187 : decode cX3_taint 187 = .ok (.goto 4, 3) := by decide +kernel
theorem dX3_taint_190 : decode cX3_taint 190 = .ok (.iconst 0, 1) := by decide +kernel
theorem dX3_taint_191 : decode cX3_taint 191 = .ok (.iastore, 1) := by decide +kernel
theorem dX3_taint_192 : decode cX3_taint 192 = .ok (.iinc 2 1, 3) := by decide +kernel
theorem dX3_taint_195 : decode cX3_taint 195 = .ok (.goto (-143), 3) := by decide +kernel
theorem dX3_taint_198 : decode cX3_taint 198 = .ok (.aload_n 0, 1) := by decide +kernel
theorem dX3_taint_199 : decode cX3_taint 199 = .ok (.getfield 40, 3) := by decide +kernel
theorem dX3_taint_202 : decode cX3_taint 202 = .ok (.iload_n 1, 1) := by decide +kernel
theorem dX3_taint_203 : decode cX3_taint 203 = .ok (.iconst 2, 1) := by decide +kernel
theorem dX3_taint_204 : decode cX3_taint 204 = .ok (.idiv, 1) := by decide +kernel
theorem dX3_taint_205 : decode cX3_taint 205 = .ok (.iaload, 1) := by decide +kernel
theorem dX3_taint_206 : decode cX3_taint 206 = .ok (.ireturn, 1) := by decide +kernel
set_option maxRecDepth 20000 in
theorem ggX3_hangs_X2_has : GoodIn wsX3_hangs wsX2_has := goodIn_r _ [11, 12, 51, 52, 53, 54, 55] (by decide +kernel) (by decide +kernel)
set_option maxRecDepth 20000 in
theorem gX3_hangs_X2_has : GoodIn wsX3_hangs (wsV RX3 58 RX2 yX2_has wsX2_has) := goodIn_app (goodIn_of _ (by decide +kernel)) ggX3_hangs_X2_has
set_option maxRecDepth 20000 in
theorem ggX3_hangs_X3_reckonNet : GoodIn wsX3_hangs wsX3_reckonNet := goodIn_r _ [17, 3, 18, 1, 4, 5, 6, 19, 20, 21, 16, 22, 23, 24, 10, 25, 26, 27, 28, 29, 30, 31, 32, 33, 34, 35, 36, 37, 38, 39, 40, 41, 42, 43, 44, 45, 46, 47, 48, 49, 50, 51, 52, 53, 54, 55] (by decide +kernel) (by decide +kernel)
set_option maxRecDepth 20000 in
theorem gX3_hangs_X3_reckonNet : GoodIn wsX3_hangs (wsV RX3 112 RX3 yX3_reckonNet wsX3_reckonNet) := goodIn_app (goodIn_of _ (by decide +kernel)) ggX3_hangs_X3_reckonNet
set_option maxRecDepth 20000 in
theorem ggX3_hangs_X3_of : GoodIn wsX3_hangs wsX3_of := goodIn_r _ [39] (by decide +kernel) (by decide +kernel)
set_option maxRecDepth 20000 in
theorem gX3_hangs_X3_of : GoodIn wsX3_hangs (va_wsS RX3 102 yX3_of wsX3_of) := goodIn_app (goodIn_of _ (by decide +kernel)) ggX3_hangs_X3_of
set_option maxRecDepth 20000 in
theorem ggX3_hangs_X3_reckon : GoodIn wsX3_hangs wsX3_reckon := goodIn_r _ [34, 18, 4, 35, 36, 37, 38, 16, 39, 51, 52, 53, 54, 55, 40, 41, 42, 43, 44, 45, 46, 47, 48, 49, 50] (by decide +kernel) (by decide +kernel)
set_option maxRecDepth 20000 in
theorem gX3_hangs_X3_reckon : GoodIn wsX3_hangs (wsV RX3 108 RX3 yX3_reckon wsX3_reckon) := goodIn_app (goodIn_of _ (by decide +kernel)) ggX3_hangs_X3_reckon
theorem dX3_hangs_0 : decode cX3_hangs 0 = .ok (.iconst 0, 1) := by decide +kernel
theorem dX3_hangs_1 : decode cX3_hangs 1 = .ok (.istore_n 2, 1) := by decide +kernel
theorem dX3_hangs_2 : decode cX3_hangs 2 = .ok (.iconst 0, 1) := by decide +kernel
theorem dX3_hangs_3 : decode cX3_hangs 3 = .ok (.istore_n 3, 1) := by decide +kernel
theorem dX3_hangs_4 : decode cX3_hangs 4 = .ok (.iload_n 3, 1) := by decide +kernel
theorem dX3_hangs_5 : decode cX3_hangs 5 = .ok (.aload_n 0, 1) := by decide +kernel
theorem dX3_hangs_6 : decode cX3_hangs 6 = .ok (.getfield 43, 3) := by decide +kernel
theorem dX3_hangs_9 : decode cX3_hangs 9 = .ok (.if_icmp .ge 18, 3) := by decide +kernel
theorem dX3_hangs_12 : decode cX3_hangs 12 = .ok (.iload_n 2, 1) := by decide +kernel
theorem dX3_hangs_13 : decode cX3_hangs 13 = .ok (.aload_n 0, 1) := by decide +kernel
theorem dX3_hangs_14 : decode cX3_hangs 14 = .ok (.getfield 28, 3) := by decide +kernel
theorem dX3_hangs_17 : decode cX3_hangs 17 = .ok (.iload_n 3, 1) := by decide +kernel
theorem dX3_hangs_18 : decode cX3_hangs 18 = .ok (.iaload, 1) := by decide +kernel
theorem dX3_hangs_19 : decode cX3_hangs 19 = .ok (.iadd, 1) := by decide +kernel
theorem dX3_hangs_20 : decode cX3_hangs 20 = .ok (.istore_n 2, 1) := by decide +kernel
theorem dX3_hangs_21 : decode cX3_hangs 21 = .ok (.iinc 3 1, 3) := by decide +kernel
theorem dX3_hangs_24 : decode cX3_hangs 24 = .ok (.goto (-20), 3) := by decide +kernel
theorem dX3_hangs_27 : decode cX3_hangs 27 = .ok (.aload_n 0, 1) := by decide +kernel
theorem dX3_hangs_28 : decode cX3_hangs 28 = .ok (.getfield 14, 3) := by decide +kernel
theorem dX3_hangs_31 : decode cX3_hangs 31 = .ok (.iload_n 1, 1) := by decide +kernel
theorem dX3_hangs_32 : decode cX3_hangs 32 = .ok (.invokevirtual 58, 3) := by decide +kernel
theorem dX3_hangs_35 : decode cX3_hangs 35 = .ok (.ifCond .eq 9, 3) := by decide +kernel
theorem dX3_hangs_38 : decode cX3_hangs 38 = .ok (.iload_n 2, 1) := by decide +kernel
theorem dX3_hangs_39 : decode cX3_hangs 39 = .ok (.bipush 8, 2) := by decide +kernel
theorem dX3_hangs_41 : decode cX3_hangs 41 = .ok (.if_icmp .le 5, 3) := by decide +kernel
theorem dX3_hangs_44 : decode cX3_hangs 44 = .ok (.iconst (-1), 1) := by decide +kernel
theorem dX3_hangs_45 : decode cX3_hangs 45 = .ok (.ireturn, 1) := by decide +kernel
theorem dX3_hangs_46 : decode cX3_hangs 46 = .ok (.aload_n 0, 1) := by decide +kernel
theorem dX3_hangs_47 : decode cX3_hangs 47 = .ok (.invokevirtual 112, 3) := by decide +kernel
theorem dX3_hangs_50 : decode cX3_hangs 50 = .ok (.aload_n 0, 1) := by decide +kernel
theorem dX3_hangs_51 : decode cX3_hangs 51 = .ok (.getfield 37, 3) := by decide +kernel
theorem dX3_hangs_54 : decode cX3_hangs 54 = .ok (.iload_n 1, 1) := by decide +kernel
theorem dX3_hangs_55 : decode cX3_hangs 55 = .ok (.invokestatic 102, 3) := by decide +kernel
theorem dX3_hangs_58 : decode cX3_hangs 58 = .ok (.istore_n 3, 1) := by decide +kernel
theorem dX3_hangs_59 : decode cX3_hangs 59 = .ok (.iconst 0, 1) := by decide +kernel
theorem dX3_hangs_60 : decode cX3_hangs 60 = .ok (.istore 4, 2) := by decide +kernel
theorem dX3_hangs_62 : decode cX3_hangs 62 = .ok (.iload 4, 2) := by decide +kernel
theorem dX3_hangs_64 : decode cX3_hangs 64 = .ok (.iconst 1, 1) := by decide +kernel
theorem dX3_hangs_65 : decode cX3_hangs 65 = .ok (.iload_n 2, 1) := by decide +kernel
theorem dX3_hangs_66 : decode cX3_hangs 66 = .ok (.ishl, 1) := by decide +kernel
theorem dX3_hangs_67 : decode cX3_hangs 67 = .ok (.if_icmp .ge 110, 3) := by decide +kernel
theorem dX3_hangs_70 : decode cX3_hangs 70 = .ok (.iload 4, 2) := by decide +kernel
theorem dX3_hangs_72 : decode cX3_hangs 72 = .ok (.istore 5, 2) := by decide +kernel
theorem dX3_hangs_74 : decode cX3_hangs 74 = .ok (.iconst 0, 1) := by decide +kernel
theorem dX3_hangs_75 : decode cX3_hangs 75 = .ok (.istore 6, 2) := by decide +kernel
theorem dX3_hangs_77 : decode cX3_hangs 77 = .ok (.iload 6, 2) := by decide +kernel
theorem dX3_hangs_79 : decode cX3_hangs 79 = .ok (.aload_n 0, 1) := by decide +kernel
theorem dX3_hangs_80 : decode cX3_hangs 80 = .ok (.getfield 43, 3) := by decide +kernel
theorem dX3_hangs_83 : decode cX3_hangs 83 = .ok (.if_icmp .ge 66, 3) := by decide +kernel
theorem dX3_hangs_86 : decode cX3_hangs 86 = .ok (.aload_n 0, 1) := by decide +kernel
theorem dX3_hangs_87 : decode cX3_hangs 87 = .ok (.getfield 37, 3) := by decide +kernel
theorem dX3_hangs_90 : decode cX3_hangs 90 = .ok (.aload_n 0, 1) := by decide +kernel
theorem dX3_hangs_91 : decode cX3_hangs 91 = .ok (.getfield 21, 3) := by decide +kernel
theorem dX3_hangs_94 : decode cX3_hangs 94 = .ok (.iload 6, 2) := by decide +kernel
theorem dX3_hangs_96 : decode cX3_hangs 96 = .ok (.iaload, 1) := by decide +kernel
theorem dX3_hangs_97 : decode cX3_hangs 97 = .ok (.aload_n 0, 1) := by decide +kernel
theorem dX3_hangs_98 : decode cX3_hangs 98 = .ok (.getfield 28, 3) := by decide +kernel
theorem dX3_hangs_101 : decode cX3_hangs 101 = .ok (.iload 6, 2) := by decide +kernel
theorem dX3_hangs_103 : decode cX3_hangs 103 = .ok (.iaload, 1) := by decide +kernel
theorem dX3_hangs_104 : decode cX3_hangs 104 = .ok (.ifCond .ne 13, 3) := by decide +kernel
theorem dX3_hangs_107 : decode cX3_hangs 107 = .ok (.aload_n 0, 1) := by decide +kernel
theorem dX3_hangs_108 : decode cX3_hangs 108 = .ok (.getfield 25, 3) := by decide +kernel
theorem dX3_hangs_111 : decode cX3_hangs 111 = .ok (.iload 6, 2) := by decide +kernel
theorem dX3_hangs_113 : decode cX3_hangs 113 = .ok (.iaload, 1) := by decide +kernel
theorem dX3_hangs_114 : decode cX3_hangs 114 = .ok (.goto 7, 3) := by decide +kernel
theorem dX3_hangs_117 : decode cX3_hangs 117 = .ok (.iload 5, 2) := by decide +kernel
theorem dX3_hangs_119 : decode cX3_hangs 119 = .ok (.iconst 1, 1) := by decide +kernel
theorem dX3_hangs_120 : decode cX3_hangs 120 = .ok (.iand, 1) := by decide +kernel
theorem dX3_hangs_121 : decode cX3_hangs 121 = .ok (.iastore, 1) := by decide +kernel
theorem dX3_hangs_122 : decode cX3_hangs 122 = .ok (.aload_n 0, 1) := by decide +kernel
theorem dX3_hangs_123 : decode cX3_hangs 123 = .ok (.getfield 28, 3) := by decide +kernel
theorem dX3_hangs_126 : decode cX3_hangs 126 = .ok (.iload 6, 2) := by decide +kernel
theorem dX3_hangs_128 : decode cX3_hangs 128 = .ok (.iaload, 1) := by decide +kernel
theorem dX3_hangs_129 : decode cX3_hangs 129 = .ok (.ifCond .ne 8, 3) := by decide +kernel
theorem dX3_hangs_132 : decode cX3_hangs 132 = .ok (.iload 5, 2) := by decide +kernel
theorem dX3_hangs_134 : decode cX3_hangs 134 = .ok (.goto 7, 3) := by decide +kernel
theorem dX3_hangs_137 : decode cX3_hangs 137 = .ok (.iload 5, 2) := by decide +kernel
theorem dX3_hangs_139 : decode cX3_hangs 139 = .ok (.iconst 1, 1) := by decide +kernel
theorem dX3_hangs_140 : decode cX3_hangs 140 = .ok (.ishr, 1) := by decide +kernel
theorem dX3_hangs_141 : decode cX3_hangs 141 = .ok (.istore 5, 2) := by decide +kernel
theorem dX3_hangs_143 : decode cX3_hangs 143 = .ok (.iinc 6 1, 3) := by decide +kernel
theorem dX3_hangs_146 : decode cX3_hangs 146 = .ok (.goto (-69), 3) := by decide +kernel
theorem dX3_hangs_149 : decode cX3_hangs 149 = .ok (.aload_n 0, 1) := by decide +kernel
theorem dX3_hangs_150 : decode cX3_hangs 150 = .ok (.aload_n 0, 1) := by decide +kernel
theorem dX3_hangs_151 : decode cX3_hangs 151 = .ok (.getfield 14, 3) := by decide +kernel
theorem dX3_hangs_154 : decode cX3_hangs 154 = .ok (.invokevirtual 108, 3) := by decide +kernel
theorem dX3_hangs_157 : decode cX3_hangs 157 = .ok (.aload_n 0, 1) := by decide +kernel
theorem dX3_hangs_158 : decode cX3_hangs 158 = .ok (.getfield 37, 3) := by decide +kernel
theorem dX3_hangs_161 : decode cX3_hangs 161 = .ok (.iload_n 1, 1) := by decide +kernel
theorem dX3_hangs_162 : decode cX3_hangs 162 = .ok (.invokestatic 102, 3) := by decide +kernel
theorem dX3_hangs_165 : decode cX3_hangs 165 = .ok (.iload_n 3, 1) := by decide +kernel
theorem dX3_hangs_166 : decode cX3_hangs 166 = .ok (.if_icmp .eq 5, 3) := by decide +kernel
theorem dX3_hangs_169 : decode cX3_hangs 169 = .ok (.iconst 1, 1) := by decide +kernel
theorem dX3_hangs_170 : decode cX3_hangs 170 = .ok (.ireturn, 1) := by decide +kernel
theorem dX3_hangs_171 : decode cX3_hangs 171 = .ok (.iinc 4 1, 3) := by decide +kernel
theorem dX3_hangs_174 : decode cX3_hangs 174 = .ok (.goto (-112), 3) := by decide +kernel
theorem dX3_hangs_177 : decode cX3_hangs 177 = .ok (.iconst 0, 1) := by decide +kernel
theorem dX3_hangs_178 : decode cX3_hangs 178 = .ok (.ireturn, 1) := by decide +kernel
set_option maxRecDepth 20000 in
theorem ggL_law_X1_init : GoodIn wsL_law wsX1_init := goodIn_r _ [8, 9, 10, 11, 12, 13, 14, 15, 16, 17, 18, 19, 20, 21, 22, 23, 24, 25, 26, 27, 28, 29, 30, 31, 32, 33, 34, 347, 348, 349, 350, 351, 352, 353, 354, 328, 329, 330, 331, 332, 333, 334, 335] (by decide +kernel) (by decide +kernel)
set_option maxRecDepth 20000 in
theorem gL_law_X1_init : GoodIn wsL_law (wsX1_init) := ggL_law_X1_init
set_option maxRecDepth 20000 in
theorem ggL_law_X3_init : GoodIn wsL_law wsX3_init := goodIn_r _ [37, 38, 10, 11, 39, 40, 41, 42, 43, 18, 44, 45, 46, 47, 48, 49, 50, 51, 52, 53, 54, 55, 56, 57, 58, 59, 60, 61, 62, 63, 64, 65, 66, 67, 68, 69, 70, 71, 72, 73, 74, 355, 356, 357, 358, 359, 336, 337, 338, 339, 340, 341, 342, 343, 344, 345, 346] (by decide +kernel) (by decide +kernel)
set_option maxRecDepth 20000 in
theorem gL_law_X3_init : GoodIn wsL_law (wsX3_init) := ggL_law_X3_init
set_option maxRecDepth 20000 in
theorem ggL_law_X1_input : GoodIn wsL_law wsX1_input := goodIn_r _ [78, 15, 79, 14, 80, 81, 82, 28, 32, 34, 83, 84, 85, 86, 30, 31, 328, 329, 330, 331, 332, 333, 334, 335, 347, 348, 349, 350, 351, 352, 353, 354] (by decide +kernel) (by decide +kernel)
set_option maxRecDepth 20000 in
theorem gL_law_X1_input : GoodIn wsL_law (wsV RL 13 RX1 yX1_input wsX1_input) := goodIn_app (goodIn_of _ (by decide +kernel)) ggL_law_X1_input
set_option maxRecDepth 20000 in
theorem ggL_law_X3_input : GoodIn wsL_law wsX3_input := goodIn_r _ [90, 91, 44, 42, 92, 93, 65, 66, 41, 67, 62, 55, 56, 68, 69, 70, 18, 71, 72, 73, 74, 336, 337, 338, 339, 340, 341, 342, 343, 344, 345, 346, 355, 356, 357, 358, 359] (by decide +kernel) (by decide +kernel)
set_option maxRecDepth 20000 in
theorem gL_law_X3_input : GoodIn wsL_law (wsV RL 17 RX3 yX3_input wsX3_input) := goodIn_app (goodIn_of _ (by decide +kernel)) ggL_law_X3_input
set_option maxRecDepth 20000 in
theorem ggL_law_X1_and : GoodIn wsL_law wsX1_and := goodIn_r _ [97, 15, 98, 14, 99, 100, 101, 102, 103, 104, 34, 105, 2, 106, 107, 108, 109, 110, 30, 31, 82, 29, 83, 84, 85, 86, 328, 329, 330, 331, 332, 333, 334, 335, 347, 348, 349, 350, 351, 352, 353, 354] (by decide +kernel) (by decide +kernel)
set_option maxRecDepth 20000 in
theorem gL_law_X1_and : GoodIn wsL_law (wsV RL 18 RX1 yX1_and wsX1_and) := goodIn_app (goodIn_of _ (by decide +kernel)) ggL_law_X1_and
set_option maxRecDepth 20000 in
theorem ggL_law_X3_and : GoodIn wsL_law wsX3_and := goodIn_r _ [114, 42, 115, 116, 117, 118, 41, 119, 62, 120, 121, 122, 123, 55, 56, 63, 57, 64, 65, 66, 67, 68, 69, 70, 18, 71, 72, 73, 74, 124, 125, 126, 5, 127, 92, 336, 337, 338, 339, 340, 341, 342, 343, 344, 345, 346, 355, 356, 357, 358, 359] (by decide +kernel) (by decide +kernel)
set_option maxRecDepth 20000 in
theorem gL_law_X3_and : GoodIn wsL_law (wsV RL 22 RX3 yX3_and wsX3_and) := goodIn_app (goodIn_of _ (by decide +kernel)) ggL_law_X3_and
set_option maxRecDepth 20000 in
theorem ggL_law_X1_or : GoodIn wsL_law wsX1_or := goodIn_r _ [131, 15, 132, 14, 133, 134, 105, 2, 106, 135, 98, 99, 100, 101, 102, 103, 104, 34, 107, 108, 109, 110, 30, 31, 82, 29, 83, 84, 85, 86, 328, 329, 330, 331, 332, 333, 334, 335, 347, 348, 349, 350, 351, 352, 353, 354] (by decide +kernel) (by decide +kernel)
set_option maxRecDepth 20000 in
theorem gL_law_X1_or : GoodIn wsL_law (wsV RL 23 RX1 yX1_or wsX1_or) := goodIn_app (goodIn_of _ (by decide +kernel)) ggL_law_X1_or
set_option maxRecDepth 20000 in
theorem ggL_law_X3_or : GoodIn wsL_law wsX3_or := goodIn_r _ [139, 42, 115, 116, 117, 118, 41, 119, 62, 140, 141, 142, 143, 144, 145, 146, 147, 121, 122, 123, 55, 56, 63, 57, 64, 65, 66, 67, 68, 69, 70, 18, 71, 72, 73, 74, 124, 125, 126, 5, 127, 92, 336, 337, 338, 339, 340, 341, 342, 343, 344, 345, 346, 355, 356, 357, 358, 359] (by decide +kernel) (by decide +kernel)
set_option maxRecDepth 20000 in
theorem gL_law_X3_or : GoodIn wsL_law (wsV RL 26 RX3 yX3_or wsX3_or) := goodIn_app (goodIn_of _ (by decide +kernel)) ggL_law_X3_or
set_option maxRecDepth 20000 in
theorem ggL_law_X1_xor : GoodIn wsL_law wsX1_xor := goodIn_r _ [151, 15, 152, 105, 2, 106, 98, 14, 99, 100, 101, 102, 103, 104, 34, 107, 108, 109, 110, 30, 31, 82, 29, 83, 84, 85, 86, 132, 133, 134, 135, 328, 329, 330, 331, 332, 333, 334, 335, 347, 348, 349, 350, 351, 352, 353, 354] (by decide +kernel) (by decide +kernel)
set_option maxRecDepth 20000 in
theorem gL_law_X1_xor : GoodIn wsL_law (wsV RL 27 RX1 yX1_xor wsX1_xor) := goodIn_app (goodIn_of _ (by decide +kernel)) ggL_law_X1_xor
set_option maxRecDepth 20000 in
theorem ggL_law_X3_xor : GoodIn wsL_law wsX3_xor := goodIn_r _ [156, 42, 115, 116, 117, 118, 41, 119, 62, 157, 158, 159, 160, 144, 145, 146, 147, 121, 122, 123, 55, 56, 63, 57, 64, 65, 66, 67, 68, 69, 70, 18, 71, 72, 73, 74, 161, 141, 142, 143, 124, 125, 126, 5, 127, 92, 336, 337, 338, 339, 340, 341, 342, 343, 344, 345, 346, 355, 356, 357, 358, 359] (by decide +kernel) (by decide +kernel)
set_option maxRecDepth 20000 in
theorem gL_law_X3_xor : GoodIn wsL_law (wsV RL 30 RX3 yX3_xor wsX3_xor) := goodIn_app (goodIn_of _ (by decide +kernel)) ggL_law_X3_xor
set_option maxRecDepth 20000 in
theorem ggL_law_X1_choose : GoodIn wsL_law wsX1_choose := goodIn_r _ [165, 15, 102, 14, 103, 104, 34, 98, 99, 100, 101, 105, 2, 106, 107, 108, 109, 110, 30, 31, 82, 29, 83, 84, 85, 86, 152, 132, 133, 134, 135, 328, 329, 330, 331, 332, 333, 334, 335, 347, 348, 349, 350, 351, 352, 353, 354] (by decide +kernel) (by decide +kernel)
set_option maxRecDepth 20000 in
theorem gL_law_X1_choose : GoodIn wsL_law (wsV RL 31 RX1 yX1_choose wsX1_choose) := goodIn_app (goodIn_of _ (by decide +kernel)) ggL_law_X1_choose
set_option maxRecDepth 20000 in
theorem ggL_law_X3_choose : GoodIn wsL_law wsX3_choose := goodIn_r _ [169, 42, 115, 116, 117, 118, 41, 119, 62, 170, 171, 172, 173, 147, 121, 122, 123, 55, 56, 63, 57, 64, 65, 66, 67, 68, 69, 70, 18, 71, 72, 73, 74, 144, 145, 146, 161, 141, 142, 143, 124, 125, 126, 5, 127, 92, 336, 337, 338, 339, 340, 341, 342, 343, 344, 345, 346, 355, 356, 357, 358, 359] (by decide +kernel) (by decide +kernel)
set_option maxRecDepth 20000 in
theorem gL_law_X3_choose : GoodIn wsL_law (wsV RL 35 RX3 yX3_choose wsX3_choose) := goodIn_app (goodIn_of _ (by decide +kernel)) ggL_law_X3_choose
set_option maxRecDepth 20000 in
theorem ggL_law_X1_nodes : GoodIn wsL_law wsX1_nodes := goodIn_r _ [177, 15, 16, 178, 179, 180, 2, 181, 17, 328, 329, 330, 331, 332, 333, 334, 335, 347, 348, 349, 350, 351, 352, 353, 354] (by decide +kernel) (by decide +kernel)
set_option maxRecDepth 20000 in
theorem gL_law_X1_nodes : GoodIn wsL_law (wsV RL 36 RX1 yX1_nodes wsX1_nodes) := goodIn_app (goodIn_of _ (by decide +kernel)) ggL_law_X1_nodes
set_option maxRecDepth 20000 in
theorem ggL_law_X3_nodes : GoodIn wsL_law wsX3_nodes := goodIn_r _ [185, 42, 186, 92, 43, 336, 337, 338, 339, 340, 341, 342, 343, 344, 345, 346, 355, 356, 357, 358, 359] (by decide +kernel) (by decide +kernel)
set_option maxRecDepth 20000 in
theorem gL_law_X3_nodes : GoodIn wsL_law (wsV RL 40 RX3 yX3_nodes wsX3_nodes) := goodIn_app (goodIn_of _ (by decide +kernel)) ggL_law_X3_nodes
set_option maxRecDepth 20000 in
theorem ggL_law_X1_gate : GoodIn wsL_law wsX1_gate := goodIn_r _ [190, 16, 15, 191, 175, 176, 2, 177, 178, 179, 180, 181, 17, 328, 329, 330, 331, 332, 333, 334, 335, 347, 348, 349, 350, 351, 352, 353, 354] (by decide +kernel) (by decide +kernel)
set_option maxRecDepth 20000 in
theorem gL_law_X1_gate : GoodIn wsL_law (wsV RL 41 RX1 yX1_gate wsX1_gate) := goodIn_app (goodIn_of _ (by decide +kernel)) ggL_law_X1_gate
set_option maxRecDepth 20000 in
theorem ggL_law_X3_gate : GoodIn wsL_law wsX3_gate := goodIn_r _ [195, 43, 42, 92, 186, 196, 197, 336, 337, 338, 339, 340, 341, 342, 343, 344, 345, 346, 355, 356, 357, 358, 359] (by decide +kernel) (by decide +kernel)
set_option maxRecDepth 20000 in
theorem gL_law_X3_gate : GoodIn wsL_law (wsV RL 45 RX3 yX3_gate wsX3_gate) := goodIn_app (goodIn_of _ (by decide +kernel)) ggL_law_X3_gate
set_option maxRecDepth 20000 in
theorem ggL_law_X1_twin : GoodIn wsL_law wsX1_twin := goodIn_r _ [201, 15, 17, 16, 178, 179, 180, 2, 181, 202, 203, 204, 205, 206, 14, 207, 208, 34, 82, 209, 210, 211, 212, 19, 20, 79, 80, 81, 28, 32, 83, 84, 85, 86, 30, 31, 213, 214, 215, 216, 217, 218, 219, 220, 221, 222, 223, 152, 105, 106, 98, 99, 100, 101, 102, 103, 104, 107, 108, 109, 110, 29, 132, 133, 134, 135, 328, 329, 330, 331, 332, 333, 334, 335, 347, 348, 349, 350, 351, 352, 353, 354] (by decide +kernel) (by decide +kernel)
set_option maxRecDepth 20000 in
theorem gL_law_X1_twin : GoodIn wsL_law (wsV RL 46 RX1 yX1_twin wsX1_twin) := goodIn_app (goodIn_of _ (by decide +kernel)) ggL_law_X1_twin
set_option maxRecDepth 20000 in
theorem ggL_law_X3_twin : GoodIn wsL_law wsX3_twin := goodIn_r _ [227, 43, 47, 42, 186, 48, 91, 44, 92, 196, 197, 228, 59, 60, 41, 61, 62, 63, 64, 65, 66, 67, 55, 56, 68, 69, 70, 18, 71, 72, 73, 74, 93, 229, 230, 5, 231, 232, 145, 146, 120, 121, 122, 123, 57, 140, 141, 142, 143, 144, 147, 336, 337, 338, 339, 340, 341, 342, 343, 344, 345, 346, 355, 356, 357, 358, 359] (by decide +kernel) (by decide +kernel)
set_option maxRecDepth 20000 in
theorem gL_law_X3_twin : GoodIn wsL_law (wsV RL 49 RX3 yX3_twin wsX3_twin) := goodIn_app (goodIn_of _ (by decide +kernel)) ggL_law_X3_twin
set_option maxRecDepth 20000 in
theorem ggL_law_X1_twinOf : GoodIn wsL_law wsX1_twinOf := goodIn_r _ [236, 15, 20, 178, 179, 180, 2, 181, 17, 102, 14, 103, 104, 34, 220, 221, 222, 223, 19, 152, 105, 106, 328, 329, 330, 331, 332, 333, 334, 335, 347, 348, 349, 350, 351, 352, 353, 354] (by decide +kernel) (by decide +kernel)
set_option maxRecDepth 20000 in
theorem gL_law_X1_twinOf : GoodIn wsL_law (wsV RL 50 RX1 yX1_twinOf wsX1_twinOf) := goodIn_app (goodIn_of _ (by decide +kernel)) ggL_law_X1_twinOf
set_option maxRecDepth 20000 in
theorem ggL_law_X3_twinOf : GoodIn wsL_law wsX3_twinOf := goodIn_r _ [240, 92, 42, 48, 47, 116, 117, 118, 41, 119, 62, 229, 230, 5, 231, 232, 145, 146, 336, 337, 338, 339, 340, 341, 342, 343, 344, 345, 346, 355, 356, 357, 358, 359] (by decide +kernel) (by decide +kernel)
set_option maxRecDepth 20000 in
theorem gL_law_X3_twinOf : GoodIn wsL_law (wsV RL 54 RX3 yX3_twinOf wsX3_twinOf) := goodIn_app (goodIn_of _ (by decide +kernel)) ggL_law_X3_twinOf
set_option maxRecDepth 20000 in
theorem ggL_law_X1_set : GoodIn wsL_law wsX1_set := goodIn_r _ [244, 15, 22, 21, 328, 329, 330, 331, 332, 333, 334, 335, 347, 348, 349, 350, 351, 352, 353, 354] (by decide +kernel) (by decide +kernel)
set_option maxRecDepth 20000 in
theorem gL_law_X1_set : GoodIn wsL_law (wsV RL 55 RX1 yX1_set wsX1_set) := goodIn_app (goodIn_of _ (by decide +kernel)) ggL_law_X1_set
set_option maxRecDepth 20000 in
theorem ggL_law_X3_set : GoodIn wsL_law wsX3_set := goodIn_r _ [248, 91, 46, 45, 336, 337, 338, 339, 340, 341, 342, 343, 344, 345, 346] (by decide +kernel) (by decide +kernel)
set_option maxRecDepth 20000 in
theorem gL_law_X3_set : GoodIn wsL_law (wsV RL 59 RX3 yX3_set wsX3_set) := goodIn_app (goodIn_of _ (by decide +kernel)) ggL_law_X3_set
set_option maxRecDepth 20000 in
theorem ggL_law_X1_bit : GoodIn wsL_law wsX1_bit := goodIn_r _ [252, 16, 15, 178, 179, 180, 2, 181, 17, 102, 14, 103, 104, 34, 253, 254, 255, 256, 21, 22, 257, 258, 259, 260, 261, 262, 263, 33, 30, 31, 264, 213, 214, 215, 265, 266, 267, 268, 269, 270, 271, 272, 273, 274, 275, 276, 328, 329, 330, 331, 332, 333, 334, 335, 347, 348, 349, 350, 351, 352, 353, 354] (by decide +kernel) (by decide +kernel)
set_option maxRecDepth 20000 in
theorem gL_law_X1_bit : GoodIn wsL_law (wsV RL 60 RX1 yX1_bit wsX1_bit) := goodIn_app (goodIn_of _ (by decide +kernel)) ggL_law_X1_bit
set_option maxRecDepth 20000 in
theorem ggL_law_X3_bit : GoodIn wsL_law wsX3_bit := goodIn_r _ [280, 92, 43, 42, 49, 186, 91, 45, 46, 116, 117, 118, 41, 119, 62, 281, 282, 283, 5, 284, 44, 285, 286, 287, 288, 50, 69, 70, 18, 71, 72, 73, 74, 289, 290, 291, 292, 196, 197, 293, 294, 295, 336, 337, 338, 339, 340, 341, 342, 343, 344, 345, 346, 355, 356, 357, 358, 359] (by decide +kernel) (by decide +kernel)
set_option maxRecDepth 20000 in
theorem gL_law_X3_bit : GoodIn wsL_law (wsV RL 64 RX3 yX3_bit wsX3_bit) := goodIn_app (goodIn_of _ (by decide +kernel)) ggL_law_X3_bit
set_option maxRecDepth 20000 in
theorem ggL_law_X1_taint : GoodIn wsL_law wsX1_taint := goodIn_r _ [299, 15, 24, 102, 14, 103, 104, 34, 273, 274, 275, 2, 276, 21, 257, 258, 259, 260, 261, 262, 263, 33, 30, 31, 264, 213, 214, 215, 265, 266, 267, 268, 269, 300, 301, 302, 303, 22, 270, 271, 272, 328, 329, 330, 331, 332, 333, 334, 335, 347, 348, 349, 350, 351, 352, 353, 354] (by decide +kernel) (by decide +kernel)
set_option maxRecDepth 20000 in
theorem gL_law_X1_taint : GoodIn wsL_law (wsV RL 65 RX1 yX1_taint wsX1_taint) := goodIn_app (goodIn_of _ (by decide +kernel)) ggL_law_X1_taint
set_option maxRecDepth 20000 in
theorem ggL_law_X3_taint : GoodIn wsL_law wsX3_taint := goodIn_r _ [307, 42, 91, 50, 44, 46, 186, 196, 49, 197, 116, 117, 118, 41, 119, 62, 281, 282, 283, 5, 284, 45, 285, 286, 287, 288, 69, 70, 18, 71, 72, 73, 74, 289, 290, 291, 292, 293, 294, 295, 336, 337, 338, 339, 340, 341, 342, 343, 344, 345, 346, 355, 356, 357, 358, 359] (by decide +kernel) (by decide +kernel)
set_option maxRecDepth 20000 in
theorem gL_law_X3_taint : GoodIn wsL_law (wsV RL 69 RX3 yX3_taint wsX3_taint) := goodIn_app (goodIn_of _ (by decide +kernel)) ggL_law_X3_taint
set_option maxRecDepth 20000 in
theorem ggL_law_X1_hangs : GoodIn wsL_law wsX1_hangs := goodIn_r _ [311, 15, 102, 14, 103, 104, 34, 312, 313, 314, 2, 315, 22, 273, 274, 275, 276, 21, 257, 258, 259, 260, 261, 262, 263, 33, 30, 31, 264, 213, 214, 215, 265, 266, 267, 268, 269, 316, 317, 318, 319, 320, 321, 322, 323, 328, 329, 330, 331, 332, 333, 334, 335, 347, 348, 349, 350, 351, 352, 353, 354] (by decide +kernel) (by decide +kernel)
set_option maxRecDepth 20000 in
theorem gL_law_X1_hangs : GoodIn wsL_law (wsV RL 70 RX1 yX1_hangs wsX1_hangs) := goodIn_app (goodIn_of _ (by decide +kernel)) ggL_law_X1_hangs
set_option maxRecDepth 20000 in
theorem ggL_law_X3_hangs : GoodIn wsL_law wsX3_hangs := goodIn_r _ [327, 91, 46, 42, 49, 44, 45, 116, 117, 118, 41, 119, 62, 281, 282, 283, 5, 284, 186, 285, 286, 287, 288, 50, 69, 70, 18, 71, 72, 73, 74, 289, 290, 291, 292, 196, 197, 293, 294, 295, 336, 337, 338, 339, 340, 341, 342, 343, 344, 345, 346, 355, 356, 357, 358, 359] (by decide +kernel) (by decide +kernel)
set_option maxRecDepth 20000 in
theorem gL_law_X3_hangs : GoodIn wsL_law (wsV RL 73 RX3 yX3_hangs wsX3_hangs) := goodIn_app (goodIn_of _ (by decide +kernel)) ggL_law_X3_hangs
